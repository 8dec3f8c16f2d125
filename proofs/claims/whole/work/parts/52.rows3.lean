-- GroupLedger$Stack.topSort()I
theorem d38_0 : decode (sm_code 38) 0 = .ok (.aload_n 0, 1) := by decide +kernel
theorem r38_0 {X : sm_X} {w : sm_W} {Q : Option Value → sm_W → Prop} {x0 : Nat} : sm_R X 38 0 [.ref x0] [] w Q ↔ sm_R X 38 1 [.ref x0] [.ref x0] w Q := sm_R_go d38_0 rfl
theorem d38_1 : decode (sm_code 38) 1 = .ok (.getfield 9, 3) := by decide +kernel
theorem r38_1 {X : sm_X} {w : sm_W} {Q : Option Value → sm_W → Prop} {x0 : Nat} {s0 : Nat} : sm_R X 38 1 [.ref x0] [.ref s0] w Q ↔ sm_wp (sm_fld 4 0 (sm_at w s0)) (fun v => sm_R X 38 4 [.ref x0] [v] w Q) := sm_q_getf d38_1 rfl (by decide)
theorem d38_4 : decode (sm_code 38) 4 = .ok (.aload_n 0, 1) := by decide +kernel
theorem r38_4 {X : sm_X} {w : sm_W} {Q : Option Value → sm_W → Prop} {x0 : Nat} {s0 : Nat} : sm_R X 38 4 [.ref x0] [.ref s0] w Q ↔ sm_R X 38 5 [.ref x0] [.ref x0, .ref s0] w Q := sm_R_go d38_4 rfl
theorem d38_5 : decode (sm_code 38) 5 = .ok (.getfield 24, 3) := by decide +kernel
theorem r38_5 {X : sm_X} {w : sm_W} {Q : Option Value → sm_W → Prop} {x0 : Nat} {s0 : Nat} {s1 : Nat} : sm_R X 38 5 [.ref x0] [.ref s0, .ref s1] w Q ↔ sm_wp (sm_fld 4 2 (sm_at w s0)) (fun v => sm_R X 38 8 [.ref x0] [v, .ref s1] w Q) := sm_q_getf d38_5 rfl (by decide)
theorem d38_8 : decode (sm_code 38) 8 = .ok (.iconst 1, 1) := by decide +kernel
theorem r38_8 {X : sm_X} {w : sm_W} {Q : Option Value → sm_W → Prop} {x0 : Nat} {s0 : Int32} {s1 : Nat} : sm_R X 38 8 [.ref x0] [.int s0, .ref s1] w Q ↔ sm_R X 38 9 [.ref x0] [.int 1, .int s0, .ref s1] w Q := sm_R_go d38_8 rfl
theorem d38_9 : decode (sm_code 38) 9 = .ok (.isub, 1) := by decide +kernel
theorem r38_9 {X : sm_X} {w : sm_W} {Q : Option Value → sm_W → Prop} {x0 : Nat} {s0 : Int32} {s1 : Int32} {s2 : Nat} : sm_R X 38 9 [.ref x0] [.int s0, .int s1, .ref s2] w Q ↔ sm_R X 38 10 [.ref x0] [.int (s1 - s0), .ref s2] w Q := sm_R_go d38_9 rfl
theorem d38_10 : decode (sm_code 38) 10 = .ok (.iaload, 1) := by decide +kernel
theorem r38_10 {X : sm_X} {w : sm_W} {Q : Option Value → sm_W → Prop} {x0 : Nat} {s0 : Int32} {s1 : Nat} : sm_R X 38 10 [.ref x0] [.int s0, .ref s1] w Q ↔ sm_wp (sm_ai s0 (sm_get X w s1)) (fun v => sm_R X 38 11 [.ref x0] [.int v] w Q) := sm_q_iald d38_10
theorem d38_11 : decode (sm_code 38) 11 = .ok (.ireturn, 1) := by decide +kernel
theorem r38_11 {X : sm_X} {w : sm_W} {Q : Option Value → sm_W → Prop} {x0 : Nat} {s0 : Int32} : sm_R X 38 11 [.ref x0] [.int s0] w Q ↔ Q (some (.int s0)) w := sm_q_iret d38_11 rfl
-- GroupLedger$Stack.take()I
theorem d39_0 : decode (sm_code 39) 0 = .ok (.aload_n 0, 1) := by decide +kernel
theorem r39_0 {X : sm_X} {w : sm_W} {Q : Option Value → sm_W → Prop} {x0 : Nat} : sm_R X 39 0 [.ref x0] [] w Q ↔ sm_R X 39 1 [.ref x0] [.ref x0] w Q := sm_R_go d39_0 rfl
theorem d39_1 : decode (sm_code 39) 1 = .ok (.dup, 1) := by decide +kernel
theorem r39_1 {X : sm_X} {w : sm_W} {Q : Option Value → sm_W → Prop} {x0 : Nat} {s0 : Nat} : sm_R X 39 1 [.ref x0] [.ref s0] w Q ↔ sm_R X 39 2 [.ref x0] [.ref s0, .ref s0] w Q := sm_R_go d39_1 rfl
theorem d39_2 : decode (sm_code 39) 2 = .ok (.getfield 24, 3) := by decide +kernel
theorem r39_2 {X : sm_X} {w : sm_W} {Q : Option Value → sm_W → Prop} {x0 : Nat} {s0 : Nat} {s1 : Nat} : sm_R X 39 2 [.ref x0] [.ref s0, .ref s1] w Q ↔ sm_wp (sm_fld 4 2 (sm_at w s0)) (fun v => sm_R X 39 5 [.ref x0] [v, .ref s1] w Q) := sm_q_getf d39_2 rfl (by decide)
theorem d39_5 : decode (sm_code 39) 5 = .ok (.iconst 1, 1) := by decide +kernel
theorem r39_5 {X : sm_X} {w : sm_W} {Q : Option Value → sm_W → Prop} {x0 : Nat} {s0 : Int32} {s1 : Nat} : sm_R X 39 5 [.ref x0] [.int s0, .ref s1] w Q ↔ sm_R X 39 6 [.ref x0] [.int 1, .int s0, .ref s1] w Q := sm_R_go d39_5 rfl
theorem d39_6 : decode (sm_code 39) 6 = .ok (.isub, 1) := by decide +kernel
theorem r39_6 {X : sm_X} {w : sm_W} {Q : Option Value → sm_W → Prop} {x0 : Nat} {s0 : Int32} {s1 : Int32} {s2 : Nat} : sm_R X 39 6 [.ref x0] [.int s0, .int s1, .ref s2] w Q ↔ sm_R X 39 7 [.ref x0] [.int (s1 - s0), .ref s2] w Q := sm_R_go d39_6 rfl
theorem d39_7 : decode (sm_code 39) 7 = .ok (.putfield 24, 3) := by decide +kernel
theorem r39_7 {X : sm_X} {w : sm_W} {Q : Option Value → sm_W → Prop} {x0 : Nat} {s0 : Int32} {s1 : Nat} : sm_R X 39 7 [.ref x0] [.int s0, .ref s1] w Q ↔ sm_wp (sm_pfl 4 2 (.int s0) (sm_at w s1)) (fun c => sm_R X 39 10 [.ref x0] [] (w.set (s1 - 100) c) Q) := sm_q_putf d39_7 rfl rfl rfl (by decide)
theorem d39_10 : decode (sm_code 39) 10 = .ok (.aload_n 0, 1) := by decide +kernel
theorem r39_10 {X : sm_X} {w : sm_W} {Q : Option Value → sm_W → Prop} {x0 : Nat} : sm_R X 39 10 [.ref x0] [] w Q ↔ sm_R X 39 11 [.ref x0] [.ref x0] w Q := sm_R_go d39_10 rfl
theorem d39_11 : decode (sm_code 39) 11 = .ok (.getfield 15, 3) := by decide +kernel
theorem r39_11 {X : sm_X} {w : sm_W} {Q : Option Value → sm_W → Prop} {x0 : Nat} {s0 : Nat} : sm_R X 39 11 [.ref x0] [.ref s0] w Q ↔ sm_wp (sm_fld 4 1 (sm_at w s0)) (fun v => sm_R X 39 14 [.ref x0] [v] w Q) := sm_q_getf d39_11 rfl (by decide)
theorem d39_14 : decode (sm_code 39) 14 = .ok (.aload_n 0, 1) := by decide +kernel
theorem r39_14 {X : sm_X} {w : sm_W} {Q : Option Value → sm_W → Prop} {x0 : Nat} {s0 : Nat} : sm_R X 39 14 [.ref x0] [.ref s0] w Q ↔ sm_R X 39 15 [.ref x0] [.ref x0, .ref s0] w Q := sm_R_go d39_14 rfl
theorem d39_15 : decode (sm_code 39) 15 = .ok (.getfield 24, 3) := by decide +kernel
theorem r39_15 {X : sm_X} {w : sm_W} {Q : Option Value → sm_W → Prop} {x0 : Nat} {s0 : Nat} {s1 : Nat} : sm_R X 39 15 [.ref x0] [.ref s0, .ref s1] w Q ↔ sm_wp (sm_fld 4 2 (sm_at w s0)) (fun v => sm_R X 39 18 [.ref x0] [v, .ref s1] w Q) := sm_q_getf d39_15 rfl (by decide)
theorem d39_18 : decode (sm_code 39) 18 = .ok (.iaload, 1) := by decide +kernel
theorem r39_18 {X : sm_X} {w : sm_W} {Q : Option Value → sm_W → Prop} {x0 : Nat} {s0 : Int32} {s1 : Nat} : sm_R X 39 18 [.ref x0] [.int s0, .ref s1] w Q ↔ sm_wp (sm_ai s0 (sm_get X w s1)) (fun v => sm_R X 39 19 [.ref x0] [.int v] w Q) := sm_q_iald d39_18
theorem d39_19 : decode (sm_code 39) 19 = .ok (.ireturn, 1) := by decide +kernel
theorem r39_19 {X : sm_X} {w : sm_W} {Q : Option Value → sm_W → Prop} {x0 : Nat} {s0 : Int32} : sm_R X 39 19 [.ref x0] [.int s0] w Q ↔ Q (some (.int s0)) w := sm_q_iret d39_19 rfl
-- GroupLedger$Books.addLog(I)V
theorem d40_0 : decode (sm_code 40) 0 = .ok (.aload_n 0, 1) := by decide +kernel
theorem r40_0 {X : sm_X} {w : sm_W} {Q : Option Value → sm_W → Prop} {x0 : Nat} {x1 : Int32} : sm_R X 40 0 [.ref x0, .int x1] [] w Q ↔ sm_R X 40 1 [.ref x0, .int x1] [.ref x0] w Q := sm_R_go d40_0 rfl
theorem d40_1 : decode (sm_code 40) 1 = .ok (.getfield 26, 3) := by decide +kernel
theorem r40_1 {X : sm_X} {w : sm_W} {Q : Option Value → sm_W → Prop} {x0 : Nat} {x1 : Int32} {s0 : Nat} : sm_R X 40 1 [.ref x0, .int x1] [.ref s0] w Q ↔ sm_wp (sm_fld 0 4 (sm_at w s0)) (fun v => sm_R X 40 4 [.ref x0, .int x1] [v] w Q) := sm_q_getf d40_1 rfl (by decide)
theorem d40_4 : decode (sm_code 40) 4 = .ok (.aload_n 0, 1) := by decide +kernel
theorem r40_4 {X : sm_X} {w : sm_W} {Q : Option Value → sm_W → Prop} {x0 : Nat} {x1 : Int32} {s0 : Nat} : sm_R X 40 4 [.ref x0, .int x1] [.ref s0] w Q ↔ sm_R X 40 5 [.ref x0, .int x1] [.ref x0, .ref s0] w Q := sm_R_go d40_4 rfl
theorem d40_5 : decode (sm_code 40) 5 = .ok (.getfield 35, 3) := by decide +kernel
theorem r40_5 {X : sm_X} {w : sm_W} {Q : Option Value → sm_W → Prop} {x0 : Nat} {x1 : Int32} {s0 : Nat} {s1 : Nat} : sm_R X 40 5 [.ref x0, .int x1] [.ref s0, .ref s1] w Q ↔ sm_wp (sm_fld 0 5 (sm_at w s0)) (fun v => sm_R X 40 8 [.ref x0, .int x1] [v, .ref s1] w Q) := sm_q_getf d40_5 rfl (by decide)
theorem d40_8 : decode (sm_code 40) 8 = .ok (.bipush 8, 2) := by decide +kernel
theorem r40_8 {X : sm_X} {w : sm_W} {Q : Option Value → sm_W → Prop} {x0 : Nat} {x1 : Int32} {s0 : Int32} {s1 : Nat} : sm_R X 40 8 [.ref x0, .int x1] [.int s0, .ref s1] w Q ↔ sm_R X 40 10 [.ref x0, .int x1] [.int 8, .int s0, .ref s1] w Q := sm_R_go d40_8 rfl
theorem d40_10 : decode (sm_code 40) 10 = .ok (.irem, 1) := by decide +kernel
theorem r40_10 {X : sm_X} {w : sm_W} {Q : Option Value → sm_W → Prop} {x0 : Nat} {x1 : Int32} {s0 : Int32} {s1 : Int32} {s2 : Nat} (h : ¬ s0 = 0) : sm_R X 40 10 [.ref x0, .int x1] [.int s0, .int s1, .ref s2] w Q ↔ sm_R X 40 11 [.ref x0, .int x1] [.int (s1 - s1 / s0 * s0), .ref s2] w Q := sm_q_irem d40_10 h
theorem d40_11 : decode (sm_code 40) 11 = .ok (.iload_n 1, 1) := by decide +kernel
theorem r40_11 {X : sm_X} {w : sm_W} {Q : Option Value → sm_W → Prop} {x0 : Nat} {x1 : Int32} {s0 : Int32} {s1 : Nat} : sm_R X 40 11 [.ref x0, .int x1] [.int s0, .ref s1] w Q ↔ sm_R X 40 12 [.ref x0, .int x1] [.int x1, .int s0, .ref s1] w Q := sm_R_go d40_11 rfl
theorem d40_12 : decode (sm_code 40) 12 = .ok (.iastore, 1) := by decide +kernel
theorem r40_12 {X : sm_X} {w : sm_W} {Q : Option Value → sm_W → Prop} {x0 : Nat} {x1 : Int32} {s0 : Int32} {s1 : Int32} {s2 : Nat} : sm_R X 40 12 [.ref x0, .int x1] [.int s0, .int s1, .ref s2] w Q ↔ sm_wp (sm_si s1 s0 (sm_at w s2)) (fun c => sm_R X 40 13 [.ref x0, .int x1] [] (w.set (s2 - 100) c) Q) := sm_q_iast d40_12
theorem d40_13 : decode (sm_code 40) 13 = .ok (.aload_n 0, 1) := by decide +kernel
theorem r40_13 {X : sm_X} {w : sm_W} {Q : Option Value → sm_W → Prop} {x0 : Nat} {x1 : Int32} : sm_R X 40 13 [.ref x0, .int x1] [] w Q ↔ sm_R X 40 14 [.ref x0, .int x1] [.ref x0] w Q := sm_R_go d40_13 rfl
theorem d40_14 : decode (sm_code 40) 14 = .ok (.dup, 1) := by decide +kernel
theorem r40_14 {X : sm_X} {w : sm_W} {Q : Option Value → sm_W → Prop} {x0 : Nat} {x1 : Int32} {s0 : Nat} : sm_R X 40 14 [.ref x0, .int x1] [.ref s0] w Q ↔ sm_R X 40 15 [.ref x0, .int x1] [.ref s0, .ref s0] w Q := sm_R_go d40_14 rfl
theorem d40_15 : decode (sm_code 40) 15 = .ok (.getfield 35, 3) := by decide +kernel
theorem r40_15 {X : sm_X} {w : sm_W} {Q : Option Value → sm_W → Prop} {x0 : Nat} {x1 : Int32} {s0 : Nat} {s1 : Nat} : sm_R X 40 15 [.ref x0, .int x1] [.ref s0, .ref s1] w Q ↔ sm_wp (sm_fld 0 5 (sm_at w s0)) (fun v => sm_R X 40 18 [.ref x0, .int x1] [v, .ref s1] w Q) := sm_q_getf d40_15 rfl (by decide)
theorem d40_18 : decode (sm_code 40) 18 = .ok (.iconst 1, 1) := by decide +kernel
theorem r40_18 {X : sm_X} {w : sm_W} {Q : Option Value → sm_W → Prop} {x0 : Nat} {x1 : Int32} {s0 : Int32} {s1 : Nat} : sm_R X 40 18 [.ref x0, .int x1] [.int s0, .ref s1] w Q ↔ sm_R X 40 19 [.ref x0, .int x1] [.int 1, .int s0, .ref s1] w Q := sm_R_go d40_18 rfl
theorem d40_19 : decode (sm_code 40) 19 = .ok (.iadd, 1) := by decide +kernel
theorem r40_19 {X : sm_X} {w : sm_W} {Q : Option Value → sm_W → Prop} {x0 : Nat} {x1 : Int32} {s0 : Int32} {s1 : Int32} {s2 : Nat} : sm_R X 40 19 [.ref x0, .int x1] [.int s0, .int s1, .ref s2] w Q ↔ sm_R X 40 20 [.ref x0, .int x1] [.int (s1 + s0), .ref s2] w Q := sm_R_go d40_19 rfl
theorem d40_20 : decode (sm_code 40) 20 = .ok (.putfield 35, 3) := by decide +kernel
theorem r40_20 {X : sm_X} {w : sm_W} {Q : Option Value → sm_W → Prop} {x0 : Nat} {x1 : Int32} {s0 : Int32} {s1 : Nat} : sm_R X 40 20 [.ref x0, .int x1] [.int s0, .ref s1] w Q ↔ sm_wp (sm_pfl 0 5 (.int s0) (sm_at w s1)) (fun c => sm_R X 40 23 [.ref x0, .int x1] [] (w.set (s1 - 100) c) Q) := sm_q_putf d40_20 rfl rfl rfl (by decide)
theorem d40_23 : decode (sm_code 40) 23 = .ok (.return_, 1) := by decide +kernel
theorem r40_23 {X : sm_X} {w : sm_W} {Q : Option Value → sm_W → Prop} {x0 : Nat} {x1 : Int32} : sm_R X 40 23 [.ref x0, .int x1] [] w Q ↔ Q none w := sm_R_ret d40_23 rfl
-- GroupLedger$Machine.lookUp(LGroupLedger$Op;II)I
theorem d41_0 : decode (sm_code 41) 0 = .ok (.getstatic 111, 3) := by decide +kernel
theorem r41_0 {X : sm_X} {w : sm_W} {Q : Option Value → sm_W → Prop} {x0 : Nat} {x1 : Nat} {x2 : Int32} {x3 : Int32} : sm_R X 41 0 [.ref x0, .ref x1, .int x2, .int x3] [] w Q ↔ sm_R X 41 3 [.ref x0, .ref x1, .int x2, .int x3] [.ref 97] w Q := sm_R_go d41_0 rfl
theorem d41_3 : decode (sm_code 41) 3 = .ok (.aload_n 1, 1) := by decide +kernel
theorem r41_3 {X : sm_X} {w : sm_W} {Q : Option Value → sm_W → Prop} {x0 : Nat} {x1 : Nat} {x2 : Int32} {x3 : Int32} {s0 : Nat} : sm_R X 41 3 [.ref x0, .ref x1, .int x2, .int x3] [.ref s0] w Q ↔ sm_R X 41 4 [.ref x0, .ref x1, .int x2, .int x3] [.ref x1, .ref s0] w Q := sm_R_go d41_3 rfl
theorem d41_4 : decode (sm_code 41) 4 = .ok (.invokevirtual 116, 3) := by decide +kernel
theorem r41_4 {X : sm_X} {w : sm_W} {Q : Option Value → sm_W → Prop} {x0 : Nat} {x1 : Nat} {x2 : Int32} {x3 : Int32} {s0 : Nat} {s1 : Nat} (h : s0 < 31) : sm_R X 41 4 [.ref x0, .ref x1, .int x2, .int x3] [.ref s0, .ref s1] w Q ↔ sm_R X 35 0 [.ref s0] [] w (fun v w => sm_R X 41 7 [.ref x0, .ref x1, .int x2, .int x3] (v.toList ++ [.ref s1]) w Q) := sm_q_virE (k := 35) (as := [.ref s0]) (rest := [.ref s1]) d41_4 rfl rfl rfl h rfl rfl
theorem d41_7 : decode (sm_code 41) 7 = .ok (.iaload, 1) := by decide +kernel
theorem r41_7 {X : sm_X} {w : sm_W} {Q : Option Value → sm_W → Prop} {x0 : Nat} {x1 : Nat} {x2 : Int32} {x3 : Int32} {s0 : Int32} {s1 : Nat} : sm_R X 41 7 [.ref x0, .ref x1, .int x2, .int x3] [.int s0, .ref s1] w Q ↔ sm_wp (sm_ai s0 (sm_get X w s1)) (fun v => sm_R X 41 8 [.ref x0, .ref x1, .int x2, .int x3] [.int v] w Q) := sm_q_iald d41_7
theorem d41_8 : decode (sm_code 41) 8 = .ok (.tableswitch 202 18 21 #[32, 68, 104, 150], 32) := by decide +kernel
theorem r41_8 {X : sm_X} {w : sm_W} {Q : Option Value → sm_W → Prop} {x0 : Nat} {x1 : Nat} {x2 : Int32} {x3 : Int32} {s0 : Int32} : sm_R X 41 8 [.ref x0, .ref x1, .int x2, .int x3] [.int s0] w Q ↔ sm_R X 41 (sm_sw s0.toInt 18 [40, 76, 112, 158] 210) [.ref x0, .ref x1, .int x2, .int x3] [] w Q := sm_q_tab d41_8 rfl rfl rfl rfl
theorem d41_40 : decode (sm_code 41) 40 = .ok (.aload_n 0, 1) := by decide +kernel
theorem r41_40 {X : sm_X} {w : sm_W} {Q : Option Value → sm_W → Prop} {x0 : Nat} {x1 : Nat} {x2 : Int32} {x3 : Int32} : sm_R X 41 40 [.ref x0, .ref x1, .int x2, .int x3] [] w Q ↔ sm_R X 41 41 [.ref x0, .ref x1, .int x2, .int x3] [.ref x0] w Q := sm_R_go d41_40 rfl
theorem d41_41 : decode (sm_code 41) 41 = .ok (.getfield 26, 3) := by decide +kernel
theorem r41_41 {X : sm_X} {w : sm_W} {Q : Option Value → sm_W → Prop} {x0 : Nat} {x1 : Nat} {x2 : Int32} {x3 : Int32} {s0 : Nat} : sm_R X 41 41 [.ref x0, .ref x1, .int x2, .int x3] [.ref s0] w Q ↔ sm_wp (sm_fld 2 1 (sm_at w s0)) (fun v => sm_R X 41 44 [.ref x0, .ref x1, .int x2, .int x3] [v] w Q) := sm_q_getf d41_41 rfl (by decide)
theorem d41_44 : decode (sm_code 41) 44 = .ok (.iload_n 3, 1) := by decide +kernel
theorem r41_44 {X : sm_X} {w : sm_W} {Q : Option Value → sm_W → Prop} {x0 : Nat} {x1 : Nat} {x2 : Int32} {x3 : Int32} {s0 : Nat} : sm_R X 41 44 [.ref x0, .ref x1, .int x2, .int x3] [.ref s0] w Q ↔ sm_R X 41 45 [.ref x0, .ref x1, .int x2, .int x3] [.int x3, .ref s0] w Q := sm_R_go d41_44 rfl
theorem d41_45 : decode (sm_code 41) 45 = .ok (.invokevirtual 159, 3) := by decide +kernel
theorem r41_45 {X : sm_X} {w : sm_W} {Q : Option Value → sm_W → Prop} {x0 : Nat} {x1 : Nat} {x2 : Int32} {x3 : Int32} {s0 : Int32} {s1 : Nat} : sm_R X 41 45 [.ref x0, .ref x1, .int x2, .int x3] [.int s0, .ref s1] w Q ↔ (sm_cN (sm_at w s1) = some 1 ∧ sm_R X 42 0 [.ref s1, .int s0] [] w (fun v w => sm_R X 41 48 [.ref x0, .ref x1, .int x2, .int x3] (v.toList ++ []) w Q)) := sm_q_vir (k := 42) (as := [.ref s1, .int s0]) (rest := []) d41_45 rfl rfl rfl rfl rfl
theorem d41_48 : decode (sm_code 41) 48 = .ok (.ifCond .eq 26, 3) := by decide +kernel
theorem r41_48 {X : sm_X} {w : sm_W} {Q : Option Value → sm_W → Prop} {x0 : Nat} {x1 : Nat} {x2 : Int32} {x3 : Int32} {s0 : Int32} : sm_R X 41 48 [.ref x0, .ref x1, .int x2, .int x3] [.int s0] w Q ↔ (if s0 = 0 then sm_R X 41 74 [.ref x0, .ref x1, .int x2, .int x3] [] w Q else sm_R X 41 51 [.ref x0, .ref x1, .int x2, .int x3] [] w Q) := sm_q_br d41_48 rfl
theorem d41_51 : decode (sm_code 41) 51 = .ok (.aload_n 0, 1) := by decide +kernel
theorem r41_51 {X : sm_X} {w : sm_W} {Q : Option Value → sm_W → Prop} {x0 : Nat} {x1 : Nat} {x2 : Int32} {x3 : Int32} : sm_R X 41 51 [.ref x0, .ref x1, .int x2, .int x3] [] w Q ↔ sm_R X 41 52 [.ref x0, .ref x1, .int x2, .int x3] [.ref x0] w Q := sm_R_go d41_51 rfl
theorem d41_52 : decode (sm_code 41) 52 = .ok (.getfield 12, 3) := by decide +kernel
theorem r41_52 {X : sm_X} {w : sm_W} {Q : Option Value → sm_W → Prop} {x0 : Nat} {x1 : Nat} {x2 : Int32} {x3 : Int32} {s0 : Nat} : sm_R X 41 52 [.ref x0, .ref x1, .int x2, .int x3] [.ref s0] w Q ↔ sm_wp (sm_fld 2 2 (sm_at w s0)) (fun v => sm_R X 41 55 [.ref x0, .ref x1, .int x2, .int x3] [v] w Q) := sm_q_getf d41_52 rfl (by decide)
theorem d41_55 : decode (sm_code 41) 55 = .ok (.iconst 1, 1) := by decide +kernel
theorem r41_55 {X : sm_X} {w : sm_W} {Q : Option Value → sm_W → Prop} {x0 : Nat} {x1 : Nat} {x2 : Int32} {x3 : Int32} {s0 : Nat} : sm_R X 41 55 [.ref x0, .ref x1, .int x2, .int x3] [.ref s0] w Q ↔ sm_R X 41 56 [.ref x0, .ref x1, .int x2, .int x3] [.int 1, .ref s0] w Q := sm_R_go d41_55 rfl
theorem d41_56 : decode (sm_code 41) 56 = .ok (.aload_n 0, 1) := by decide +kernel
theorem r41_56 {X : sm_X} {w : sm_W} {Q : Option Value → sm_W → Prop} {x0 : Nat} {x1 : Nat} {x2 : Int32} {x3 : Int32} {s0 : Int32} {s1 : Nat} : sm_R X 41 56 [.ref x0, .ref x1, .int x2, .int x3] [.int s0, .ref s1] w Q ↔ sm_R X 41 57 [.ref x0, .ref x1, .int x2, .int x3] [.ref x0, .int s0, .ref s1] w Q := sm_R_go d41_56 rfl
theorem d41_57 : decode (sm_code 41) 57 = .ok (.getfield 26, 3) := by decide +kernel
theorem r41_57 {X : sm_X} {w : sm_W} {Q : Option Value → sm_W → Prop} {x0 : Nat} {x1 : Nat} {x2 : Int32} {x3 : Int32} {s0 : Nat} {s1 : Int32} {s2 : Nat} : sm_R X 41 57 [.ref x0, .ref x1, .int x2, .int x3] [.ref s0, .int s1, .ref s2] w Q ↔ sm_wp (sm_fld 2 1 (sm_at w s0)) (fun v => sm_R X 41 60 [.ref x0, .ref x1, .int x2, .int x3] [v, .int s1, .ref s2] w Q) := sm_q_getf d41_57 rfl (by decide)
theorem d41_60 : decode (sm_code 41) 60 = .ok (.getfield 30, 3) := by decide +kernel
theorem r41_60 {X : sm_X} {w : sm_W} {Q : Option Value → sm_W → Prop} {x0 : Nat} {x1 : Nat} {x2 : Int32} {x3 : Int32} {s0 : Nat} {s1 : Int32} {s2 : Nat} : sm_R X 41 60 [.ref x0, .ref x1, .int x2, .int x3] [.ref s0, .int s1, .ref s2] w Q ↔ sm_wp (sm_fld 1 0 (sm_at w s0)) (fun v => sm_R X 41 63 [.ref x0, .ref x1, .int x2, .int x3] [v, .int s1, .ref s2] w Q) := sm_q_getf d41_60 rfl (by decide)
theorem d41_63 : decode (sm_code 41) 63 = .ok (.iload_n 3, 1) := by decide +kernel
theorem r41_63 {X : sm_X} {w : sm_W} {Q : Option Value → sm_W → Prop} {x0 : Nat} {x1 : Nat} {x2 : Int32} {x3 : Int32} {s0 : Nat} {s1 : Int32} {s2 : Nat} : sm_R X 41 63 [.ref x0, .ref x1, .int x2, .int x3] [.ref s0, .int s1, .ref s2] w Q ↔ sm_R X 41 64 [.ref x0, .ref x1, .int x2, .int x3] [.int x3, .ref s0, .int s1, .ref s2] w Q := sm_R_go d41_63 rfl
theorem d41_64 : decode (sm_code 41) 64 = .ok (.aaload, 1) := by decide +kernel
theorem r41_64 {X : sm_X} {w : sm_W} {Q : Option Value → sm_W → Prop} {x0 : Nat} {x1 : Nat} {x2 : Int32} {x3 : Int32} {s0 : Int32} {s1 : Nat} {s2 : Int32} {s3 : Nat} : sm_R X 41 64 [.ref x0, .ref x1, .int x2, .int x3] [.int s0, .ref s1, .int s2, .ref s3] w Q ↔ sm_wp (sm_aa s1 s0 (sm_get X w s1)) (fun v => sm_R X 41 65 [.ref x0, .ref x1, .int x2, .int x3] [.ref v, .int s2, .ref s3] w Q) := sm_q_aald d41_64
theorem d41_65 : decode (sm_code 41) 65 = .ok (.getfield 163, 3) := by decide +kernel
theorem r41_65 {X : sm_X} {w : sm_W} {Q : Option Value → sm_W → Prop} {x0 : Nat} {x1 : Nat} {x2 : Int32} {x3 : Int32} {s0 : Nat} {s1 : Int32} {s2 : Nat} : sm_R X 41 65 [.ref x0, .ref x1, .int x2, .int x3] [.ref s0, .int s1, .ref s2] w Q ↔ sm_wp (sm_fld 5 3 (sm_at w s0)) (fun v => sm_R X 41 68 [.ref x0, .ref x1, .int x2, .int x3] [v, .int s1, .ref s2] w Q) := sm_q_getf d41_65 rfl (by decide)
theorem d41_68 : decode (sm_code 41) 68 = .ok (.invokevirtual 119, 3) := by decide +kernel
theorem r41_68 {X : sm_X} {w : sm_W} {Q : Option Value → sm_W → Prop} {x0 : Nat} {x1 : Nat} {x2 : Int32} {x3 : Int32} {s0 : Int32} {s1 : Int32} {s2 : Nat} : sm_R X 41 68 [.ref x0, .ref x1, .int x2, .int x3] [.int s0, .int s1, .ref s2] w Q ↔ (sm_cN (sm_at w s2) = some 4 ∧ sm_R X 36 0 [.ref s2, .int s1, .int s0] [] w (fun v w => sm_R X 41 71 [.ref x0, .ref x1, .int x2, .int x3] (v.toList ++ []) w Q)) := sm_q_vir (k := 36) (as := [.ref s2, .int s1, .int s0]) (rest := []) d41_68 rfl rfl rfl rfl rfl
theorem d41_71 : decode (sm_code 41) 71 = .ok (.goto 4, 3) := by decide +kernel
theorem r41_71 {X : sm_X} {w : sm_W} {Q : Option Value → sm_W → Prop} {x0 : Nat} {x1 : Nat} {x2 : Int32} {x3 : Int32} {s0 : Int32} : sm_R X 41 71 [.ref x0, .ref x1, .int x2, .int x3] [.int s0] w Q ↔ sm_R X 41 75 [.ref x0, .ref x1, .int x2, .int x3] [.int s0] w Q := sm_R_go d41_71 rfl
theorem d41_74 : decode (sm_code 41) 74 = .ok (.iconst 3, 1) := by decide +kernel
theorem r41_74 {X : sm_X} {w : sm_W} {Q : Option Value → sm_W → Prop} {x0 : Nat} {x1 : Nat} {x2 : Int32} {x3 : Int32} : sm_R X 41 74 [.ref x0, .ref x1, .int x2, .int x3] [] w Q ↔ sm_R X 41 75 [.ref x0, .ref x1, .int x2, .int x3] [.int 3] w Q := sm_R_go d41_74 rfl
theorem d41_75 : decode (sm_code 41) 75 = .ok (.ireturn, 1) := by decide +kernel
theorem r41_75 {X : sm_X} {w : sm_W} {Q : Option Value → sm_W → Prop} {x0 : Nat} {x1 : Nat} {x2 : Int32} {x3 : Int32} {s0 : Int32} : sm_R X 41 75 [.ref x0, .ref x1, .int x2, .int x3] [.int s0] w Q ↔ Q (some (.int s0)) w := sm_q_iret d41_75 rfl
theorem d41_76 : decode (sm_code 41) 76 = .ok (.aload_n 0, 1) := by decide +kernel
theorem r41_76 {X : sm_X} {w : sm_W} {Q : Option Value → sm_W → Prop} {x0 : Nat} {x1 : Nat} {x2 : Int32} {x3 : Int32} : sm_R X 41 76 [.ref x0, .ref x1, .int x2, .int x3] [] w Q ↔ sm_R X 41 77 [.ref x0, .ref x1, .int x2, .int x3] [.ref x0] w Q := sm_R_go d41_76 rfl
theorem d41_77 : decode (sm_code 41) 77 = .ok (.getfield 26, 3) := by decide +kernel
theorem r41_77 {X : sm_X} {w : sm_W} {Q : Option Value → sm_W → Prop} {x0 : Nat} {x1 : Nat} {x2 : Int32} {x3 : Int32} {s0 : Nat} : sm_R X 41 77 [.ref x0, .ref x1, .int x2, .int x3] [.ref s0] w Q ↔ sm_wp (sm_fld 2 1 (sm_at w s0)) (fun v => sm_R X 41 80 [.ref x0, .ref x1, .int x2, .int x3] [v] w Q) := sm_q_getf d41_77 rfl (by decide)
theorem d41_80 : decode (sm_code 41) 80 = .ok (.iload_n 3, 1) := by decide +kernel
theorem r41_80 {X : sm_X} {w : sm_W} {Q : Option Value → sm_W → Prop} {x0 : Nat} {x1 : Nat} {x2 : Int32} {x3 : Int32} {s0 : Nat} : sm_R X 41 80 [.ref x0, .ref x1, .int x2, .int x3] [.ref s0] w Q ↔ sm_R X 41 81 [.ref x0, .ref x1, .int x2, .int x3] [.int x3, .ref s0] w Q := sm_R_go d41_80 rfl
theorem d41_81 : decode (sm_code 41) 81 = .ok (.invokevirtual 159, 3) := by decide +kernel
theorem r41_81 {X : sm_X} {w : sm_W} {Q : Option Value → sm_W → Prop} {x0 : Nat} {x1 : Nat} {x2 : Int32} {x3 : Int32} {s0 : Int32} {s1 : Nat} : sm_R X 41 81 [.ref x0, .ref x1, .int x2, .int x3] [.int s0, .ref s1] w Q ↔ (sm_cN (sm_at w s1) = some 1 ∧ sm_R X 42 0 [.ref s1, .int s0] [] w (fun v w => sm_R X 41 84 [.ref x0, .ref x1, .int x2, .int x3] (v.toList ++ []) w Q)) := sm_q_vir (k := 42) (as := [.ref s1, .int s0]) (rest := []) d41_81 rfl rfl rfl rfl rfl
theorem d41_84 : decode (sm_code 41) 84 = .ok (.ifCond .eq 26, 3) := by decide +kernel
theorem r41_84 {X : sm_X} {w : sm_W} {Q : Option Value → sm_W → Prop} {x0 : Nat} {x1 : Nat} {x2 : Int32} {x3 : Int32} {s0 : Int32} : sm_R X 41 84 [.ref x0, .ref x1, .int x2, .int x3] [.int s0] w Q ↔ (if s0 = 0 then sm_R X 41 110 [.ref x0, .ref x1, .int x2, .int x3] [] w Q else sm_R X 41 87 [.ref x0, .ref x1, .int x2, .int x3] [] w Q) := sm_q_br d41_84 rfl
theorem d41_87 : decode (sm_code 41) 87 = .ok (.aload_n 0, 1) := by decide +kernel
theorem r41_87 {X : sm_X} {w : sm_W} {Q : Option Value → sm_W → Prop} {x0 : Nat} {x1 : Nat} {x2 : Int32} {x3 : Int32} : sm_R X 41 87 [.ref x0, .ref x1, .int x2, .int x3] [] w Q ↔ sm_R X 41 88 [.ref x0, .ref x1, .int x2, .int x3] [.ref x0] w Q := sm_R_go d41_87 rfl
theorem d41_88 : decode (sm_code 41) 88 = .ok (.getfield 12, 3) := by decide +kernel
theorem r41_88 {X : sm_X} {w : sm_W} {Q : Option Value → sm_W → Prop} {x0 : Nat} {x1 : Nat} {x2 : Int32} {x3 : Int32} {s0 : Nat} : sm_R X 41 88 [.ref x0, .ref x1, .int x2, .int x3] [.ref s0] w Q ↔ sm_wp (sm_fld 2 2 (sm_at w s0)) (fun v => sm_R X 41 91 [.ref x0, .ref x1, .int x2, .int x3] [v] w Q) := sm_q_getf d41_88 rfl (by decide)
theorem d41_91 : decode (sm_code 41) 91 = .ok (.iconst 2, 1) := by decide +kernel
theorem r41_91 {X : sm_X} {w : sm_W} {Q : Option Value → sm_W → Prop} {x0 : Nat} {x1 : Nat} {x2 : Int32} {x3 : Int32} {s0 : Nat} : sm_R X 41 91 [.ref x0, .ref x1, .int x2, .int x3] [.ref s0] w Q ↔ sm_R X 41 92 [.ref x0, .ref x1, .int x2, .int x3] [.int 2, .ref s0] w Q := sm_R_go d41_91 rfl
theorem d41_92 : decode (sm_code 41) 92 = .ok (.aload_n 0, 1) := by decide +kernel
theorem r41_92 {X : sm_X} {w : sm_W} {Q : Option Value → sm_W → Prop} {x0 : Nat} {x1 : Nat} {x2 : Int32} {x3 : Int32} {s0 : Int32} {s1 : Nat} : sm_R X 41 92 [.ref x0, .ref x1, .int x2, .int x3] [.int s0, .ref s1] w Q ↔ sm_R X 41 93 [.ref x0, .ref x1, .int x2, .int x3] [.ref x0, .int s0, .ref s1] w Q := sm_R_go d41_92 rfl
theorem d41_93 : decode (sm_code 41) 93 = .ok (.getfield 26, 3) := by decide +kernel
theorem r41_93 {X : sm_X} {w : sm_W} {Q : Option Value → sm_W → Prop} {x0 : Nat} {x1 : Nat} {x2 : Int32} {x3 : Int32} {s0 : Nat} {s1 : Int32} {s2 : Nat} : sm_R X 41 93 [.ref x0, .ref x1, .int x2, .int x3] [.ref s0, .int s1, .ref s2] w Q ↔ sm_wp (sm_fld 2 1 (sm_at w s0)) (fun v => sm_R X 41 96 [.ref x0, .ref x1, .int x2, .int x3] [v, .int s1, .ref s2] w Q) := sm_q_getf d41_93 rfl (by decide)
theorem d41_96 : decode (sm_code 41) 96 = .ok (.getfield 30, 3) := by decide +kernel
theorem r41_96 {X : sm_X} {w : sm_W} {Q : Option Value → sm_W → Prop} {x0 : Nat} {x1 : Nat} {x2 : Int32} {x3 : Int32} {s0 : Nat} {s1 : Int32} {s2 : Nat} : sm_R X 41 96 [.ref x0, .ref x1, .int x2, .int x3] [.ref s0, .int s1, .ref s2] w Q ↔ sm_wp (sm_fld 1 0 (sm_at w s0)) (fun v => sm_R X 41 99 [.ref x0, .ref x1, .int x2, .int x3] [v, .int s1, .ref s2] w Q) := sm_q_getf d41_96 rfl (by decide)
theorem d41_99 : decode (sm_code 41) 99 = .ok (.iload_n 3, 1) := by decide +kernel
theorem r41_99 {X : sm_X} {w : sm_W} {Q : Option Value → sm_W → Prop} {x0 : Nat} {x1 : Nat} {x2 : Int32} {x3 : Int32} {s0 : Nat} {s1 : Int32} {s2 : Nat} : sm_R X 41 99 [.ref x0, .ref x1, .int x2, .int x3] [.ref s0, .int s1, .ref s2] w Q ↔ sm_R X 41 100 [.ref x0, .ref x1, .int x2, .int x3] [.int x3, .ref s0, .int s1, .ref s2] w Q := sm_R_go d41_99 rfl
theorem d41_100 : decode (sm_code 41) 100 = .ok (.aaload, 1) := by decide +kernel
theorem r41_100 {X : sm_X} {w : sm_W} {Q : Option Value → sm_W → Prop} {x0 : Nat} {x1 : Nat} {x2 : Int32} {x3 : Int32} {s0 : Int32} {s1 : Nat} {s2 : Int32} {s3 : Nat} : sm_R X 41 100 [.ref x0, .ref x1, .int x2, .int x3] [.int s0, .ref s1, .int s2, .ref s3] w Q ↔ sm_wp (sm_aa s1 s0 (sm_get X w s1)) (fun v => sm_R X 41 101 [.ref x0, .ref x1, .int x2, .int x3] [.ref v, .int s2, .ref s3] w Q) := sm_q_aald d41_100
theorem d41_101 : decode (sm_code 41) 101 = .ok (.getfield 166, 3) := by decide +kernel
theorem r41_101 {X : sm_X} {w : sm_W} {Q : Option Value → sm_W → Prop} {x0 : Nat} {x1 : Nat} {x2 : Int32} {x3 : Int32} {s0 : Nat} {s1 : Int32} {s2 : Nat} : sm_R X 41 101 [.ref x0, .ref x1, .int x2, .int x3] [.ref s0, .int s1, .ref s2] w Q ↔ sm_wp (sm_fld 5 2 (sm_at w s0)) (fun v => sm_R X 41 104 [.ref x0, .ref x1, .int x2, .int x3] [v, .int s1, .ref s2] w Q) := sm_q_getf d41_101 rfl (by decide)
theorem d41_104 : decode (sm_code 41) 104 = .ok (.invokevirtual 119, 3) := by decide +kernel
theorem r41_104 {X : sm_X} {w : sm_W} {Q : Option Value → sm_W → Prop} {x0 : Nat} {x1 : Nat} {x2 : Int32} {x3 : Int32} {s0 : Int32} {s1 : Int32} {s2 : Nat} : sm_R X 41 104 [.ref x0, .ref x1, .int x2, .int x3] [.int s0, .int s1, .ref s2] w Q ↔ (sm_cN (sm_at w s2) = some 4 ∧ sm_R X 36 0 [.ref s2, .int s1, .int s0] [] w (fun v w => sm_R X 41 107 [.ref x0, .ref x1, .int x2, .int x3] (v.toList ++ []) w Q)) := sm_q_vir (k := 36) (as := [.ref s2, .int s1, .int s0]) (rest := []) d41_104 rfl rfl rfl rfl rfl
theorem d41_107 : decode (sm_code 41) 107 = .ok (.goto 4, 3) := by decide +kernel
theorem r41_107 {X : sm_X} {w : sm_W} {Q : Option Value → sm_W → Prop} {x0 : Nat} {x1 : Nat} {x2 : Int32} {x3 : Int32} {s0 : Int32} : sm_R X 41 107 [.ref x0, .ref x1, .int x2, .int x3] [.int s0] w Q ↔ sm_R X 41 111 [.ref x0, .ref x1, .int x2, .int x3] [.int s0] w Q := sm_R_go d41_107 rfl
theorem d41_110 : decode (sm_code 41) 110 = .ok (.iconst 3, 1) := by decide +kernel
theorem r41_110 {X : sm_X} {w : sm_W} {Q : Option Value → sm_W → Prop} {x0 : Nat} {x1 : Nat} {x2 : Int32} {x3 : Int32} : sm_R X 41 110 [.ref x0, .ref x1, .int x2, .int x3] [] w Q ↔ sm_R X 41 111 [.ref x0, .ref x1, .int x2, .int x3] [.int 3] w Q := sm_R_go d41_110 rfl
theorem d41_111 : decode (sm_code 41) 111 = .ok (.ireturn, 1) := by decide +kernel
theorem r41_111 {X : sm_X} {w : sm_W} {Q : Option Value → sm_W → Prop} {x0 : Nat} {x1 : Nat} {x2 : Int32} {x3 : Int32} {s0 : Int32} : sm_R X 41 111 [.ref x0, .ref x1, .int x2, .int x3] [.int s0] w Q ↔ Q (some (.int s0)) w := sm_q_iret d41_111 rfl
theorem d41_112 : decode (sm_code 41) 112 = .ok (.iload_n 3, 1) := by decide +kernel
theorem r41_112 {X : sm_X} {w : sm_W} {Q : Option Value → sm_W → Prop} {x0 : Nat} {x1 : Nat} {x2 : Int32} {x3 : Int32} : sm_R X 41 112 [.ref x0, .ref x1, .int x2, .int x3] [] w Q ↔ sm_R X 41 113 [.ref x0, .ref x1, .int x2, .int x3] [.int x3] w Q := sm_R_go d41_112 rfl
theorem d41_113 : decode (sm_code 41) 113 = .ok (.aload_n 0, 1) := by decide +kernel
theorem r41_113 {X : sm_X} {w : sm_W} {Q : Option Value → sm_W → Prop} {x0 : Nat} {x1 : Nat} {x2 : Int32} {x3 : Int32} {s0 : Int32} : sm_R X 41 113 [.ref x0, .ref x1, .int x2, .int x3] [.int s0] w Q ↔ sm_R X 41 114 [.ref x0, .ref x1, .int x2, .int x3] [.ref x0, .int s0] w Q := sm_R_go d41_113 rfl
theorem d41_114 : decode (sm_code 41) 114 = .ok (.getfield 58, 3) := by decide +kernel
theorem r41_114 {X : sm_X} {w : sm_W} {Q : Option Value → sm_W → Prop} {x0 : Nat} {x1 : Nat} {x2 : Int32} {x3 : Int32} {s0 : Nat} {s1 : Int32} : sm_R X 41 114 [.ref x0, .ref x1, .int x2, .int x3] [.ref s0, .int s1] w Q ↔ sm_wp (sm_fld 2 8 (sm_at w s0)) (fun v => sm_R X 41 117 [.ref x0, .ref x1, .int x2, .int x3] [v, .int s1] w Q) := sm_q_getf d41_114 rfl (by decide)
theorem d41_117 : decode (sm_code 41) 117 = .ok (.if_icmp .ge 39, 3) := by decide +kernel
theorem r41_117 {X : sm_X} {w : sm_W} {Q : Option Value → sm_W → Prop} {x0 : Nat} {x1 : Nat} {x2 : Int32} {x3 : Int32} {s0 : Int32} {s1 : Int32} : sm_R X 41 117 [.ref x0, .ref x1, .int x2, .int x3] [.int s0, .int s1] w Q ↔ (if s0 ≤ s1 then sm_R X 41 156 [.ref x0, .ref x1, .int x2, .int x3] [] w Q else sm_R X 41 120 [.ref x0, .ref x1, .int x2, .int x3] [] w Q) := sm_q_br d41_117 rfl
theorem d41_120 : decode (sm_code 41) 120 = .ok (.aload_n 0, 1) := by decide +kernel
theorem r41_120 {X : sm_X} {w : sm_W} {Q : Option Value → sm_W → Prop} {x0 : Nat} {x1 : Nat} {x2 : Int32} {x3 : Int32} : sm_R X 41 120 [.ref x0, .ref x1, .int x2, .int x3] [] w Q ↔ sm_R X 41 121 [.ref x0, .ref x1, .int x2, .int x3] [.ref x0] w Q := sm_R_go d41_120 rfl
theorem d41_121 : decode (sm_code 41) 121 = .ok (.getfield 26, 3) := by decide +kernel
theorem r41_121 {X : sm_X} {w : sm_W} {Q : Option Value → sm_W → Prop} {x0 : Nat} {x1 : Nat} {x2 : Int32} {x3 : Int32} {s0 : Nat} : sm_R X 41 121 [.ref x0, .ref x1, .int x2, .int x3] [.ref s0] w Q ↔ sm_wp (sm_fld 2 1 (sm_at w s0)) (fun v => sm_R X 41 124 [.ref x0, .ref x1, .int x2, .int x3] [v] w Q) := sm_q_getf d41_121 rfl (by decide)
theorem d41_124 : decode (sm_code 41) 124 = .ok (.iload_n 3, 1) := by decide +kernel
theorem r41_124 {X : sm_X} {w : sm_W} {Q : Option Value → sm_W → Prop} {x0 : Nat} {x1 : Nat} {x2 : Int32} {x3 : Int32} {s0 : Nat} : sm_R X 41 124 [.ref x0, .ref x1, .int x2, .int x3] [.ref s0] w Q ↔ sm_R X 41 125 [.ref x0, .ref x1, .int x2, .int x3] [.int x3, .ref s0] w Q := sm_R_go d41_124 rfl
theorem d41_125 : decode (sm_code 41) 125 = .ok (.invokevirtual 169, 3) := by decide +kernel
theorem r41_125 {X : sm_X} {w : sm_W} {Q : Option Value → sm_W → Prop} {x0 : Nat} {x1 : Nat} {x2 : Int32} {x3 : Int32} {s0 : Int32} {s1 : Nat} : sm_R X 41 125 [.ref x0, .ref x1, .int x2, .int x3] [.int s0, .ref s1] w Q ↔ (sm_cN (sm_at w s1) = some 1 ∧ sm_R X 43 0 [.ref s1, .int s0] [] w (fun v w => sm_R X 41 128 [.ref x0, .ref x1, .int x2, .int x3] (v.toList ++ []) w Q)) := sm_q_vir (k := 43) (as := [.ref s1, .int s0]) (rest := []) d41_125 rfl rfl rfl rfl rfl
theorem d41_128 : decode (sm_code 41) 128 = .ok (.ifCond .eq 28, 3) := by decide +kernel
theorem r41_128 {X : sm_X} {w : sm_W} {Q : Option Value → sm_W → Prop} {x0 : Nat} {x1 : Nat} {x2 : Int32} {x3 : Int32} {s0 : Int32} : sm_R X 41 128 [.ref x0, .ref x1, .int x2, .int x3] [.int s0] w Q ↔ (if s0 = 0 then sm_R X 41 156 [.ref x0, .ref x1, .int x2, .int x3] [] w Q else sm_R X 41 131 [.ref x0, .ref x1, .int x2, .int x3] [] w Q) := sm_q_br d41_128 rfl
theorem d41_131 : decode (sm_code 41) 131 = .ok (.aload_n 0, 1) := by decide +kernel
theorem r41_131 {X : sm_X} {w : sm_W} {Q : Option Value → sm_W → Prop} {x0 : Nat} {x1 : Nat} {x2 : Int32} {x3 : Int32} : sm_R X 41 131 [.ref x0, .ref x1, .int x2, .int x3] [] w Q ↔ sm_R X 41 132 [.ref x0, .ref x1, .int x2, .int x3] [.ref x0] w Q := sm_R_go d41_131 rfl
theorem d41_132 : decode (sm_code 41) 132 = .ok (.getfield 12, 3) := by decide +kernel
theorem r41_132 {X : sm_X} {w : sm_W} {Q : Option Value → sm_W → Prop} {x0 : Nat} {x1 : Nat} {x2 : Int32} {x3 : Int32} {s0 : Nat} : sm_R X 41 132 [.ref x0, .ref x1, .int x2, .int x3] [.ref s0] w Q ↔ sm_wp (sm_fld 2 2 (sm_at w s0)) (fun v => sm_R X 41 135 [.ref x0, .ref x1, .int x2, .int x3] [v] w Q) := sm_q_getf d41_132 rfl (by decide)
theorem d41_135 : decode (sm_code 41) 135 = .ok (.iconst 1, 1) := by decide +kernel
theorem r41_135 {X : sm_X} {w : sm_W} {Q : Option Value → sm_W → Prop} {x0 : Nat} {x1 : Nat} {x2 : Int32} {x3 : Int32} {s0 : Nat} : sm_R X 41 135 [.ref x0, .ref x1, .int x2, .int x3] [.ref s0] w Q ↔ sm_R X 41 136 [.ref x0, .ref x1, .int x2, .int x3] [.int 1, .ref s0] w Q := sm_R_go d41_135 rfl
theorem d41_136 : decode (sm_code 41) 136 = .ok (.aload_n 0, 1) := by decide +kernel
theorem r41_136 {X : sm_X} {w : sm_W} {Q : Option Value → sm_W → Prop} {x0 : Nat} {x1 : Nat} {x2 : Int32} {x3 : Int32} {s0 : Int32} {s1 : Nat} : sm_R X 41 136 [.ref x0, .ref x1, .int x2, .int x3] [.int s0, .ref s1] w Q ↔ sm_R X 41 137 [.ref x0, .ref x1, .int x2, .int x3] [.ref x0, .int s0, .ref s1] w Q := sm_R_go d41_136 rfl
theorem d41_137 : decode (sm_code 41) 137 = .ok (.getfield 26, 3) := by decide +kernel
theorem r41_137 {X : sm_X} {w : sm_W} {Q : Option Value → sm_W → Prop} {x0 : Nat} {x1 : Nat} {x2 : Int32} {x3 : Int32} {s0 : Nat} {s1 : Int32} {s2 : Nat} : sm_R X 41 137 [.ref x0, .ref x1, .int x2, .int x3] [.ref s0, .int s1, .ref s2] w Q ↔ sm_wp (sm_fld 2 1 (sm_at w s0)) (fun v => sm_R X 41 140 [.ref x0, .ref x1, .int x2, .int x3] [v, .int s1, .ref s2] w Q) := sm_q_getf d41_137 rfl (by decide)
theorem d41_140 : decode (sm_code 41) 140 = .ok (.getfield 30, 3) := by decide +kernel
theorem r41_140 {X : sm_X} {w : sm_W} {Q : Option Value → sm_W → Prop} {x0 : Nat} {x1 : Nat} {x2 : Int32} {x3 : Int32} {s0 : Nat} {s1 : Int32} {s2 : Nat} : sm_R X 41 140 [.ref x0, .ref x1, .int x2, .int x3] [.ref s0, .int s1, .ref s2] w Q ↔ sm_wp (sm_fld 1 0 (sm_at w s0)) (fun v => sm_R X 41 143 [.ref x0, .ref x1, .int x2, .int x3] [v, .int s1, .ref s2] w Q) := sm_q_getf d41_140 rfl (by decide)
theorem d41_143 : decode (sm_code 41) 143 = .ok (.iload_n 3, 1) := by decide +kernel
theorem r41_143 {X : sm_X} {w : sm_W} {Q : Option Value → sm_W → Prop} {x0 : Nat} {x1 : Nat} {x2 : Int32} {x3 : Int32} {s0 : Nat} {s1 : Int32} {s2 : Nat} : sm_R X 41 143 [.ref x0, .ref x1, .int x2, .int x3] [.ref s0, .int s1, .ref s2] w Q ↔ sm_R X 41 144 [.ref x0, .ref x1, .int x2, .int x3] [.int x3, .ref s0, .int s1, .ref s2] w Q := sm_R_go d41_143 rfl
theorem d41_144 : decode (sm_code 41) 144 = .ok (.aaload, 1) := by decide +kernel
theorem r41_144 {X : sm_X} {w : sm_W} {Q : Option Value → sm_W → Prop} {x0 : Nat} {x1 : Nat} {x2 : Int32} {x3 : Int32} {s0 : Int32} {s1 : Nat} {s2 : Int32} {s3 : Nat} : sm_R X 41 144 [.ref x0, .ref x1, .int x2, .int x3] [.int s0, .ref s1, .int s2, .ref s3] w Q ↔ sm_wp (sm_aa s1 s0 (sm_get X w s1)) (fun v => sm_R X 41 145 [.ref x0, .ref x1, .int x2, .int x3] [.ref v, .int s2, .ref s3] w Q) := sm_q_aald d41_144
theorem d41_145 : decode (sm_code 41) 145 = .ok (.getfield 142, 3) := by decide +kernel
theorem r41_145 {X : sm_X} {w : sm_W} {Q : Option Value → sm_W → Prop} {x0 : Nat} {x1 : Nat} {x2 : Int32} {x3 : Int32} {s0 : Nat} {s1 : Int32} {s2 : Nat} : sm_R X 41 145 [.ref x0, .ref x1, .int x2, .int x3] [.ref s0, .int s1, .ref s2] w Q ↔ sm_wp (sm_fld 5 8 (sm_at w s0)) (fun v => sm_R X 41 148 [.ref x0, .ref x1, .int x2, .int x3] [v, .int s1, .ref s2] w Q) := sm_q_getf d41_145 rfl (by decide)
theorem d41_148 : decode (sm_code 41) 148 = .ok (.iload_n 2, 1) := by decide +kernel
theorem r41_148 {X : sm_X} {w : sm_W} {Q : Option Value → sm_W → Prop} {x0 : Nat} {x1 : Nat} {x2 : Int32} {x3 : Int32} {s0 : Nat} {s1 : Int32} {s2 : Nat} : sm_R X 41 148 [.ref x0, .ref x1, .int x2, .int x3] [.ref s0, .int s1, .ref s2] w Q ↔ sm_R X 41 149 [.ref x0, .ref x1, .int x2, .int x3] [.int x2, .ref s0, .int s1, .ref s2] w Q := sm_R_go d41_148 rfl
theorem d41_149 : decode (sm_code 41) 149 = .ok (.iaload, 1) := by decide +kernel
theorem r41_149 {X : sm_X} {w : sm_W} {Q : Option Value → sm_W → Prop} {x0 : Nat} {x1 : Nat} {x2 : Int32} {x3 : Int32} {s0 : Int32} {s1 : Nat} {s2 : Int32} {s3 : Nat} : sm_R X 41 149 [.ref x0, .ref x1, .int x2, .int x3] [.int s0, .ref s1, .int s2, .ref s3] w Q ↔ sm_wp (sm_ai s0 (sm_get X w s1)) (fun v => sm_R X 41 150 [.ref x0, .ref x1, .int x2, .int x3] [.int v, .int s2, .ref s3] w Q) := sm_q_iald d41_149
theorem d41_150 : decode (sm_code 41) 150 = .ok (.invokevirtual 119, 3) := by decide +kernel
theorem r41_150 {X : sm_X} {w : sm_W} {Q : Option Value → sm_W → Prop} {x0 : Nat} {x1 : Nat} {x2 : Int32} {x3 : Int32} {s0 : Int32} {s1 : Int32} {s2 : Nat} : sm_R X 41 150 [.ref x0, .ref x1, .int x2, .int x3] [.int s0, .int s1, .ref s2] w Q ↔ (sm_cN (sm_at w s2) = some 4 ∧ sm_R X 36 0 [.ref s2, .int s1, .int s0] [] w (fun v w => sm_R X 41 153 [.ref x0, .ref x1, .int x2, .int x3] (v.toList ++ []) w Q)) := sm_q_vir (k := 36) (as := [.ref s2, .int s1, .int s0]) (rest := []) d41_150 rfl rfl rfl rfl rfl
theorem d41_153 : decode (sm_code 41) 153 = .ok (.goto 4, 3) := by decide +kernel
theorem r41_153 {X : sm_X} {w : sm_W} {Q : Option Value → sm_W → Prop} {x0 : Nat} {x1 : Nat} {x2 : Int32} {x3 : Int32} {s0 : Int32} : sm_R X 41 153 [.ref x0, .ref x1, .int x2, .int x3] [.int s0] w Q ↔ sm_R X 41 157 [.ref x0, .ref x1, .int x2, .int x3] [.int s0] w Q := sm_R_go d41_153 rfl
theorem d41_156 : decode (sm_code 41) 156 = .ok (.iconst 3, 1) := by decide +kernel
theorem r41_156 {X : sm_X} {w : sm_W} {Q : Option Value → sm_W → Prop} {x0 : Nat} {x1 : Nat} {x2 : Int32} {x3 : Int32} : sm_R X 41 156 [.ref x0, .ref x1, .int x2, .int x3] [] w Q ↔ sm_R X 41 157 [.ref x0, .ref x1, .int x2, .int x3] [.int 3] w Q := sm_R_go d41_156 rfl
theorem d41_157 : decode (sm_code 41) 157 = .ok (.ireturn, 1) := by decide +kernel
theorem r41_157 {X : sm_X} {w : sm_W} {Q : Option Value → sm_W → Prop} {x0 : Nat} {x1 : Nat} {x2 : Int32} {x3 : Int32} {s0 : Int32} : sm_R X 41 157 [.ref x0, .ref x1, .int x2, .int x3] [.int s0] w Q ↔ Q (some (.int s0)) w := sm_q_iret d41_157 rfl
theorem d41_158 : decode (sm_code 41) 158 = .ok (.aload_n 0, 1) := by decide +kernel
theorem r41_158 {X : sm_X} {w : sm_W} {Q : Option Value → sm_W → Prop} {x0 : Nat} {x1 : Nat} {x2 : Int32} {x3 : Int32} : sm_R X 41 158 [.ref x0, .ref x1, .int x2, .int x3] [] w Q ↔ sm_R X 41 159 [.ref x0, .ref x1, .int x2, .int x3] [.ref x0] w Q := sm_R_go d41_158 rfl
theorem d41_159 : decode (sm_code 41) 159 = .ok (.getfield 22, 3) := by decide +kernel
theorem r41_159 {X : sm_X} {w : sm_W} {Q : Option Value → sm_W → Prop} {x0 : Nat} {x1 : Nat} {x2 : Int32} {x3 : Int32} {s0 : Nat} : sm_R X 41 159 [.ref x0, .ref x1, .int x2, .int x3] [.ref s0] w Q ↔ sm_wp (sm_fld 2 0 (sm_at w s0)) (fun v => sm_R X 41 162 [.ref x0, .ref x1, .int x2, .int x3] [v] w Q) := sm_q_getf d41_159 rfl (by decide)
theorem d41_162 : decode (sm_code 41) 162 = .ok (.aload_n 0, 1) := by decide +kernel
theorem r41_162 {X : sm_X} {w : sm_W} {Q : Option Value → sm_W → Prop} {x0 : Nat} {x1 : Nat} {x2 : Int32} {x3 : Int32} {s0 : Nat} : sm_R X 41 162 [.ref x0, .ref x1, .int x2, .int x3] [.ref s0] w Q ↔ sm_R X 41 163 [.ref x0, .ref x1, .int x2, .int x3] [.ref x0, .ref s0] w Q := sm_R_go d41_162 rfl
theorem d41_163 : decode (sm_code 41) 163 = .ok (.getfield 36, 3) := by decide +kernel
theorem r41_163 {X : sm_X} {w : sm_W} {Q : Option Value → sm_W → Prop} {x0 : Nat} {x1 : Nat} {x2 : Int32} {x3 : Int32} {s0 : Nat} {s1 : Nat} : sm_R X 41 163 [.ref x0, .ref x1, .int x2, .int x3] [.ref s0, .ref s1] w Q ↔ sm_wp (sm_fld 2 7 (sm_at w s0)) (fun v => sm_R X 41 166 [.ref x0, .ref x1, .int x2, .int x3] [v, .ref s1] w Q) := sm_q_getf d41_163 rfl (by decide)
theorem d41_166 : decode (sm_code 41) 166 = .ok (.getfield 139, 3) := by decide +kernel
theorem r41_166 {X : sm_X} {w : sm_W} {Q : Option Value → sm_W → Prop} {x0 : Nat} {x1 : Nat} {x2 : Int32} {x3 : Int32} {s0 : Nat} {s1 : Nat} : sm_R X 41 166 [.ref x0, .ref x1, .int x2, .int x3] [.ref s0, .ref s1] w Q ↔ sm_wp (sm_fld 5 4 (sm_at w s0)) (fun v => sm_R X 41 169 [.ref x0, .ref x1, .int x2, .int x3] [v, .ref s1] w Q) := sm_q_getf d41_166 rfl (by decide)
theorem d41_169 : decode (sm_code 41) 169 = .ok (.iload_n 3, 1) := by decide +kernel
theorem r41_169 {X : sm_X} {w : sm_W} {Q : Option Value → sm_W → Prop} {x0 : Nat} {x1 : Nat} {x2 : Int32} {x3 : Int32} {s0 : Int32} {s1 : Nat} : sm_R X 41 169 [.ref x0, .ref x1, .int x2, .int x3] [.int s0, .ref s1] w Q ↔ sm_R X 41 170 [.ref x0, .ref x1, .int x2, .int x3] [.int x3, .int s0, .ref s1] w Q := sm_R_go d41_169 rfl
theorem d41_170 : decode (sm_code 41) 170 = .ok (.invokevirtual 172, 3) := by decide +kernel
theorem r41_170 {X : sm_X} {w : sm_W} {Q : Option Value → sm_W → Prop} {x0 : Nat} {x1 : Nat} {x2 : Int32} {x3 : Int32} {s0 : Int32} {s1 : Int32} {s2 : Nat} : sm_R X 41 170 [.ref x0, .ref x1, .int x2, .int x3] [.int s0, .int s1, .ref s2] w Q ↔ (sm_cN (sm_at w s2) = some 0 ∧ sm_R X 27 0 [.ref s2, .int s1, .int s0] [] w (fun v w => sm_R X 41 173 [.ref x0, .ref x1, .int x2, .int x3] (v.toList ++ []) w Q)) := sm_q_vir (k := 27) (as := [.ref s2, .int s1, .int s0]) (rest := []) d41_170 rfl rfl rfl rfl rfl
theorem d41_173 : decode (sm_code 41) 173 = .ok (.ifCond .eq 35, 3) := by decide +kernel
theorem r41_173 {X : sm_X} {w : sm_W} {Q : Option Value → sm_W → Prop} {x0 : Nat} {x1 : Nat} {x2 : Int32} {x3 : Int32} {s0 : Int32} : sm_R X 41 173 [.ref x0, .ref x1, .int x2, .int x3] [.int s0] w Q ↔ (if s0 = 0 then sm_R X 41 208 [.ref x0, .ref x1, .int x2, .int x3] [] w Q else sm_R X 41 176 [.ref x0, .ref x1, .int x2, .int x3] [] w Q) := sm_q_br d41_173 rfl
theorem d41_176 : decode (sm_code 41) 176 = .ok (.aload_n 0, 1) := by decide +kernel
theorem r41_176 {X : sm_X} {w : sm_W} {Q : Option Value → sm_W → Prop} {x0 : Nat} {x1 : Nat} {x2 : Int32} {x3 : Int32} : sm_R X 41 176 [.ref x0, .ref x1, .int x2, .int x3] [] w Q ↔ sm_R X 41 177 [.ref x0, .ref x1, .int x2, .int x3] [.ref x0] w Q := sm_R_go d41_176 rfl
theorem d41_177 : decode (sm_code 41) 177 = .ok (.getfield 12, 3) := by decide +kernel
theorem r41_177 {X : sm_X} {w : sm_W} {Q : Option Value → sm_W → Prop} {x0 : Nat} {x1 : Nat} {x2 : Int32} {x3 : Int32} {s0 : Nat} : sm_R X 41 177 [.ref x0, .ref x1, .int x2, .int x3] [.ref s0] w Q ↔ sm_wp (sm_fld 2 2 (sm_at w s0)) (fun v => sm_R X 41 180 [.ref x0, .ref x1, .int x2, .int x3] [v] w Q) := sm_q_getf d41_177 rfl (by decide)
theorem d41_180 : decode (sm_code 41) 180 = .ok (.iconst 1, 1) := by decide +kernel
theorem r41_180 {X : sm_X} {w : sm_W} {Q : Option Value → sm_W → Prop} {x0 : Nat} {x1 : Nat} {x2 : Int32} {x3 : Int32} {s0 : Nat} : sm_R X 41 180 [.ref x0, .ref x1, .int x2, .int x3] [.ref s0] w Q ↔ sm_R X 41 181 [.ref x0, .ref x1, .int x2, .int x3] [.int 1, .ref s0] w Q := sm_R_go d41_180 rfl
theorem d41_181 : decode (sm_code 41) 181 = .ok (.aload_n 0, 1) := by decide +kernel
theorem r41_181 {X : sm_X} {w : sm_W} {Q : Option Value → sm_W → Prop} {x0 : Nat} {x1 : Nat} {x2 : Int32} {x3 : Int32} {s0 : Int32} {s1 : Nat} : sm_R X 41 181 [.ref x0, .ref x1, .int x2, .int x3] [.int s0, .ref s1] w Q ↔ sm_R X 41 182 [.ref x0, .ref x1, .int x2, .int x3] [.ref x0, .int s0, .ref s1] w Q := sm_R_go d41_181 rfl
theorem d41_182 : decode (sm_code 41) 182 = .ok (.getfield 22, 3) := by decide +kernel
theorem r41_182 {X : sm_X} {w : sm_W} {Q : Option Value → sm_W → Prop} {x0 : Nat} {x1 : Nat} {x2 : Int32} {x3 : Int32} {s0 : Nat} {s1 : Int32} {s2 : Nat} : sm_R X 41 182 [.ref x0, .ref x1, .int x2, .int x3] [.ref s0, .int s1, .ref s2] w Q ↔ sm_wp (sm_fld 2 0 (sm_at w s0)) (fun v => sm_R X 41 185 [.ref x0, .ref x1, .int x2, .int x3] [v, .int s1, .ref s2] w Q) := sm_q_getf d41_182 rfl (by decide)
theorem d41_185 : decode (sm_code 41) 185 = .ok (.getfield 176, 3) := by decide +kernel
theorem r41_185 {X : sm_X} {w : sm_W} {Q : Option Value → sm_W → Prop} {x0 : Nat} {x1 : Nat} {x2 : Int32} {x3 : Int32} {s0 : Nat} {s1 : Int32} {s2 : Nat} : sm_R X 41 185 [.ref x0, .ref x1, .int x2, .int x3] [.ref s0, .int s1, .ref s2] w Q ↔ sm_wp (sm_fld 0 2 (sm_at w s0)) (fun v => sm_R X 41 188 [.ref x0, .ref x1, .int x2, .int x3] [v, .int s1, .ref s2] w Q) := sm_q_getf d41_185 rfl (by decide)
theorem d41_188 : decode (sm_code 41) 188 = .ok (.aload_n 0, 1) := by decide +kernel
theorem r41_188 {X : sm_X} {w : sm_W} {Q : Option Value → sm_W → Prop} {x0 : Nat} {x1 : Nat} {x2 : Int32} {x3 : Int32} {s0 : Nat} {s1 : Int32} {s2 : Nat} : sm_R X 41 188 [.ref x0, .ref x1, .int x2, .int x3] [.ref s0, .int s1, .ref s2] w Q ↔ sm_R X 41 189 [.ref x0, .ref x1, .int x2, .int x3] [.ref x0, .ref s0, .int s1, .ref s2] w Q := sm_R_go d41_188 rfl
theorem d41_189 : decode (sm_code 41) 189 = .ok (.getfield 36, 3) := by decide +kernel
theorem r41_189 {X : sm_X} {w : sm_W} {Q : Option Value → sm_W → Prop} {x0 : Nat} {x1 : Nat} {x2 : Int32} {x3 : Int32} {s0 : Nat} {s1 : Nat} {s2 : Int32} {s3 : Nat} : sm_R X 41 189 [.ref x0, .ref x1, .int x2, .int x3] [.ref s0, .ref s1, .int s2, .ref s3] w Q ↔ sm_wp (sm_fld 2 7 (sm_at w s0)) (fun v => sm_R X 41 192 [.ref x0, .ref x1, .int x2, .int x3] [v, .ref s1, .int s2, .ref s3] w Q) := sm_q_getf d41_189 rfl (by decide)
theorem d41_192 : decode (sm_code 41) 192 = .ok (.getfield 139, 3) := by decide +kernel
theorem r41_192 {X : sm_X} {w : sm_W} {Q : Option Value → sm_W → Prop} {x0 : Nat} {x1 : Nat} {x2 : Int32} {x3 : Int32} {s0 : Nat} {s1 : Nat} {s2 : Int32} {s3 : Nat} : sm_R X 41 192 [.ref x0, .ref x1, .int x2, .int x3] [.ref s0, .ref s1, .int s2, .ref s3] w Q ↔ sm_wp (sm_fld 5 4 (sm_at w s0)) (fun v => sm_R X 41 195 [.ref x0, .ref x1, .int x2, .int x3] [v, .ref s1, .int s2, .ref s3] w Q) := sm_q_getf d41_192 rfl (by decide)
theorem d41_195 : decode (sm_code 41) 195 = .ok (.aaload, 1) := by decide +kernel
theorem r41_195 {X : sm_X} {w : sm_W} {Q : Option Value → sm_W → Prop} {x0 : Nat} {x1 : Nat} {x2 : Int32} {x3 : Int32} {s0 : Int32} {s1 : Nat} {s2 : Int32} {s3 : Nat} : sm_R X 41 195 [.ref x0, .ref x1, .int x2, .int x3] [.int s0, .ref s1, .int s2, .ref s3] w Q ↔ sm_wp (sm_aa s1 s0 (sm_get X w s1)) (fun v => sm_R X 41 196 [.ref x0, .ref x1, .int x2, .int x3] [.ref v, .int s2, .ref s3] w Q) := sm_q_aald d41_195
theorem d41_196 : decode (sm_code 41) 196 = .ok (.iload_n 3, 1) := by decide +kernel
theorem r41_196 {X : sm_X} {w : sm_W} {Q : Option Value → sm_W → Prop} {x0 : Nat} {x1 : Nat} {x2 : Int32} {x3 : Int32} {s0 : Nat} {s1 : Int32} {s2 : Nat} : sm_R X 41 196 [.ref x0, .ref x1, .int x2, .int x3] [.ref s0, .int s1, .ref s2] w Q ↔ sm_R X 41 197 [.ref x0, .ref x1, .int x2, .int x3] [.int x3, .ref s0, .int s1, .ref s2] w Q := sm_R_go d41_196 rfl
theorem d41_197 : decode (sm_code 41) 197 = .ok (.iconst 2, 1) := by decide +kernel
theorem r41_197 {X : sm_X} {w : sm_W} {Q : Option Value → sm_W → Prop} {x0 : Nat} {x1 : Nat} {x2 : Int32} {x3 : Int32} {s0 : Int32} {s1 : Nat} {s2 : Int32} {s3 : Nat} : sm_R X 41 197 [.ref x0, .ref x1, .int x2, .int x3] [.int s0, .ref s1, .int s2, .ref s3] w Q ↔ sm_R X 41 198 [.ref x0, .ref x1, .int x2, .int x3] [.int 2, .int s0, .ref s1, .int s2, .ref s3] w Q := sm_R_go d41_197 rfl
theorem d41_198 : decode (sm_code 41) 198 = .ok (.imul, 1) := by decide +kernel
theorem r41_198 {X : sm_X} {w : sm_W} {Q : Option Value → sm_W → Prop} {x0 : Nat} {x1 : Nat} {x2 : Int32} {x3 : Int32} {s0 : Int32} {s1 : Int32} {s2 : Nat} {s3 : Int32} {s4 : Nat} : sm_R X 41 198 [.ref x0, .ref x1, .int x2, .int x3] [.int s0, .int s1, .ref s2, .int s3, .ref s4] w Q ↔ sm_R X 41 199 [.ref x0, .ref x1, .int x2, .int x3] [.int (s1 * s0), .ref s2, .int s3, .ref s4] w Q := sm_R_go d41_198 rfl
theorem d41_199 : decode (sm_code 41) 199 = .ok (.iload_n 2, 1) := by decide +kernel
theorem r41_199 {X : sm_X} {w : sm_W} {Q : Option Value → sm_W → Prop} {x0 : Nat} {x1 : Nat} {x2 : Int32} {x3 : Int32} {s0 : Int32} {s1 : Nat} {s2 : Int32} {s3 : Nat} : sm_R X 41 199 [.ref x0, .ref x1, .int x2, .int x3] [.int s0, .ref s1, .int s2, .ref s3] w Q ↔ sm_R X 41 200 [.ref x0, .ref x1, .int x2, .int x3] [.int x2, .int s0, .ref s1, .int s2, .ref s3] w Q := sm_R_go d41_199 rfl
theorem d41_200 : decode (sm_code 41) 200 = .ok (.iadd, 1) := by decide +kernel
theorem r41_200 {X : sm_X} {w : sm_W} {Q : Option Value → sm_W → Prop} {x0 : Nat} {x1 : Nat} {x2 : Int32} {x3 : Int32} {s0 : Int32} {s1 : Int32} {s2 : Nat} {s3 : Int32} {s4 : Nat} : sm_R X 41 200 [.ref x0, .ref x1, .int x2, .int x3] [.int s0, .int s1, .ref s2, .int s3, .ref s4] w Q ↔ sm_R X 41 201 [.ref x0, .ref x1, .int x2, .int x3] [.int (s1 + s0), .ref s2, .int s3, .ref s4] w Q := sm_R_go d41_200 rfl
theorem d41_201 : decode (sm_code 41) 201 = .ok (.iaload, 1) := by decide +kernel
theorem r41_201 {X : sm_X} {w : sm_W} {Q : Option Value → sm_W → Prop} {x0 : Nat} {x1 : Nat} {x2 : Int32} {x3 : Int32} {s0 : Int32} {s1 : Nat} {s2 : Int32} {s3 : Nat} : sm_R X 41 201 [.ref x0, .ref x1, .int x2, .int x3] [.int s0, .ref s1, .int s2, .ref s3] w Q ↔ sm_wp (sm_ai s0 (sm_get X w s1)) (fun v => sm_R X 41 202 [.ref x0, .ref x1, .int x2, .int x3] [.int v, .int s2, .ref s3] w Q) := sm_q_iald d41_201
theorem d41_202 : decode (sm_code 41) 202 = .ok (.invokevirtual 119, 3) := by decide +kernel
theorem r41_202 {X : sm_X} {w : sm_W} {Q : Option Value → sm_W → Prop} {x0 : Nat} {x1 : Nat} {x2 : Int32} {x3 : Int32} {s0 : Int32} {s1 : Int32} {s2 : Nat} : sm_R X 41 202 [.ref x0, .ref x1, .int x2, .int x3] [.int s0, .int s1, .ref s2] w Q ↔ (sm_cN (sm_at w s2) = some 4 ∧ sm_R X 36 0 [.ref s2, .int s1, .int s0] [] w (fun v w => sm_R X 41 205 [.ref x0, .ref x1, .int x2, .int x3] (v.toList ++ []) w Q)) := sm_q_vir (k := 36) (as := [.ref s2, .int s1, .int s0]) (rest := []) d41_202 rfl rfl rfl rfl rfl
theorem d41_205 : decode (sm_code 41) 205 = .ok (.goto 4, 3) := by decide +kernel
theorem r41_205 {X : sm_X} {w : sm_W} {Q : Option Value → sm_W → Prop} {x0 : Nat} {x1 : Nat} {x2 : Int32} {x3 : Int32} {s0 : Int32} : sm_R X 41 205 [.ref x0, .ref x1, .int x2, .int x3] [.int s0] w Q ↔ sm_R X 41 209 [.ref x0, .ref x1, .int x2, .int x3] [.int s0] w Q := sm_R_go d41_205 rfl
theorem d41_208 : decode (sm_code 41) 208 = .ok (.iconst 3, 1) := by decide +kernel
theorem r41_208 {X : sm_X} {w : sm_W} {Q : Option Value → sm_W → Prop} {x0 : Nat} {x1 : Nat} {x2 : Int32} {x3 : Int32} : sm_R X 41 208 [.ref x0, .ref x1, .int x2, .int x3] [] w Q ↔ sm_R X 41 209 [.ref x0, .ref x1, .int x2, .int x3] [.int 3] w Q := sm_R_go d41_208 rfl
theorem d41_209 : decode (sm_code 41) 209 = .ok (.ireturn, 1) := by decide +kernel
theorem r41_209 {X : sm_X} {w : sm_W} {Q : Option Value → sm_W → Prop} {x0 : Nat} {x1 : Nat} {x2 : Int32} {x3 : Int32} {s0 : Int32} : sm_R X 41 209 [.ref x0, .ref x1, .int x2, .int x3] [.int s0] w Q ↔ Q (some (.int s0)) w := sm_q_iret d41_209 rfl
theorem d41_210 : decode (sm_code 41) 210 = .ok (.aload_n 0, 1) := by decide +kernel
theorem r41_210 {X : sm_X} {w : sm_W} {Q : Option Value → sm_W → Prop} {x0 : Nat} {x1 : Nat} {x2 : Int32} {x3 : Int32} : sm_R X 41 210 [.ref x0, .ref x1, .int x2, .int x3] [] w Q ↔ sm_R X 41 211 [.ref x0, .ref x1, .int x2, .int x3] [.ref x0] w Q := sm_R_go d41_210 rfl
theorem d41_211 : decode (sm_code 41) 211 = .ok (.getfield 12, 3) := by decide +kernel
theorem r41_211 {X : sm_X} {w : sm_W} {Q : Option Value → sm_W → Prop} {x0 : Nat} {x1 : Nat} {x2 : Int32} {x3 : Int32} {s0 : Nat} : sm_R X 41 211 [.ref x0, .ref x1, .int x2, .int x3] [.ref s0] w Q ↔ sm_wp (sm_fld 2 2 (sm_at w s0)) (fun v => sm_R X 41 214 [.ref x0, .ref x1, .int x2, .int x3] [v] w Q) := sm_q_getf d41_211 rfl (by decide)
theorem d41_214 : decode (sm_code 41) 214 = .ok (.iconst 1, 1) := by decide +kernel
theorem r41_214 {X : sm_X} {w : sm_W} {Q : Option Value → sm_W → Prop} {x0 : Nat} {x1 : Nat} {x2 : Int32} {x3 : Int32} {s0 : Nat} : sm_R X 41 214 [.ref x0, .ref x1, .int x2, .int x3] [.ref s0] w Q ↔ sm_R X 41 215 [.ref x0, .ref x1, .int x2, .int x3] [.int 1, .ref s0] w Q := sm_R_go d41_214 rfl
theorem d41_215 : decode (sm_code 41) 215 = .ok (.aload_n 0, 1) := by decide +kernel
theorem r41_215 {X : sm_X} {w : sm_W} {Q : Option Value → sm_W → Prop} {x0 : Nat} {x1 : Nat} {x2 : Int32} {x3 : Int32} {s0 : Int32} {s1 : Nat} : sm_R X 41 215 [.ref x0, .ref x1, .int x2, .int x3] [.int s0, .ref s1] w Q ↔ sm_R X 41 216 [.ref x0, .ref x1, .int x2, .int x3] [.ref x0, .int s0, .ref s1] w Q := sm_R_go d41_215 rfl
theorem d41_216 : decode (sm_code 41) 216 = .ok (.getfield 22, 3) := by decide +kernel
theorem r41_216 {X : sm_X} {w : sm_W} {Q : Option Value → sm_W → Prop} {x0 : Nat} {x1 : Nat} {x2 : Int32} {x3 : Int32} {s0 : Nat} {s1 : Int32} {s2 : Nat} : sm_R X 41 216 [.ref x0, .ref x1, .int x2, .int x3] [.ref s0, .int s1, .ref s2] w Q ↔ sm_wp (sm_fld 2 0 (sm_at w s0)) (fun v => sm_R X 41 219 [.ref x0, .ref x1, .int x2, .int x3] [v, .int s1, .ref s2] w Q) := sm_q_getf d41_216 rfl (by decide)
theorem d41_219 : decode (sm_code 41) 219 = .ok (.getfield 179, 3) := by decide +kernel
theorem r41_219 {X : sm_X} {w : sm_W} {Q : Option Value → sm_W → Prop} {x0 : Nat} {x1 : Nat} {x2 : Int32} {x3 : Int32} {s0 : Nat} {s1 : Int32} {s2 : Nat} : sm_R X 41 219 [.ref x0, .ref x1, .int x2, .int x3] [.ref s0, .int s1, .ref s2] w Q ↔ sm_wp (sm_fld 0 0 (sm_at w s0)) (fun v => sm_R X 41 222 [.ref x0, .ref x1, .int x2, .int x3] [v, .int s1, .ref s2] w Q) := sm_q_getf d41_219 rfl (by decide)
theorem d41_222 : decode (sm_code 41) 222 = .ok (.iload_n 3, 1) := by decide +kernel
theorem r41_222 {X : sm_X} {w : sm_W} {Q : Option Value → sm_W → Prop} {x0 : Nat} {x1 : Nat} {x2 : Int32} {x3 : Int32} {s0 : Nat} {s1 : Int32} {s2 : Nat} : sm_R X 41 222 [.ref x0, .ref x1, .int x2, .int x3] [.ref s0, .int s1, .ref s2] w Q ↔ sm_R X 41 223 [.ref x0, .ref x1, .int x2, .int x3] [.int x3, .ref s0, .int s1, .ref s2] w Q := sm_R_go d41_222 rfl
theorem d41_223 : decode (sm_code 41) 223 = .ok (.iaload, 1) := by decide +kernel
theorem r41_223 {X : sm_X} {w : sm_W} {Q : Option Value → sm_W → Prop} {x0 : Nat} {x1 : Nat} {x2 : Int32} {x3 : Int32} {s0 : Int32} {s1 : Nat} {s2 : Int32} {s3 : Nat} : sm_R X 41 223 [.ref x0, .ref x1, .int x2, .int x3] [.int s0, .ref s1, .int s2, .ref s3] w Q ↔ sm_wp (sm_ai s0 (sm_get X w s1)) (fun v => sm_R X 41 224 [.ref x0, .ref x1, .int x2, .int x3] [.int v, .int s2, .ref s3] w Q) := sm_q_iald d41_223
theorem d41_224 : decode (sm_code 41) 224 = .ok (.invokevirtual 119, 3) := by decide +kernel
theorem r41_224 {X : sm_X} {w : sm_W} {Q : Option Value → sm_W → Prop} {x0 : Nat} {x1 : Nat} {x2 : Int32} {x3 : Int32} {s0 : Int32} {s1 : Int32} {s2 : Nat} : sm_R X 41 224 [.ref x0, .ref x1, .int x2, .int x3] [.int s0, .int s1, .ref s2] w Q ↔ (sm_cN (sm_at w s2) = some 4 ∧ sm_R X 36 0 [.ref s2, .int s1, .int s0] [] w (fun v w => sm_R X 41 227 [.ref x0, .ref x1, .int x2, .int x3] (v.toList ++ []) w Q)) := sm_q_vir (k := 36) (as := [.ref s2, .int s1, .int s0]) (rest := []) d41_224 rfl rfl rfl rfl rfl
theorem d41_227 : decode (sm_code 41) 227 = .ok (.ireturn, 1) := by decide +kernel
theorem r41_227 {X : sm_X} {w : sm_W} {Q : Option Value → sm_W → Prop} {x0 : Nat} {x1 : Nat} {x2 : Int32} {x3 : Int32} {s0 : Int32} : sm_R X 41 227 [.ref x0, .ref x1, .int x2, .int x3] [.int s0] w Q ↔ Q (some (.int s0)) w := sm_q_iret d41_227 rfl
-- GroupLedger$Group.hasPayment(I)Z
theorem d42_0 : decode (sm_code 42) 0 = .ok (.iload_n 1, 1) := by decide +kernel
theorem r42_0 {X : sm_X} {w : sm_W} {Q : Option Value → sm_W → Prop} {x0 : Nat} {x1 : Int32} : sm_R X 42 0 [.ref x0, .int x1] [] w Q ↔ sm_R X 42 1 [.ref x0, .int x1] [.int x1] w Q := sm_R_go d42_0 rfl
theorem d42_1 : decode (sm_code 42) 1 = .ok (.ifCond .lt 27, 3) := by decide +kernel
theorem r42_1 {X : sm_X} {w : sm_W} {Q : Option Value → sm_W → Prop} {x0 : Nat} {x1 : Int32} {s0 : Int32} : sm_R X 42 1 [.ref x0, .int x1] [.int s0] w Q ↔ (if s0 < 0 then sm_R X 42 28 [.ref x0, .int x1] [] w Q else sm_R X 42 4 [.ref x0, .int x1] [] w Q) := sm_q_br d42_1 rfl
theorem d42_4 : decode (sm_code 42) 4 = .ok (.iload_n 1, 1) := by decide +kernel
theorem r42_4 {X : sm_X} {w : sm_W} {Q : Option Value → sm_W → Prop} {x0 : Nat} {x1 : Int32} : sm_R X 42 4 [.ref x0, .int x1] [] w Q ↔ sm_R X 42 5 [.ref x0, .int x1] [.int x1] w Q := sm_R_go d42_4 rfl
theorem d42_5 : decode (sm_code 42) 5 = .ok (.aload_n 0, 1) := by decide +kernel
theorem r42_5 {X : sm_X} {w : sm_W} {Q : Option Value → sm_W → Prop} {x0 : Nat} {x1 : Int32} {s0 : Int32} : sm_R X 42 5 [.ref x0, .int x1] [.int s0] w Q ↔ sm_R X 42 6 [.ref x0, .int x1] [.ref x0, .int s0] w Q := sm_R_go d42_5 rfl
theorem d42_6 : decode (sm_code 42) 6 = .ok (.getfield 18, 3) := by decide +kernel
theorem r42_6 {X : sm_X} {w : sm_W} {Q : Option Value → sm_W → Prop} {x0 : Nat} {x1 : Int32} {s0 : Nat} {s1 : Int32} : sm_R X 42 6 [.ref x0, .int x1] [.ref s0, .int s1] w Q ↔ sm_wp (sm_fld 1 1 (sm_at w s0)) (fun v => sm_R X 42 9 [.ref x0, .int x1] [v, .int s1] w Q) := sm_q_getf d42_6 rfl (by decide)
theorem d42_9 : decode (sm_code 42) 9 = .ok (.if_icmp .ge 19, 3) := by decide +kernel
theorem r42_9 {X : sm_X} {w : sm_W} {Q : Option Value → sm_W → Prop} {x0 : Nat} {x1 : Int32} {s0 : Int32} {s1 : Int32} : sm_R X 42 9 [.ref x0, .int x1] [.int s0, .int s1] w Q ↔ (if s0 ≤ s1 then sm_R X 42 28 [.ref x0, .int x1] [] w Q else sm_R X 42 12 [.ref x0, .int x1] [] w Q) := sm_q_br d42_9 rfl
theorem d42_12 : decode (sm_code 42) 12 = .ok (.aload_n 0, 1) := by decide +kernel
theorem r42_12 {X : sm_X} {w : sm_W} {Q : Option Value → sm_W → Prop} {x0 : Nat} {x1 : Int32} : sm_R X 42 12 [.ref x0, .int x1] [] w Q ↔ sm_R X 42 13 [.ref x0, .int x1] [.ref x0] w Q := sm_R_go d42_12 rfl
theorem d42_13 : decode (sm_code 42) 13 = .ok (.getfield 11, 3) := by decide +kernel
theorem r42_13 {X : sm_X} {w : sm_W} {Q : Option Value → sm_W → Prop} {x0 : Nat} {x1 : Int32} {s0 : Nat} : sm_R X 42 13 [.ref x0, .int x1] [.ref s0] w Q ↔ sm_wp (sm_fld 1 0 (sm_at w s0)) (fun v => sm_R X 42 16 [.ref x0, .int x1] [v] w Q) := sm_q_getf d42_13 rfl (by decide)
theorem d42_16 : decode (sm_code 42) 16 = .ok (.iload_n 1, 1) := by decide +kernel
theorem r42_16 {X : sm_X} {w : sm_W} {Q : Option Value → sm_W → Prop} {x0 : Nat} {x1 : Int32} {s0 : Nat} : sm_R X 42 16 [.ref x0, .int x1] [.ref s0] w Q ↔ sm_R X 42 17 [.ref x0, .int x1] [.int x1, .ref s0] w Q := sm_R_go d42_16 rfl
theorem d42_17 : decode (sm_code 42) 17 = .ok (.aaload, 1) := by decide +kernel
theorem r42_17 {X : sm_X} {w : sm_W} {Q : Option Value → sm_W → Prop} {x0 : Nat} {x1 : Int32} {s0 : Int32} {s1 : Nat} : sm_R X 42 17 [.ref x0, .int x1] [.int s0, .ref s1] w Q ↔ sm_wp (sm_aa s1 s0 (sm_get X w s1)) (fun v => sm_R X 42 18 [.ref x0, .int x1] [.ref v] w Q) := sm_q_aald d42_17
theorem d42_18 : decode (sm_code 42) 18 = .ok (.getfield 22, 3) := by decide +kernel
theorem r42_18 {X : sm_X} {w : sm_W} {Q : Option Value → sm_W → Prop} {x0 : Nat} {x1 : Int32} {s0 : Nat} : sm_R X 42 18 [.ref x0, .int x1] [.ref s0] w Q ↔ sm_wp (sm_fld 5 0 (sm_at w s0)) (fun v => sm_R X 42 21 [.ref x0, .int x1] [v] w Q) := sm_q_getf d42_18 rfl (by decide)
theorem d42_21 : decode (sm_code 42) 21 = .ok (.ifCond .eq 7, 3) := by decide +kernel
theorem r42_21 {X : sm_X} {w : sm_W} {Q : Option Value → sm_W → Prop} {x0 : Nat} {x1 : Int32} {s0 : Int32} : sm_R X 42 21 [.ref x0, .int x1] [.int s0] w Q ↔ (if s0 = 0 then sm_R X 42 28 [.ref x0, .int x1] [] w Q else sm_R X 42 24 [.ref x0, .int x1] [] w Q) := sm_q_br d42_21 rfl
theorem d42_24 : decode (sm_code 42) 24 = .ok (.iconst 1, 1) := by decide +kernel
theorem r42_24 {X : sm_X} {w : sm_W} {Q : Option Value → sm_W → Prop} {x0 : Nat} {x1 : Int32} : sm_R X 42 24 [.ref x0, .int x1] [] w Q ↔ sm_R X 42 25 [.ref x0, .int x1] [.int 1] w Q := sm_R_go d42_24 rfl
theorem d42_25 : decode (sm_code 42) 25 = .ok (.goto 4, 3) := by decide +kernel
theorem r42_25 {X : sm_X} {w : sm_W} {Q : Option Value → sm_W → Prop} {x0 : Nat} {x1 : Int32} {s0 : Int32} : sm_R X 42 25 [.ref x0, .int x1] [.int s0] w Q ↔ sm_R X 42 29 [.ref x0, .int x1] [.int s0] w Q := sm_R_go d42_25 rfl
theorem d42_28 : decode (sm_code 42) 28 = .ok (.iconst 0, 1) := by decide +kernel
theorem r42_28 {X : sm_X} {w : sm_W} {Q : Option Value → sm_W → Prop} {x0 : Nat} {x1 : Int32} : sm_R X 42 28 [.ref x0, .int x1] [] w Q ↔ sm_R X 42 29 [.ref x0, .int x1] [.int 0] w Q := sm_R_go d42_28 rfl
theorem d42_29 : decode (sm_code 42) 29 = .ok (.ireturn, 1) := by decide +kernel
theorem r42_29 {X : sm_X} {w : sm_W} {Q : Option Value → sm_W → Prop} {x0 : Nat} {x1 : Int32} {s0 : Int32} (h : s0 = 0 ∨ s0 = 1) : sm_R X 42 29 [.ref x0, .int x1] [.int s0] w Q ↔ Q (some (.int s0)) w := sm_q_zret d42_29 rfl h
-- GroupLedger$Group.hasCall(I)Z
theorem d43_0 : decode (sm_code 43) 0 = .ok (.iload_n 1, 1) := by decide +kernel
theorem r43_0 {X : sm_X} {w : sm_W} {Q : Option Value → sm_W → Prop} {x0 : Nat} {x1 : Int32} : sm_R X 43 0 [.ref x0, .int x1] [] w Q ↔ sm_R X 43 1 [.ref x0, .int x1] [.int x1] w Q := sm_R_go d43_0 rfl
theorem d43_1 : decode (sm_code 43) 1 = .ok (.ifCond .lt 27, 3) := by decide +kernel
theorem r43_1 {X : sm_X} {w : sm_W} {Q : Option Value → sm_W → Prop} {x0 : Nat} {x1 : Int32} {s0 : Int32} : sm_R X 43 1 [.ref x0, .int x1] [.int s0] w Q ↔ (if s0 < 0 then sm_R X 43 28 [.ref x0, .int x1] [] w Q else sm_R X 43 4 [.ref x0, .int x1] [] w Q) := sm_q_br d43_1 rfl
theorem d43_4 : decode (sm_code 43) 4 = .ok (.iload_n 1, 1) := by decide +kernel
theorem r43_4 {X : sm_X} {w : sm_W} {Q : Option Value → sm_W → Prop} {x0 : Nat} {x1 : Int32} : sm_R X 43 4 [.ref x0, .int x1] [] w Q ↔ sm_R X 43 5 [.ref x0, .int x1] [.int x1] w Q := sm_R_go d43_4 rfl
theorem d43_5 : decode (sm_code 43) 5 = .ok (.aload_n 0, 1) := by decide +kernel
theorem r43_5 {X : sm_X} {w : sm_W} {Q : Option Value → sm_W → Prop} {x0 : Nat} {x1 : Int32} {s0 : Int32} : sm_R X 43 5 [.ref x0, .int x1] [.int s0] w Q ↔ sm_R X 43 6 [.ref x0, .int x1] [.ref x0, .int s0] w Q := sm_R_go d43_5 rfl
theorem d43_6 : decode (sm_code 43) 6 = .ok (.getfield 18, 3) := by decide +kernel
theorem r43_6 {X : sm_X} {w : sm_W} {Q : Option Value → sm_W → Prop} {x0 : Nat} {x1 : Int32} {s0 : Nat} {s1 : Int32} : sm_R X 43 6 [.ref x0, .int x1] [.ref s0, .int s1] w Q ↔ sm_wp (sm_fld 1 1 (sm_at w s0)) (fun v => sm_R X 43 9 [.ref x0, .int x1] [v, .int s1] w Q) := sm_q_getf d43_6 rfl (by decide)
theorem d43_9 : decode (sm_code 43) 9 = .ok (.if_icmp .ge 19, 3) := by decide +kernel
theorem r43_9 {X : sm_X} {w : sm_W} {Q : Option Value → sm_W → Prop} {x0 : Nat} {x1 : Int32} {s0 : Int32} {s1 : Int32} : sm_R X 43 9 [.ref x0, .int x1] [.int s0, .int s1] w Q ↔ (if s0 ≤ s1 then sm_R X 43 28 [.ref x0, .int x1] [] w Q else sm_R X 43 12 [.ref x0, .int x1] [] w Q) := sm_q_br d43_9 rfl
theorem d43_12 : decode (sm_code 43) 12 = .ok (.aload_n 0, 1) := by decide +kernel
theorem r43_12 {X : sm_X} {w : sm_W} {Q : Option Value → sm_W → Prop} {x0 : Nat} {x1 : Int32} : sm_R X 43 12 [.ref x0, .int x1] [] w Q ↔ sm_R X 43 13 [.ref x0, .int x1] [.ref x0] w Q := sm_R_go d43_12 rfl
theorem d43_13 : decode (sm_code 43) 13 = .ok (.getfield 11, 3) := by decide +kernel
theorem r43_13 {X : sm_X} {w : sm_W} {Q : Option Value → sm_W → Prop} {x0 : Nat} {x1 : Int32} {s0 : Nat} : sm_R X 43 13 [.ref x0, .int x1] [.ref s0] w Q ↔ sm_wp (sm_fld 1 0 (sm_at w s0)) (fun v => sm_R X 43 16 [.ref x0, .int x1] [v] w Q) := sm_q_getf d43_13 rfl (by decide)
theorem d43_16 : decode (sm_code 43) 16 = .ok (.iload_n 1, 1) := by decide +kernel
theorem r43_16 {X : sm_X} {w : sm_W} {Q : Option Value → sm_W → Prop} {x0 : Nat} {x1 : Int32} {s0 : Nat} : sm_R X 43 16 [.ref x0, .int x1] [.ref s0] w Q ↔ sm_R X 43 17 [.ref x0, .int x1] [.int x1, .ref s0] w Q := sm_R_go d43_16 rfl
theorem d43_17 : decode (sm_code 43) 17 = .ok (.aaload, 1) := by decide +kernel
theorem r43_17 {X : sm_X} {w : sm_W} {Q : Option Value → sm_W → Prop} {x0 : Nat} {x1 : Int32} {s0 : Int32} {s1 : Nat} : sm_R X 43 17 [.ref x0, .int x1] [.int s0, .ref s1] w Q ↔ sm_wp (sm_aa s1 s0 (sm_get X w s1)) (fun v => sm_R X 43 18 [.ref x0, .int x1] [.ref v] w Q) := sm_q_aald d43_17
theorem d43_18 : decode (sm_code 43) 18 = .ok (.getfield 22, 3) := by decide +kernel
theorem r43_18 {X : sm_X} {w : sm_W} {Q : Option Value → sm_W → Prop} {x0 : Nat} {x1 : Int32} {s0 : Nat} : sm_R X 43 18 [.ref x0, .int x1] [.ref s0] w Q ↔ sm_wp (sm_fld 5 0 (sm_at w s0)) (fun v => sm_R X 43 21 [.ref x0, .int x1] [v] w Q) := sm_q_getf d43_18 rfl (by decide)
theorem d43_21 : decode (sm_code 43) 21 = .ok (.ifCond .ne 7, 3) := by decide +kernel
theorem r43_21 {X : sm_X} {w : sm_W} {Q : Option Value → sm_W → Prop} {x0 : Nat} {x1 : Int32} {s0 : Int32} : sm_R X 43 21 [.ref x0, .int x1] [.int s0] w Q ↔ (if s0 = 0 then sm_R X 43 24 [.ref x0, .int x1] [] w Q else sm_R X 43 28 [.ref x0, .int x1] [] w Q) := sm_q_br d43_21 rfl
theorem d43_24 : decode (sm_code 43) 24 = .ok (.iconst 1, 1) := by decide +kernel
theorem r43_24 {X : sm_X} {w : sm_W} {Q : Option Value → sm_W → Prop} {x0 : Nat} {x1 : Int32} : sm_R X 43 24 [.ref x0, .int x1] [] w Q ↔ sm_R X 43 25 [.ref x0, .int x1] [.int 1] w Q := sm_R_go d43_24 rfl
theorem d43_25 : decode (sm_code 43) 25 = .ok (.goto 4, 3) := by decide +kernel
theorem r43_25 {X : sm_X} {w : sm_W} {Q : Option Value → sm_W → Prop} {x0 : Nat} {x1 : Int32} {s0 : Int32} : sm_R X 43 25 [.ref x0, .int x1] [.int s0] w Q ↔ sm_R X 43 29 [.ref x0, .int x1] [.int s0] w Q := sm_R_go d43_25 rfl
theorem d43_28 : decode (sm_code 43) 28 = .ok (.iconst 0, 1) := by decide +kernel
theorem r43_28 {X : sm_X} {w : sm_W} {Q : Option Value → sm_W → Prop} {x0 : Nat} {x1 : Int32} : sm_R X 43 28 [.ref x0, .int x1] [] w Q ↔ sm_R X 43 29 [.ref x0, .int x1] [.int 0] w Q := sm_R_go d43_28 rfl
theorem d43_29 : decode (sm_code 43) 29 = .ok (.ireturn, 1) := by decide +kernel
theorem r43_29 {X : sm_X} {w : sm_W} {Q : Option Value → sm_W → Prop} {x0 : Nat} {x1 : Int32} {s0 : Int32} (h : s0 = 0 ∨ s0 = 1) : sm_R X 43 29 [.ref x0, .int x1] [.int s0] w Q ↔ Q (some (.int s0)) w := sm_q_zret d43_29 rfl h
-- GroupLedger$Machine.actTakingTwo(LGroupLedger$Op;I)I
theorem d44_0 : decode (sm_code 44) 0 = .ok (.aload_n 0, 1) := by decide +kernel
theorem r44_0 {X : sm_X} {w : sm_W} {Q : Option Value → sm_W → Prop} {x0 : Nat} {x1 : Nat} {x2 : Int32} : sm_R X 44 0 [.ref x0, .ref x1, .int x2, sm_J, sm_J, sm_J, sm_J] [] w Q ↔ sm_R X 44 1 [.ref x0, .ref x1, .int x2, sm_J, sm_J, sm_J, sm_J] [.ref x0] w Q := sm_R_go d44_0 rfl
theorem d44_1 : decode (sm_code 44) 1 = .ok (.getfield 12, 3) := by decide +kernel
theorem r44_1 {X : sm_X} {w : sm_W} {Q : Option Value → sm_W → Prop} {x0 : Nat} {x1 : Nat} {x2 : Int32} {s0 : Nat} : sm_R X 44 1 [.ref x0, .ref x1, .int x2, sm_J, sm_J, sm_J, sm_J] [.ref s0] w Q ↔ sm_wp (sm_fld 2 2 (sm_at w s0)) (fun v => sm_R X 44 4 [.ref x0, .ref x1, .int x2, sm_J, sm_J, sm_J, sm_J] [v] w Q) := sm_q_getf d44_1 rfl (by decide)
theorem d44_4 : decode (sm_code 44) 4 = .ok (.invokevirtual 145, 3) := by decide +kernel
theorem r44_4 {X : sm_X} {w : sm_W} {Q : Option Value → sm_W → Prop} {x0 : Nat} {x1 : Nat} {x2 : Int32} {s0 : Nat} : sm_R X 44 4 [.ref x0, .ref x1, .int x2, sm_J, sm_J, sm_J, sm_J] [.ref s0] w Q ↔ (sm_cN (sm_at w s0) = some 4 ∧ sm_R X 38 0 [.ref s0] [] w (fun v w => sm_R X 44 7 [.ref x0, .ref x1, .int x2, sm_J, sm_J, sm_J, sm_J] (v.toList ++ []) w Q)) := sm_q_vir (k := 38) (as := [.ref s0]) (rest := []) d44_4 rfl rfl rfl rfl rfl
theorem d44_7 : decode (sm_code 44) 7 = .ok (.istore_n 3, 1) := by decide +kernel
theorem r44_7 {X : sm_X} {w : sm_W} {Q : Option Value → sm_W → Prop} {x0 : Nat} {x1 : Nat} {x2 : Int32} {s0 : Int32} : sm_R X 44 7 [.ref x0, .ref x1, .int x2, sm_J, sm_J, sm_J, sm_J] [.int s0] w Q ↔ sm_R X 44 8 [.ref x0, .ref x1, .int x2, .int s0, sm_J, sm_J, sm_J] [] w Q := sm_R_go d44_7 rfl
theorem d44_8 : decode (sm_code 44) 8 = .ok (.aload_n 0, 1) := by decide +kernel
theorem r44_8 {X : sm_X} {w : sm_W} {Q : Option Value → sm_W → Prop} {x0 : Nat} {x1 : Nat} {x2 : Int32} {x3 : Int32} : sm_R X 44 8 [.ref x0, .ref x1, .int x2, .int x3, sm_J, sm_J, sm_J] [] w Q ↔ sm_R X 44 9 [.ref x0, .ref x1, .int x2, .int x3, sm_J, sm_J, sm_J] [.ref x0] w Q := sm_R_go d44_8 rfl
theorem d44_9 : decode (sm_code 44) 9 = .ok (.getfield 12, 3) := by decide +kernel
theorem r44_9 {X : sm_X} {w : sm_W} {Q : Option Value → sm_W → Prop} {x0 : Nat} {x1 : Nat} {x2 : Int32} {x3 : Int32} {s0 : Nat} : sm_R X 44 9 [.ref x0, .ref x1, .int x2, .int x3, sm_J, sm_J, sm_J] [.ref s0] w Q ↔ sm_wp (sm_fld 2 2 (sm_at w s0)) (fun v => sm_R X 44 12 [.ref x0, .ref x1, .int x2, .int x3, sm_J, sm_J, sm_J] [v] w Q) := sm_q_getf d44_9 rfl (by decide)
theorem d44_12 : decode (sm_code 44) 12 = .ok (.invokevirtual 148, 3) := by decide +kernel
theorem r44_12 {X : sm_X} {w : sm_W} {Q : Option Value → sm_W → Prop} {x0 : Nat} {x1 : Nat} {x2 : Int32} {x3 : Int32} {s0 : Nat} : sm_R X 44 12 [.ref x0, .ref x1, .int x2, .int x3, sm_J, sm_J, sm_J] [.ref s0] w Q ↔ (sm_cN (sm_at w s0) = some 4 ∧ sm_R X 39 0 [.ref s0] [] w (fun v w => sm_R X 44 15 [.ref x0, .ref x1, .int x2, .int x3, sm_J, sm_J, sm_J] (v.toList ++ []) w Q)) := sm_q_vir (k := 39) (as := [.ref s0]) (rest := []) d44_12 rfl rfl rfl rfl rfl
theorem d44_15 : decode (sm_code 44) 15 = .ok (.istore 4, 2) := by decide +kernel
theorem r44_15 {X : sm_X} {w : sm_W} {Q : Option Value → sm_W → Prop} {x0 : Nat} {x1 : Nat} {x2 : Int32} {x3 : Int32} {s0 : Int32} : sm_R X 44 15 [.ref x0, .ref x1, .int x2, .int x3, sm_J, sm_J, sm_J] [.int s0] w Q ↔ sm_R X 44 17 [.ref x0, .ref x1, .int x2, .int x3, .int s0, sm_J, sm_J] [] w Q := sm_R_go d44_15 rfl
theorem d44_17 : decode (sm_code 44) 17 = .ok (.aload_n 0, 1) := by decide +kernel
theorem r44_17 {X : sm_X} {w : sm_W} {Q : Option Value → sm_W → Prop} {x0 : Nat} {x1 : Nat} {x2 : Int32} {x3 : Int32} {x4 : Int32} : sm_R X 44 17 [.ref x0, .ref x1, .int x2, .int x3, .int x4, sm_J, sm_J] [] w Q ↔ sm_R X 44 18 [.ref x0, .ref x1, .int x2, .int x3, .int x4, sm_J, sm_J] [.ref x0] w Q := sm_R_go d44_17 rfl
theorem d44_18 : decode (sm_code 44) 18 = .ok (.getfield 12, 3) := by decide +kernel
theorem r44_18 {X : sm_X} {w : sm_W} {Q : Option Value → sm_W → Prop} {x0 : Nat} {x1 : Nat} {x2 : Int32} {x3 : Int32} {x4 : Int32} {s0 : Nat} : sm_R X 44 18 [.ref x0, .ref x1, .int x2, .int x3, .int x4, sm_J, sm_J] [.ref s0] w Q ↔ sm_wp (sm_fld 2 2 (sm_at w s0)) (fun v => sm_R X 44 21 [.ref x0, .ref x1, .int x2, .int x3, .int x4, sm_J, sm_J] [v] w Q) := sm_q_getf d44_18 rfl (by decide)
theorem d44_21 : decode (sm_code 44) 21 = .ok (.invokevirtual 145, 3) := by decide +kernel
theorem r44_21 {X : sm_X} {w : sm_W} {Q : Option Value → sm_W → Prop} {x0 : Nat} {x1 : Nat} {x2 : Int32} {x3 : Int32} {x4 : Int32} {s0 : Nat} : sm_R X 44 21 [.ref x0, .ref x1, .int x2, .int x3, .int x4, sm_J, sm_J] [.ref s0] w Q ↔ (sm_cN (sm_at w s0) = some 4 ∧ sm_R X 38 0 [.ref s0] [] w (fun v w => sm_R X 44 24 [.ref x0, .ref x1, .int x2, .int x3, .int x4, sm_J, sm_J] (v.toList ++ []) w Q)) := sm_q_vir (k := 38) (as := [.ref s0]) (rest := []) d44_21 rfl rfl rfl rfl rfl
theorem d44_24 : decode (sm_code 44) 24 = .ok (.istore 5, 2) := by decide +kernel
theorem r44_24 {X : sm_X} {w : sm_W} {Q : Option Value → sm_W → Prop} {x0 : Nat} {x1 : Nat} {x2 : Int32} {x3 : Int32} {x4 : Int32} {s0 : Int32} : sm_R X 44 24 [.ref x0, .ref x1, .int x2, .int x3, .int x4, sm_J, sm_J] [.int s0] w Q ↔ sm_R X 44 26 [.ref x0, .ref x1, .int x2, .int x3, .int x4, .int s0, sm_J] [] w Q := sm_R_go d44_24 rfl
theorem d44_26 : decode (sm_code 44) 26 = .ok (.aload_n 0, 1) := by decide +kernel
theorem r44_26 {X : sm_X} {w : sm_W} {Q : Option Value → sm_W → Prop} {x0 : Nat} {x1 : Nat} {x2 : Int32} {x3 : Int32} {x4 : Int32} {x5 : Int32} : sm_R X 44 26 [.ref x0, .ref x1, .int x2, .int x3, .int x4, .int x5, sm_J] [] w Q ↔ sm_R X 44 27 [.ref x0, .ref x1, .int x2, .int x3, .int x4, .int x5, sm_J] [.ref x0] w Q := sm_R_go d44_26 rfl
theorem d44_27 : decode (sm_code 44) 27 = .ok (.getfield 12, 3) := by decide +kernel
theorem r44_27 {X : sm_X} {w : sm_W} {Q : Option Value → sm_W → Prop} {x0 : Nat} {x1 : Nat} {x2 : Int32} {x3 : Int32} {x4 : Int32} {x5 : Int32} {s0 : Nat} : sm_R X 44 27 [.ref x0, .ref x1, .int x2, .int x3, .int x4, .int x5, sm_J] [.ref s0] w Q ↔ sm_wp (sm_fld 2 2 (sm_at w s0)) (fun v => sm_R X 44 30 [.ref x0, .ref x1, .int x2, .int x3, .int x4, .int x5, sm_J] [v] w Q) := sm_q_getf d44_27 rfl (by decide)
theorem d44_30 : decode (sm_code 44) 30 = .ok (.invokevirtual 148, 3) := by decide +kernel
theorem r44_30 {X : sm_X} {w : sm_W} {Q : Option Value → sm_W → Prop} {x0 : Nat} {x1 : Nat} {x2 : Int32} {x3 : Int32} {x4 : Int32} {x5 : Int32} {s0 : Nat} : sm_R X 44 30 [.ref x0, .ref x1, .int x2, .int x3, .int x4, .int x5, sm_J] [.ref s0] w Q ↔ (sm_cN (sm_at w s0) = some 4 ∧ sm_R X 39 0 [.ref s0] [] w (fun v w => sm_R X 44 33 [.ref x0, .ref x1, .int x2, .int x3, .int x4, .int x5, sm_J] (v.toList ++ []) w Q)) := sm_q_vir (k := 39) (as := [.ref s0]) (rest := []) d44_30 rfl rfl rfl rfl rfl
theorem d44_33 : decode (sm_code 44) 33 = .ok (.istore 6, 2) := by decide +kernel
theorem r44_33 {X : sm_X} {w : sm_W} {Q : Option Value → sm_W → Prop} {x0 : Nat} {x1 : Nat} {x2 : Int32} {x3 : Int32} {x4 : Int32} {x5 : Int32} {s0 : Int32} : sm_R X 44 33 [.ref x0, .ref x1, .int x2, .int x3, .int x4, .int x5, sm_J] [.int s0] w Q ↔ sm_R X 44 35 [.ref x0, .ref x1, .int x2, .int x3, .int x4, .int x5, .int s0] [] w Q := sm_R_go d44_33 rfl
theorem d44_35 : decode (sm_code 44) 35 = .ok (.getstatic 111, 3) := by decide +kernel
theorem r44_35 {X : sm_X} {w : sm_W} {Q : Option Value → sm_W → Prop} {x0 : Nat} {x1 : Nat} {x2 : Int32} {x3 : Int32} {x4 : Int32} {x5 : Int32} {x6 : Int32} : sm_R X 44 35 [.ref x0, .ref x1, .int x2, .int x3, .int x4, .int x5, .int x6] [] w Q ↔ sm_R X 44 38 [.ref x0, .ref x1, .int x2, .int x3, .int x4, .int x5, .int x6] [.ref 97] w Q := sm_R_go d44_35 rfl
theorem d44_38 : decode (sm_code 44) 38 = .ok (.aload_n 1, 1) := by decide +kernel
theorem r44_38 {X : sm_X} {w : sm_W} {Q : Option Value → sm_W → Prop} {x0 : Nat} {x1 : Nat} {x2 : Int32} {x3 : Int32} {x4 : Int32} {x5 : Int32} {x6 : Int32} {s0 : Nat} : sm_R X 44 38 [.ref x0, .ref x1, .int x2, .int x3, .int x4, .int x5, .int x6] [.ref s0] w Q ↔ sm_R X 44 39 [.ref x0, .ref x1, .int x2, .int x3, .int x4, .int x5, .int x6] [.ref x1, .ref s0] w Q := sm_R_go d44_38 rfl
theorem d44_39 : decode (sm_code 44) 39 = .ok (.invokevirtual 116, 3) := by decide +kernel
theorem r44_39 {X : sm_X} {w : sm_W} {Q : Option Value → sm_W → Prop} {x0 : Nat} {x1 : Nat} {x2 : Int32} {x3 : Int32} {x4 : Int32} {x5 : Int32} {x6 : Int32} {s0 : Nat} {s1 : Nat} (h : s0 < 31) : sm_R X 44 39 [.ref x0, .ref x1, .int x2, .int x3, .int x4, .int x5, .int x6] [.ref s0, .ref s1] w Q ↔ sm_R X 35 0 [.ref s0] [] w (fun v w => sm_R X 44 42 [.ref x0, .ref x1, .int x2, .int x3, .int x4, .int x5, .int x6] (v.toList ++ [.ref s1]) w Q) := sm_q_virE (k := 35) (as := [.ref s0]) (rest := [.ref s1]) d44_39 rfl rfl rfl h rfl rfl
theorem d44_42 : decode (sm_code 44) 42 = .ok (.iaload, 1) := by decide +kernel
theorem r44_42 {X : sm_X} {w : sm_W} {Q : Option Value → sm_W → Prop} {x0 : Nat} {x1 : Nat} {x2 : Int32} {x3 : Int32} {x4 : Int32} {x5 : Int32} {x6 : Int32} {s0 : Int32} {s1 : Nat} : sm_R X 44 42 [.ref x0, .ref x1, .int x2, .int x3, .int x4, .int x5, .int x6] [.int s0, .ref s1] w Q ↔ sm_wp (sm_ai s0 (sm_get X w s1)) (fun v => sm_R X 44 43 [.ref x0, .ref x1, .int x2, .int x3, .int x4, .int x5, .int x6] [.int v] w Q) := sm_q_iald d44_42
theorem d44_43 : decode (sm_code 44) 43 = .ok (.tableswitch 110 22 25 #[29, 50, 77, 100], 29) := by decide +kernel
theorem r44_43 {X : sm_X} {w : sm_W} {Q : Option Value → sm_W → Prop} {x0 : Nat} {x1 : Nat} {x2 : Int32} {x3 : Int32} {x4 : Int32} {x5 : Int32} {x6 : Int32} {s0 : Int32} : sm_R X 44 43 [.ref x0, .ref x1, .int x2, .int x3, .int x4, .int x5, .int x6] [.int s0] w Q ↔ sm_R X 44 (sm_sw s0.toInt 22 [72, 93, 120, 143] 153) [.ref x0, .ref x1, .int x2, .int x3, .int x4, .int x5, .int x6] [] w Q := sm_q_tab d44_43 rfl rfl rfl rfl
theorem d44_72 : decode (sm_code 44) 72 = .ok (.aload_n 0, 1) := by decide +kernel
theorem r44_72 {X : sm_X} {w : sm_W} {Q : Option Value → sm_W → Prop} {x0 : Nat} {x1 : Nat} {x2 : Int32} {x3 : Int32} {x4 : Int32} {x5 : Int32} {x6 : Int32} : sm_R X 44 72 [.ref x0, .ref x1, .int x2, .int x3, .int x4, .int x5, .int x6] [] w Q ↔ sm_R X 44 73 [.ref x0, .ref x1, .int x2, .int x3, .int x4, .int x5, .int x6] [.ref x0] w Q := sm_R_go d44_72 rfl
theorem d44_73 : decode (sm_code 44) 73 = .ok (.getfield 12, 3) := by decide +kernel
theorem r44_73 {X : sm_X} {w : sm_W} {Q : Option Value → sm_W → Prop} {x0 : Nat} {x1 : Nat} {x2 : Int32} {x3 : Int32} {x4 : Int32} {x5 : Int32} {x6 : Int32} {s0 : Nat} : sm_R X 44 73 [.ref x0, .ref x1, .int x2, .int x3, .int x4, .int x5, .int x6] [.ref s0] w Q ↔ sm_wp (sm_fld 2 2 (sm_at w s0)) (fun v => sm_R X 44 76 [.ref x0, .ref x1, .int x2, .int x3, .int x4, .int x5, .int x6] [v] w Q) := sm_q_getf d44_73 rfl (by decide)
theorem d44_76 : decode (sm_code 44) 76 = .ok (.iconst 1, 1) := by decide +kernel
theorem r44_76 {X : sm_X} {w : sm_W} {Q : Option Value → sm_W → Prop} {x0 : Nat} {x1 : Nat} {x2 : Int32} {x3 : Int32} {x4 : Int32} {x5 : Int32} {x6 : Int32} {s0 : Nat} : sm_R X 44 76 [.ref x0, .ref x1, .int x2, .int x3, .int x4, .int x5, .int x6] [.ref s0] w Q ↔ sm_R X 44 77 [.ref x0, .ref x1, .int x2, .int x3, .int x4, .int x5, .int x6] [.int 1, .ref s0] w Q := sm_R_go d44_76 rfl
theorem d44_77 : decode (sm_code 44) 77 = .ok (.iload 6, 2) := by decide +kernel
theorem r44_77 {X : sm_X} {w : sm_W} {Q : Option Value → sm_W → Prop} {x0 : Nat} {x1 : Nat} {x2 : Int32} {x3 : Int32} {x4 : Int32} {x5 : Int32} {x6 : Int32} {s0 : Int32} {s1 : Nat} : sm_R X 44 77 [.ref x0, .ref x1, .int x2, .int x3, .int x4, .int x5, .int x6] [.int s0, .ref s1] w Q ↔ sm_R X 44 79 [.ref x0, .ref x1, .int x2, .int x3, .int x4, .int x5, .int x6] [.int x6, .int s0, .ref s1] w Q := sm_R_go d44_77 rfl
theorem d44_79 : decode (sm_code 44) 79 = .ok (.iload 4, 2) := by decide +kernel
theorem r44_79 {X : sm_X} {w : sm_W} {Q : Option Value → sm_W → Prop} {x0 : Nat} {x1 : Nat} {x2 : Int32} {x3 : Int32} {x4 : Int32} {x5 : Int32} {x6 : Int32} {s0 : Int32} {s1 : Int32} {s2 : Nat} : sm_R X 44 79 [.ref x0, .ref x1, .int x2, .int x3, .int x4, .int x5, .int x6] [.int s0, .int s1, .ref s2] w Q ↔ sm_R X 44 81 [.ref x0, .ref x1, .int x2, .int x3, .int x4, .int x5, .int x6] [.int x4, .int s0, .int s1, .ref s2] w Q := sm_R_go d44_79 rfl
theorem d44_81 : decode (sm_code 44) 81 = .ok (.if_icmp .ge 7, 3) := by decide +kernel
theorem r44_81 {X : sm_X} {w : sm_W} {Q : Option Value → sm_W → Prop} {x0 : Nat} {x1 : Nat} {x2 : Int32} {x3 : Int32} {x4 : Int32} {x5 : Int32} {x6 : Int32} {s0 : Int32} {s1 : Int32} {s2 : Int32} {s3 : Nat} : sm_R X 44 81 [.ref x0, .ref x1, .int x2, .int x3, .int x4, .int x5, .int x6] [.int s0, .int s1, .int s2, .ref s3] w Q ↔ (if s0 ≤ s1 then sm_R X 44 88 [.ref x0, .ref x1, .int x2, .int x3, .int x4, .int x5, .int x6] [.int s2, .ref s3] w Q else sm_R X 44 84 [.ref x0, .ref x1, .int x2, .int x3, .int x4, .int x5, .int x6] [.int s2, .ref s3] w Q) := sm_q_br d44_81 rfl
theorem d44_84 : decode (sm_code 44) 84 = .ok (.iconst 1, 1) := by decide +kernel
theorem r44_84 {X : sm_X} {w : sm_W} {Q : Option Value → sm_W → Prop} {x0 : Nat} {x1 : Nat} {x2 : Int32} {x3 : Int32} {x4 : Int32} {x5 : Int32} {x6 : Int32} {s0 : Int32} {s1 : Nat} : sm_R X 44 84 [.ref x0, .ref x1, .int x2, .int x3, .int x4, .int x5, .int x6] [.int s0, .ref s1] w Q ↔ sm_R X 44 85 [.ref x0, .ref x1, .int x2, .int x3, .int x4, .int x5, .int x6] [.int 1, .int s0, .ref s1] w Q := sm_R_go d44_84 rfl
theorem d44_85 : decode (sm_code 44) 85 = .ok (.goto 4, 3) := by decide +kernel
theorem r44_85 {X : sm_X} {w : sm_W} {Q : Option Value → sm_W → Prop} {x0 : Nat} {x1 : Nat} {x2 : Int32} {x3 : Int32} {x4 : Int32} {x5 : Int32} {x6 : Int32} {s0 : Int32} {s1 : Int32} {s2 : Nat} : sm_R X 44 85 [.ref x0, .ref x1, .int x2, .int x3, .int x4, .int x5, .int x6] [.int s0, .int s1, .ref s2] w Q ↔ sm_R X 44 89 [.ref x0, .ref x1, .int x2, .int x3, .int x4, .int x5, .int x6] [.int s0, .int s1, .ref s2] w Q := sm_R_go d44_85 rfl
theorem d44_88 : decode (sm_code 44) 88 = .ok (.iconst 0, 1) := by decide +kernel
theorem r44_88 {X : sm_X} {w : sm_W} {Q : Option Value → sm_W → Prop} {x0 : Nat} {x1 : Nat} {x2 : Int32} {x3 : Int32} {x4 : Int32} {x5 : Int32} {x6 : Int32} {s0 : Int32} {s1 : Nat} : sm_R X 44 88 [.ref x0, .ref x1, .int x2, .int x3, .int x4, .int x5, .int x6] [.int s0, .ref s1] w Q ↔ sm_R X 44 89 [.ref x0, .ref x1, .int x2, .int x3, .int x4, .int x5, .int x6] [.int 0, .int s0, .ref s1] w Q := sm_R_go d44_88 rfl
theorem d44_89 : decode (sm_code 44) 89 = .ok (.invokevirtual 119, 3) := by decide +kernel
theorem r44_89 {X : sm_X} {w : sm_W} {Q : Option Value → sm_W → Prop} {x0 : Nat} {x1 : Nat} {x2 : Int32} {x3 : Int32} {x4 : Int32} {x5 : Int32} {x6 : Int32} {s0 : Int32} {s1 : Int32} {s2 : Nat} : sm_R X 44 89 [.ref x0, .ref x1, .int x2, .int x3, .int x4, .int x5, .int x6] [.int s0, .int s1, .ref s2] w Q ↔ (sm_cN (sm_at w s2) = some 4 ∧ sm_R X 36 0 [.ref s2, .int s1, .int s0] [] w (fun v w => sm_R X 44 92 [.ref x0, .ref x1, .int x2, .int x3, .int x4, .int x5, .int x6] (v.toList ++ []) w Q)) := sm_q_vir (k := 36) (as := [.ref s2, .int s1, .int s0]) (rest := []) d44_89 rfl rfl rfl rfl rfl
theorem d44_92 : decode (sm_code 44) 92 = .ok (.ireturn, 1) := by decide +kernel
theorem r44_92 {X : sm_X} {w : sm_W} {Q : Option Value → sm_W → Prop} {x0 : Nat} {x1 : Nat} {x2 : Int32} {x3 : Int32} {x4 : Int32} {x5 : Int32} {x6 : Int32} {s0 : Int32} : sm_R X 44 92 [.ref x0, .ref x1, .int x2, .int x3, .int x4, .int x5, .int x6] [.int s0] w Q ↔ Q (some (.int s0)) w := sm_q_iret d44_92 rfl
theorem d44_93 : decode (sm_code 44) 93 = .ok (.aload_n 0, 1) := by decide +kernel
theorem r44_93 {X : sm_X} {w : sm_W} {Q : Option Value → sm_W → Prop} {x0 : Nat} {x1 : Nat} {x2 : Int32} {x3 : Int32} {x4 : Int32} {x5 : Int32} {x6 : Int32} : sm_R X 44 93 [.ref x0, .ref x1, .int x2, .int x3, .int x4, .int x5, .int x6] [] w Q ↔ sm_R X 44 94 [.ref x0, .ref x1, .int x2, .int x3, .int x4, .int x5, .int x6] [.ref x0] w Q := sm_R_go d44_93 rfl
theorem d44_94 : decode (sm_code 44) 94 = .ok (.getfield 12, 3) := by decide +kernel
theorem r44_94 {X : sm_X} {w : sm_W} {Q : Option Value → sm_W → Prop} {x0 : Nat} {x1 : Nat} {x2 : Int32} {x3 : Int32} {x4 : Int32} {x5 : Int32} {x6 : Int32} {s0 : Nat} : sm_R X 44 94 [.ref x0, .ref x1, .int x2, .int x3, .int x4, .int x5, .int x6] [.ref s0] w Q ↔ sm_wp (sm_fld 2 2 (sm_at w s0)) (fun v => sm_R X 44 97 [.ref x0, .ref x1, .int x2, .int x3, .int x4, .int x5, .int x6] [v] w Q) := sm_q_getf d44_94 rfl (by decide)
theorem d44_97 : decode (sm_code 44) 97 = .ok (.iconst 1, 1) := by decide +kernel
theorem r44_97 {X : sm_X} {w : sm_W} {Q : Option Value → sm_W → Prop} {x0 : Nat} {x1 : Nat} {x2 : Int32} {x3 : Int32} {x4 : Int32} {x5 : Int32} {x6 : Int32} {s0 : Nat} : sm_R X 44 97 [.ref x0, .ref x1, .int x2, .int x3, .int x4, .int x5, .int x6] [.ref s0] w Q ↔ sm_R X 44 98 [.ref x0, .ref x1, .int x2, .int x3, .int x4, .int x5, .int x6] [.int 1, .ref s0] w Q := sm_R_go d44_97 rfl
theorem d44_98 : decode (sm_code 44) 98 = .ok (.iload 5, 2) := by decide +kernel
theorem r44_98 {X : sm_X} {w : sm_W} {Q : Option Value → sm_W → Prop} {x0 : Nat} {x1 : Nat} {x2 : Int32} {x3 : Int32} {x4 : Int32} {x5 : Int32} {x6 : Int32} {s0 : Int32} {s1 : Nat} : sm_R X 44 98 [.ref x0, .ref x1, .int x2, .int x3, .int x4, .int x5, .int x6] [.int s0, .ref s1] w Q ↔ sm_R X 44 100 [.ref x0, .ref x1, .int x2, .int x3, .int x4, .int x5, .int x6] [.int x5, .int s0, .ref s1] w Q := sm_R_go d44_98 rfl
theorem d44_100 : decode (sm_code 44) 100 = .ok (.iload_n 3, 1) := by decide +kernel
theorem r44_100 {X : sm_X} {w : sm_W} {Q : Option Value → sm_W → Prop} {x0 : Nat} {x1 : Nat} {x2 : Int32} {x3 : Int32} {x4 : Int32} {x5 : Int32} {x6 : Int32} {s0 : Int32} {s1 : Int32} {s2 : Nat} : sm_R X 44 100 [.ref x0, .ref x1, .int x2, .int x3, .int x4, .int x5, .int x6] [.int s0, .int s1, .ref s2] w Q ↔ sm_R X 44 101 [.ref x0, .ref x1, .int x2, .int x3, .int x4, .int x5, .int x6] [.int x3, .int s0, .int s1, .ref s2] w Q := sm_R_go d44_100 rfl
theorem d44_101 : decode (sm_code 44) 101 = .ok (.if_icmp .ne 14, 3) := by decide +kernel
theorem r44_101 {X : sm_X} {w : sm_W} {Q : Option Value → sm_W → Prop} {x0 : Nat} {x1 : Nat} {x2 : Int32} {x3 : Int32} {x4 : Int32} {x5 : Int32} {x6 : Int32} {s0 : Int32} {s1 : Int32} {s2 : Int32} {s3 : Nat} : sm_R X 44 101 [.ref x0, .ref x1, .int x2, .int x3, .int x4, .int x5, .int x6] [.int s0, .int s1, .int s2, .ref s3] w Q ↔ (if s1 = s0 then sm_R X 44 104 [.ref x0, .ref x1, .int x2, .int x3, .int x4, .int x5, .int x6] [.int s2, .ref s3] w Q else sm_R X 44 115 [.ref x0, .ref x1, .int x2, .int x3, .int x4, .int x5, .int x6] [.int s2, .ref s3] w Q) := sm_q_br d44_101 rfl
theorem d44_104 : decode (sm_code 44) 104 = .ok (.iload 6, 2) := by decide +kernel
theorem r44_104 {X : sm_X} {w : sm_W} {Q : Option Value → sm_W → Prop} {x0 : Nat} {x1 : Nat} {x2 : Int32} {x3 : Int32} {x4 : Int32} {x5 : Int32} {x6 : Int32} {s0 : Int32} {s1 : Nat} : sm_R X 44 104 [.ref x0, .ref x1, .int x2, .int x3, .int x4, .int x5, .int x6] [.int s0, .ref s1] w Q ↔ sm_R X 44 106 [.ref x0, .ref x1, .int x2, .int x3, .int x4, .int x5, .int x6] [.int x6, .int s0, .ref s1] w Q := sm_R_go d44_104 rfl
theorem d44_106 : decode (sm_code 44) 106 = .ok (.iload 4, 2) := by decide +kernel
theorem r44_106 {X : sm_X} {w : sm_W} {Q : Option Value → sm_W → Prop} {x0 : Nat} {x1 : Nat} {x2 : Int32} {x3 : Int32} {x4 : Int32} {x5 : Int32} {x6 : Int32} {s0 : Int32} {s1 : Int32} {s2 : Nat} : sm_R X 44 106 [.ref x0, .ref x1, .int x2, .int x3, .int x4, .int x5, .int x6] [.int s0, .int s1, .ref s2] w Q ↔ sm_R X 44 108 [.ref x0, .ref x1, .int x2, .int x3, .int x4, .int x5, .int x6] [.int x4, .int s0, .int s1, .ref s2] w Q := sm_R_go d44_106 rfl
theorem d44_108 : decode (sm_code 44) 108 = .ok (.if_icmp .ne 7, 3) := by decide +kernel
theorem r44_108 {X : sm_X} {w : sm_W} {Q : Option Value → sm_W → Prop} {x0 : Nat} {x1 : Nat} {x2 : Int32} {x3 : Int32} {x4 : Int32} {x5 : Int32} {x6 : Int32} {s0 : Int32} {s1 : Int32} {s2 : Int32} {s3 : Nat} : sm_R X 44 108 [.ref x0, .ref x1, .int x2, .int x3, .int x4, .int x5, .int x6] [.int s0, .int s1, .int s2, .ref s3] w Q ↔ (if s1 = s0 then sm_R X 44 111 [.ref x0, .ref x1, .int x2, .int x3, .int x4, .int x5, .int x6] [.int s2, .ref s3] w Q else sm_R X 44 115 [.ref x0, .ref x1, .int x2, .int x3, .int x4, .int x5, .int x6] [.int s2, .ref s3] w Q) := sm_q_br d44_108 rfl
theorem d44_111 : decode (sm_code 44) 111 = .ok (.iconst 1, 1) := by decide +kernel
theorem r44_111 {X : sm_X} {w : sm_W} {Q : Option Value → sm_W → Prop} {x0 : Nat} {x1 : Nat} {x2 : Int32} {x3 : Int32} {x4 : Int32} {x5 : Int32} {x6 : Int32} {s0 : Int32} {s1 : Nat} : sm_R X 44 111 [.ref x0, .ref x1, .int x2, .int x3, .int x4, .int x5, .int x6] [.int s0, .ref s1] w Q ↔ sm_R X 44 112 [.ref x0, .ref x1, .int x2, .int x3, .int x4, .int x5, .int x6] [.int 1, .int s0, .ref s1] w Q := sm_R_go d44_111 rfl
theorem d44_112 : decode (sm_code 44) 112 = .ok (.goto 4, 3) := by decide +kernel
theorem r44_112 {X : sm_X} {w : sm_W} {Q : Option Value → sm_W → Prop} {x0 : Nat} {x1 : Nat} {x2 : Int32} {x3 : Int32} {x4 : Int32} {x5 : Int32} {x6 : Int32} {s0 : Int32} {s1 : Int32} {s2 : Nat} : sm_R X 44 112 [.ref x0, .ref x1, .int x2, .int x3, .int x4, .int x5, .int x6] [.int s0, .int s1, .ref s2] w Q ↔ sm_R X 44 116 [.ref x0, .ref x1, .int x2, .int x3, .int x4, .int x5, .int x6] [.int s0, .int s1, .ref s2] w Q := sm_R_go d44_112 rfl
theorem d44_115 : decode (sm_code 44) 115 = .ok (.iconst 0, 1) := by decide +kernel
theorem r44_115 {X : sm_X} {w : sm_W} {Q : Option Value → sm_W → Prop} {x0 : Nat} {x1 : Nat} {x2 : Int32} {x3 : Int32} {x4 : Int32} {x5 : Int32} {x6 : Int32} {s0 : Int32} {s1 : Nat} : sm_R X 44 115 [.ref x0, .ref x1, .int x2, .int x3, .int x4, .int x5, .int x6] [.int s0, .ref s1] w Q ↔ sm_R X 44 116 [.ref x0, .ref x1, .int x2, .int x3, .int x4, .int x5, .int x6] [.int 0, .int s0, .ref s1] w Q := sm_R_go d44_115 rfl
theorem d44_116 : decode (sm_code 44) 116 = .ok (.invokevirtual 119, 3) := by decide +kernel
theorem r44_116 {X : sm_X} {w : sm_W} {Q : Option Value → sm_W → Prop} {x0 : Nat} {x1 : Nat} {x2 : Int32} {x3 : Int32} {x4 : Int32} {x5 : Int32} {x6 : Int32} {s0 : Int32} {s1 : Int32} {s2 : Nat} : sm_R X 44 116 [.ref x0, .ref x1, .int x2, .int x3, .int x4, .int x5, .int x6] [.int s0, .int s1, .ref s2] w Q ↔ (sm_cN (sm_at w s2) = some 4 ∧ sm_R X 36 0 [.ref s2, .int s1, .int s0] [] w (fun v w => sm_R X 44 119 [.ref x0, .ref x1, .int x2, .int x3, .int x4, .int x5, .int x6] (v.toList ++ []) w Q)) := sm_q_vir (k := 36) (as := [.ref s2, .int s1, .int s0]) (rest := []) d44_116 rfl rfl rfl rfl rfl
theorem d44_119 : decode (sm_code 44) 119 = .ok (.ireturn, 1) := by decide +kernel
theorem r44_119 {X : sm_X} {w : sm_W} {Q : Option Value → sm_W → Prop} {x0 : Nat} {x1 : Nat} {x2 : Int32} {x3 : Int32} {x4 : Int32} {x5 : Int32} {x6 : Int32} {s0 : Int32} : sm_R X 44 119 [.ref x0, .ref x1, .int x2, .int x3, .int x4, .int x5, .int x6] [.int s0] w Q ↔ Q (some (.int s0)) w := sm_q_iret d44_119 rfl
theorem d44_120 : decode (sm_code 44) 120 = .ok (.aload_n 0, 1) := by decide +kernel
theorem r44_120 {X : sm_X} {w : sm_W} {Q : Option Value → sm_W → Prop} {x0 : Nat} {x1 : Nat} {x2 : Int32} {x3 : Int32} {x4 : Int32} {x5 : Int32} {x6 : Int32} : sm_R X 44 120 [.ref x0, .ref x1, .int x2, .int x3, .int x4, .int x5, .int x6] [] w Q ↔ sm_R X 44 121 [.ref x0, .ref x1, .int x2, .int x3, .int x4, .int x5, .int x6] [.ref x0] w Q := sm_R_go d44_120 rfl
theorem d44_121 : decode (sm_code 44) 121 = .ok (.getfield 12, 3) := by decide +kernel
theorem r44_121 {X : sm_X} {w : sm_W} {Q : Option Value → sm_W → Prop} {x0 : Nat} {x1 : Nat} {x2 : Int32} {x3 : Int32} {x4 : Int32} {x5 : Int32} {x6 : Int32} {s0 : Nat} : sm_R X 44 121 [.ref x0, .ref x1, .int x2, .int x3, .int x4, .int x5, .int x6] [.ref s0] w Q ↔ sm_wp (sm_fld 2 2 (sm_at w s0)) (fun v => sm_R X 44 124 [.ref x0, .ref x1, .int x2, .int x3, .int x4, .int x5, .int x6] [v] w Q) := sm_q_getf d44_121 rfl (by decide)
theorem d44_124 : decode (sm_code 44) 124 = .ok (.iload_n 3, 1) := by decide +kernel
theorem r44_124 {X : sm_X} {w : sm_W} {Q : Option Value → sm_W → Prop} {x0 : Nat} {x1 : Nat} {x2 : Int32} {x3 : Int32} {x4 : Int32} {x5 : Int32} {x6 : Int32} {s0 : Nat} : sm_R X 44 124 [.ref x0, .ref x1, .int x2, .int x3, .int x4, .int x5, .int x6] [.ref s0] w Q ↔ sm_R X 44 125 [.ref x0, .ref x1, .int x2, .int x3, .int x4, .int x5, .int x6] [.int x3, .ref s0] w Q := sm_R_go d44_124 rfl
theorem d44_125 : decode (sm_code 44) 125 = .ok (.iload 4, 2) := by decide +kernel
theorem r44_125 {X : sm_X} {w : sm_W} {Q : Option Value → sm_W → Prop} {x0 : Nat} {x1 : Nat} {x2 : Int32} {x3 : Int32} {x4 : Int32} {x5 : Int32} {x6 : Int32} {s0 : Int32} {s1 : Nat} : sm_R X 44 125 [.ref x0, .ref x1, .int x2, .int x3, .int x4, .int x5, .int x6] [.int s0, .ref s1] w Q ↔ sm_R X 44 127 [.ref x0, .ref x1, .int x2, .int x3, .int x4, .int x5, .int x6] [.int x4, .int s0, .ref s1] w Q := sm_R_go d44_125 rfl
theorem d44_127 : decode (sm_code 44) 127 = .ok (.invokevirtual 119, 3) := by decide +kernel
theorem r44_127 {X : sm_X} {w : sm_W} {Q : Option Value → sm_W → Prop} {x0 : Nat} {x1 : Nat} {x2 : Int32} {x3 : Int32} {x4 : Int32} {x5 : Int32} {x6 : Int32} {s0 : Int32} {s1 : Int32} {s2 : Nat} : sm_R X 44 127 [.ref x0, .ref x1, .int x2, .int x3, .int x4, .int x5, .int x6] [.int s0, .int s1, .ref s2] w Q ↔ (sm_cN (sm_at w s2) = some 4 ∧ sm_R X 36 0 [.ref s2, .int s1, .int s0] [] w (fun v w => sm_R X 44 130 [.ref x0, .ref x1, .int x2, .int x3, .int x4, .int x5, .int x6] (v.toList ++ []) w Q)) := sm_q_vir (k := 36) (as := [.ref s2, .int s1, .int s0]) (rest := []) d44_127 rfl rfl rfl rfl rfl
theorem d44_130 : decode (sm_code 44) 130 = .ok (.pop, 1) := by decide +kernel
theorem r44_130 {X : sm_X} {w : sm_W} {Q : Option Value → sm_W → Prop} {x0 : Nat} {x1 : Nat} {x2 : Int32} {x3 : Int32} {x4 : Int32} {x5 : Int32} {x6 : Int32} {s0 : Int32} : sm_R X 44 130 [.ref x0, .ref x1, .int x2, .int x3, .int x4, .int x5, .int x6] [.int s0] w Q ↔ sm_R X 44 131 [.ref x0, .ref x1, .int x2, .int x3, .int x4, .int x5, .int x6] [] w Q := sm_R_go d44_130 rfl
theorem d44_131 : decode (sm_code 44) 131 = .ok (.aload_n 0, 1) := by decide +kernel
theorem r44_131 {X : sm_X} {w : sm_W} {Q : Option Value → sm_W → Prop} {x0 : Nat} {x1 : Nat} {x2 : Int32} {x3 : Int32} {x4 : Int32} {x5 : Int32} {x6 : Int32} : sm_R X 44 131 [.ref x0, .ref x1, .int x2, .int x3, .int x4, .int x5, .int x6] [] w Q ↔ sm_R X 44 132 [.ref x0, .ref x1, .int x2, .int x3, .int x4, .int x5, .int x6] [.ref x0] w Q := sm_R_go d44_131 rfl
theorem d44_132 : decode (sm_code 44) 132 = .ok (.getfield 12, 3) := by decide +kernel
theorem r44_132 {X : sm_X} {w : sm_W} {Q : Option Value → sm_W → Prop} {x0 : Nat} {x1 : Nat} {x2 : Int32} {x3 : Int32} {x4 : Int32} {x5 : Int32} {x6 : Int32} {s0 : Nat} : sm_R X 44 132 [.ref x0, .ref x1, .int x2, .int x3, .int x4, .int x5, .int x6] [.ref s0] w Q ↔ sm_wp (sm_fld 2 2 (sm_at w s0)) (fun v => sm_R X 44 135 [.ref x0, .ref x1, .int x2, .int x3, .int x4, .int x5, .int x6] [v] w Q) := sm_q_getf d44_132 rfl (by decide)
theorem d44_135 : decode (sm_code 44) 135 = .ok (.iload 5, 2) := by decide +kernel
theorem r44_135 {X : sm_X} {w : sm_W} {Q : Option Value → sm_W → Prop} {x0 : Nat} {x1 : Nat} {x2 : Int32} {x3 : Int32} {x4 : Int32} {x5 : Int32} {x6 : Int32} {s0 : Nat} : sm_R X 44 135 [.ref x0, .ref x1, .int x2, .int x3, .int x4, .int x5, .int x6] [.ref s0] w Q ↔ sm_R X 44 137 [.ref x0, .ref x1, .int x2, .int x3, .int x4, .int x5, .int x6] [.int x5, .ref s0] w Q := sm_R_go d44_135 rfl
theorem d44_137 : decode (sm_code 44) 137 = .ok (.iload 6, 2) := by decide +kernel
theorem r44_137 {X : sm_X} {w : sm_W} {Q : Option Value → sm_W → Prop} {x0 : Nat} {x1 : Nat} {x2 : Int32} {x3 : Int32} {x4 : Int32} {x5 : Int32} {x6 : Int32} {s0 : Int32} {s1 : Nat} : sm_R X 44 137 [.ref x0, .ref x1, .int x2, .int x3, .int x4, .int x5, .int x6] [.int s0, .ref s1] w Q ↔ sm_R X 44 139 [.ref x0, .ref x1, .int x2, .int x3, .int x4, .int x5, .int x6] [.int x6, .int s0, .ref s1] w Q := sm_R_go d44_137 rfl
theorem d44_139 : decode (sm_code 44) 139 = .ok (.invokevirtual 119, 3) := by decide +kernel
theorem r44_139 {X : sm_X} {w : sm_W} {Q : Option Value → sm_W → Prop} {x0 : Nat} {x1 : Nat} {x2 : Int32} {x3 : Int32} {x4 : Int32} {x5 : Int32} {x6 : Int32} {s0 : Int32} {s1 : Int32} {s2 : Nat} : sm_R X 44 139 [.ref x0, .ref x1, .int x2, .int x3, .int x4, .int x5, .int x6] [.int s0, .int s1, .ref s2] w Q ↔ (sm_cN (sm_at w s2) = some 4 ∧ sm_R X 36 0 [.ref s2, .int s1, .int s0] [] w (fun v w => sm_R X 44 142 [.ref x0, .ref x1, .int x2, .int x3, .int x4, .int x5, .int x6] (v.toList ++ []) w Q)) := sm_q_vir (k := 36) (as := [.ref s2, .int s1, .int s0]) (rest := []) d44_139 rfl rfl rfl rfl rfl
theorem d44_142 : decode (sm_code 44) 142 = .ok (.ireturn, 1) := by decide +kernel
theorem r44_142 {X : sm_X} {w : sm_W} {Q : Option Value → sm_W → Prop} {x0 : Nat} {x1 : Nat} {x2 : Int32} {x3 : Int32} {x4 : Int32} {x5 : Int32} {x6 : Int32} {s0 : Int32} : sm_R X 44 142 [.ref x0, .ref x1, .int x2, .int x3, .int x4, .int x5, .int x6] [.int s0] w Q ↔ Q (some (.int s0)) w := sm_q_iret d44_142 rfl
theorem d44_143 : decode (sm_code 44) 143 = .ok (.aload_n 0, 1) := by decide +kernel
theorem r44_143 {X : sm_X} {w : sm_W} {Q : Option Value → sm_W → Prop} {x0 : Nat} {x1 : Nat} {x2 : Int32} {x3 : Int32} {x4 : Int32} {x5 : Int32} {x6 : Int32} : sm_R X 44 143 [.ref x0, .ref x1, .int x2, .int x3, .int x4, .int x5, .int x6] [] w Q ↔ sm_R X 44 144 [.ref x0, .ref x1, .int x2, .int x3, .int x4, .int x5, .int x6] [.ref x0] w Q := sm_R_go d44_143 rfl
theorem d44_144 : decode (sm_code 44) 144 = .ok (.iload 6, 2) := by decide +kernel
theorem r44_144 {X : sm_X} {w : sm_W} {Q : Option Value → sm_W → Prop} {x0 : Nat} {x1 : Nat} {x2 : Int32} {x3 : Int32} {x4 : Int32} {x5 : Int32} {x6 : Int32} {s0 : Nat} : sm_R X 44 144 [.ref x0, .ref x1, .int x2, .int x3, .int x4, .int x5, .int x6] [.ref s0] w Q ↔ sm_R X 44 146 [.ref x0, .ref x1, .int x2, .int x3, .int x4, .int x5, .int x6] [.int x6, .ref s0] w Q := sm_R_go d44_144 rfl
theorem d44_146 : decode (sm_code 44) 146 = .ok (.iload_n 2, 1) := by decide +kernel
theorem r44_146 {X : sm_X} {w : sm_W} {Q : Option Value → sm_W → Prop} {x0 : Nat} {x1 : Nat} {x2 : Int32} {x3 : Int32} {x4 : Int32} {x5 : Int32} {x6 : Int32} {s0 : Int32} {s1 : Nat} : sm_R X 44 146 [.ref x0, .ref x1, .int x2, .int x3, .int x4, .int x5, .int x6] [.int s0, .ref s1] w Q ↔ sm_R X 44 147 [.ref x0, .ref x1, .int x2, .int x3, .int x4, .int x5, .int x6] [.int x2, .int s0, .ref s1] w Q := sm_R_go d44_146 rfl
theorem d44_147 : decode (sm_code 44) 147 = .ok (.iload 4, 2) := by decide +kernel
theorem r44_147 {X : sm_X} {w : sm_W} {Q : Option Value → sm_W → Prop} {x0 : Nat} {x1 : Nat} {x2 : Int32} {x3 : Int32} {x4 : Int32} {x5 : Int32} {x6 : Int32} {s0 : Int32} {s1 : Int32} {s2 : Nat} : sm_R X 44 147 [.ref x0, .ref x1, .int x2, .int x3, .int x4, .int x5, .int x6] [.int s0, .int s1, .ref s2] w Q ↔ sm_R X 44 149 [.ref x0, .ref x1, .int x2, .int x3, .int x4, .int x5, .int x6] [.int x4, .int s0, .int s1, .ref s2] w Q := sm_R_go d44_147 rfl
theorem d44_149 : decode (sm_code 44) 149 = .ok (.invokevirtual 182, 3) := by decide +kernel
theorem r44_149 {X : sm_X} {w : sm_W} {Q : Option Value → sm_W → Prop} {x0 : Nat} {x1 : Nat} {x2 : Int32} {x3 : Int32} {x4 : Int32} {x5 : Int32} {x6 : Int32} {s0 : Int32} {s1 : Int32} {s2 : Int32} {s3 : Nat} : sm_R X 44 149 [.ref x0, .ref x1, .int x2, .int x3, .int x4, .int x5, .int x6] [.int s0, .int s1, .int s2, .ref s3] w Q ↔ (sm_cN (sm_at w s3) = some 2 ∧ sm_R X 45 0 [.ref s3, .int s2, .int s1, .int s0] [] w (fun v w => sm_R X 44 152 [.ref x0, .ref x1, .int x2, .int x3, .int x4, .int x5, .int x6] (v.toList ++ []) w Q)) := sm_q_vir (k := 45) (as := [.ref s3, .int s2, .int s1, .int s0]) (rest := []) d44_149 rfl rfl rfl rfl rfl
theorem d44_152 : decode (sm_code 44) 152 = .ok (.ireturn, 1) := by decide +kernel
theorem r44_152 {X : sm_X} {w : sm_W} {Q : Option Value → sm_W → Prop} {x0 : Nat} {x1 : Nat} {x2 : Int32} {x3 : Int32} {x4 : Int32} {x5 : Int32} {x6 : Int32} {s0 : Int32} : sm_R X 44 152 [.ref x0, .ref x1, .int x2, .int x3, .int x4, .int x5, .int x6] [.int s0] w Q ↔ Q (some (.int s0)) w := sm_q_iret d44_152 rfl
theorem d44_153 : decode (sm_code 44) 153 = .ok (.aload_n 0, 1) := by decide +kernel
theorem r44_153 {X : sm_X} {w : sm_W} {Q : Option Value → sm_W → Prop} {x0 : Nat} {x1 : Nat} {x2 : Int32} {x3 : Int32} {x4 : Int32} {x5 : Int32} {x6 : Int32} : sm_R X 44 153 [.ref x0, .ref x1, .int x2, .int x3, .int x4, .int x5, .int x6] [] w Q ↔ sm_R X 44 154 [.ref x0, .ref x1, .int x2, .int x3, .int x4, .int x5, .int x6] [.ref x0] w Q := sm_R_go d44_153 rfl
theorem d44_154 : decode (sm_code 44) 154 = .ok (.aload_n 1, 1) := by decide +kernel
theorem r44_154 {X : sm_X} {w : sm_W} {Q : Option Value → sm_W → Prop} {x0 : Nat} {x1 : Nat} {x2 : Int32} {x3 : Int32} {x4 : Int32} {x5 : Int32} {x6 : Int32} {s0 : Nat} : sm_R X 44 154 [.ref x0, .ref x1, .int x2, .int x3, .int x4, .int x5, .int x6] [.ref s0] w Q ↔ sm_R X 44 155 [.ref x0, .ref x1, .int x2, .int x3, .int x4, .int x5, .int x6] [.ref x1, .ref s0] w Q := sm_R_go d44_154 rfl
theorem d44_155 : decode (sm_code 44) 155 = .ok (.iload 6, 2) := by decide +kernel
theorem r44_155 {X : sm_X} {w : sm_W} {Q : Option Value → sm_W → Prop} {x0 : Nat} {x1 : Nat} {x2 : Int32} {x3 : Int32} {x4 : Int32} {x5 : Int32} {x6 : Int32} {s0 : Nat} {s1 : Nat} : sm_R X 44 155 [.ref x0, .ref x1, .int x2, .int x3, .int x4, .int x5, .int x6] [.ref s0, .ref s1] w Q ↔ sm_R X 44 157 [.ref x0, .ref x1, .int x2, .int x3, .int x4, .int x5, .int x6] [.int x6, .ref s0, .ref s1] w Q := sm_R_go d44_155 rfl
theorem d44_157 : decode (sm_code 44) 157 = .ok (.i2l, 1) := by decide +kernel
theorem r44_157 {X : sm_X} {w : sm_W} {Q : Option Value → sm_W → Prop} {x0 : Nat} {x1 : Nat} {x2 : Int32} {x3 : Int32} {x4 : Int32} {x5 : Int32} {x6 : Int32} {s0 : Int32} {s1 : Nat} {s2 : Nat} : sm_R X 44 157 [.ref x0, .ref x1, .int x2, .int x3, .int x4, .int x5, .int x6] [.int s0, .ref s1, .ref s2] w Q ↔ sm_R X 44 158 [.ref x0, .ref x1, .int x2, .int x3, .int x4, .int x5, .int x6] [.long s0.toInt64, .ref s1, .ref s2] w Q := sm_R_go d44_157 rfl
theorem d44_158 : decode (sm_code 44) 158 = .ok (.iload 4, 2) := by decide +kernel
theorem r44_158 {X : sm_X} {w : sm_W} {Q : Option Value → sm_W → Prop} {x0 : Nat} {x1 : Nat} {x2 : Int32} {x3 : Int32} {x4 : Int32} {x5 : Int32} {x6 : Int32} {s0 : Int64} {s1 : Nat} {s2 : Nat} : sm_R X 44 158 [.ref x0, .ref x1, .int x2, .int x3, .int x4, .int x5, .int x6] [.long s0, .ref s1, .ref s2] w Q ↔ sm_R X 44 160 [.ref x0, .ref x1, .int x2, .int x3, .int x4, .int x5, .int x6] [.int x4, .long s0, .ref s1, .ref s2] w Q := sm_R_go d44_158 rfl
theorem d44_160 : decode (sm_code 44) 160 = .ok (.i2l, 1) := by decide +kernel
theorem r44_160 {X : sm_X} {w : sm_W} {Q : Option Value → sm_W → Prop} {x0 : Nat} {x1 : Nat} {x2 : Int32} {x3 : Int32} {x4 : Int32} {x5 : Int32} {x6 : Int32} {s0 : Int32} {s1 : Int64} {s2 : Nat} {s3 : Nat} : sm_R X 44 160 [.ref x0, .ref x1, .int x2, .int x3, .int x4, .int x5, .int x6] [.int s0, .long s1, .ref s2, .ref s3] w Q ↔ sm_R X 44 161 [.ref x0, .ref x1, .int x2, .int x3, .int x4, .int x5, .int x6] [.long s0.toInt64, .long s1, .ref s2, .ref s3] w Q := sm_R_go d44_160 rfl
theorem d44_161 : decode (sm_code 44) 161 = .ok (.invokevirtual 186, 3) := by decide +kernel
theorem r44_161 {X : sm_X} {w : sm_W} {Q : Option Value → sm_W → Prop} {x0 : Nat} {x1 : Nat} {x2 : Int32} {x3 : Int32} {x4 : Int32} {x5 : Int32} {x6 : Int32} {s0 : Int64} {s1 : Int64} {s2 : Nat} {s3 : Nat} : sm_R X 44 161 [.ref x0, .ref x1, .int x2, .int x3, .int x4, .int x5, .int x6] [.long s0, .long s1, .ref s2, .ref s3] w Q ↔ (sm_cN (sm_at w s3) = some 2 ∧ sm_R X 46 0 [.ref s3, .ref s2, .long s1, sm_J, .long s0, sm_J, sm_J, sm_J, sm_J] [] w (fun v w => sm_R X 44 164 [.ref x0, .ref x1, .int x2, .int x3, .int x4, .int x5, .int x6] (v.toList ++ []) w Q)) := sm_q_vir (k := 46) (as := [.ref s3, .ref s2, .long s1, .long s0]) (rest := []) d44_161 rfl rfl rfl rfl rfl
theorem d44_164 : decode (sm_code 44) 164 = .ok (.ireturn, 1) := by decide +kernel
theorem r44_164 {X : sm_X} {w : sm_W} {Q : Option Value → sm_W → Prop} {x0 : Nat} {x1 : Nat} {x2 : Int32} {x3 : Int32} {x4 : Int32} {x5 : Int32} {x6 : Int32} {s0 : Int32} : sm_R X 44 164 [.ref x0, .ref x1, .int x2, .int x3, .int x4, .int x5, .int x6] [.int s0] w Q ↔ Q (some (.int s0)) w := sm_q_iret d44_164 rfl
-- GroupLedger$Machine.putLocal(III)I
theorem d45_0 : decode (sm_code 45) 0 = .ok (.aload_n 0, 1) := by decide +kernel
theorem r45_0 {X : sm_X} {w : sm_W} {Q : Option Value → sm_W → Prop} {x0 : Nat} {x1 : Int32} {x2 : Int32} {x3 : Int32} : sm_R X 45 0 [.ref x0, .int x1, .int x2, .int x3] [] w Q ↔ sm_R X 45 1 [.ref x0, .int x1, .int x2, .int x3] [.ref x0] w Q := sm_R_go d45_0 rfl
theorem d45_1 : decode (sm_code 45) 1 = .ok (.getfield 22, 3) := by decide +kernel
theorem r45_1 {X : sm_X} {w : sm_W} {Q : Option Value → sm_W → Prop} {x0 : Nat} {x1 : Int32} {x2 : Int32} {x3 : Int32} {s0 : Nat} : sm_R X 45 1 [.ref x0, .int x1, .int x2, .int x3] [.ref s0] w Q ↔ sm_wp (sm_fld 2 0 (sm_at w s0)) (fun v => sm_R X 45 4 [.ref x0, .int x1, .int x2, .int x3] [v] w Q) := sm_q_getf d45_1 rfl (by decide)
theorem d45_4 : decode (sm_code 45) 4 = .ok (.aload_n 0, 1) := by decide +kernel
theorem r45_4 {X : sm_X} {w : sm_W} {Q : Option Value → sm_W → Prop} {x0 : Nat} {x1 : Int32} {x2 : Int32} {x3 : Int32} {s0 : Nat} : sm_R X 45 4 [.ref x0, .int x1, .int x2, .int x3] [.ref s0] w Q ↔ sm_R X 45 5 [.ref x0, .int x1, .int x2, .int x3] [.ref x0, .ref s0] w Q := sm_R_go d45_4 rfl
theorem d45_5 : decode (sm_code 45) 5 = .ok (.getfield 36, 3) := by decide +kernel
theorem r45_5 {X : sm_X} {w : sm_W} {Q : Option Value → sm_W → Prop} {x0 : Nat} {x1 : Int32} {x2 : Int32} {x3 : Int32} {s0 : Nat} {s1 : Nat} : sm_R X 45 5 [.ref x0, .int x1, .int x2, .int x3] [.ref s0, .ref s1] w Q ↔ sm_wp (sm_fld 2 7 (sm_at w s0)) (fun v => sm_R X 45 8 [.ref x0, .int x1, .int x2, .int x3] [v, .ref s1] w Q) := sm_q_getf d45_5 rfl (by decide)
theorem d45_8 : decode (sm_code 45) 8 = .ok (.getfield 139, 3) := by decide +kernel
theorem r45_8 {X : sm_X} {w : sm_W} {Q : Option Value → sm_W → Prop} {x0 : Nat} {x1 : Int32} {x2 : Int32} {x3 : Int32} {s0 : Nat} {s1 : Nat} : sm_R X 45 8 [.ref x0, .int x1, .int x2, .int x3] [.ref s0, .ref s1] w Q ↔ sm_wp (sm_fld 5 4 (sm_at w s0)) (fun v => sm_R X 45 11 [.ref x0, .int x1, .int x2, .int x3] [v, .ref s1] w Q) := sm_q_getf d45_8 rfl (by decide)
theorem d45_11 : decode (sm_code 45) 11 = .ok (.iload_n 1, 1) := by decide +kernel
theorem r45_11 {X : sm_X} {w : sm_W} {Q : Option Value → sm_W → Prop} {x0 : Nat} {x1 : Int32} {x2 : Int32} {x3 : Int32} {s0 : Int32} {s1 : Nat} : sm_R X 45 11 [.ref x0, .int x1, .int x2, .int x3] [.int s0, .ref s1] w Q ↔ sm_R X 45 12 [.ref x0, .int x1, .int x2, .int x3] [.int x1, .int s0, .ref s1] w Q := sm_R_go d45_11 rfl
theorem d45_12 : decode (sm_code 45) 12 = .ok (.invokevirtual 172, 3) := by decide +kernel
theorem r45_12 {X : sm_X} {w : sm_W} {Q : Option Value → sm_W → Prop} {x0 : Nat} {x1 : Int32} {x2 : Int32} {x3 : Int32} {s0 : Int32} {s1 : Int32} {s2 : Nat} : sm_R X 45 12 [.ref x0, .int x1, .int x2, .int x3] [.int s0, .int s1, .ref s2] w Q ↔ (sm_cN (sm_at w s2) = some 0 ∧ sm_R X 27 0 [.ref s2, .int s1, .int s0] [] w (fun v w => sm_R X 45 15 [.ref x0, .int x1, .int x2, .int x3] (v.toList ++ []) w Q)) := sm_q_vir (k := 27) (as := [.ref s2, .int s1, .int s0]) (rest := []) d45_12 rfl rfl rfl rfl rfl
theorem d45_15 : decode (sm_code 45) 15 = .ok (.ifCond .ne 5, 3) := by decide +kernel
theorem r45_15 {X : sm_X} {w : sm_W} {Q : Option Value → sm_W → Prop} {x0 : Nat} {x1 : Int32} {x2 : Int32} {x3 : Int32} {s0 : Int32} : sm_R X 45 15 [.ref x0, .int x1, .int x2, .int x3] [.int s0] w Q ↔ (if s0 = 0 then sm_R X 45 18 [.ref x0, .int x1, .int x2, .int x3] [] w Q else sm_R X 45 20 [.ref x0, .int x1, .int x2, .int x3] [] w Q) := sm_q_br d45_15 rfl
theorem d45_18 : decode (sm_code 45) 18 = .ok (.iconst 3, 1) := by decide +kernel
theorem r45_18 {X : sm_X} {w : sm_W} {Q : Option Value → sm_W → Prop} {x0 : Nat} {x1 : Int32} {x2 : Int32} {x3 : Int32} : sm_R X 45 18 [.ref x0, .int x1, .int x2, .int x3] [] w Q ↔ sm_R X 45 19 [.ref x0, .int x1, .int x2, .int x3] [.int 3] w Q := sm_R_go d45_18 rfl
theorem d45_19 : decode (sm_code 45) 19 = .ok (.ireturn, 1) := by decide +kernel
theorem r45_19 {X : sm_X} {w : sm_W} {Q : Option Value → sm_W → Prop} {x0 : Nat} {x1 : Int32} {x2 : Int32} {x3 : Int32} {s0 : Int32} : sm_R X 45 19 [.ref x0, .int x1, .int x2, .int x3] [.int s0] w Q ↔ Q (some (.int s0)) w := sm_q_iret d45_19 rfl
theorem d45_20 : decode (sm_code 45) 20 = .ok (.aload_n 0, 1) := by decide +kernel
theorem r45_20 {X : sm_X} {w : sm_W} {Q : Option Value → sm_W → Prop} {x0 : Nat} {x1 : Int32} {x2 : Int32} {x3 : Int32} : sm_R X 45 20 [.ref x0, .int x1, .int x2, .int x3] [] w Q ↔ sm_R X 45 21 [.ref x0, .int x1, .int x2, .int x3] [.ref x0] w Q := sm_R_go d45_20 rfl
theorem d45_21 : decode (sm_code 45) 21 = .ok (.getfield 22, 3) := by decide +kernel
theorem r45_21 {X : sm_X} {w : sm_W} {Q : Option Value → sm_W → Prop} {x0 : Nat} {x1 : Int32} {x2 : Int32} {x3 : Int32} {s0 : Nat} : sm_R X 45 21 [.ref x0, .int x1, .int x2, .int x3] [.ref s0] w Q ↔ sm_wp (sm_fld 2 0 (sm_at w s0)) (fun v => sm_R X 45 24 [.ref x0, .int x1, .int x2, .int x3] [v] w Q) := sm_q_getf d45_21 rfl (by decide)
theorem d45_24 : decode (sm_code 45) 24 = .ok (.getfield 176, 3) := by decide +kernel
theorem r45_24 {X : sm_X} {w : sm_W} {Q : Option Value → sm_W → Prop} {x0 : Nat} {x1 : Int32} {x2 : Int32} {x3 : Int32} {s0 : Nat} : sm_R X 45 24 [.ref x0, .int x1, .int x2, .int x3] [.ref s0] w Q ↔ sm_wp (sm_fld 0 2 (sm_at w s0)) (fun v => sm_R X 45 27 [.ref x0, .int x1, .int x2, .int x3] [v] w Q) := sm_q_getf d45_24 rfl (by decide)
theorem d45_27 : decode (sm_code 45) 27 = .ok (.aload_n 0, 1) := by decide +kernel
theorem r45_27 {X : sm_X} {w : sm_W} {Q : Option Value → sm_W → Prop} {x0 : Nat} {x1 : Int32} {x2 : Int32} {x3 : Int32} {s0 : Nat} : sm_R X 45 27 [.ref x0, .int x1, .int x2, .int x3] [.ref s0] w Q ↔ sm_R X 45 28 [.ref x0, .int x1, .int x2, .int x3] [.ref x0, .ref s0] w Q := sm_R_go d45_27 rfl
theorem d45_28 : decode (sm_code 45) 28 = .ok (.getfield 36, 3) := by decide +kernel
theorem r45_28 {X : sm_X} {w : sm_W} {Q : Option Value → sm_W → Prop} {x0 : Nat} {x1 : Int32} {x2 : Int32} {x3 : Int32} {s0 : Nat} {s1 : Nat} : sm_R X 45 28 [.ref x0, .int x1, .int x2, .int x3] [.ref s0, .ref s1] w Q ↔ sm_wp (sm_fld 2 7 (sm_at w s0)) (fun v => sm_R X 45 31 [.ref x0, .int x1, .int x2, .int x3] [v, .ref s1] w Q) := sm_q_getf d45_28 rfl (by decide)
theorem d45_31 : decode (sm_code 45) 31 = .ok (.getfield 139, 3) := by decide +kernel
theorem r45_31 {X : sm_X} {w : sm_W} {Q : Option Value → sm_W → Prop} {x0 : Nat} {x1 : Int32} {x2 : Int32} {x3 : Int32} {s0 : Nat} {s1 : Nat} : sm_R X 45 31 [.ref x0, .int x1, .int x2, .int x3] [.ref s0, .ref s1] w Q ↔ sm_wp (sm_fld 5 4 (sm_at w s0)) (fun v => sm_R X 45 34 [.ref x0, .int x1, .int x2, .int x3] [v, .ref s1] w Q) := sm_q_getf d45_31 rfl (by decide)
theorem d45_34 : decode (sm_code 45) 34 = .ok (.aaload, 1) := by decide +kernel
theorem r45_34 {X : sm_X} {w : sm_W} {Q : Option Value → sm_W → Prop} {x0 : Nat} {x1 : Int32} {x2 : Int32} {x3 : Int32} {s0 : Int32} {s1 : Nat} : sm_R X 45 34 [.ref x0, .int x1, .int x2, .int x3] [.int s0, .ref s1] w Q ↔ sm_wp (sm_aa s1 s0 (sm_get X w s1)) (fun v => sm_R X 45 35 [.ref x0, .int x1, .int x2, .int x3] [.ref v] w Q) := sm_q_aald d45_34
theorem d45_35 : decode (sm_code 45) 35 = .ok (.iload_n 1, 1) := by decide +kernel
theorem r45_35 {X : sm_X} {w : sm_W} {Q : Option Value → sm_W → Prop} {x0 : Nat} {x1 : Int32} {x2 : Int32} {x3 : Int32} {s0 : Nat} : sm_R X 45 35 [.ref x0, .int x1, .int x2, .int x3] [.ref s0] w Q ↔ sm_R X 45 36 [.ref x0, .int x1, .int x2, .int x3] [.int x1, .ref s0] w Q := sm_R_go d45_35 rfl
theorem d45_36 : decode (sm_code 45) 36 = .ok (.iconst 2, 1) := by decide +kernel
theorem r45_36 {X : sm_X} {w : sm_W} {Q : Option Value → sm_W → Prop} {x0 : Nat} {x1 : Int32} {x2 : Int32} {x3 : Int32} {s0 : Int32} {s1 : Nat} : sm_R X 45 36 [.ref x0, .int x1, .int x2, .int x3] [.int s0, .ref s1] w Q ↔ sm_R X 45 37 [.ref x0, .int x1, .int x2, .int x3] [.int 2, .int s0, .ref s1] w Q := sm_R_go d45_36 rfl
theorem d45_37 : decode (sm_code 45) 37 = .ok (.imul, 1) := by decide +kernel
theorem r45_37 {X : sm_X} {w : sm_W} {Q : Option Value → sm_W → Prop} {x0 : Nat} {x1 : Int32} {x2 : Int32} {x3 : Int32} {s0 : Int32} {s1 : Int32} {s2 : Nat} : sm_R X 45 37 [.ref x0, .int x1, .int x2, .int x3] [.int s0, .int s1, .ref s2] w Q ↔ sm_R X 45 38 [.ref x0, .int x1, .int x2, .int x3] [.int (s1 * s0), .ref s2] w Q := sm_R_go d45_37 rfl
theorem d45_38 : decode (sm_code 45) 38 = .ok (.iload_n 2, 1) := by decide +kernel
theorem r45_38 {X : sm_X} {w : sm_W} {Q : Option Value → sm_W → Prop} {x0 : Nat} {x1 : Int32} {x2 : Int32} {x3 : Int32} {s0 : Int32} {s1 : Nat} : sm_R X 45 38 [.ref x0, .int x1, .int x2, .int x3] [.int s0, .ref s1] w Q ↔ sm_R X 45 39 [.ref x0, .int x1, .int x2, .int x3] [.int x2, .int s0, .ref s1] w Q := sm_R_go d45_38 rfl
theorem d45_39 : decode (sm_code 45) 39 = .ok (.iadd, 1) := by decide +kernel
theorem r45_39 {X : sm_X} {w : sm_W} {Q : Option Value → sm_W → Prop} {x0 : Nat} {x1 : Int32} {x2 : Int32} {x3 : Int32} {s0 : Int32} {s1 : Int32} {s2 : Nat} : sm_R X 45 39 [.ref x0, .int x1, .int x2, .int x3] [.int s0, .int s1, .ref s2] w Q ↔ sm_R X 45 40 [.ref x0, .int x1, .int x2, .int x3] [.int (s1 + s0), .ref s2] w Q := sm_R_go d45_39 rfl
theorem d45_40 : decode (sm_code 45) 40 = .ok (.iload_n 3, 1) := by decide +kernel
theorem r45_40 {X : sm_X} {w : sm_W} {Q : Option Value → sm_W → Prop} {x0 : Nat} {x1 : Int32} {x2 : Int32} {x3 : Int32} {s0 : Int32} {s1 : Nat} : sm_R X 45 40 [.ref x0, .int x1, .int x2, .int x3] [.int s0, .ref s1] w Q ↔ sm_R X 45 41 [.ref x0, .int x1, .int x2, .int x3] [.int x3, .int s0, .ref s1] w Q := sm_R_go d45_40 rfl
theorem d45_41 : decode (sm_code 45) 41 = .ok (.iastore, 1) := by decide +kernel
theorem r45_41 {X : sm_X} {w : sm_W} {Q : Option Value → sm_W → Prop} {x0 : Nat} {x1 : Int32} {x2 : Int32} {x3 : Int32} {s0 : Int32} {s1 : Int32} {s2 : Nat} : sm_R X 45 41 [.ref x0, .int x1, .int x2, .int x3] [.int s0, .int s1, .ref s2] w Q ↔ sm_wp (sm_si s1 s0 (sm_at w s2)) (fun c => sm_R X 45 42 [.ref x0, .int x1, .int x2, .int x3] [] (w.set (s2 - 100) c) Q) := sm_q_iast d45_41
theorem d45_42 : decode (sm_code 45) 42 = .ok (.iconst 0, 1) := by decide +kernel
theorem r45_42 {X : sm_X} {w : sm_W} {Q : Option Value → sm_W → Prop} {x0 : Nat} {x1 : Int32} {x2 : Int32} {x3 : Int32} : sm_R X 45 42 [.ref x0, .int x1, .int x2, .int x3] [] w Q ↔ sm_R X 45 43 [.ref x0, .int x1, .int x2, .int x3] [.int 0] w Q := sm_R_go d45_42 rfl
theorem d45_43 : decode (sm_code 45) 43 = .ok (.ireturn, 1) := by decide +kernel
theorem r45_43 {X : sm_X} {w : sm_W} {Q : Option Value → sm_W → Prop} {x0 : Nat} {x1 : Int32} {x2 : Int32} {x3 : Int32} {s0 : Int32} : sm_R X 45 43 [.ref x0, .int x1, .int x2, .int x3] [.int s0] w Q ↔ Q (some (.int s0)) w := sm_q_iret d45_43 rfl
-- GroupLedger$Machine.reckon(LGroupLedger$Op;JJ)I
theorem d46_0 : decode (sm_code 46) 0 = .ok (.aload_n 1, 1) := by decide +kernel
theorem r46_0 {X : sm_X} {w : sm_W} {Q : Option Value → sm_W → Prop} {x0 : Nat} {x1 : Nat} {x2 : Int64} {x4 : Int64} : sm_R X 46 0 [.ref x0, .ref x1, .long x2, sm_J, .long x4, sm_J, sm_J, sm_J, sm_J] [] w Q ↔ sm_R X 46 1 [.ref x0, .ref x1, .long x2, sm_J, .long x4, sm_J, sm_J, sm_J, sm_J] [.ref x1] w Q := sm_R_go d46_0 rfl
theorem d46_1 : decode (sm_code 46) 1 = .ok (.getstatic 190, 3) := by decide +kernel
theorem r46_1 {X : sm_X} {w : sm_W} {Q : Option Value → sm_W → Prop} {x0 : Nat} {x1 : Nat} {x2 : Int64} {x4 : Int64} {s0 : Nat} : sm_R X 46 1 [.ref x0, .ref x1, .long x2, sm_J, .long x4, sm_J, sm_J, sm_J, sm_J] [.ref s0] w Q ↔ sm_R X 46 4 [.ref x0, .ref x1, .long x2, sm_J, .long x4, sm_J, sm_J, sm_J, sm_J] [.ref 11, .ref s0] w Q := sm_R_go d46_1 rfl
theorem d46_4 : decode (sm_code 46) 4 = .ok (.if_acmp .ne 12, 3) := by decide +kernel
theorem r46_4 {X : sm_X} {w : sm_W} {Q : Option Value → sm_W → Prop} {x0 : Nat} {x1 : Nat} {x2 : Int64} {x4 : Int64} {s0 : Nat} {s1 : Nat} (h : s0 < 31 ∧ s1 < 31) : sm_R X 46 4 [.ref x0, .ref x1, .long x2, sm_J, .long x4, sm_J, sm_J, sm_J, sm_J] [.ref s0, .ref s1] w Q ↔ (if s1 = s0 then sm_R X 46 7 [.ref x0, .ref x1, .long x2, sm_J, .long x4, sm_J, sm_J, sm_J, sm_J] [] w Q else sm_R X 46 16 [.ref x0, .ref x1, .long x2, sm_J, .long x4, sm_J, sm_J, sm_J, sm_J] [] w Q) := sm_q_acmp d46_4 rfl h
theorem d46_7 : decode (sm_code 46) 7 = .ok (.lload 4, 2) := by decide +kernel
theorem r46_7 {X : sm_X} {w : sm_W} {Q : Option Value → sm_W → Prop} {x0 : Nat} {x1 : Nat} {x2 : Int64} {x4 : Int64} : sm_R X 46 7 [.ref x0, .ref x1, .long x2, sm_J, .long x4, sm_J, sm_J, sm_J, sm_J] [] w Q ↔ sm_R X 46 9 [.ref x0, .ref x1, .long x2, sm_J, .long x4, sm_J, sm_J, sm_J, sm_J] [.long x4] w Q := sm_R_go d46_7 rfl
theorem d46_9 : decode (sm_code 46) 9 = .ok (.lconst 0, 1) := by decide +kernel
theorem r46_9 {X : sm_X} {w : sm_W} {Q : Option Value → sm_W → Prop} {x0 : Nat} {x1 : Nat} {x2 : Int64} {x4 : Int64} {s0 : Int64} : sm_R X 46 9 [.ref x0, .ref x1, .long x2, sm_J, .long x4, sm_J, sm_J, sm_J, sm_J] [.long s0] w Q ↔ sm_R X 46 10 [.ref x0, .ref x1, .long x2, sm_J, .long x4, sm_J, sm_J, sm_J, sm_J] [.long 0, .long s0] w Q := sm_R_go d46_9 rfl
theorem d46_10 : decode (sm_code 46) 10 = .ok (.lcmp, 1) := by decide +kernel
theorem r46_10 {X : sm_X} {w : sm_W} {Q : Option Value → sm_W → Prop} {x0 : Nat} {x1 : Nat} {x2 : Int64} {x4 : Int64} {s0 : Int64} {s1 : Int64} : sm_R X 46 10 [.ref x0, .ref x1, .long x2, sm_J, .long x4, sm_J, sm_J, sm_J, sm_J] [.long s0, .long s1] w Q ↔ sm_R X 46 11 [.ref x0, .ref x1, .long x2, sm_J, .long x4, sm_J, sm_J, sm_J, sm_J] [.int (lg_cmp s1 s0)] w Q := sm_R_go d46_10 rfl
theorem d46_11 : decode (sm_code 46) 11 = .ok (.ifCond .ne 5, 3) := by decide +kernel
theorem r46_11 {X : sm_X} {w : sm_W} {Q : Option Value → sm_W → Prop} {x0 : Nat} {x1 : Nat} {x2 : Int64} {x4 : Int64} {s0 : Int32} : sm_R X 46 11 [.ref x0, .ref x1, .long x2, sm_J, .long x4, sm_J, sm_J, sm_J, sm_J] [.int s0] w Q ↔ (if s0 = 0 then sm_R X 46 14 [.ref x0, .ref x1, .long x2, sm_J, .long x4, sm_J, sm_J, sm_J, sm_J] [] w Q else sm_R X 46 16 [.ref x0, .ref x1, .long x2, sm_J, .long x4, sm_J, sm_J, sm_J, sm_J] [] w Q) := sm_q_br d46_11 rfl
theorem d46_14 : decode (sm_code 46) 14 = .ok (.iconst 3, 1) := by decide +kernel
theorem r46_14 {X : sm_X} {w : sm_W} {Q : Option Value → sm_W → Prop} {x0 : Nat} {x1 : Nat} {x2 : Int64} {x4 : Int64} : sm_R X 46 14 [.ref x0, .ref x1, .long x2, sm_J, .long x4, sm_J, sm_J, sm_J, sm_J] [] w Q ↔ sm_R X 46 15 [.ref x0, .ref x1, .long x2, sm_J, .long x4, sm_J, sm_J, sm_J, sm_J] [.int 3] w Q := sm_R_go d46_14 rfl
theorem d46_15 : decode (sm_code 46) 15 = .ok (.ireturn, 1) := by decide +kernel
theorem r46_15 {X : sm_X} {w : sm_W} {Q : Option Value → sm_W → Prop} {x0 : Nat} {x1 : Nat} {x2 : Int64} {x4 : Int64} {s0 : Int32} : sm_R X 46 15 [.ref x0, .ref x1, .long x2, sm_J, .long x4, sm_J, sm_J, sm_J, sm_J] [.int s0] w Q ↔ Q (some (.int s0)) w := sm_q_iret d46_15 rfl
theorem d46_16 : decode (sm_code 46) 16 = .ok (.getstatic 111, 3) := by decide +kernel
theorem r46_16 {X : sm_X} {w : sm_W} {Q : Option Value → sm_W → Prop} {x0 : Nat} {x1 : Nat} {x2 : Int64} {x4 : Int64} : sm_R X 46 16 [.ref x0, .ref x1, .long x2, sm_J, .long x4, sm_J, sm_J, sm_J, sm_J] [] w Q ↔ sm_R X 46 19 [.ref x0, .ref x1, .long x2, sm_J, .long x4, sm_J, sm_J, sm_J, sm_J] [.ref 97] w Q := sm_R_go d46_16 rfl
theorem d46_19 : decode (sm_code 46) 19 = .ok (.aload_n 1, 1) := by decide +kernel
theorem r46_19 {X : sm_X} {w : sm_W} {Q : Option Value → sm_W → Prop} {x0 : Nat} {x1 : Nat} {x2 : Int64} {x4 : Int64} {s0 : Nat} : sm_R X 46 19 [.ref x0, .ref x1, .long x2, sm_J, .long x4, sm_J, sm_J, sm_J, sm_J] [.ref s0] w Q ↔ sm_R X 46 20 [.ref x0, .ref x1, .long x2, sm_J, .long x4, sm_J, sm_J, sm_J, sm_J] [.ref x1, .ref s0] w Q := sm_R_go d46_19 rfl
theorem d46_20 : decode (sm_code 46) 20 = .ok (.invokevirtual 116, 3) := by decide +kernel
theorem r46_20 {X : sm_X} {w : sm_W} {Q : Option Value → sm_W → Prop} {x0 : Nat} {x1 : Nat} {x2 : Int64} {x4 : Int64} {s0 : Nat} {s1 : Nat} (h : s0 < 31) : sm_R X 46 20 [.ref x0, .ref x1, .long x2, sm_J, .long x4, sm_J, sm_J, sm_J, sm_J] [.ref s0, .ref s1] w Q ↔ sm_R X 35 0 [.ref s0] [] w (fun v w => sm_R X 46 23 [.ref x0, .ref x1, .long x2, sm_J, .long x4, sm_J, sm_J, sm_J, sm_J] (v.toList ++ [.ref s1]) w Q) := sm_q_virE (k := 35) (as := [.ref s0]) (rest := [.ref s1]) d46_20 rfl rfl rfl h rfl rfl
theorem d46_23 : decode (sm_code 46) 23 = .ok (.iaload, 1) := by decide +kernel
theorem r46_23 {X : sm_X} {w : sm_W} {Q : Option Value → sm_W → Prop} {x0 : Nat} {x1 : Nat} {x2 : Int64} {x4 : Int64} {s0 : Int32} {s1 : Nat} : sm_R X 46 23 [.ref x0, .ref x1, .long x2, sm_J, .long x4, sm_J, sm_J, sm_J, sm_J] [.int s0, .ref s1] w Q ↔ sm_wp (sm_ai s0 (sm_get X w s1)) (fun v => sm_R X 46 24 [.ref x0, .ref x1, .long x2, sm_J, .long x4, sm_J, sm_J, sm_J, sm_J] [.int v] w Q) := sm_q_iald d46_23
theorem d46_24 : decode (sm_code 46) 24 = .ok (.tableswitch 55 26 28 #[28, 37, 46], 28) := by decide +kernel
theorem r46_24 {X : sm_X} {w : sm_W} {Q : Option Value → sm_W → Prop} {x0 : Nat} {x1 : Nat} {x2 : Int64} {x4 : Int64} {s0 : Int32} : sm_R X 46 24 [.ref x0, .ref x1, .long x2, sm_J, .long x4, sm_J, sm_J, sm_J, sm_J] [.int s0] w Q ↔ sm_R X 46 (sm_sw s0.toInt 26 [52, 61, 70] 79) [.ref x0, .ref x1, .long x2, sm_J, .long x4, sm_J, sm_J, sm_J, sm_J] [] w Q := sm_q_tab d46_24 rfl rfl rfl rfl
theorem d46_52 : decode (sm_code 46) 52 = .ok (.lload_n 2, 1) := by decide +kernel
theorem r46_52 {X : sm_X} {w : sm_W} {Q : Option Value → sm_W → Prop} {x0 : Nat} {x1 : Nat} {x2 : Int64} {x4 : Int64} : sm_R X 46 52 [.ref x0, .ref x1, .long x2, sm_J, .long x4, sm_J, sm_J, sm_J, sm_J] [] w Q ↔ sm_R X 46 53 [.ref x0, .ref x1, .long x2, sm_J, .long x4, sm_J, sm_J, sm_J, sm_J] [.long x2] w Q := sm_R_go d46_52 rfl
theorem d46_53 : decode (sm_code 46) 53 = .ok (.lload 4, 2) := by decide +kernel
theorem r46_53 {X : sm_X} {w : sm_W} {Q : Option Value → sm_W → Prop} {x0 : Nat} {x1 : Nat} {x2 : Int64} {x4 : Int64} {s0 : Int64} : sm_R X 46 53 [.ref x0, .ref x1, .long x2, sm_J, .long x4, sm_J, sm_J, sm_J, sm_J] [.long s0] w Q ↔ sm_R X 46 55 [.ref x0, .ref x1, .long x2, sm_J, .long x4, sm_J, sm_J, sm_J, sm_J] [.long x4, .long s0] w Q := sm_R_go d46_53 rfl
theorem d46_55 : decode (sm_code 46) 55 = .ok (.ladd, 1) := by decide +kernel
theorem r46_55 {X : sm_X} {w : sm_W} {Q : Option Value → sm_W → Prop} {x0 : Nat} {x1 : Nat} {x2 : Int64} {x4 : Int64} {s0 : Int64} {s1 : Int64} : sm_R X 46 55 [.ref x0, .ref x1, .long x2, sm_J, .long x4, sm_J, sm_J, sm_J, sm_J] [.long s0, .long s1] w Q ↔ sm_R X 46 56 [.ref x0, .ref x1, .long x2, sm_J, .long x4, sm_J, sm_J, sm_J, sm_J] [.long (s1 + s0)] w Q := sm_R_go d46_55 rfl
theorem d46_56 : decode (sm_code 46) 56 = .ok (.lstore 6, 2) := by decide +kernel
theorem r46_56 {X : sm_X} {w : sm_W} {Q : Option Value → sm_W → Prop} {x0 : Nat} {x1 : Nat} {x2 : Int64} {x4 : Int64} {s0 : Int64} : sm_R X 46 56 [.ref x0, .ref x1, .long x2, sm_J, .long x4, sm_J, sm_J, sm_J, sm_J] [.long s0] w Q ↔ sm_R X 46 58 [.ref x0, .ref x1, .long x2, sm_J, .long x4, sm_J, .long s0, sm_J, sm_J] [] w Q := sm_R_go d46_56 rfl
theorem d46_58 : decode (sm_code 46) 58 = .ok (.goto 27, 3) := by decide +kernel
theorem r46_58 {X : sm_X} {w : sm_W} {Q : Option Value → sm_W → Prop} {x0 : Nat} {x1 : Nat} {x2 : Int64} {x4 : Int64} {x6 : Int64} : sm_R X 46 58 [.ref x0, .ref x1, .long x2, sm_J, .long x4, sm_J, .long x6, sm_J, sm_J] [] w Q ↔ sm_R X 46 85 [.ref x0, .ref x1, .long x2, sm_J, .long x4, sm_J, .long x6, sm_J, sm_J] [] w Q := sm_R_go d46_58 rfl
theorem d46_61 : decode (sm_code 46) 61 = .ok (.lload_n 2, 1) := by decide +kernel
theorem r46_61 {X : sm_X} {w : sm_W} {Q : Option Value → sm_W → Prop} {x0 : Nat} {x1 : Nat} {x2 : Int64} {x4 : Int64} : sm_R X 46 61 [.ref x0, .ref x1, .long x2, sm_J, .long x4, sm_J, sm_J, sm_J, sm_J] [] w Q ↔ sm_R X 46 62 [.ref x0, .ref x1, .long x2, sm_J, .long x4, sm_J, sm_J, sm_J, sm_J] [.long x2] w Q := sm_R_go d46_61 rfl
theorem d46_62 : decode (sm_code 46) 62 = .ok (.lload 4, 2) := by decide +kernel
theorem r46_62 {X : sm_X} {w : sm_W} {Q : Option Value → sm_W → Prop} {x0 : Nat} {x1 : Nat} {x2 : Int64} {x4 : Int64} {s0 : Int64} : sm_R X 46 62 [.ref x0, .ref x1, .long x2, sm_J, .long x4, sm_J, sm_J, sm_J, sm_J] [.long s0] w Q ↔ sm_R X 46 64 [.ref x0, .ref x1, .long x2, sm_J, .long x4, sm_J, sm_J, sm_J, sm_J] [.long x4, .long s0] w Q := sm_R_go d46_62 rfl
theorem d46_64 : decode (sm_code 46) 64 = .ok (.lsub, 1) := by decide +kernel
theorem r46_64 {X : sm_X} {w : sm_W} {Q : Option Value → sm_W → Prop} {x0 : Nat} {x1 : Nat} {x2 : Int64} {x4 : Int64} {s0 : Int64} {s1 : Int64} : sm_R X 46 64 [.ref x0, .ref x1, .long x2, sm_J, .long x4, sm_J, sm_J, sm_J, sm_J] [.long s0, .long s1] w Q ↔ sm_R X 46 65 [.ref x0, .ref x1, .long x2, sm_J, .long x4, sm_J, sm_J, sm_J, sm_J] [.long (s1 - s0)] w Q := sm_R_go d46_64 rfl
theorem d46_65 : decode (sm_code 46) 65 = .ok (.lstore 6, 2) := by decide +kernel
theorem r46_65 {X : sm_X} {w : sm_W} {Q : Option Value → sm_W → Prop} {x0 : Nat} {x1 : Nat} {x2 : Int64} {x4 : Int64} {s0 : Int64} : sm_R X 46 65 [.ref x0, .ref x1, .long x2, sm_J, .long x4, sm_J, sm_J, sm_J, sm_J] [.long s0] w Q ↔ sm_R X 46 67 [.ref x0, .ref x1, .long x2, sm_J, .long x4, sm_J, .long s0, sm_J, sm_J] [] w Q := sm_R_go d46_65 rfl
theorem d46_67 : decode (sm_code 46) 67 = .ok (.goto 18, 3) := by decide +kernel
theorem r46_67 {X : sm_X} {w : sm_W} {Q : Option Value → sm_W → Prop} {x0 : Nat} {x1 : Nat} {x2 : Int64} {x4 : Int64} {x6 : Int64} : sm_R X 46 67 [.ref x0, .ref x1, .long x2, sm_J, .long x4, sm_J, .long x6, sm_J, sm_J] [] w Q ↔ sm_R X 46 85 [.ref x0, .ref x1, .long x2, sm_J, .long x4, sm_J, .long x6, sm_J, sm_J] [] w Q := sm_R_go d46_67 rfl
theorem d46_70 : decode (sm_code 46) 70 = .ok (.lload_n 2, 1) := by decide +kernel
theorem r46_70 {X : sm_X} {w : sm_W} {Q : Option Value → sm_W → Prop} {x0 : Nat} {x1 : Nat} {x2 : Int64} {x4 : Int64} : sm_R X 46 70 [.ref x0, .ref x1, .long x2, sm_J, .long x4, sm_J, sm_J, sm_J, sm_J] [] w Q ↔ sm_R X 46 71 [.ref x0, .ref x1, .long x2, sm_J, .long x4, sm_J, sm_J, sm_J, sm_J] [.long x2] w Q := sm_R_go d46_70 rfl
theorem d46_71 : decode (sm_code 46) 71 = .ok (.lload 4, 2) := by decide +kernel
theorem r46_71 {X : sm_X} {w : sm_W} {Q : Option Value → sm_W → Prop} {x0 : Nat} {x1 : Nat} {x2 : Int64} {x4 : Int64} {s0 : Int64} : sm_R X 46 71 [.ref x0, .ref x1, .long x2, sm_J, .long x4, sm_J, sm_J, sm_J, sm_J] [.long s0] w Q ↔ sm_R X 46 73 [.ref x0, .ref x1, .long x2, sm_J, .long x4, sm_J, sm_J, sm_J, sm_J] [.long x4, .long s0] w Q := sm_R_go d46_71 rfl
theorem d46_73 : decode (sm_code 46) 73 = .ok (.lmul, 1) := by decide +kernel
theorem r46_73 {X : sm_X} {w : sm_W} {Q : Option Value → sm_W → Prop} {x0 : Nat} {x1 : Nat} {x2 : Int64} {x4 : Int64} {s0 : Int64} {s1 : Int64} : sm_R X 46 73 [.ref x0, .ref x1, .long x2, sm_J, .long x4, sm_J, sm_J, sm_J, sm_J] [.long s0, .long s1] w Q ↔ sm_R X 46 74 [.ref x0, .ref x1, .long x2, sm_J, .long x4, sm_J, sm_J, sm_J, sm_J] [.long (s1 * s0)] w Q := sm_R_go d46_73 rfl
theorem d46_74 : decode (sm_code 46) 74 = .ok (.lstore 6, 2) := by decide +kernel
theorem r46_74 {X : sm_X} {w : sm_W} {Q : Option Value → sm_W → Prop} {x0 : Nat} {x1 : Nat} {x2 : Int64} {x4 : Int64} {s0 : Int64} : sm_R X 46 74 [.ref x0, .ref x1, .long x2, sm_J, .long x4, sm_J, sm_J, sm_J, sm_J] [.long s0] w Q ↔ sm_R X 46 76 [.ref x0, .ref x1, .long x2, sm_J, .long x4, sm_J, .long s0, sm_J, sm_J] [] w Q := sm_R_go d46_74 rfl
theorem d46_76 : decode (sm_code 46) 76 = .ok (.goto 9, 3) := by decide +kernel
theorem r46_76 {X : sm_X} {w : sm_W} {Q : Option Value → sm_W → Prop} {x0 : Nat} {x1 : Nat} {x2 : Int64} {x4 : Int64} {x6 : Int64} : sm_R X 46 76 [.ref x0, .ref x1, .long x2, sm_J, .long x4, sm_J, .long x6, sm_J, sm_J] [] w Q ↔ sm_R X 46 85 [.ref x0, .ref x1, .long x2, sm_J, .long x4, sm_J, .long x6, sm_J, sm_J] [] w Q := sm_R_go d46_76 rfl
theorem d46_79 : decode (sm_code 46) 79 = .ok (.lload_n 2, 1) := by decide +kernel
theorem r46_79 {X : sm_X} {w : sm_W} {Q : Option Value → sm_W → Prop} {x0 : Nat} {x1 : Nat} {x2 : Int64} {x4 : Int64} : sm_R X 46 79 [.ref x0, .ref x1, .long x2, sm_J, .long x4, sm_J, sm_J, sm_J, sm_J] [] w Q ↔ sm_R X 46 80 [.ref x0, .ref x1, .long x2, sm_J, .long x4, sm_J, sm_J, sm_J, sm_J] [.long x2] w Q := sm_R_go d46_79 rfl
theorem d46_80 : decode (sm_code 46) 80 = .ok (.lload 4, 2) := by decide +kernel
theorem r46_80 {X : sm_X} {w : sm_W} {Q : Option Value → sm_W → Prop} {x0 : Nat} {x1 : Nat} {x2 : Int64} {x4 : Int64} {s0 : Int64} : sm_R X 46 80 [.ref x0, .ref x1, .long x2, sm_J, .long x4, sm_J, sm_J, sm_J, sm_J] [.long s0] w Q ↔ sm_R X 46 82 [.ref x0, .ref x1, .long x2, sm_J, .long x4, sm_J, sm_J, sm_J, sm_J] [.long x4, .long s0] w Q := sm_R_go d46_80 rfl
theorem d46_82 : decode (sm_code 46) 82 = .ok (.ldiv, 1) := by decide +kernel
theorem r46_82 {X : sm_X} {w : sm_W} {Q : Option Value → sm_W → Prop} {x0 : Nat} {x1 : Nat} {x2 : Int64} {x4 : Int64} {s0 : Int64} {s1 : Int64} (h : ¬ s0 = 0) : sm_R X 46 82 [.ref x0, .ref x1, .long x2, sm_J, .long x4, sm_J, sm_J, sm_J, sm_J] [.long s0, .long s1] w Q ↔ sm_R X 46 83 [.ref x0, .ref x1, .long x2, sm_J, .long x4, sm_J, sm_J, sm_J, sm_J] [.long (s1 / s0)] w Q := sm_q_ldiv d46_82 h
theorem d46_83 : decode (sm_code 46) 83 = .ok (.lstore 6, 2) := by decide +kernel
theorem r46_83 {X : sm_X} {w : sm_W} {Q : Option Value → sm_W → Prop} {x0 : Nat} {x1 : Nat} {x2 : Int64} {x4 : Int64} {s0 : Int64} : sm_R X 46 83 [.ref x0, .ref x1, .long x2, sm_J, .long x4, sm_J, sm_J, sm_J, sm_J] [.long s0] w Q ↔ sm_R X 46 85 [.ref x0, .ref x1, .long x2, sm_J, .long x4, sm_J, .long s0, sm_J, sm_J] [] w Q := sm_R_go d46_83 rfl
theorem d46_85 : decode (sm_code 46) 85 = .ok (.lload 6, 2) := by decide +kernel
theorem r46_85 {X : sm_X} {w : sm_W} {Q : Option Value → sm_W → Prop} {x0 : Nat} {x1 : Nat} {x2 : Int64} {x4 : Int64} {x6 : Int64} : sm_R X 46 85 [.ref x0, .ref x1, .long x2, sm_J, .long x4, sm_J, .long x6, sm_J, sm_J] [] w Q ↔ sm_R X 46 87 [.ref x0, .ref x1, .long x2, sm_J, .long x4, sm_J, .long x6, sm_J, sm_J] [.long x6] w Q := sm_R_go d46_85 rfl
theorem d46_87 : decode (sm_code 46) 87 = .ok (.lconst 0, 1) := by decide +kernel
theorem r46_87 {X : sm_X} {w : sm_W} {Q : Option Value → sm_W → Prop} {x0 : Nat} {x1 : Nat} {x2 : Int64} {x4 : Int64} {x6 : Int64} {s0 : Int64} : sm_R X 46 87 [.ref x0, .ref x1, .long x2, sm_J, .long x4, sm_J, .long x6, sm_J, sm_J] [.long s0] w Q ↔ sm_R X 46 88 [.ref x0, .ref x1, .long x2, sm_J, .long x4, sm_J, .long x6, sm_J, sm_J] [.long 0, .long s0] w Q := sm_R_go d46_87 rfl
theorem d46_88 : decode (sm_code 46) 88 = .ok (.lcmp, 1) := by decide +kernel
theorem r46_88 {X : sm_X} {w : sm_W} {Q : Option Value → sm_W → Prop} {x0 : Nat} {x1 : Nat} {x2 : Int64} {x4 : Int64} {x6 : Int64} {s0 : Int64} {s1 : Int64} : sm_R X 46 88 [.ref x0, .ref x1, .long x2, sm_J, .long x4, sm_J, .long x6, sm_J, sm_J] [.long s0, .long s1] w Q ↔ sm_R X 46 89 [.ref x0, .ref x1, .long x2, sm_J, .long x4, sm_J, .long x6, sm_J, sm_J] [.int (lg_cmp s1 s0)] w Q := sm_R_go d46_88 rfl
theorem d46_89 : decode (sm_code 46) 89 = .ok (.ifCond .lt 16, 3) := by decide +kernel
theorem r46_89 {X : sm_X} {w : sm_W} {Q : Option Value → sm_W → Prop} {x0 : Nat} {x1 : Nat} {x2 : Int64} {x4 : Int64} {x6 : Int64} {s0 : Int32} : sm_R X 46 89 [.ref x0, .ref x1, .long x2, sm_J, .long x4, sm_J, .long x6, sm_J, sm_J] [.int s0] w Q ↔ (if s0 < 0 then sm_R X 46 105 [.ref x0, .ref x1, .long x2, sm_J, .long x4, sm_J, .long x6, sm_J, sm_J] [] w Q else sm_R X 46 92 [.ref x0, .ref x1, .long x2, sm_J, .long x4, sm_J, .long x6, sm_J, sm_J] [] w Q) := sm_q_br d46_89 rfl
theorem d46_92 : decode (sm_code 46) 92 = .ok (.lload 6, 2) := by decide +kernel
theorem r46_92 {X : sm_X} {w : sm_W} {Q : Option Value → sm_W → Prop} {x0 : Nat} {x1 : Nat} {x2 : Int64} {x4 : Int64} {x6 : Int64} : sm_R X 46 92 [.ref x0, .ref x1, .long x2, sm_J, .long x4, sm_J, .long x6, sm_J, sm_J] [] w Q ↔ sm_R X 46 94 [.ref x0, .ref x1, .long x2, sm_J, .long x4, sm_J, .long x6, sm_J, sm_J] [.long x6] w Q := sm_R_go d46_92 rfl
theorem d46_94 : decode (sm_code 46) 94 = .ok (.ldc2_w 194, 3) := by decide +kernel
theorem r46_94 {X : sm_X} {w : sm_W} {Q : Option Value → sm_W → Prop} {x0 : Nat} {x1 : Nat} {x2 : Int64} {x4 : Int64} {x6 : Int64} {s0 : Int64} : sm_R X 46 94 [.ref x0, .ref x1, .long x2, sm_J, .long x4, sm_J, .long x6, sm_J, sm_J] [.long s0] w Q ↔ sm_R X 46 97 [.ref x0, .ref x1, .long x2, sm_J, .long x4, sm_J, .long x6, sm_J, sm_J] [.long 2147483647, .long s0] w Q := sm_R_go d46_94 rfl
theorem d46_97 : decode (sm_code 46) 97 = .ok (.lcmp, 1) := by decide +kernel
theorem r46_97 {X : sm_X} {w : sm_W} {Q : Option Value → sm_W → Prop} {x0 : Nat} {x1 : Nat} {x2 : Int64} {x4 : Int64} {x6 : Int64} {s0 : Int64} {s1 : Int64} : sm_R X 46 97 [.ref x0, .ref x1, .long x2, sm_J, .long x4, sm_J, .long x6, sm_J, sm_J] [.long s0, .long s1] w Q ↔ sm_R X 46 98 [.ref x0, .ref x1, .long x2, sm_J, .long x4, sm_J, .long x6, sm_J, sm_J] [.int (lg_cmp s1 s0)] w Q := sm_R_go d46_97 rfl
theorem d46_98 : decode (sm_code 46) 98 = .ok (.ifCond .gt 7, 3) := by decide +kernel
theorem r46_98 {X : sm_X} {w : sm_W} {Q : Option Value → sm_W → Prop} {x0 : Nat} {x1 : Nat} {x2 : Int64} {x4 : Int64} {x6 : Int64} {s0 : Int32} : sm_R X 46 98 [.ref x0, .ref x1, .long x2, sm_J, .long x4, sm_J, .long x6, sm_J, sm_J] [.int s0] w Q ↔ (if 0 < s0 then sm_R X 46 105 [.ref x0, .ref x1, .long x2, sm_J, .long x4, sm_J, .long x6, sm_J, sm_J] [] w Q else sm_R X 46 101 [.ref x0, .ref x1, .long x2, sm_J, .long x4, sm_J, .long x6, sm_J, sm_J] [] w Q) := sm_q_br d46_98 rfl
theorem d46_101 : decode (sm_code 46) 101 = .ok (.iconst 1, 1) := by decide +kernel
theorem r46_101 {X : sm_X} {w : sm_W} {Q : Option Value → sm_W → Prop} {x0 : Nat} {x1 : Nat} {x2 : Int64} {x4 : Int64} {x6 : Int64} : sm_R X 46 101 [.ref x0, .ref x1, .long x2, sm_J, .long x4, sm_J, .long x6, sm_J, sm_J] [] w Q ↔ sm_R X 46 102 [.ref x0, .ref x1, .long x2, sm_J, .long x4, sm_J, .long x6, sm_J, sm_J] [.int 1] w Q := sm_R_go d46_101 rfl
theorem d46_102 : decode (sm_code 46) 102 = .ok (.goto 4, 3) := by decide +kernel
theorem r46_102 {X : sm_X} {w : sm_W} {Q : Option Value → sm_W → Prop} {x0 : Nat} {x1 : Nat} {x2 : Int64} {x4 : Int64} {x6 : Int64} {s0 : Int32} : sm_R X 46 102 [.ref x0, .ref x1, .long x2, sm_J, .long x4, sm_J, .long x6, sm_J, sm_J] [.int s0] w Q ↔ sm_R X 46 106 [.ref x0, .ref x1, .long x2, sm_J, .long x4, sm_J, .long x6, sm_J, sm_J] [.int s0] w Q := sm_R_go d46_102 rfl
theorem d46_105 : decode (sm_code 46) 105 = .ok (.iconst 0, 1) := by decide +kernel
theorem r46_105 {X : sm_X} {w : sm_W} {Q : Option Value → sm_W → Prop} {x0 : Nat} {x1 : Nat} {x2 : Int64} {x4 : Int64} {x6 : Int64} : sm_R X 46 105 [.ref x0, .ref x1, .long x2, sm_J, .long x4, sm_J, .long x6, sm_J, sm_J] [] w Q ↔ sm_R X 46 106 [.ref x0, .ref x1, .long x2, sm_J, .long x4, sm_J, .long x6, sm_J, sm_J] [.int 0] w Q := sm_R_go d46_105 rfl
theorem d46_106 : decode (sm_code 46) 106 = .ok (.istore 8, 2) := by decide +kernel
theorem r46_106 {X : sm_X} {w : sm_W} {Q : Option Value → sm_W → Prop} {x0 : Nat} {x1 : Nat} {x2 : Int64} {x4 : Int64} {x6 : Int64} {s0 : Int32} : sm_R X 46 106 [.ref x0, .ref x1, .long x2, sm_J, .long x4, sm_J, .long x6, sm_J, sm_J] [.int s0] w Q ↔ sm_R X 46 108 [.ref x0, .ref x1, .long x2, sm_J, .long x4, sm_J, .long x6, sm_J, .int s0] [] w Q := sm_R_go d46_106 rfl
theorem d46_108 : decode (sm_code 46) 108 = .ok (.iload 8, 2) := by decide +kernel
theorem r46_108 {X : sm_X} {w : sm_W} {Q : Option Value → sm_W → Prop} {x0 : Nat} {x1 : Nat} {x2 : Int64} {x4 : Int64} {x6 : Int64} {x8 : Int32} : sm_R X 46 108 [.ref x0, .ref x1, .long x2, sm_J, .long x4, sm_J, .long x6, sm_J, .int x8] [] w Q ↔ sm_R X 46 110 [.ref x0, .ref x1, .long x2, sm_J, .long x4, sm_J, .long x6, sm_J, .int x8] [.int x8] w Q := sm_R_go d46_108 rfl
theorem d46_110 : decode (sm_code 46) 110 = .ok (.ifCond .eq 17, 3) := by decide +kernel
theorem r46_110 {X : sm_X} {w : sm_W} {Q : Option Value → sm_W → Prop} {x0 : Nat} {x1 : Nat} {x2 : Int64} {x4 : Int64} {x6 : Int64} {x8 : Int32} {s0 : Int32} : sm_R X 46 110 [.ref x0, .ref x1, .long x2, sm_J, .long x4, sm_J, .long x6, sm_J, .int x8] [.int s0] w Q ↔ (if s0 = 0 then sm_R X 46 127 [.ref x0, .ref x1, .long x2, sm_J, .long x4, sm_J, .long x6, sm_J, .int x8] [] w Q else sm_R X 46 113 [.ref x0, .ref x1, .long x2, sm_J, .long x4, sm_J, .long x6, sm_J, .int x8] [] w Q) := sm_q_br d46_110 rfl
theorem d46_113 : decode (sm_code 46) 113 = .ok (.aload_n 0, 1) := by decide +kernel
theorem r46_113 {X : sm_X} {w : sm_W} {Q : Option Value → sm_W → Prop} {x0 : Nat} {x1 : Nat} {x2 : Int64} {x4 : Int64} {x6 : Int64} {x8 : Int32} : sm_R X 46 113 [.ref x0, .ref x1, .long x2, sm_J, .long x4, sm_J, .long x6, sm_J, .int x8] [] w Q ↔ sm_R X 46 114 [.ref x0, .ref x1, .long x2, sm_J, .long x4, sm_J, .long x6, sm_J, .int x8] [.ref x0] w Q := sm_R_go d46_113 rfl
theorem d46_114 : decode (sm_code 46) 114 = .ok (.getfield 12, 3) := by decide +kernel
theorem r46_114 {X : sm_X} {w : sm_W} {Q : Option Value → sm_W → Prop} {x0 : Nat} {x1 : Nat} {x2 : Int64} {x4 : Int64} {x6 : Int64} {x8 : Int32} {s0 : Nat} : sm_R X 46 114 [.ref x0, .ref x1, .long x2, sm_J, .long x4, sm_J, .long x6, sm_J, .int x8] [.ref s0] w Q ↔ sm_wp (sm_fld 2 2 (sm_at w s0)) (fun v => sm_R X 46 117 [.ref x0, .ref x1, .long x2, sm_J, .long x4, sm_J, .long x6, sm_J, .int x8] [v] w Q) := sm_q_getf d46_114 rfl (by decide)
theorem d46_117 : decode (sm_code 46) 117 = .ok (.iconst 1, 1) := by decide +kernel
theorem r46_117 {X : sm_X} {w : sm_W} {Q : Option Value → sm_W → Prop} {x0 : Nat} {x1 : Nat} {x2 : Int64} {x4 : Int64} {x6 : Int64} {x8 : Int32} {s0 : Nat} : sm_R X 46 117 [.ref x0, .ref x1, .long x2, sm_J, .long x4, sm_J, .long x6, sm_J, .int x8] [.ref s0] w Q ↔ sm_R X 46 118 [.ref x0, .ref x1, .long x2, sm_J, .long x4, sm_J, .long x6, sm_J, .int x8] [.int 1, .ref s0] w Q := sm_R_go d46_117 rfl
theorem d46_118 : decode (sm_code 46) 118 = .ok (.lload 6, 2) := by decide +kernel
theorem r46_118 {X : sm_X} {w : sm_W} {Q : Option Value → sm_W → Prop} {x0 : Nat} {x1 : Nat} {x2 : Int64} {x4 : Int64} {x6 : Int64} {x8 : Int32} {s0 : Int32} {s1 : Nat} : sm_R X 46 118 [.ref x0, .ref x1, .long x2, sm_J, .long x4, sm_J, .long x6, sm_J, .int x8] [.int s0, .ref s1] w Q ↔ sm_R X 46 120 [.ref x0, .ref x1, .long x2, sm_J, .long x4, sm_J, .long x6, sm_J, .int x8] [.long x6, .int s0, .ref s1] w Q := sm_R_go d46_118 rfl
theorem d46_120 : decode (sm_code 46) 120 = .ok (.l2i, 1) := by decide +kernel
theorem r46_120 {X : sm_X} {w : sm_W} {Q : Option Value → sm_W → Prop} {x0 : Nat} {x1 : Nat} {x2 : Int64} {x4 : Int64} {x6 : Int64} {x8 : Int32} {s0 : Int64} {s1 : Int32} {s2 : Nat} : sm_R X 46 120 [.ref x0, .ref x1, .long x2, sm_J, .long x4, sm_J, .long x6, sm_J, .int x8] [.long s0, .int s1, .ref s2] w Q ↔ sm_R X 46 121 [.ref x0, .ref x1, .long x2, sm_J, .long x4, sm_J, .long x6, sm_J, .int x8] [.int s0.toInt32, .int s1, .ref s2] w Q := sm_R_go d46_120 rfl
theorem d46_121 : decode (sm_code 46) 121 = .ok (.invokevirtual 119, 3) := by decide +kernel
theorem r46_121 {X : sm_X} {w : sm_W} {Q : Option Value → sm_W → Prop} {x0 : Nat} {x1 : Nat} {x2 : Int64} {x4 : Int64} {x6 : Int64} {x8 : Int32} {s0 : Int32} {s1 : Int32} {s2 : Nat} : sm_R X 46 121 [.ref x0, .ref x1, .long x2, sm_J, .long x4, sm_J, .long x6, sm_J, .int x8] [.int s0, .int s1, .ref s2] w Q ↔ (sm_cN (sm_at w s2) = some 4 ∧ sm_R X 36 0 [.ref s2, .int s1, .int s0] [] w (fun v w => sm_R X 46 124 [.ref x0, .ref x1, .long x2, sm_J, .long x4, sm_J, .long x6, sm_J, .int x8] (v.toList ++ []) w Q)) := sm_q_vir (k := 36) (as := [.ref s2, .int s1, .int s0]) (rest := []) d46_121 rfl rfl rfl rfl rfl
theorem d46_124 : decode (sm_code 46) 124 = .ok (.goto 4, 3) := by decide +kernel
theorem r46_124 {X : sm_X} {w : sm_W} {Q : Option Value → sm_W → Prop} {x0 : Nat} {x1 : Nat} {x2 : Int64} {x4 : Int64} {x6 : Int64} {x8 : Int32} {s0 : Int32} : sm_R X 46 124 [.ref x0, .ref x1, .long x2, sm_J, .long x4, sm_J, .long x6, sm_J, .int x8] [.int s0] w Q ↔ sm_R X 46 128 [.ref x0, .ref x1, .long x2, sm_J, .long x4, sm_J, .long x6, sm_J, .int x8] [.int s0] w Q := sm_R_go d46_124 rfl
theorem d46_127 : decode (sm_code 46) 127 = .ok (.iconst 3, 1) := by decide +kernel
theorem r46_127 {X : sm_X} {w : sm_W} {Q : Option Value → sm_W → Prop} {x0 : Nat} {x1 : Nat} {x2 : Int64} {x4 : Int64} {x6 : Int64} {x8 : Int32} : sm_R X 46 127 [.ref x0, .ref x1, .long x2, sm_J, .long x4, sm_J, .long x6, sm_J, .int x8] [] w Q ↔ sm_R X 46 128 [.ref x0, .ref x1, .long x2, sm_J, .long x4, sm_J, .long x6, sm_J, .int x8] [.int 3] w Q := sm_R_go d46_127 rfl
theorem d46_128 : decode (sm_code 46) 128 = .ok (.ireturn, 1) := by decide +kernel
theorem r46_128 {X : sm_X} {w : sm_W} {Q : Option Value → sm_W → Prop} {x0 : Nat} {x1 : Nat} {x2 : Int64} {x4 : Int64} {x6 : Int64} {x8 : Int32} {s0 : Int32} : sm_R X 46 128 [.ref x0, .ref x1, .long x2, sm_J, .long x4, sm_J, .long x6, sm_J, .int x8] [.int s0] w Q ↔ Q (some (.int s0)) w := sm_q_iret d46_128 rfl
-- GroupLedger$Books.optOut(II)V
theorem d47_0 : decode (sm_code 47) 0 = .ok (.aload_n 0, 1) := by decide +kernel
theorem r47_0 {X : sm_X} {w : sm_W} {Q : Option Value → sm_W → Prop} {x0 : Nat} {x1 : Int32} {x2 : Int32} : sm_R X 47 0 [.ref x0, .int x1, .int x2] [] w Q ↔ sm_R X 47 1 [.ref x0, .int x1, .int x2] [.ref x0] w Q := sm_R_go d47_0 rfl
theorem d47_1 : decode (sm_code 47) 1 = .ok (.getfield 23, 3) := by decide +kernel
theorem r47_1 {X : sm_X} {w : sm_W} {Q : Option Value → sm_W → Prop} {x0 : Nat} {x1 : Int32} {x2 : Int32} {s0 : Nat} : sm_R X 47 1 [.ref x0, .int x1, .int x2] [.ref s0] w Q ↔ sm_wp (sm_fld 0 3 (sm_at w s0)) (fun v => sm_R X 47 4 [.ref x0, .int x1, .int x2] [v] w Q) := sm_q_getf d47_1 rfl (by decide)
theorem d47_4 : decode (sm_code 47) 4 = .ok (.iload_n 2, 1) := by decide +kernel
theorem r47_4 {X : sm_X} {w : sm_W} {Q : Option Value → sm_W → Prop} {x0 : Nat} {x1 : Int32} {x2 : Int32} {s0 : Nat} : sm_R X 47 4 [.ref x0, .int x1, .int x2] [.ref s0] w Q ↔ sm_R X 47 5 [.ref x0, .int x1, .int x2] [.int x2, .ref s0] w Q := sm_R_go d47_4 rfl
theorem d47_5 : decode (sm_code 47) 5 = .ok (.dup2, 1) := by decide +kernel
theorem r47_5 {X : sm_X} {w : sm_W} {Q : Option Value → sm_W → Prop} {x0 : Nat} {x1 : Int32} {x2 : Int32} {s0 : Int32} {s1 : Nat} : sm_R X 47 5 [.ref x0, .int x1, .int x2] [.int s0, .ref s1] w Q ↔ sm_R X 47 6 [.ref x0, .int x1, .int x2] [.int s0, .ref s1, .int s0, .ref s1] w Q := sm_R_go d47_5 rfl
theorem d47_6 : decode (sm_code 47) 6 = .ok (.iaload, 1) := by decide +kernel
theorem r47_6 {X : sm_X} {w : sm_W} {Q : Option Value → sm_W → Prop} {x0 : Nat} {x1 : Int32} {x2 : Int32} {s0 : Int32} {s1 : Nat} {s2 : Int32} {s3 : Nat} : sm_R X 47 6 [.ref x0, .int x1, .int x2] [.int s0, .ref s1, .int s2, .ref s3] w Q ↔ sm_wp (sm_ai s0 (sm_get X w s1)) (fun v => sm_R X 47 7 [.ref x0, .int x1, .int x2] [.int v, .int s2, .ref s3] w Q) := sm_q_iald d47_6
theorem d47_7 : decode (sm_code 47) 7 = .ok (.iconst 1, 1) := by decide +kernel
theorem r47_7 {X : sm_X} {w : sm_W} {Q : Option Value → sm_W → Prop} {x0 : Nat} {x1 : Int32} {x2 : Int32} {s0 : Int32} {s1 : Int32} {s2 : Nat} : sm_R X 47 7 [.ref x0, .int x1, .int x2] [.int s0, .int s1, .ref s2] w Q ↔ sm_R X 47 8 [.ref x0, .int x1, .int x2] [.int 1, .int s0, .int s1, .ref s2] w Q := sm_R_go d47_7 rfl
theorem d47_8 : decode (sm_code 47) 8 = .ok (.iload_n 1, 1) := by decide +kernel
theorem r47_8 {X : sm_X} {w : sm_W} {Q : Option Value → sm_W → Prop} {x0 : Nat} {x1 : Int32} {x2 : Int32} {s0 : Int32} {s1 : Int32} {s2 : Int32} {s3 : Nat} : sm_R X 47 8 [.ref x0, .int x1, .int x2] [.int s0, .int s1, .int s2, .ref s3] w Q ↔ sm_R X 47 9 [.ref x0, .int x1, .int x2] [.int x1, .int s0, .int s1, .int s2, .ref s3] w Q := sm_R_go d47_8 rfl
theorem d47_9 : decode (sm_code 47) 9 = .ok (.ishl, 1) := by decide +kernel
theorem r47_9 {X : sm_X} {w : sm_W} {Q : Option Value → sm_W → Prop} {x0 : Nat} {x1 : Int32} {x2 : Int32} {s0 : Int32} {s1 : Int32} {s2 : Int32} {s3 : Int32} {s4 : Nat} : sm_R X 47 9 [.ref x0, .int x1, .int x2] [.int s0, .int s1, .int s2, .int s3, .ref s4] w Q ↔ sm_R X 47 10 [.ref x0, .int x1, .int x2] [.int (s1 <<< (s0 &&& 31)), .int s2, .int s3, .ref s4] w Q := sm_R_go d47_9 rfl
theorem d47_10 : decode (sm_code 47) 10 = .ok (.iconst (-1), 1) := by decide +kernel
theorem r47_10 {X : sm_X} {w : sm_W} {Q : Option Value → sm_W → Prop} {x0 : Nat} {x1 : Int32} {x2 : Int32} {s0 : Int32} {s1 : Int32} {s2 : Int32} {s3 : Nat} : sm_R X 47 10 [.ref x0, .int x1, .int x2] [.int s0, .int s1, .int s2, .ref s3] w Q ↔ sm_R X 47 11 [.ref x0, .int x1, .int x2] [.int (-1), .int s0, .int s1, .int s2, .ref s3] w Q := sm_R_go d47_10 rfl
theorem d47_11 : decode (sm_code 47) 11 = .ok (.ixor, 1) := by decide +kernel
theorem r47_11 {X : sm_X} {w : sm_W} {Q : Option Value → sm_W → Prop} {x0 : Nat} {x1 : Int32} {x2 : Int32} {s0 : Int32} {s1 : Int32} {s2 : Int32} {s3 : Int32} {s4 : Nat} : sm_R X 47 11 [.ref x0, .int x1, .int x2] [.int s0, .int s1, .int s2, .int s3, .ref s4] w Q ↔ sm_R X 47 12 [.ref x0, .int x1, .int x2] [.int (s1 ^^^ s0), .int s2, .int s3, .ref s4] w Q := sm_R_go d47_11 rfl
theorem d47_12 : decode (sm_code 47) 12 = .ok (.iand, 1) := by decide +kernel
theorem r47_12 {X : sm_X} {w : sm_W} {Q : Option Value → sm_W → Prop} {x0 : Nat} {x1 : Int32} {x2 : Int32} {s0 : Int32} {s1 : Int32} {s2 : Int32} {s3 : Nat} : sm_R X 47 12 [.ref x0, .int x1, .int x2] [.int s0, .int s1, .int s2, .ref s3] w Q ↔ sm_R X 47 13 [.ref x0, .int x1, .int x2] [.int (s1 &&& s0), .int s2, .ref s3] w Q := sm_R_go d47_12 rfl
theorem d47_13 : decode (sm_code 47) 13 = .ok (.iastore, 1) := by decide +kernel
theorem r47_13 {X : sm_X} {w : sm_W} {Q : Option Value → sm_W → Prop} {x0 : Nat} {x1 : Int32} {x2 : Int32} {s0 : Int32} {s1 : Int32} {s2 : Nat} : sm_R X 47 13 [.ref x0, .int x1, .int x2] [.int s0, .int s1, .ref s2] w Q ↔ sm_wp (sm_si s1 s0 (sm_at w s2)) (fun c => sm_R X 47 14 [.ref x0, .int x1, .int x2] [] (w.set (s2 - 100) c) Q) := sm_q_iast d47_13
theorem d47_14 : decode (sm_code 47) 14 = .ok (.return_, 1) := by decide +kernel
theorem r47_14 {X : sm_X} {w : sm_W} {Q : Option Value → sm_W → Prop} {x0 : Nat} {x1 : Int32} {x2 : Int32} : sm_R X 47 14 [.ref x0, .int x1, .int x2] [] w Q ↔ Q none w := sm_R_ret d47_14 rfl
-- GroupLedger$Books.isBelowLeast(I)Z
theorem d48_0 : decode (sm_code 48) 0 = .ok (.aload_n 0, 1) := by decide +kernel
theorem r48_0 {X : sm_X} {w : sm_W} {Q : Option Value → sm_W → Prop} {x0 : Nat} {x1 : Int32} : sm_R X 48 0 [.ref x0, .int x1] [] w Q ↔ sm_R X 48 1 [.ref x0, .int x1] [.ref x0] w Q := sm_R_go d48_0 rfl
theorem d48_1 : decode (sm_code 48) 1 = .ok (.getfield 9, 3) := by decide +kernel
theorem r48_1 {X : sm_X} {w : sm_W} {Q : Option Value → sm_W → Prop} {x0 : Nat} {x1 : Int32} {s0 : Nat} : sm_R X 48 1 [.ref x0, .int x1] [.ref s0] w Q ↔ sm_wp (sm_fld 0 0 (sm_at w s0)) (fun v => sm_R X 48 4 [.ref x0, .int x1] [v] w Q) := sm_q_getf d48_1 rfl (by decide)
theorem d48_4 : decode (sm_code 48) 4 = .ok (.iload_n 1, 1) := by decide +kernel
theorem r48_4 {X : sm_X} {w : sm_W} {Q : Option Value → sm_W → Prop} {x0 : Nat} {x1 : Int32} {s0 : Nat} : sm_R X 48 4 [.ref x0, .int x1] [.ref s0] w Q ↔ sm_R X 48 5 [.ref x0, .int x1] [.int x1, .ref s0] w Q := sm_R_go d48_4 rfl
theorem d48_5 : decode (sm_code 48) 5 = .ok (.iaload, 1) := by decide +kernel
theorem r48_5 {X : sm_X} {w : sm_W} {Q : Option Value → sm_W → Prop} {x0 : Nat} {x1 : Int32} {s0 : Int32} {s1 : Nat} : sm_R X 48 5 [.ref x0, .int x1] [.int s0, .ref s1] w Q ↔ sm_wp (sm_ai s0 (sm_get X w s1)) (fun v => sm_R X 48 6 [.ref x0, .int x1] [.int v] w Q) := sm_q_iald d48_5
theorem d48_6 : decode (sm_code 48) 6 = .ok (.aload_n 0, 1) := by decide +kernel
theorem r48_6 {X : sm_X} {w : sm_W} {Q : Option Value → sm_W → Prop} {x0 : Nat} {x1 : Int32} {s0 : Int32} : sm_R X 48 6 [.ref x0, .int x1] [.int s0] w Q ↔ sm_R X 48 7 [.ref x0, .int x1] [.ref x0, .int s0] w Q := sm_R_go d48_6 rfl
theorem d48_7 : decode (sm_code 48) 7 = .ok (.iload_n 1, 1) := by decide +kernel
theorem r48_7 {X : sm_X} {w : sm_W} {Q : Option Value → sm_W → Prop} {x0 : Nat} {x1 : Int32} {s0 : Nat} {s1 : Int32} : sm_R X 48 7 [.ref x0, .int x1] [.ref s0, .int s1] w Q ↔ sm_R X 48 8 [.ref x0, .int x1] [.int x1, .ref s0, .int s1] w Q := sm_R_go d48_7 rfl
theorem d48_8 : decode (sm_code 48) 8 = .ok (.invokevirtual 46, 3) := by decide +kernel
theorem r48_8 {X : sm_X} {w : sm_W} {Q : Option Value → sm_W → Prop} {x0 : Nat} {x1 : Int32} {s0 : Int32} {s1 : Nat} {s2 : Int32} : sm_R X 48 8 [.ref x0, .int x1] [.int s0, .ref s1, .int s2] w Q ↔ (sm_cN (sm_at w s1) = some 0 ∧ sm_R X 49 0 [.ref s1, .int s0] [] w (fun v w => sm_R X 48 11 [.ref x0, .int x1] (v.toList ++ [.int s2]) w Q)) := sm_q_vir (k := 49) (as := [.ref s1, .int s0]) (rest := [.int s2]) d48_8 rfl rfl rfl rfl rfl
theorem d48_11 : decode (sm_code 48) 11 = .ok (.if_icmp .ge 7, 3) := by decide +kernel
theorem r48_11 {X : sm_X} {w : sm_W} {Q : Option Value → sm_W → Prop} {x0 : Nat} {x1 : Int32} {s0 : Int32} {s1 : Int32} : sm_R X 48 11 [.ref x0, .int x1] [.int s0, .int s1] w Q ↔ (if s0 ≤ s1 then sm_R X 48 18 [.ref x0, .int x1] [] w Q else sm_R X 48 14 [.ref x0, .int x1] [] w Q) := sm_q_br d48_11 rfl
theorem d48_14 : decode (sm_code 48) 14 = .ok (.iconst 1, 1) := by decide +kernel
theorem r48_14 {X : sm_X} {w : sm_W} {Q : Option Value → sm_W → Prop} {x0 : Nat} {x1 : Int32} : sm_R X 48 14 [.ref x0, .int x1] [] w Q ↔ sm_R X 48 15 [.ref x0, .int x1] [.int 1] w Q := sm_R_go d48_14 rfl
theorem d48_15 : decode (sm_code 48) 15 = .ok (.goto 4, 3) := by decide +kernel
theorem r48_15 {X : sm_X} {w : sm_W} {Q : Option Value → sm_W → Prop} {x0 : Nat} {x1 : Int32} {s0 : Int32} : sm_R X 48 15 [.ref x0, .int x1] [.int s0] w Q ↔ sm_R X 48 19 [.ref x0, .int x1] [.int s0] w Q := sm_R_go d48_15 rfl
theorem d48_18 : decode (sm_code 48) 18 = .ok (.iconst 0, 1) := by decide +kernel
theorem r48_18 {X : sm_X} {w : sm_W} {Q : Option Value → sm_W → Prop} {x0 : Nat} {x1 : Int32} : sm_R X 48 18 [.ref x0, .int x1] [] w Q ↔ sm_R X 48 19 [.ref x0, .int x1] [.int 0] w Q := sm_R_go d48_18 rfl
theorem d48_19 : decode (sm_code 48) 19 = .ok (.ireturn, 1) := by decide +kernel
theorem r48_19 {X : sm_X} {w : sm_W} {Q : Option Value → sm_W → Prop} {x0 : Nat} {x1 : Int32} {s0 : Int32} (h : s0 = 0 ∨ s0 = 1) : sm_R X 48 19 [.ref x0, .int x1] [.int s0] w Q ↔ Q (some (.int s0)) w := sm_q_zret d48_19 rfl h
-- GroupLedger$Books.leastOf(I)I
theorem d49_0 : decode (sm_code 49) 0 = .ok (.aload_n 0, 1) := by decide +kernel
theorem r49_0 {X : sm_X} {w : sm_W} {Q : Option Value → sm_W → Prop} {x0 : Nat} {x1 : Int32} : sm_R X 49 0 [.ref x0, .int x1] [] w Q ↔ sm_R X 49 1 [.ref x0, .int x1] [.ref x0] w Q := sm_R_go d49_0 rfl
theorem d49_1 : decode (sm_code 49) 1 = .ok (.getfield 23, 3) := by decide +kernel
theorem r49_1 {X : sm_X} {w : sm_W} {Q : Option Value → sm_W → Prop} {x0 : Nat} {x1 : Int32} {s0 : Nat} : sm_R X 49 1 [.ref x0, .int x1] [.ref s0] w Q ↔ sm_wp (sm_fld 0 3 (sm_at w s0)) (fun v => sm_R X 49 4 [.ref x0, .int x1] [v] w Q) := sm_q_getf d49_1 rfl (by decide)
theorem d49_4 : decode (sm_code 49) 4 = .ok (.iload_n 1, 1) := by decide +kernel
theorem r49_4 {X : sm_X} {w : sm_W} {Q : Option Value → sm_W → Prop} {x0 : Nat} {x1 : Int32} {s0 : Nat} : sm_R X 49 4 [.ref x0, .int x1] [.ref s0] w Q ↔ sm_R X 49 5 [.ref x0, .int x1] [.int x1, .ref s0] w Q := sm_R_go d49_4 rfl
theorem d49_5 : decode (sm_code 49) 5 = .ok (.iaload, 1) := by decide +kernel
theorem r49_5 {X : sm_X} {w : sm_W} {Q : Option Value → sm_W → Prop} {x0 : Nat} {x1 : Int32} {s0 : Int32} {s1 : Nat} : sm_R X 49 5 [.ref x0, .int x1] [.int s0, .ref s1] w Q ↔ sm_wp (sm_ai s0 (sm_get X w s1)) (fun v => sm_R X 49 6 [.ref x0, .int x1] [.int v] w Q) := sm_q_iald d49_5
theorem d49_6 : decode (sm_code 49) 6 = .ok (.ifCond .ne 14, 3) := by decide +kernel
theorem r49_6 {X : sm_X} {w : sm_W} {Q : Option Value → sm_W → Prop} {x0 : Nat} {x1 : Int32} {s0 : Int32} : sm_R X 49 6 [.ref x0, .int x1] [.int s0] w Q ↔ (if s0 = 0 then sm_R X 49 9 [.ref x0, .int x1] [] w Q else sm_R X 49 20 [.ref x0, .int x1] [] w Q) := sm_q_br d49_6 rfl
theorem d49_9 : decode (sm_code 49) 9 = .ok (.aload_n 0, 1) := by decide +kernel
theorem r49_9 {X : sm_X} {w : sm_W} {Q : Option Value → sm_W → Prop} {x0 : Nat} {x1 : Int32} : sm_R X 49 9 [.ref x0, .int x1] [] w Q ↔ sm_R X 49 10 [.ref x0, .int x1] [.ref x0] w Q := sm_R_go d49_9 rfl
theorem d49_10 : decode (sm_code 49) 10 = .ok (.getfield 9, 3) := by decide +kernel
theorem r49_10 {X : sm_X} {w : sm_W} {Q : Option Value → sm_W → Prop} {x0 : Nat} {x1 : Int32} {s0 : Nat} : sm_R X 49 10 [.ref x0, .int x1] [.ref s0] w Q ↔ sm_wp (sm_fld 0 0 (sm_at w s0)) (fun v => sm_R X 49 13 [.ref x0, .int x1] [v] w Q) := sm_q_getf d49_10 rfl (by decide)
theorem d49_13 : decode (sm_code 49) 13 = .ok (.iload_n 1, 1) := by decide +kernel
theorem r49_13 {X : sm_X} {w : sm_W} {Q : Option Value → sm_W → Prop} {x0 : Nat} {x1 : Int32} {s0 : Nat} : sm_R X 49 13 [.ref x0, .int x1] [.ref s0] w Q ↔ sm_R X 49 14 [.ref x0, .int x1] [.int x1, .ref s0] w Q := sm_R_go d49_13 rfl
theorem d49_14 : decode (sm_code 49) 14 = .ok (.iaload, 1) := by decide +kernel
theorem r49_14 {X : sm_X} {w : sm_W} {Q : Option Value → sm_W → Prop} {x0 : Nat} {x1 : Int32} {s0 : Int32} {s1 : Nat} : sm_R X 49 14 [.ref x0, .int x1] [.int s0, .ref s1] w Q ↔ sm_wp (sm_ai s0 (sm_get X w s1)) (fun v => sm_R X 49 15 [.ref x0, .int x1] [.int v] w Q) := sm_q_iald d49_14
theorem d49_15 : decode (sm_code 49) 15 = .ok (.ifCond .ne 5, 3) := by decide +kernel
theorem r49_15 {X : sm_X} {w : sm_W} {Q : Option Value → sm_W → Prop} {x0 : Nat} {x1 : Int32} {s0 : Int32} : sm_R X 49 15 [.ref x0, .int x1] [.int s0] w Q ↔ (if s0 = 0 then sm_R X 49 18 [.ref x0, .int x1] [] w Q else sm_R X 49 20 [.ref x0, .int x1] [] w Q) := sm_q_br d49_15 rfl
theorem d49_18 : decode (sm_code 49) 18 = .ok (.iconst 0, 1) := by decide +kernel
theorem r49_18 {X : sm_X} {w : sm_W} {Q : Option Value → sm_W → Prop} {x0 : Nat} {x1 : Int32} : sm_R X 49 18 [.ref x0, .int x1] [] w Q ↔ sm_R X 49 19 [.ref x0, .int x1] [.int 0] w Q := sm_R_go d49_18 rfl
theorem d49_19 : decode (sm_code 49) 19 = .ok (.ireturn, 1) := by decide +kernel
theorem r49_19 {X : sm_X} {w : sm_W} {Q : Option Value → sm_W → Prop} {x0 : Nat} {x1 : Int32} {s0 : Int32} : sm_R X 49 19 [.ref x0, .int x1] [.int s0] w Q ↔ Q (some (.int s0)) w := sm_q_iret d49_19 rfl
theorem d49_20 : decode (sm_code 49) 20 = .ok (.bipush 10, 2) := by decide +kernel
theorem r49_20 {X : sm_X} {w : sm_W} {Q : Option Value → sm_W → Prop} {x0 : Nat} {x1 : Int32} : sm_R X 49 20 [.ref x0, .int x1] [] w Q ↔ sm_R X 49 22 [.ref x0, .int x1] [.int 10] w Q := sm_R_go d49_20 rfl
theorem d49_22 : decode (sm_code 49) 22 = .ok (.iconst 5, 1) := by decide +kernel
theorem r49_22 {X : sm_X} {w : sm_W} {Q : Option Value → sm_W → Prop} {x0 : Nat} {x1 : Int32} {s0 : Int32} : sm_R X 49 22 [.ref x0, .int x1] [.int s0] w Q ↔ sm_R X 49 23 [.ref x0, .int x1] [.int 5, .int s0] w Q := sm_R_go d49_22 rfl
theorem d49_23 : decode (sm_code 49) 23 = .ok (.aload_n 0, 1) := by decide +kernel
theorem r49_23 {X : sm_X} {w : sm_W} {Q : Option Value → sm_W → Prop} {x0 : Nat} {x1 : Int32} {s0 : Int32} {s1 : Int32} : sm_R X 49 23 [.ref x0, .int x1] [.int s0, .int s1] w Q ↔ sm_R X 49 24 [.ref x0, .int x1] [.ref x0, .int s0, .int s1] w Q := sm_R_go d49_23 rfl
theorem d49_24 : decode (sm_code 49) 24 = .ok (.getfield 23, 3) := by decide +kernel
theorem r49_24 {X : sm_X} {w : sm_W} {Q : Option Value → sm_W → Prop} {x0 : Nat} {x1 : Int32} {s0 : Nat} {s1 : Int32} {s2 : Int32} : sm_R X 49 24 [.ref x0, .int x1] [.ref s0, .int s1, .int s2] w Q ↔ sm_wp (sm_fld 0 3 (sm_at w s0)) (fun v => sm_R X 49 27 [.ref x0, .int x1] [v, .int s1, .int s2] w Q) := sm_q_getf d49_24 rfl (by decide)
theorem d49_27 : decode (sm_code 49) 27 = .ok (.iload_n 1, 1) := by decide +kernel
theorem r49_27 {X : sm_X} {w : sm_W} {Q : Option Value → sm_W → Prop} {x0 : Nat} {x1 : Int32} {s0 : Nat} {s1 : Int32} {s2 : Int32} : sm_R X 49 27 [.ref x0, .int x1] [.ref s0, .int s1, .int s2] w Q ↔ sm_R X 49 28 [.ref x0, .int x1] [.int x1, .ref s0, .int s1, .int s2] w Q := sm_R_go d49_27 rfl
theorem d49_28 : decode (sm_code 49) 28 = .ok (.iaload, 1) := by decide +kernel
theorem r49_28 {X : sm_X} {w : sm_W} {Q : Option Value → sm_W → Prop} {x0 : Nat} {x1 : Int32} {s0 : Int32} {s1 : Nat} {s2 : Int32} {s3 : Int32} : sm_R X 49 28 [.ref x0, .int x1] [.int s0, .ref s1, .int s2, .int s3] w Q ↔ sm_wp (sm_ai s0 (sm_get X w s1)) (fun v => sm_R X 49 29 [.ref x0, .int x1] [.int v, .int s2, .int s3] w Q) := sm_q_iald d49_28
theorem d49_29 : decode (sm_code 49) 29 = .ok (.invokestatic 40, 3) := by decide +kernel
theorem r49_29 {X : sm_X} {w : sm_W} {Q : Option Value → sm_W → Prop} {x0 : Nat} {x1 : Int32} {s0 : Int32} {s1 : Int32} {s2 : Int32} : sm_R X 49 29 [.ref x0, .int x1] [.int s0, .int s1, .int s2] w Q ↔ sm_R X 50 0 [.int s0] [] w (fun v w => sm_R X 49 32 [.ref x0, .int x1] (v.toList ++ [.int s1, .int s2]) w Q) := sm_q_call (k := 50) (as := [.int s0]) (rest := [.int s1, .int s2]) d49_29 rfl rfl
theorem d49_32 : decode (sm_code 49) 32 = .ok (.imul, 1) := by decide +kernel
theorem r49_32 {X : sm_X} {w : sm_W} {Q : Option Value → sm_W → Prop} {x0 : Nat} {x1 : Int32} {s0 : Int32} {s1 : Int32} {s2 : Int32} : sm_R X 49 32 [.ref x0, .int x1] [.int s0, .int s1, .int s2] w Q ↔ sm_R X 49 33 [.ref x0, .int x1] [.int (s1 * s0), .int s2] w Q := sm_R_go d49_32 rfl
theorem d49_33 : decode (sm_code 49) 33 = .ok (.iadd, 1) := by decide +kernel
theorem r49_33 {X : sm_X} {w : sm_W} {Q : Option Value → sm_W → Prop} {x0 : Nat} {x1 : Int32} {s0 : Int32} {s1 : Int32} : sm_R X 49 33 [.ref x0, .int x1] [.int s0, .int s1] w Q ↔ sm_R X 49 34 [.ref x0, .int x1] [.int (s1 + s0)] w Q := sm_R_go d49_33 rfl
theorem d49_34 : decode (sm_code 49) 34 = .ok (.ireturn, 1) := by decide +kernel
theorem r49_34 {X : sm_X} {w : sm_W} {Q : Option Value → sm_W → Prop} {x0 : Nat} {x1 : Int32} {s0 : Int32} : sm_R X 49 34 [.ref x0, .int x1] [.int s0] w Q ↔ Q (some (.int s0)) w := sm_q_iret d49_34 rfl
-- java/lang/Integer.bitCount(I)I
theorem d50_0 : decode (sm_code 50) 0 = .ok (.iload_n 0, 1) := by decide +kernel
theorem r50_0 {X : sm_X} {w : sm_W} {Q : Option Value → sm_W → Prop} {x0 : Int32} : sm_R X 50 0 [.int x0] [] w Q ↔ sm_R X 50 1 [.int x0] [.int x0] w Q := sm_R_go d50_0 rfl
theorem d50_1 : decode (sm_code 50) 1 = .ok (.iload_n 0, 1) := by decide +kernel
theorem r50_1 {X : sm_X} {w : sm_W} {Q : Option Value → sm_W → Prop} {x0 : Int32} {s0 : Int32} : sm_R X 50 1 [.int x0] [.int s0] w Q ↔ sm_R X 50 2 [.int x0] [.int x0, .int s0] w Q := sm_R_go d50_1 rfl
theorem d50_2 : decode (sm_code 50) 2 = .ok (.iconst 1, 1) := by decide +kernel
theorem r50_2 {X : sm_X} {w : sm_W} {Q : Option Value → sm_W → Prop} {x0 : Int32} {s0 : Int32} {s1 : Int32} : sm_R X 50 2 [.int x0] [.int s0, .int s1] w Q ↔ sm_R X 50 3 [.int x0] [.int 1, .int s0, .int s1] w Q := sm_R_go d50_2 rfl
theorem d50_3 : decode (sm_code 50) 3 = .ok (.iushr, 1) := by decide +kernel
theorem r50_3 {X : sm_X} {w : sm_W} {Q : Option Value → sm_W → Prop} {x0 : Int32} {s0 : Int32} {s1 : Int32} {s2 : Int32} : sm_R X 50 3 [.int x0] [.int s0, .int s1, .int s2] w Q ↔ sm_R X 50 4 [.int x0] [.int ((s1.toUInt32 >>> (s0.toUInt32 &&& Int32.toUInt32 31)).toInt32), .int s2] w Q := sm_R_go d50_3 rfl
theorem d50_4 : decode (sm_code 50) 4 = .ok (.ldc_w 265, 3) := by decide +kernel
theorem r50_4 {X : sm_X} {w : sm_W} {Q : Option Value → sm_W → Prop} {x0 : Int32} {s0 : Int32} {s1 : Int32} : sm_R X 50 4 [.int x0] [.int s0, .int s1] w Q ↔ sm_R X 50 7 [.int x0] [.int 1431655765, .int s0, .int s1] w Q := sm_R_go d50_4 rfl
theorem d50_7 : decode (sm_code 50) 7 = .ok (.iand, 1) := by decide +kernel
theorem r50_7 {X : sm_X} {w : sm_W} {Q : Option Value → sm_W → Prop} {x0 : Int32} {s0 : Int32} {s1 : Int32} {s2 : Int32} : sm_R X 50 7 [.int x0] [.int s0, .int s1, .int s2] w Q ↔ sm_R X 50 8 [.int x0] [.int (s1 &&& s0), .int s2] w Q := sm_R_go d50_7 rfl
theorem d50_8 : decode (sm_code 50) 8 = .ok (.isub, 1) := by decide +kernel
theorem r50_8 {X : sm_X} {w : sm_W} {Q : Option Value → sm_W → Prop} {x0 : Int32} {s0 : Int32} {s1 : Int32} : sm_R X 50 8 [.int x0] [.int s0, .int s1] w Q ↔ sm_R X 50 9 [.int x0] [.int (s1 - s0)] w Q := sm_R_go d50_8 rfl
theorem d50_9 : decode (sm_code 50) 9 = .ok (.istore_n 0, 1) := by decide +kernel
theorem r50_9 {X : sm_X} {w : sm_W} {Q : Option Value → sm_W → Prop} {x0 : Int32} {s0 : Int32} : sm_R X 50 9 [.int x0] [.int s0] w Q ↔ sm_R X 50 10 [.int s0] [] w Q := sm_R_go d50_9 rfl
theorem d50_10 : decode (sm_code 50) 10 = .ok (.iload_n 0, 1) := by decide +kernel
theorem r50_10 {X : sm_X} {w : sm_W} {Q : Option Value → sm_W → Prop} {x0 : Int32} : sm_R X 50 10 [.int x0] [] w Q ↔ sm_R X 50 11 [.int x0] [.int x0] w Q := sm_R_go d50_10 rfl
theorem d50_11 : decode (sm_code 50) 11 = .ok (.ldc_w 266, 3) := by decide +kernel
theorem r50_11 {X : sm_X} {w : sm_W} {Q : Option Value → sm_W → Prop} {x0 : Int32} {s0 : Int32} : sm_R X 50 11 [.int x0] [.int s0] w Q ↔ sm_R X 50 14 [.int x0] [.int 858993459, .int s0] w Q := sm_R_go d50_11 rfl
theorem d50_14 : decode (sm_code 50) 14 = .ok (.iand, 1) := by decide +kernel
theorem r50_14 {X : sm_X} {w : sm_W} {Q : Option Value → sm_W → Prop} {x0 : Int32} {s0 : Int32} {s1 : Int32} : sm_R X 50 14 [.int x0] [.int s0, .int s1] w Q ↔ sm_R X 50 15 [.int x0] [.int (s1 &&& s0)] w Q := sm_R_go d50_14 rfl
theorem d50_15 : decode (sm_code 50) 15 = .ok (.iload_n 0, 1) := by decide +kernel
theorem r50_15 {X : sm_X} {w : sm_W} {Q : Option Value → sm_W → Prop} {x0 : Int32} {s0 : Int32} : sm_R X 50 15 [.int x0] [.int s0] w Q ↔ sm_R X 50 16 [.int x0] [.int x0, .int s0] w Q := sm_R_go d50_15 rfl
theorem d50_16 : decode (sm_code 50) 16 = .ok (.iconst 2, 1) := by decide +kernel
theorem r50_16 {X : sm_X} {w : sm_W} {Q : Option Value → sm_W → Prop} {x0 : Int32} {s0 : Int32} {s1 : Int32} : sm_R X 50 16 [.int x0] [.int s0, .int s1] w Q ↔ sm_R X 50 17 [.int x0] [.int 2, .int s0, .int s1] w Q := sm_R_go d50_16 rfl
theorem d50_17 : decode (sm_code 50) 17 = .ok (.iushr, 1) := by decide +kernel
theorem r50_17 {X : sm_X} {w : sm_W} {Q : Option Value → sm_W → Prop} {x0 : Int32} {s0 : Int32} {s1 : Int32} {s2 : Int32} : sm_R X 50 17 [.int x0] [.int s0, .int s1, .int s2] w Q ↔ sm_R X 50 18 [.int x0] [.int ((s1.toUInt32 >>> (s0.toUInt32 &&& Int32.toUInt32 31)).toInt32), .int s2] w Q := sm_R_go d50_17 rfl
theorem d50_18 : decode (sm_code 50) 18 = .ok (.ldc_w 266, 3) := by decide +kernel
theorem r50_18 {X : sm_X} {w : sm_W} {Q : Option Value → sm_W → Prop} {x0 : Int32} {s0 : Int32} {s1 : Int32} : sm_R X 50 18 [.int x0] [.int s0, .int s1] w Q ↔ sm_R X 50 21 [.int x0] [.int 858993459, .int s0, .int s1] w Q := sm_R_go d50_18 rfl
theorem d50_21 : decode (sm_code 50) 21 = .ok (.iand, 1) := by decide +kernel
theorem r50_21 {X : sm_X} {w : sm_W} {Q : Option Value → sm_W → Prop} {x0 : Int32} {s0 : Int32} {s1 : Int32} {s2 : Int32} : sm_R X 50 21 [.int x0] [.int s0, .int s1, .int s2] w Q ↔ sm_R X 50 22 [.int x0] [.int (s1 &&& s0), .int s2] w Q := sm_R_go d50_21 rfl
theorem d50_22 : decode (sm_code 50) 22 = .ok (.iadd, 1) := by decide +kernel
theorem r50_22 {X : sm_X} {w : sm_W} {Q : Option Value → sm_W → Prop} {x0 : Int32} {s0 : Int32} {s1 : Int32} : sm_R X 50 22 [.int x0] [.int s0, .int s1] w Q ↔ sm_R X 50 23 [.int x0] [.int (s1 + s0)] w Q := sm_R_go d50_22 rfl
theorem d50_23 : decode (sm_code 50) 23 = .ok (.istore_n 0, 1) := by decide +kernel
theorem r50_23 {X : sm_X} {w : sm_W} {Q : Option Value → sm_W → Prop} {x0 : Int32} {s0 : Int32} : sm_R X 50 23 [.int x0] [.int s0] w Q ↔ sm_R X 50 24 [.int s0] [] w Q := sm_R_go d50_23 rfl
theorem d50_24 : decode (sm_code 50) 24 = .ok (.iload_n 0, 1) := by decide +kernel
theorem r50_24 {X : sm_X} {w : sm_W} {Q : Option Value → sm_W → Prop} {x0 : Int32} : sm_R X 50 24 [.int x0] [] w Q ↔ sm_R X 50 25 [.int x0] [.int x0] w Q := sm_R_go d50_24 rfl
theorem d50_25 : decode (sm_code 50) 25 = .ok (.iload_n 0, 1) := by decide +kernel
theorem r50_25 {X : sm_X} {w : sm_W} {Q : Option Value → sm_W → Prop} {x0 : Int32} {s0 : Int32} : sm_R X 50 25 [.int x0] [.int s0] w Q ↔ sm_R X 50 26 [.int x0] [.int x0, .int s0] w Q := sm_R_go d50_25 rfl
theorem d50_26 : decode (sm_code 50) 26 = .ok (.iconst 4, 1) := by decide +kernel
theorem r50_26 {X : sm_X} {w : sm_W} {Q : Option Value → sm_W → Prop} {x0 : Int32} {s0 : Int32} {s1 : Int32} : sm_R X 50 26 [.int x0] [.int s0, .int s1] w Q ↔ sm_R X 50 27 [.int x0] [.int 4, .int s0, .int s1] w Q := sm_R_go d50_26 rfl
theorem d50_27 : decode (sm_code 50) 27 = .ok (.iushr, 1) := by decide +kernel
theorem r50_27 {X : sm_X} {w : sm_W} {Q : Option Value → sm_W → Prop} {x0 : Int32} {s0 : Int32} {s1 : Int32} {s2 : Int32} : sm_R X 50 27 [.int x0] [.int s0, .int s1, .int s2] w Q ↔ sm_R X 50 28 [.int x0] [.int ((s1.toUInt32 >>> (s0.toUInt32 &&& Int32.toUInt32 31)).toInt32), .int s2] w Q := sm_R_go d50_27 rfl
theorem d50_28 : decode (sm_code 50) 28 = .ok (.iadd, 1) := by decide +kernel
theorem r50_28 {X : sm_X} {w : sm_W} {Q : Option Value → sm_W → Prop} {x0 : Int32} {s0 : Int32} {s1 : Int32} : sm_R X 50 28 [.int x0] [.int s0, .int s1] w Q ↔ sm_R X 50 29 [.int x0] [.int (s1 + s0)] w Q := sm_R_go d50_28 rfl
theorem d50_29 : decode (sm_code 50) 29 = .ok (.ldc_w 267, 3) := by decide +kernel
theorem r50_29 {X : sm_X} {w : sm_W} {Q : Option Value → sm_W → Prop} {x0 : Int32} {s0 : Int32} : sm_R X 50 29 [.int x0] [.int s0] w Q ↔ sm_R X 50 32 [.int x0] [.int 252645135, .int s0] w Q := sm_R_go d50_29 rfl
theorem d50_32 : decode (sm_code 50) 32 = .ok (.iand, 1) := by decide +kernel
theorem r50_32 {X : sm_X} {w : sm_W} {Q : Option Value → sm_W → Prop} {x0 : Int32} {s0 : Int32} {s1 : Int32} : sm_R X 50 32 [.int x0] [.int s0, .int s1] w Q ↔ sm_R X 50 33 [.int x0] [.int (s1 &&& s0)] w Q := sm_R_go d50_32 rfl
theorem d50_33 : decode (sm_code 50) 33 = .ok (.istore_n 0, 1) := by decide +kernel
theorem r50_33 {X : sm_X} {w : sm_W} {Q : Option Value → sm_W → Prop} {x0 : Int32} {s0 : Int32} : sm_R X 50 33 [.int x0] [.int s0] w Q ↔ sm_R X 50 34 [.int s0] [] w Q := sm_R_go d50_33 rfl
theorem d50_34 : decode (sm_code 50) 34 = .ok (.iload_n 0, 1) := by decide +kernel
theorem r50_34 {X : sm_X} {w : sm_W} {Q : Option Value → sm_W → Prop} {x0 : Int32} : sm_R X 50 34 [.int x0] [] w Q ↔ sm_R X 50 35 [.int x0] [.int x0] w Q := sm_R_go d50_34 rfl
theorem d50_35 : decode (sm_code 50) 35 = .ok (.iload_n 0, 1) := by decide +kernel
theorem r50_35 {X : sm_X} {w : sm_W} {Q : Option Value → sm_W → Prop} {x0 : Int32} {s0 : Int32} : sm_R X 50 35 [.int x0] [.int s0] w Q ↔ sm_R X 50 36 [.int x0] [.int x0, .int s0] w Q := sm_R_go d50_35 rfl
theorem d50_36 : decode (sm_code 50) 36 = .ok (.bipush 8, 2) := by decide +kernel
theorem r50_36 {X : sm_X} {w : sm_W} {Q : Option Value → sm_W → Prop} {x0 : Int32} {s0 : Int32} {s1 : Int32} : sm_R X 50 36 [.int x0] [.int s0, .int s1] w Q ↔ sm_R X 50 38 [.int x0] [.int 8, .int s0, .int s1] w Q := sm_R_go d50_36 rfl
theorem d50_38 : decode (sm_code 50) 38 = .ok (.iushr, 1) := by decide +kernel
theorem r50_38 {X : sm_X} {w : sm_W} {Q : Option Value → sm_W → Prop} {x0 : Int32} {s0 : Int32} {s1 : Int32} {s2 : Int32} : sm_R X 50 38 [.int x0] [.int s0, .int s1, .int s2] w Q ↔ sm_R X 50 39 [.int x0] [.int ((s1.toUInt32 >>> (s0.toUInt32 &&& Int32.toUInt32 31)).toInt32), .int s2] w Q := sm_R_go d50_38 rfl
theorem d50_39 : decode (sm_code 50) 39 = .ok (.iadd, 1) := by decide +kernel
theorem r50_39 {X : sm_X} {w : sm_W} {Q : Option Value → sm_W → Prop} {x0 : Int32} {s0 : Int32} {s1 : Int32} : sm_R X 50 39 [.int x0] [.int s0, .int s1] w Q ↔ sm_R X 50 40 [.int x0] [.int (s1 + s0)] w Q := sm_R_go d50_39 rfl
theorem d50_40 : decode (sm_code 50) 40 = .ok (.istore_n 0, 1) := by decide +kernel
theorem r50_40 {X : sm_X} {w : sm_W} {Q : Option Value → sm_W → Prop} {x0 : Int32} {s0 : Int32} : sm_R X 50 40 [.int x0] [.int s0] w Q ↔ sm_R X 50 41 [.int s0] [] w Q := sm_R_go d50_40 rfl
theorem d50_41 : decode (sm_code 50) 41 = .ok (.iload_n 0, 1) := by decide +kernel
theorem r50_41 {X : sm_X} {w : sm_W} {Q : Option Value → sm_W → Prop} {x0 : Int32} : sm_R X 50 41 [.int x0] [] w Q ↔ sm_R X 50 42 [.int x0] [.int x0] w Q := sm_R_go d50_41 rfl
theorem d50_42 : decode (sm_code 50) 42 = .ok (.iload_n 0, 1) := by decide +kernel
theorem r50_42 {X : sm_X} {w : sm_W} {Q : Option Value → sm_W → Prop} {x0 : Int32} {s0 : Int32} : sm_R X 50 42 [.int x0] [.int s0] w Q ↔ sm_R X 50 43 [.int x0] [.int x0, .int s0] w Q := sm_R_go d50_42 rfl
theorem d50_43 : decode (sm_code 50) 43 = .ok (.bipush 16, 2) := by decide +kernel
theorem r50_43 {X : sm_X} {w : sm_W} {Q : Option Value → sm_W → Prop} {x0 : Int32} {s0 : Int32} {s1 : Int32} : sm_R X 50 43 [.int x0] [.int s0, .int s1] w Q ↔ sm_R X 50 45 [.int x0] [.int 16, .int s0, .int s1] w Q := sm_R_go d50_43 rfl
theorem d50_45 : decode (sm_code 50) 45 = .ok (.iushr, 1) := by decide +kernel
theorem r50_45 {X : sm_X} {w : sm_W} {Q : Option Value → sm_W → Prop} {x0 : Int32} {s0 : Int32} {s1 : Int32} {s2 : Int32} : sm_R X 50 45 [.int x0] [.int s0, .int s1, .int s2] w Q ↔ sm_R X 50 46 [.int x0] [.int ((s1.toUInt32 >>> (s0.toUInt32 &&& Int32.toUInt32 31)).toInt32), .int s2] w Q := sm_R_go d50_45 rfl
theorem d50_46 : decode (sm_code 50) 46 = .ok (.iadd, 1) := by decide +kernel
theorem r50_46 {X : sm_X} {w : sm_W} {Q : Option Value → sm_W → Prop} {x0 : Int32} {s0 : Int32} {s1 : Int32} : sm_R X 50 46 [.int x0] [.int s0, .int s1] w Q ↔ sm_R X 50 47 [.int x0] [.int (s1 + s0)] w Q := sm_R_go d50_46 rfl
theorem d50_47 : decode (sm_code 50) 47 = .ok (.istore_n 0, 1) := by decide +kernel
theorem r50_47 {X : sm_X} {w : sm_W} {Q : Option Value → sm_W → Prop} {x0 : Int32} {s0 : Int32} : sm_R X 50 47 [.int x0] [.int s0] w Q ↔ sm_R X 50 48 [.int s0] [] w Q := sm_R_go d50_47 rfl
theorem d50_48 : decode (sm_code 50) 48 = .ok (.iload_n 0, 1) := by decide +kernel
theorem r50_48 {X : sm_X} {w : sm_W} {Q : Option Value → sm_W → Prop} {x0 : Int32} : sm_R X 50 48 [.int x0] [] w Q ↔ sm_R X 50 49 [.int x0] [.int x0] w Q := sm_R_go d50_48 rfl
theorem d50_49 : decode (sm_code 50) 49 = .ok (.bipush 63, 2) := by decide +kernel
theorem r50_49 {X : sm_X} {w : sm_W} {Q : Option Value → sm_W → Prop} {x0 : Int32} {s0 : Int32} : sm_R X 50 49 [.int x0] [.int s0] w Q ↔ sm_R X 50 51 [.int x0] [.int 63, .int s0] w Q := sm_R_go d50_49 rfl
theorem d50_51 : decode (sm_code 50) 51 = .ok (.iand, 1) := by decide +kernel
theorem r50_51 {X : sm_X} {w : sm_W} {Q : Option Value → sm_W → Prop} {x0 : Int32} {s0 : Int32} {s1 : Int32} : sm_R X 50 51 [.int x0] [.int s0, .int s1] w Q ↔ sm_R X 50 52 [.int x0] [.int (s1 &&& s0)] w Q := sm_R_go d50_51 rfl
theorem d50_52 : decode (sm_code 50) 52 = .ok (.ireturn, 1) := by decide +kernel
theorem r50_52 {X : sm_X} {w : sm_W} {Q : Option Value → sm_W → Prop} {x0 : Int32} {s0 : Int32} : sm_R X 50 52 [.int x0] [.int s0] w Q ↔ Q (some (.int s0)) w := sm_q_iret d50_52 rfl
-- GroupLedger.discard()I
theorem d51_0 : decode (sm_code 51) 0 = .ok (.aload_n 0, 1) := by decide +kernel
theorem r51_0 {X : sm_X} {w : sm_W} {Q : Option Value → sm_W → Prop} {x0 : Nat} : sm_R X 51 0 [.ref x0, sm_J] [] w Q ↔ sm_R X 51 1 [.ref x0, sm_J] [.ref x0] w Q := sm_R_go d51_0 rfl
theorem d51_1 : decode (sm_code 51) 1 = .ok (.getfield 33, 3) := by decide +kernel
theorem r51_1 {X : sm_X} {w : sm_W} {Q : Option Value → sm_W → Prop} {x0 : Nat} {s0 : Nat} : sm_R X 51 1 [.ref x0, sm_J] [.ref s0] w Q ↔ sm_wp (sm_fld 6 4 (sm_at w s0)) (fun v => sm_R X 51 4 [.ref x0, sm_J] [v] w Q) := sm_q_getf d51_1 rfl (by decide)
theorem d51_4 : decode (sm_code 51) 4 = .ok (.getfield 86, 3) := by decide +kernel
theorem r51_4 {X : sm_X} {w : sm_W} {Q : Option Value → sm_W → Prop} {x0 : Nat} {s0 : Nat} : sm_R X 51 4 [.ref x0, sm_J] [.ref s0] w Q ↔ sm_wp (sm_fld 1 1 (sm_at w s0)) (fun v => sm_R X 51 7 [.ref x0, sm_J] [v] w Q) := sm_q_getf d51_4 rfl (by decide)
theorem d51_7 : decode (sm_code 51) 7 = .ok (.istore_n 1, 1) := by decide +kernel
theorem r51_7 {X : sm_X} {w : sm_W} {Q : Option Value → sm_W → Prop} {x0 : Nat} {s0 : Int32} : sm_R X 51 7 [.ref x0, sm_J] [.int s0] w Q ↔ sm_R X 51 8 [.ref x0, .int s0] [] w Q := sm_R_go d51_7 rfl
theorem d51_8 : decode (sm_code 51) 8 = .ok (.aload_n 0, 1) := by decide +kernel
theorem r51_8 {X : sm_X} {w : sm_W} {Q : Option Value → sm_W → Prop} {x0 : Nat} {x1 : Int32} : sm_R X 51 8 [.ref x0, .int x1] [] w Q ↔ sm_R X 51 9 [.ref x0, .int x1] [.ref x0] w Q := sm_R_go d51_8 rfl
theorem d51_9 : decode (sm_code 51) 9 = .ok (.getfield 33, 3) := by decide +kernel
theorem r51_9 {X : sm_X} {w : sm_W} {Q : Option Value → sm_W → Prop} {x0 : Nat} {x1 : Int32} {s0 : Nat} : sm_R X 51 9 [.ref x0, .int x1] [.ref s0] w Q ↔ sm_wp (sm_fld 6 4 (sm_at w s0)) (fun v => sm_R X 51 12 [.ref x0, .int x1] [v] w Q) := sm_q_getf d51_9 rfl (by decide)
theorem d51_12 : decode (sm_code 51) 12 = .ok (.iconst 0, 1) := by decide +kernel
theorem r51_12 {X : sm_X} {w : sm_W} {Q : Option Value → sm_W → Prop} {x0 : Nat} {x1 : Int32} {s0 : Nat} : sm_R X 51 12 [.ref x0, .int x1] [.ref s0] w Q ↔ sm_R X 51 13 [.ref x0, .int x1] [.int 0, .ref s0] w Q := sm_R_go d51_12 rfl
theorem d51_13 : decode (sm_code 51) 13 = .ok (.putfield 86, 3) := by decide +kernel
theorem r51_13 {X : sm_X} {w : sm_W} {Q : Option Value → sm_W → Prop} {x0 : Nat} {x1 : Int32} {s0 : Int32} {s1 : Nat} : sm_R X 51 13 [.ref x0, .int x1] [.int s0, .ref s1] w Q ↔ sm_wp (sm_pfl 1 1 (.int s0) (sm_at w s1)) (fun c => sm_R X 51 16 [.ref x0, .int x1] [] (w.set (s1 - 100) c) Q) := sm_q_putf d51_13 rfl rfl rfl (by decide)
theorem d51_16 : decode (sm_code 51) 16 = .ok (.iload_n 1, 1) := by decide +kernel
theorem r51_16 {X : sm_X} {w : sm_W} {Q : Option Value → sm_W → Prop} {x0 : Nat} {x1 : Int32} : sm_R X 51 16 [.ref x0, .int x1] [] w Q ↔ sm_R X 51 17 [.ref x0, .int x1] [.int x1] w Q := sm_R_go d51_16 rfl
theorem d51_17 : decode (sm_code 51) 17 = .ok (.ireturn, 1) := by decide +kernel
theorem r51_17 {X : sm_X} {w : sm_W} {Q : Option Value → sm_W → Prop} {x0 : Nat} {x1 : Int32} {s0 : Int32} : sm_R X 51 17 [.ref x0, .int x1] [.int s0] w Q ↔ Q (some (.int s0)) w := sm_q_iret d51_17 rfl
-- GroupLedger.balance(I)I
theorem d52_0 : decode (sm_code 52) 0 = .ok (.iload_n 1, 1) := by decide +kernel
theorem r52_0 {X : sm_X} {w : sm_W} {Q : Option Value → sm_W → Prop} {x0 : Nat} {x1 : Int32} : sm_R X 52 0 [.ref x0, .int x1] [] w Q ↔ sm_R X 52 1 [.ref x0, .int x1] [.int x1] w Q := sm_R_go d52_0 rfl
theorem d52_1 : decode (sm_code 52) 1 = .ok (.bipush 6, 2) := by decide +kernel
theorem r52_1 {X : sm_X} {w : sm_W} {Q : Option Value → sm_W → Prop} {x0 : Nat} {x1 : Int32} {s0 : Int32} : sm_R X 52 1 [.ref x0, .int x1] [.int s0] w Q ↔ sm_R X 52 3 [.ref x0, .int x1] [.int 6, .int s0] w Q := sm_R_go d52_1 rfl
theorem d52_3 : decode (sm_code 52) 3 = .ok (.invokestatic 50, 3) := by decide +kernel
theorem r52_3 {X : sm_X} {w : sm_W} {Q : Option Value → sm_W → Prop} {x0 : Nat} {x1 : Int32} {s0 : Int32} {s1 : Int32} : sm_R X 52 3 [.ref x0, .int x1] [.int s0, .int s1] w Q ↔ sm_R X 8 0 [.int s1, .int s0] [] w (fun v w => sm_R X 52 6 [.ref x0, .int x1] (v.toList ++ []) w Q) := sm_q_call (k := 8) (as := [.int s1, .int s0]) (rest := []) d52_3 rfl rfl
theorem d52_6 : decode (sm_code 52) 6 = .ok (.ifCond .eq 15, 3) := by decide +kernel
theorem r52_6 {X : sm_X} {w : sm_W} {Q : Option Value → sm_W → Prop} {x0 : Nat} {x1 : Int32} {s0 : Int32} : sm_R X 52 6 [.ref x0, .int x1] [.int s0] w Q ↔ (if s0 = 0 then sm_R X 52 21 [.ref x0, .int x1] [] w Q else sm_R X 52 9 [.ref x0, .int x1] [] w Q) := sm_q_br d52_6 rfl
theorem d52_9 : decode (sm_code 52) 9 = .ok (.aload_n 0, 1) := by decide +kernel
theorem r52_9 {X : sm_X} {w : sm_W} {Q : Option Value → sm_W → Prop} {x0 : Nat} {x1 : Int32} : sm_R X 52 9 [.ref x0, .int x1] [] w Q ↔ sm_R X 52 10 [.ref x0, .int x1] [.ref x0] w Q := sm_R_go d52_9 rfl
theorem d52_10 : decode (sm_code 52) 10 = .ok (.getfield 10, 3) := by decide +kernel
theorem r52_10 {X : sm_X} {w : sm_W} {Q : Option Value → sm_W → Prop} {x0 : Nat} {x1 : Int32} {s0 : Nat} : sm_R X 52 10 [.ref x0, .int x1] [.ref s0] w Q ↔ sm_wp (sm_fld 6 0 (sm_at w s0)) (fun v => sm_R X 52 13 [.ref x0, .int x1] [v] w Q) := sm_q_getf d52_10 rfl (by decide)
theorem d52_13 : decode (sm_code 52) 13 = .ok (.getfield 57, 3) := by decide +kernel
theorem r52_13 {X : sm_X} {w : sm_W} {Q : Option Value → sm_W → Prop} {x0 : Nat} {x1 : Int32} {s0 : Nat} : sm_R X 52 13 [.ref x0, .int x1] [.ref s0] w Q ↔ sm_wp (sm_fld 0 0 (sm_at w s0)) (fun v => sm_R X 52 16 [.ref x0, .int x1] [v] w Q) := sm_q_getf d52_13 rfl (by decide)
theorem d52_16 : decode (sm_code 52) 16 = .ok (.iload_n 1, 1) := by decide +kernel
theorem r52_16 {X : sm_X} {w : sm_W} {Q : Option Value → sm_W → Prop} {x0 : Nat} {x1 : Int32} {s0 : Nat} : sm_R X 52 16 [.ref x0, .int x1] [.ref s0] w Q ↔ sm_R X 52 17 [.ref x0, .int x1] [.int x1, .ref s0] w Q := sm_R_go d52_16 rfl
theorem d52_17 : decode (sm_code 52) 17 = .ok (.iaload, 1) := by decide +kernel
theorem r52_17 {X : sm_X} {w : sm_W} {Q : Option Value → sm_W → Prop} {x0 : Nat} {x1 : Int32} {s0 : Int32} {s1 : Nat} : sm_R X 52 17 [.ref x0, .int x1] [.int s0, .ref s1] w Q ↔ sm_wp (sm_ai s0 (sm_get X w s1)) (fun v => sm_R X 52 18 [.ref x0, .int x1] [.int v] w Q) := sm_q_iald d52_17
theorem d52_18 : decode (sm_code 52) 18 = .ok (.goto 4, 3) := by decide +kernel
theorem r52_18 {X : sm_X} {w : sm_W} {Q : Option Value → sm_W → Prop} {x0 : Nat} {x1 : Int32} {s0 : Int32} : sm_R X 52 18 [.ref x0, .int x1] [.int s0] w Q ↔ sm_R X 52 22 [.ref x0, .int x1] [.int s0] w Q := sm_R_go d52_18 rfl
theorem d52_21 : decode (sm_code 52) 21 = .ok (.iconst (-1), 1) := by decide +kernel
theorem r52_21 {X : sm_X} {w : sm_W} {Q : Option Value → sm_W → Prop} {x0 : Nat} {x1 : Int32} : sm_R X 52 21 [.ref x0, .int x1] [] w Q ↔ sm_R X 52 22 [.ref x0, .int x1] [.int (-1)] w Q := sm_R_go d52_21 rfl
theorem d52_22 : decode (sm_code 52) 22 = .ok (.ireturn, 1) := by decide +kernel
theorem r52_22 {X : sm_X} {w : sm_W} {Q : Option Value → sm_W → Prop} {x0 : Nat} {x1 : Int32} {s0 : Int32} : sm_R X 52 22 [.ref x0, .int x1] [.int s0] w Q ↔ Q (some (.int s0)) w := sm_q_iret d52_22 rfl
-- GroupLedger.global(II)I
theorem d53_0 : decode (sm_code 53) 0 = .ok (.iload_n 1, 1) := by decide +kernel
theorem r53_0 {X : sm_X} {w : sm_W} {Q : Option Value → sm_W → Prop} {x0 : Nat} {x1 : Int32} {x2 : Int32} : sm_R X 53 0 [.ref x0, .int x1, .int x2] [] w Q ↔ sm_R X 53 1 [.ref x0, .int x1, .int x2] [.int x1] w Q := sm_R_go d53_0 rfl
theorem d53_1 : decode (sm_code 53) 1 = .ok (.iconst 4, 1) := by decide +kernel
theorem r53_1 {X : sm_X} {w : sm_W} {Q : Option Value → sm_W → Prop} {x0 : Nat} {x1 : Int32} {x2 : Int32} {s0 : Int32} : sm_R X 53 1 [.ref x0, .int x1, .int x2] [.int s0] w Q ↔ sm_R X 53 2 [.ref x0, .int x1, .int x2] [.int 4, .int s0] w Q := sm_R_go d53_1 rfl
theorem d53_2 : decode (sm_code 53) 2 = .ok (.invokestatic 50, 3) := by decide +kernel
theorem r53_2 {X : sm_X} {w : sm_W} {Q : Option Value → sm_W → Prop} {x0 : Nat} {x1 : Int32} {x2 : Int32} {s0 : Int32} {s1 : Int32} : sm_R X 53 2 [.ref x0, .int x1, .int x2] [.int s0, .int s1] w Q ↔ sm_R X 8 0 [.int s1, .int s0] [] w (fun v w => sm_R X 53 5 [.ref x0, .int x1, .int x2] (v.toList ++ []) w Q) := sm_q_call (k := 8) (as := [.int s1, .int s0]) (rest := []) d53_2 rfl rfl
theorem d53_5 : decode (sm_code 53) 5 = .ok (.ifCond .eq 11, 3) := by decide +kernel
theorem r53_5 {X : sm_X} {w : sm_W} {Q : Option Value → sm_W → Prop} {x0 : Nat} {x1 : Int32} {x2 : Int32} {s0 : Int32} : sm_R X 53 5 [.ref x0, .int x1, .int x2] [.int s0] w Q ↔ (if s0 = 0 then sm_R X 53 16 [.ref x0, .int x1, .int x2] [] w Q else sm_R X 53 8 [.ref x0, .int x1, .int x2] [] w Q) := sm_q_br d53_5 rfl
theorem d53_8 : decode (sm_code 53) 8 = .ok (.iload_n 2, 1) := by decide +kernel
theorem r53_8 {X : sm_X} {w : sm_W} {Q : Option Value → sm_W → Prop} {x0 : Nat} {x1 : Int32} {x2 : Int32} : sm_R X 53 8 [.ref x0, .int x1, .int x2] [] w Q ↔ sm_R X 53 9 [.ref x0, .int x1, .int x2] [.int x2] w Q := sm_R_go d53_8 rfl
theorem d53_9 : decode (sm_code 53) 9 = .ok (.iconst 4, 1) := by decide +kernel
theorem r53_9 {X : sm_X} {w : sm_W} {Q : Option Value → sm_W → Prop} {x0 : Nat} {x1 : Int32} {x2 : Int32} {s0 : Int32} : sm_R X 53 9 [.ref x0, .int x1, .int x2] [.int s0] w Q ↔ sm_R X 53 10 [.ref x0, .int x1, .int x2] [.int 4, .int s0] w Q := sm_R_go d53_9 rfl
theorem d53_10 : decode (sm_code 53) 10 = .ok (.invokestatic 50, 3) := by decide +kernel
theorem r53_10 {X : sm_X} {w : sm_W} {Q : Option Value → sm_W → Prop} {x0 : Nat} {x1 : Int32} {x2 : Int32} {s0 : Int32} {s1 : Int32} : sm_R X 53 10 [.ref x0, .int x1, .int x2] [.int s0, .int s1] w Q ↔ sm_R X 8 0 [.int s1, .int s0] [] w (fun v w => sm_R X 53 13 [.ref x0, .int x1, .int x2] (v.toList ++ []) w Q) := sm_q_call (k := 8) (as := [.int s1, .int s0]) (rest := []) d53_10 rfl rfl
theorem d53_13 : decode (sm_code 53) 13 = .ok (.ifCond .ne 5, 3) := by decide +kernel
theorem r53_13 {X : sm_X} {w : sm_W} {Q : Option Value → sm_W → Prop} {x0 : Nat} {x1 : Int32} {x2 : Int32} {s0 : Int32} : sm_R X 53 13 [.ref x0, .int x1, .int x2] [.int s0] w Q ↔ (if s0 = 0 then sm_R X 53 16 [.ref x0, .int x1, .int x2] [] w Q else sm_R X 53 18 [.ref x0, .int x1, .int x2] [] w Q) := sm_q_br d53_13 rfl
theorem d53_16 : decode (sm_code 53) 16 = .ok (.iconst (-1), 1) := by decide +kernel
theorem r53_16 {X : sm_X} {w : sm_W} {Q : Option Value → sm_W → Prop} {x0 : Nat} {x1 : Int32} {x2 : Int32} : sm_R X 53 16 [.ref x0, .int x1, .int x2] [] w Q ↔ sm_R X 53 17 [.ref x0, .int x1, .int x2] [.int (-1)] w Q := sm_R_go d53_16 rfl
theorem d53_17 : decode (sm_code 53) 17 = .ok (.ireturn, 1) := by decide +kernel
theorem r53_17 {X : sm_X} {w : sm_W} {Q : Option Value → sm_W → Prop} {x0 : Nat} {x1 : Int32} {x2 : Int32} {s0 : Int32} : sm_R X 53 17 [.ref x0, .int x1, .int x2] [.int s0] w Q ↔ Q (some (.int s0)) w := sm_q_iret d53_17 rfl
theorem d53_18 : decode (sm_code 53) 18 = .ok (.aload_n 0, 1) := by decide +kernel
theorem r53_18 {X : sm_X} {w : sm_W} {Q : Option Value → sm_W → Prop} {x0 : Nat} {x1 : Int32} {x2 : Int32} : sm_R X 53 18 [.ref x0, .int x1, .int x2] [] w Q ↔ sm_R X 53 19 [.ref x0, .int x1, .int x2] [.ref x0] w Q := sm_R_go d53_18 rfl
theorem d53_19 : decode (sm_code 53) 19 = .ok (.getfield 10, 3) := by decide +kernel
theorem r53_19 {X : sm_X} {w : sm_W} {Q : Option Value → sm_W → Prop} {x0 : Nat} {x1 : Int32} {x2 : Int32} {s0 : Nat} : sm_R X 53 19 [.ref x0, .int x1, .int x2] [.ref s0] w Q ↔ sm_wp (sm_fld 6 0 (sm_at w s0)) (fun v => sm_R X 53 22 [.ref x0, .int x1, .int x2] [v] w Q) := sm_q_getf d53_19 rfl (by decide)
theorem d53_22 : decode (sm_code 53) 22 = .ok (.getfield 117, 3) := by decide +kernel
theorem r53_22 {X : sm_X} {w : sm_W} {Q : Option Value → sm_W → Prop} {x0 : Nat} {x1 : Int32} {x2 : Int32} {s0 : Nat} : sm_R X 53 22 [.ref x0, .int x1, .int x2] [.ref s0] w Q ↔ sm_wp (sm_fld 0 1 (sm_at w s0)) (fun v => sm_R X 53 25 [.ref x0, .int x1, .int x2] [v] w Q) := sm_q_getf d53_22 rfl (by decide)
theorem d53_25 : decode (sm_code 53) 25 = .ok (.iload_n 1, 1) := by decide +kernel
theorem r53_25 {X : sm_X} {w : sm_W} {Q : Option Value → sm_W → Prop} {x0 : Nat} {x1 : Int32} {x2 : Int32} {s0 : Nat} : sm_R X 53 25 [.ref x0, .int x1, .int x2] [.ref s0] w Q ↔ sm_R X 53 26 [.ref x0, .int x1, .int x2] [.int x1, .ref s0] w Q := sm_R_go d53_25 rfl
theorem d53_26 : decode (sm_code 53) 26 = .ok (.aaload, 1) := by decide +kernel
theorem r53_26 {X : sm_X} {w : sm_W} {Q : Option Value → sm_W → Prop} {x0 : Nat} {x1 : Int32} {x2 : Int32} {s0 : Int32} {s1 : Nat} : sm_R X 53 26 [.ref x0, .int x1, .int x2] [.int s0, .ref s1] w Q ↔ sm_wp (sm_aa s1 s0 (sm_get X w s1)) (fun v => sm_R X 53 27 [.ref x0, .int x1, .int x2] [.ref v] w Q) := sm_q_aald d53_26
theorem d53_27 : decode (sm_code 53) 27 = .ok (.iload_n 2, 1) := by decide +kernel
theorem r53_27 {X : sm_X} {w : sm_W} {Q : Option Value → sm_W → Prop} {x0 : Nat} {x1 : Int32} {x2 : Int32} {s0 : Nat} : sm_R X 53 27 [.ref x0, .int x1, .int x2] [.ref s0] w Q ↔ sm_R X 53 28 [.ref x0, .int x1, .int x2] [.int x2, .ref s0] w Q := sm_R_go d53_27 rfl
theorem d53_28 : decode (sm_code 53) 28 = .ok (.iaload, 1) := by decide +kernel
theorem r53_28 {X : sm_X} {w : sm_W} {Q : Option Value → sm_W → Prop} {x0 : Nat} {x1 : Int32} {x2 : Int32} {s0 : Int32} {s1 : Nat} : sm_R X 53 28 [.ref x0, .int x1, .int x2] [.int s0, .ref s1] w Q ↔ sm_wp (sm_ai s0 (sm_get X w s1)) (fun v => sm_R X 53 29 [.ref x0, .int x1, .int x2] [.int v] w Q) := sm_q_iald d53_28
theorem d53_29 : decode (sm_code 53) 29 = .ok (.ireturn, 1) := by decide +kernel
theorem r53_29 {X : sm_X} {w : sm_W} {Q : Option Value → sm_W → Prop} {x0 : Nat} {x1 : Int32} {x2 : Int32} {s0 : Int32} : sm_R X 53 29 [.ref x0, .int x1, .int x2] [.int s0] w Q ↔ Q (some (.int s0)) w := sm_q_iret d53_29 rfl
-- GroupLedger.local(III)I
theorem d54_0 : decode (sm_code 54) 0 = .ok (.iload_n 1, 1) := by decide +kernel
theorem r54_0 {X : sm_X} {w : sm_W} {Q : Option Value → sm_W → Prop} {x0 : Nat} {x1 : Int32} {x2 : Int32} {x3 : Int32} : sm_R X 54 0 [.ref x0, .int x1, .int x2, .int x3] [] w Q ↔ sm_R X 54 1 [.ref x0, .int x1, .int x2, .int x3] [.int x1] w Q := sm_R_go d54_0 rfl
theorem d54_1 : decode (sm_code 54) 1 = .ok (.iconst 4, 1) := by decide +kernel
theorem r54_1 {X : sm_X} {w : sm_W} {Q : Option Value → sm_W → Prop} {x0 : Nat} {x1 : Int32} {x2 : Int32} {x3 : Int32} {s0 : Int32} : sm_R X 54 1 [.ref x0, .int x1, .int x2, .int x3] [.int s0] w Q ↔ sm_R X 54 2 [.ref x0, .int x1, .int x2, .int x3] [.int 4, .int s0] w Q := sm_R_go d54_1 rfl
theorem d54_2 : decode (sm_code 54) 2 = .ok (.invokestatic 50, 3) := by decide +kernel
theorem r54_2 {X : sm_X} {w : sm_W} {Q : Option Value → sm_W → Prop} {x0 : Nat} {x1 : Int32} {x2 : Int32} {x3 : Int32} {s0 : Int32} {s1 : Int32} : sm_R X 54 2 [.ref x0, .int x1, .int x2, .int x3] [.int s0, .int s1] w Q ↔ sm_R X 8 0 [.int s1, .int s0] [] w (fun v w => sm_R X 54 5 [.ref x0, .int x1, .int x2, .int x3] (v.toList ++ []) w Q) := sm_q_call (k := 8) (as := [.int s1, .int s0]) (rest := []) d54_2 rfl rfl
theorem d54_5 : decode (sm_code 54) 5 = .ok (.ifCond .eq 20, 3) := by decide +kernel
theorem r54_5 {X : sm_X} {w : sm_W} {Q : Option Value → sm_W → Prop} {x0 : Nat} {x1 : Int32} {x2 : Int32} {x3 : Int32} {s0 : Int32} : sm_R X 54 5 [.ref x0, .int x1, .int x2, .int x3] [.int s0] w Q ↔ (if s0 = 0 then sm_R X 54 25 [.ref x0, .int x1, .int x2, .int x3] [] w Q else sm_R X 54 8 [.ref x0, .int x1, .int x2, .int x3] [] w Q) := sm_q_br d54_5 rfl
theorem d54_8 : decode (sm_code 54) 8 = .ok (.iload_n 2, 1) := by decide +kernel
theorem r54_8 {X : sm_X} {w : sm_W} {Q : Option Value → sm_W → Prop} {x0 : Nat} {x1 : Int32} {x2 : Int32} {x3 : Int32} : sm_R X 54 8 [.ref x0, .int x1, .int x2, .int x3] [] w Q ↔ sm_R X 54 9 [.ref x0, .int x1, .int x2, .int x3] [.int x2] w Q := sm_R_go d54_8 rfl
theorem d54_9 : decode (sm_code 54) 9 = .ok (.bipush 6, 2) := by decide +kernel
theorem r54_9 {X : sm_X} {w : sm_W} {Q : Option Value → sm_W → Prop} {x0 : Nat} {x1 : Int32} {x2 : Int32} {x3 : Int32} {s0 : Int32} : sm_R X 54 9 [.ref x0, .int x1, .int x2, .int x3] [.int s0] w Q ↔ sm_R X 54 11 [.ref x0, .int x1, .int x2, .int x3] [.int 6, .int s0] w Q := sm_R_go d54_9 rfl
theorem d54_11 : decode (sm_code 54) 11 = .ok (.invokestatic 50, 3) := by decide +kernel
theorem r54_11 {X : sm_X} {w : sm_W} {Q : Option Value → sm_W → Prop} {x0 : Nat} {x1 : Int32} {x2 : Int32} {x3 : Int32} {s0 : Int32} {s1 : Int32} : sm_R X 54 11 [.ref x0, .int x1, .int x2, .int x3] [.int s0, .int s1] w Q ↔ sm_R X 8 0 [.int s1, .int s0] [] w (fun v w => sm_R X 54 14 [.ref x0, .int x1, .int x2, .int x3] (v.toList ++ []) w Q) := sm_q_call (k := 8) (as := [.int s1, .int s0]) (rest := []) d54_11 rfl rfl
theorem d54_14 : decode (sm_code 54) 14 = .ok (.ifCond .eq 11, 3) := by decide +kernel
theorem r54_14 {X : sm_X} {w : sm_W} {Q : Option Value → sm_W → Prop} {x0 : Nat} {x1 : Int32} {x2 : Int32} {x3 : Int32} {s0 : Int32} : sm_R X 54 14 [.ref x0, .int x1, .int x2, .int x3] [.int s0] w Q ↔ (if s0 = 0 then sm_R X 54 25 [.ref x0, .int x1, .int x2, .int x3] [] w Q else sm_R X 54 17 [.ref x0, .int x1, .int x2, .int x3] [] w Q) := sm_q_br d54_14 rfl
theorem d54_17 : decode (sm_code 54) 17 = .ok (.iload_n 3, 1) := by decide +kernel
theorem r54_17 {X : sm_X} {w : sm_W} {Q : Option Value → sm_W → Prop} {x0 : Nat} {x1 : Int32} {x2 : Int32} {x3 : Int32} : sm_R X 54 17 [.ref x0, .int x1, .int x2, .int x3] [] w Q ↔ sm_R X 54 18 [.ref x0, .int x1, .int x2, .int x3] [.int x3] w Q := sm_R_go d54_17 rfl
theorem d54_18 : decode (sm_code 54) 18 = .ok (.iconst 2, 1) := by decide +kernel
theorem r54_18 {X : sm_X} {w : sm_W} {Q : Option Value → sm_W → Prop} {x0 : Nat} {x1 : Int32} {x2 : Int32} {x3 : Int32} {s0 : Int32} : sm_R X 54 18 [.ref x0, .int x1, .int x2, .int x3] [.int s0] w Q ↔ sm_R X 54 19 [.ref x0, .int x1, .int x2, .int x3] [.int 2, .int s0] w Q := sm_R_go d54_18 rfl
theorem d54_19 : decode (sm_code 54) 19 = .ok (.invokestatic 50, 3) := by decide +kernel
theorem r54_19 {X : sm_X} {w : sm_W} {Q : Option Value → sm_W → Prop} {x0 : Nat} {x1 : Int32} {x2 : Int32} {x3 : Int32} {s0 : Int32} {s1 : Int32} : sm_R X 54 19 [.ref x0, .int x1, .int x2, .int x3] [.int s0, .int s1] w Q ↔ sm_R X 8 0 [.int s1, .int s0] [] w (fun v w => sm_R X 54 22 [.ref x0, .int x1, .int x2, .int x3] (v.toList ++ []) w Q) := sm_q_call (k := 8) (as := [.int s1, .int s0]) (rest := []) d54_19 rfl rfl
theorem d54_22 : decode (sm_code 54) 22 = .ok (.ifCond .ne 5, 3) := by decide +kernel
theorem r54_22 {X : sm_X} {w : sm_W} {Q : Option Value → sm_W → Prop} {x0 : Nat} {x1 : Int32} {x2 : Int32} {x3 : Int32} {s0 : Int32} : sm_R X 54 22 [.ref x0, .int x1, .int x2, .int x3] [.int s0] w Q ↔ (if s0 = 0 then sm_R X 54 25 [.ref x0, .int x1, .int x2, .int x3] [] w Q else sm_R X 54 27 [.ref x0, .int x1, .int x2, .int x3] [] w Q) := sm_q_br d54_22 rfl
theorem d54_25 : decode (sm_code 54) 25 = .ok (.iconst (-1), 1) := by decide +kernel
theorem r54_25 {X : sm_X} {w : sm_W} {Q : Option Value → sm_W → Prop} {x0 : Nat} {x1 : Int32} {x2 : Int32} {x3 : Int32} : sm_R X 54 25 [.ref x0, .int x1, .int x2, .int x3] [] w Q ↔ sm_R X 54 26 [.ref x0, .int x1, .int x2, .int x3] [.int (-1)] w Q := sm_R_go d54_25 rfl
theorem d54_26 : decode (sm_code 54) 26 = .ok (.ireturn, 1) := by decide +kernel
theorem r54_26 {X : sm_X} {w : sm_W} {Q : Option Value → sm_W → Prop} {x0 : Nat} {x1 : Int32} {x2 : Int32} {x3 : Int32} {s0 : Int32} : sm_R X 54 26 [.ref x0, .int x1, .int x2, .int x3] [.int s0] w Q ↔ Q (some (.int s0)) w := sm_q_iret d54_26 rfl
theorem d54_27 : decode (sm_code 54) 27 = .ok (.aload_n 0, 1) := by decide +kernel
theorem r54_27 {X : sm_X} {w : sm_W} {Q : Option Value → sm_W → Prop} {x0 : Nat} {x1 : Int32} {x2 : Int32} {x3 : Int32} : sm_R X 54 27 [.ref x0, .int x1, .int x2, .int x3] [] w Q ↔ sm_R X 54 28 [.ref x0, .int x1, .int x2, .int x3] [.ref x0] w Q := sm_R_go d54_27 rfl
theorem d54_28 : decode (sm_code 54) 28 = .ok (.getfield 10, 3) := by decide +kernel
theorem r54_28 {X : sm_X} {w : sm_W} {Q : Option Value → sm_W → Prop} {x0 : Nat} {x1 : Int32} {x2 : Int32} {x3 : Int32} {s0 : Nat} : sm_R X 54 28 [.ref x0, .int x1, .int x2, .int x3] [.ref s0] w Q ↔ sm_wp (sm_fld 6 0 (sm_at w s0)) (fun v => sm_R X 54 31 [.ref x0, .int x1, .int x2, .int x3] [v] w Q) := sm_q_getf d54_28 rfl (by decide)
theorem d54_31 : decode (sm_code 54) 31 = .ok (.iload_n 1, 1) := by decide +kernel
theorem r54_31 {X : sm_X} {w : sm_W} {Q : Option Value → sm_W → Prop} {x0 : Nat} {x1 : Int32} {x2 : Int32} {x3 : Int32} {s0 : Nat} : sm_R X 54 31 [.ref x0, .int x1, .int x2, .int x3] [.ref s0] w Q ↔ sm_R X 54 32 [.ref x0, .int x1, .int x2, .int x3] [.int x1, .ref s0] w Q := sm_R_go d54_31 rfl
theorem d54_32 : decode (sm_code 54) 32 = .ok (.iload_n 2, 1) := by decide +kernel
theorem r54_32 {X : sm_X} {w : sm_W} {Q : Option Value → sm_W → Prop} {x0 : Nat} {x1 : Int32} {x2 : Int32} {x3 : Int32} {s0 : Int32} {s1 : Nat} : sm_R X 54 32 [.ref x0, .int x1, .int x2, .int x3] [.int s0, .ref s1] w Q ↔ sm_R X 54 33 [.ref x0, .int x1, .int x2, .int x3] [.int x2, .int s0, .ref s1] w Q := sm_R_go d54_32 rfl
theorem d54_33 : decode (sm_code 54) 33 = .ok (.invokevirtual 121, 3) := by decide +kernel
theorem r54_33 {X : sm_X} {w : sm_W} {Q : Option Value → sm_W → Prop} {x0 : Nat} {x1 : Int32} {x2 : Int32} {x3 : Int32} {s0 : Int32} {s1 : Int32} {s2 : Nat} : sm_R X 54 33 [.ref x0, .int x1, .int x2, .int x3] [.int s0, .int s1, .ref s2] w Q ↔ (sm_cN (sm_at w s2) = some 0 ∧ sm_R X 27 0 [.ref s2, .int s1, .int s0] [] w (fun v w => sm_R X 54 36 [.ref x0, .int x1, .int x2, .int x3] (v.toList ++ []) w Q)) := sm_q_vir (k := 27) (as := [.ref s2, .int s1, .int s0]) (rest := []) d54_33 rfl rfl rfl rfl rfl
theorem d54_36 : decode (sm_code 54) 36 = .ok (.ifCond .eq 21, 3) := by decide +kernel
theorem r54_36 {X : sm_X} {w : sm_W} {Q : Option Value → sm_W → Prop} {x0 : Nat} {x1 : Int32} {x2 : Int32} {x3 : Int32} {s0 : Int32} : sm_R X 54 36 [.ref x0, .int x1, .int x2, .int x3] [.int s0] w Q ↔ (if s0 = 0 then sm_R X 54 57 [.ref x0, .int x1, .int x2, .int x3] [] w Q else sm_R X 54 39 [.ref x0, .int x1, .int x2, .int x3] [] w Q) := sm_q_br d54_36 rfl
theorem d54_39 : decode (sm_code 54) 39 = .ok (.aload_n 0, 1) := by decide +kernel
theorem r54_39 {X : sm_X} {w : sm_W} {Q : Option Value → sm_W → Prop} {x0 : Nat} {x1 : Int32} {x2 : Int32} {x3 : Int32} : sm_R X 54 39 [.ref x0, .int x1, .int x2, .int x3] [] w Q ↔ sm_R X 54 40 [.ref x0, .int x1, .int x2, .int x3] [.ref x0] w Q := sm_R_go d54_39 rfl
theorem d54_40 : decode (sm_code 54) 40 = .ok (.getfield 10, 3) := by decide +kernel
theorem r54_40 {X : sm_X} {w : sm_W} {Q : Option Value → sm_W → Prop} {x0 : Nat} {x1 : Int32} {x2 : Int32} {x3 : Int32} {s0 : Nat} : sm_R X 54 40 [.ref x0, .int x1, .int x2, .int x3] [.ref s0] w Q ↔ sm_wp (sm_fld 6 0 (sm_at w s0)) (fun v => sm_R X 54 43 [.ref x0, .int x1, .int x2, .int x3] [v] w Q) := sm_q_getf d54_40 rfl (by decide)
theorem d54_43 : decode (sm_code 54) 43 = .ok (.getfield 124, 3) := by decide +kernel
theorem r54_43 {X : sm_X} {w : sm_W} {Q : Option Value → sm_W → Prop} {x0 : Nat} {x1 : Int32} {x2 : Int32} {x3 : Int32} {s0 : Nat} : sm_R X 54 43 [.ref x0, .int x1, .int x2, .int x3] [.ref s0] w Q ↔ sm_wp (sm_fld 0 2 (sm_at w s0)) (fun v => sm_R X 54 46 [.ref x0, .int x1, .int x2, .int x3] [v] w Q) := sm_q_getf d54_43 rfl (by decide)
theorem d54_46 : decode (sm_code 54) 46 = .ok (.iload_n 1, 1) := by decide +kernel
theorem r54_46 {X : sm_X} {w : sm_W} {Q : Option Value → sm_W → Prop} {x0 : Nat} {x1 : Int32} {x2 : Int32} {x3 : Int32} {s0 : Nat} : sm_R X 54 46 [.ref x0, .int x1, .int x2, .int x3] [.ref s0] w Q ↔ sm_R X 54 47 [.ref x0, .int x1, .int x2, .int x3] [.int x1, .ref s0] w Q := sm_R_go d54_46 rfl
theorem d54_47 : decode (sm_code 54) 47 = .ok (.aaload, 1) := by decide +kernel
theorem r54_47 {X : sm_X} {w : sm_W} {Q : Option Value → sm_W → Prop} {x0 : Nat} {x1 : Int32} {x2 : Int32} {x3 : Int32} {s0 : Int32} {s1 : Nat} : sm_R X 54 47 [.ref x0, .int x1, .int x2, .int x3] [.int s0, .ref s1] w Q ↔ sm_wp (sm_aa s1 s0 (sm_get X w s1)) (fun v => sm_R X 54 48 [.ref x0, .int x1, .int x2, .int x3] [.ref v] w Q) := sm_q_aald d54_47
theorem d54_48 : decode (sm_code 54) 48 = .ok (.iload_n 2, 1) := by decide +kernel
theorem r54_48 {X : sm_X} {w : sm_W} {Q : Option Value → sm_W → Prop} {x0 : Nat} {x1 : Int32} {x2 : Int32} {x3 : Int32} {s0 : Nat} : sm_R X 54 48 [.ref x0, .int x1, .int x2, .int x3] [.ref s0] w Q ↔ sm_R X 54 49 [.ref x0, .int x1, .int x2, .int x3] [.int x2, .ref s0] w Q := sm_R_go d54_48 rfl
theorem d54_49 : decode (sm_code 54) 49 = .ok (.iconst 2, 1) := by decide +kernel
theorem r54_49 {X : sm_X} {w : sm_W} {Q : Option Value → sm_W → Prop} {x0 : Nat} {x1 : Int32} {x2 : Int32} {x3 : Int32} {s0 : Int32} {s1 : Nat} : sm_R X 54 49 [.ref x0, .int x1, .int x2, .int x3] [.int s0, .ref s1] w Q ↔ sm_R X 54 50 [.ref x0, .int x1, .int x2, .int x3] [.int 2, .int s0, .ref s1] w Q := sm_R_go d54_49 rfl
theorem d54_50 : decode (sm_code 54) 50 = .ok (.imul, 1) := by decide +kernel
theorem r54_50 {X : sm_X} {w : sm_W} {Q : Option Value → sm_W → Prop} {x0 : Nat} {x1 : Int32} {x2 : Int32} {x3 : Int32} {s0 : Int32} {s1 : Int32} {s2 : Nat} : sm_R X 54 50 [.ref x0, .int x1, .int x2, .int x3] [.int s0, .int s1, .ref s2] w Q ↔ sm_R X 54 51 [.ref x0, .int x1, .int x2, .int x3] [.int (s1 * s0), .ref s2] w Q := sm_R_go d54_50 rfl
theorem d54_51 : decode (sm_code 54) 51 = .ok (.iload_n 3, 1) := by decide +kernel
theorem r54_51 {X : sm_X} {w : sm_W} {Q : Option Value → sm_W → Prop} {x0 : Nat} {x1 : Int32} {x2 : Int32} {x3 : Int32} {s0 : Int32} {s1 : Nat} : sm_R X 54 51 [.ref x0, .int x1, .int x2, .int x3] [.int s0, .ref s1] w Q ↔ sm_R X 54 52 [.ref x0, .int x1, .int x2, .int x3] [.int x3, .int s0, .ref s1] w Q := sm_R_go d54_51 rfl
theorem d54_52 : decode (sm_code 54) 52 = .ok (.iadd, 1) := by decide +kernel
theorem r54_52 {X : sm_X} {w : sm_W} {Q : Option Value → sm_W → Prop} {x0 : Nat} {x1 : Int32} {x2 : Int32} {x3 : Int32} {s0 : Int32} {s1 : Int32} {s2 : Nat} : sm_R X 54 52 [.ref x0, .int x1, .int x2, .int x3] [.int s0, .int s1, .ref s2] w Q ↔ sm_R X 54 53 [.ref x0, .int x1, .int x2, .int x3] [.int (s1 + s0), .ref s2] w Q := sm_R_go d54_52 rfl
theorem d54_53 : decode (sm_code 54) 53 = .ok (.iaload, 1) := by decide +kernel
theorem r54_53 {X : sm_X} {w : sm_W} {Q : Option Value → sm_W → Prop} {x0 : Nat} {x1 : Int32} {x2 : Int32} {x3 : Int32} {s0 : Int32} {s1 : Nat} : sm_R X 54 53 [.ref x0, .int x1, .int x2, .int x3] [.int s0, .ref s1] w Q ↔ sm_wp (sm_ai s0 (sm_get X w s1)) (fun v => sm_R X 54 54 [.ref x0, .int x1, .int x2, .int x3] [.int v] w Q) := sm_q_iald d54_53
theorem d54_54 : decode (sm_code 54) 54 = .ok (.goto 5, 3) := by decide +kernel
theorem r54_54 {X : sm_X} {w : sm_W} {Q : Option Value → sm_W → Prop} {x0 : Nat} {x1 : Int32} {x2 : Int32} {x3 : Int32} {s0 : Int32} : sm_R X 54 54 [.ref x0, .int x1, .int x2, .int x3] [.int s0] w Q ↔ sm_R X 54 59 [.ref x0, .int x1, .int x2, .int x3] [.int s0] w Q := sm_R_go d54_54 rfl
theorem d54_57 : decode (sm_code 54) 57 = .ok (.bipush (-3), 2) := by decide +kernel
theorem r54_57 {X : sm_X} {w : sm_W} {Q : Option Value → sm_W → Prop} {x0 : Nat} {x1 : Int32} {x2 : Int32} {x3 : Int32} : sm_R X 54 57 [.ref x0, .int x1, .int x2, .int x3] [] w Q ↔ sm_R X 54 59 [.ref x0, .int x1, .int x2, .int x3] [.int (-3)] w Q := sm_R_go d54_57 rfl
theorem d54_59 : decode (sm_code 54) 59 = .ok (.ireturn, 1) := by decide +kernel
theorem r54_59 {X : sm_X} {w : sm_W} {Q : Option Value → sm_W → Prop} {x0 : Nat} {x1 : Int32} {x2 : Int32} {x3 : Int32} {s0 : Int32} : sm_R X 54 59 [.ref x0, .int x1, .int x2, .int x3] [.int s0] w Q ↔ Q (some (.int s0)) w := sm_q_iret d54_59 rfl
-- GroupLedger.least(I)I
theorem d55_0 : decode (sm_code 55) 0 = .ok (.iload_n 1, 1) := by decide +kernel
theorem r55_0 {X : sm_X} {w : sm_W} {Q : Option Value → sm_W → Prop} {x0 : Nat} {x1 : Int32} : sm_R X 55 0 [.ref x0, .int x1] [] w Q ↔ sm_R X 55 1 [.ref x0, .int x1] [.int x1] w Q := sm_R_go d55_0 rfl
theorem d55_1 : decode (sm_code 55) 1 = .ok (.bipush 6, 2) := by decide +kernel
theorem r55_1 {X : sm_X} {w : sm_W} {Q : Option Value → sm_W → Prop} {x0 : Nat} {x1 : Int32} {s0 : Int32} : sm_R X 55 1 [.ref x0, .int x1] [.int s0] w Q ↔ sm_R X 55 3 [.ref x0, .int x1] [.int 6, .int s0] w Q := sm_R_go d55_1 rfl
theorem d55_3 : decode (sm_code 55) 3 = .ok (.invokestatic 50, 3) := by decide +kernel
theorem r55_3 {X : sm_X} {w : sm_W} {Q : Option Value → sm_W → Prop} {x0 : Nat} {x1 : Int32} {s0 : Int32} {s1 : Int32} : sm_R X 55 3 [.ref x0, .int x1] [.int s0, .int s1] w Q ↔ sm_R X 8 0 [.int s1, .int s0] [] w (fun v w => sm_R X 55 6 [.ref x0, .int x1] (v.toList ++ []) w Q) := sm_q_call (k := 8) (as := [.int s1, .int s0]) (rest := []) d55_3 rfl rfl
theorem d55_6 : decode (sm_code 55) 6 = .ok (.ifCond .eq 14, 3) := by decide +kernel
theorem r55_6 {X : sm_X} {w : sm_W} {Q : Option Value → sm_W → Prop} {x0 : Nat} {x1 : Int32} {s0 : Int32} : sm_R X 55 6 [.ref x0, .int x1] [.int s0] w Q ↔ (if s0 = 0 then sm_R X 55 20 [.ref x0, .int x1] [] w Q else sm_R X 55 9 [.ref x0, .int x1] [] w Q) := sm_q_br d55_6 rfl
theorem d55_9 : decode (sm_code 55) 9 = .ok (.aload_n 0, 1) := by decide +kernel
theorem r55_9 {X : sm_X} {w : sm_W} {Q : Option Value → sm_W → Prop} {x0 : Nat} {x1 : Int32} : sm_R X 55 9 [.ref x0, .int x1] [] w Q ↔ sm_R X 55 10 [.ref x0, .int x1] [.ref x0] w Q := sm_R_go d55_9 rfl
theorem d55_10 : decode (sm_code 55) 10 = .ok (.getfield 10, 3) := by decide +kernel
theorem r55_10 {X : sm_X} {w : sm_W} {Q : Option Value → sm_W → Prop} {x0 : Nat} {x1 : Int32} {s0 : Nat} : sm_R X 55 10 [.ref x0, .int x1] [.ref s0] w Q ↔ sm_wp (sm_fld 6 0 (sm_at w s0)) (fun v => sm_R X 55 13 [.ref x0, .int x1] [v] w Q) := sm_q_getf d55_10 rfl (by decide)
theorem d55_13 : decode (sm_code 55) 13 = .ok (.iload_n 1, 1) := by decide +kernel
theorem r55_13 {X : sm_X} {w : sm_W} {Q : Option Value → sm_W → Prop} {x0 : Nat} {x1 : Int32} {s0 : Nat} : sm_R X 55 13 [.ref x0, .int x1] [.ref s0] w Q ↔ sm_R X 55 14 [.ref x0, .int x1] [.int x1, .ref s0] w Q := sm_R_go d55_13 rfl
theorem d55_14 : decode (sm_code 55) 14 = .ok (.invokevirtual 127, 3) := by decide +kernel
theorem r55_14 {X : sm_X} {w : sm_W} {Q : Option Value → sm_W → Prop} {x0 : Nat} {x1 : Int32} {s0 : Int32} {s1 : Nat} : sm_R X 55 14 [.ref x0, .int x1] [.int s0, .ref s1] w Q ↔ (sm_cN (sm_at w s1) = some 0 ∧ sm_R X 49 0 [.ref s1, .int s0] [] w (fun v w => sm_R X 55 17 [.ref x0, .int x1] (v.toList ++ []) w Q)) := sm_q_vir (k := 49) (as := [.ref s1, .int s0]) (rest := []) d55_14 rfl rfl rfl rfl rfl
theorem d55_17 : decode (sm_code 55) 17 = .ok (.goto 4, 3) := by decide +kernel
theorem r55_17 {X : sm_X} {w : sm_W} {Q : Option Value → sm_W → Prop} {x0 : Nat} {x1 : Int32} {s0 : Int32} : sm_R X 55 17 [.ref x0, .int x1] [.int s0] w Q ↔ sm_R X 55 21 [.ref x0, .int x1] [.int s0] w Q := sm_R_go d55_17 rfl
theorem d55_20 : decode (sm_code 55) 20 = .ok (.iconst (-1), 1) := by decide +kernel
theorem r55_20 {X : sm_X} {w : sm_W} {Q : Option Value → sm_W → Prop} {x0 : Nat} {x1 : Int32} : sm_R X 55 20 [.ref x0, .int x1] [] w Q ↔ sm_R X 55 21 [.ref x0, .int x1] [.int (-1)] w Q := sm_R_go d55_20 rfl
theorem d55_21 : decode (sm_code 55) 21 = .ok (.ireturn, 1) := by decide +kernel
theorem r55_21 {X : sm_X} {w : sm_W} {Q : Option Value → sm_W → Prop} {x0 : Nat} {x1 : Int32} {s0 : Int32} : sm_R X 55 21 [.ref x0, .int x1] [.int s0] w Q ↔ Q (some (.int s0)) w := sm_q_iret d55_21 rfl
-- GroupLedger.report(I)I
theorem d56_0 : decode (sm_code 56) 0 = .ok (.aload_n 0, 1) := by decide +kernel
theorem r56_0 {X : sm_X} {w : sm_W} {Q : Option Value → sm_W → Prop} {x0 : Nat} {x1 : Int32} : sm_R X 56 0 [.ref x0, .int x1, sm_J] [] w Q ↔ sm_R X 56 1 [.ref x0, .int x1, sm_J] [.ref x0] w Q := sm_R_go d56_0 rfl
theorem d56_1 : decode (sm_code 56) 1 = .ok (.getfield 111, 3) := by decide +kernel
theorem r56_1 {X : sm_X} {w : sm_W} {Q : Option Value → sm_W → Prop} {x0 : Nat} {x1 : Int32} {s0 : Nat} : sm_R X 56 1 [.ref x0, .int x1, sm_J] [.ref s0] w Q ↔ sm_wp (sm_fld 6 7 (sm_at w s0)) (fun v => sm_R X 56 4 [.ref x0, .int x1, sm_J] [v] w Q) := sm_q_getf d56_1 rfl (by decide)
theorem d56_4 : decode (sm_code 56) 4 = .ok (.aload_n 0, 1) := by decide +kernel
theorem r56_4 {X : sm_X} {w : sm_W} {Q : Option Value → sm_W → Prop} {x0 : Nat} {x1 : Int32} {s0 : Int32} : sm_R X 56 4 [.ref x0, .int x1, sm_J] [.int s0] w Q ↔ sm_R X 56 5 [.ref x0, .int x1, sm_J] [.ref x0, .int s0] w Q := sm_R_go d56_4 rfl
theorem d56_5 : decode (sm_code 56) 5 = .ok (.getfield 114, 3) := by decide +kernel
theorem r56_5 {X : sm_X} {w : sm_W} {Q : Option Value → sm_W → Prop} {x0 : Nat} {x1 : Int32} {s0 : Nat} {s1 : Int32} : sm_R X 56 5 [.ref x0, .int x1, sm_J] [.ref s0, .int s1] w Q ↔ sm_wp (sm_fld 6 8 (sm_at w s0)) (fun v => sm_R X 56 8 [.ref x0, .int x1, sm_J] [v, .int s1] w Q) := sm_q_getf d56_5 rfl (by decide)
theorem d56_8 : decode (sm_code 56) 8 = .ok (.iadd, 1) := by decide +kernel
theorem r56_8 {X : sm_X} {w : sm_W} {Q : Option Value → sm_W → Prop} {x0 : Nat} {x1 : Int32} {s0 : Int32} {s1 : Int32} : sm_R X 56 8 [.ref x0, .int x1, sm_J] [.int s0, .int s1] w Q ↔ sm_R X 56 9 [.ref x0, .int x1, sm_J] [.int (s1 + s0)] w Q := sm_R_go d56_8 rfl
theorem d56_9 : decode (sm_code 56) 9 = .ok (.ifCond .ne 7, 3) := by decide +kernel
theorem r56_9 {X : sm_X} {w : sm_W} {Q : Option Value → sm_W → Prop} {x0 : Nat} {x1 : Int32} {s0 : Int32} : sm_R X 56 9 [.ref x0, .int x1, sm_J] [.int s0] w Q ↔ (if s0 = 0 then sm_R X 56 12 [.ref x0, .int x1, sm_J] [] w Q else sm_R X 56 16 [.ref x0, .int x1, sm_J] [] w Q) := sm_q_br d56_9 rfl
theorem d56_12 : decode (sm_code 56) 12 = .ok (.iconst 1, 1) := by decide +kernel
theorem r56_12 {X : sm_X} {w : sm_W} {Q : Option Value → sm_W → Prop} {x0 : Nat} {x1 : Int32} : sm_R X 56 12 [.ref x0, .int x1, sm_J] [] w Q ↔ sm_R X 56 13 [.ref x0, .int x1, sm_J] [.int 1] w Q := sm_R_go d56_12 rfl
theorem d56_13 : decode (sm_code 56) 13 = .ok (.goto 4, 3) := by decide +kernel
theorem r56_13 {X : sm_X} {w : sm_W} {Q : Option Value → sm_W → Prop} {x0 : Nat} {x1 : Int32} {s0 : Int32} : sm_R X 56 13 [.ref x0, .int x1, sm_J] [.int s0] w Q ↔ sm_R X 56 17 [.ref x0, .int x1, sm_J] [.int s0] w Q := sm_R_go d56_13 rfl
theorem d56_16 : decode (sm_code 56) 16 = .ok (.iconst 0, 1) := by decide +kernel
theorem r56_16 {X : sm_X} {w : sm_W} {Q : Option Value → sm_W → Prop} {x0 : Nat} {x1 : Int32} : sm_R X 56 16 [.ref x0, .int x1, sm_J] [] w Q ↔ sm_R X 56 17 [.ref x0, .int x1, sm_J] [.int 0] w Q := sm_R_go d56_16 rfl
theorem d56_17 : decode (sm_code 56) 17 = .ok (.istore_n 2, 1) := by decide +kernel
theorem r56_17 {X : sm_X} {w : sm_W} {Q : Option Value → sm_W → Prop} {x0 : Nat} {x1 : Int32} {s0 : Int32} : sm_R X 56 17 [.ref x0, .int x1, sm_J] [.int s0] w Q ↔ sm_R X 56 18 [.ref x0, .int x1, .int s0] [] w Q := sm_R_go d56_17 rfl
theorem d56_18 : decode (sm_code 56) 18 = .ok (.iload_n 1, 1) := by decide +kernel
theorem r56_18 {X : sm_X} {w : sm_W} {Q : Option Value → sm_W → Prop} {x0 : Nat} {x1 : Int32} {x2 : Int32} : sm_R X 56 18 [.ref x0, .int x1, .int x2] [] w Q ↔ sm_R X 56 19 [.ref x0, .int x1, .int x2] [.int x1] w Q := sm_R_go d56_18 rfl
theorem d56_19 : decode (sm_code 56) 19 = .ok (.tableswitch 76 0 3 #[29, 34, 42, 59], 29) := by decide +kernel
theorem r56_19 {X : sm_X} {w : sm_W} {Q : Option Value → sm_W → Prop} {x0 : Nat} {x1 : Int32} {x2 : Int32} {s0 : Int32} : sm_R X 56 19 [.ref x0, .int x1, .int x2] [.int s0] w Q ↔ sm_R X 56 (sm_sw s0.toInt 0 [48, 53, 61, 78] 95) [.ref x0, .int x1, .int x2] [] w Q := sm_q_tab d56_19 rfl rfl rfl rfl
theorem d56_48 : decode (sm_code 56) 48 = .ok (.aload_n 0, 1) := by decide +kernel
theorem r56_48 {X : sm_X} {w : sm_W} {Q : Option Value → sm_W → Prop} {x0 : Nat} {x1 : Int32} {x2 : Int32} : sm_R X 56 48 [.ref x0, .int x1, .int x2] [] w Q ↔ sm_R X 56 49 [.ref x0, .int x1, .int x2] [.ref x0] w Q := sm_R_go d56_48 rfl
theorem d56_49 : decode (sm_code 56) 49 = .ok (.getfield 46, 3) := by decide +kernel
theorem r56_49 {X : sm_X} {w : sm_W} {Q : Option Value → sm_W → Prop} {x0 : Nat} {x1 : Int32} {x2 : Int32} {s0 : Nat} : sm_R X 56 49 [.ref x0, .int x1, .int x2] [.ref s0] w Q ↔ sm_wp (sm_fld 6 6 (sm_at w s0)) (fun v => sm_R X 56 52 [.ref x0, .int x1, .int x2] [v] w Q) := sm_q_getf d56_49 rfl (by decide)
theorem d56_52 : decode (sm_code 56) 52 = .ok (.ireturn, 1) := by decide +kernel
theorem r56_52 {X : sm_X} {w : sm_W} {Q : Option Value → sm_W → Prop} {x0 : Nat} {x1 : Int32} {x2 : Int32} {s0 : Int32} : sm_R X 56 52 [.ref x0, .int x1, .int x2] [.int s0] w Q ↔ Q (some (.int s0)) w := sm_q_iret d56_52 rfl
theorem d56_53 : decode (sm_code 56) 53 = .ok (.aload_n 0, 1) := by decide +kernel
theorem r56_53 {X : sm_X} {w : sm_W} {Q : Option Value → sm_W → Prop} {x0 : Nat} {x1 : Int32} {x2 : Int32} : sm_R X 56 53 [.ref x0, .int x1, .int x2] [] w Q ↔ sm_R X 56 54 [.ref x0, .int x1, .int x2] [.ref x0] w Q := sm_R_go d56_53 rfl
theorem d56_54 : decode (sm_code 56) 54 = .ok (.getfield 42, 3) := by decide +kernel
theorem r56_54 {X : sm_X} {w : sm_W} {Q : Option Value → sm_W → Prop} {x0 : Nat} {x1 : Int32} {x2 : Int32} {s0 : Nat} : sm_R X 56 54 [.ref x0, .int x1, .int x2] [.ref s0] w Q ↔ sm_wp (sm_fld 6 5 (sm_at w s0)) (fun v => sm_R X 56 57 [.ref x0, .int x1, .int x2] [v] w Q) := sm_q_getf d56_54 rfl (by decide)
theorem d56_57 : decode (sm_code 56) 57 = .ok (.getfield 130, 3) := by decide +kernel
theorem r56_57 {X : sm_X} {w : sm_W} {Q : Option Value → sm_W → Prop} {x0 : Nat} {x1 : Int32} {x2 : Int32} {s0 : Nat} : sm_R X 56 57 [.ref x0, .int x1, .int x2] [.ref s0] w Q ↔ sm_wp (sm_fld 2 6 (sm_at w s0)) (fun v => sm_R X 56 60 [.ref x0, .int x1, .int x2] [v] w Q) := sm_q_getf d56_57 rfl (by decide)
theorem d56_60 : decode (sm_code 56) 60 = .ok (.ireturn, 1) := by decide +kernel
theorem r56_60 {X : sm_X} {w : sm_W} {Q : Option Value → sm_W → Prop} {x0 : Nat} {x1 : Int32} {x2 : Int32} {s0 : Int32} : sm_R X 56 60 [.ref x0, .int x1, .int x2] [.int s0] w Q ↔ Q (some (.int s0)) w := sm_q_iret d56_60 rfl
theorem d56_61 : decode (sm_code 56) 61 = .ok (.iload_n 2, 1) := by decide +kernel
theorem r56_61 {X : sm_X} {w : sm_W} {Q : Option Value → sm_W → Prop} {x0 : Nat} {x1 : Int32} {x2 : Int32} : sm_R X 56 61 [.ref x0, .int x1, .int x2] [] w Q ↔ sm_R X 56 62 [.ref x0, .int x1, .int x2] [.int x2] w Q := sm_R_go d56_61 rfl
theorem d56_62 : decode (sm_code 56) 62 = .ok (.ifCond .eq 8, 3) := by decide +kernel
theorem r56_62 {X : sm_X} {w : sm_W} {Q : Option Value → sm_W → Prop} {x0 : Nat} {x1 : Int32} {x2 : Int32} {s0 : Int32} : sm_R X 56 62 [.ref x0, .int x1, .int x2] [.int s0] w Q ↔ (if s0 = 0 then sm_R X 56 70 [.ref x0, .int x1, .int x2] [] w Q else sm_R X 56 65 [.ref x0, .int x1, .int x2] [] w Q) := sm_q_br d56_62 rfl
theorem d56_65 : decode (sm_code 56) 65 = .ok (.bipush (-3), 2) := by decide +kernel
theorem r56_65 {X : sm_X} {w : sm_W} {Q : Option Value → sm_W → Prop} {x0 : Nat} {x1 : Int32} {x2 : Int32} : sm_R X 56 65 [.ref x0, .int x1, .int x2] [] w Q ↔ sm_R X 56 67 [.ref x0, .int x1, .int x2] [.int (-3)] w Q := sm_R_go d56_65 rfl
theorem d56_67 : decode (sm_code 56) 67 = .ok (.goto 10, 3) := by decide +kernel
theorem r56_67 {X : sm_X} {w : sm_W} {Q : Option Value → sm_W → Prop} {x0 : Nat} {x1 : Int32} {x2 : Int32} {s0 : Int32} : sm_R X 56 67 [.ref x0, .int x1, .int x2] [.int s0] w Q ↔ sm_R X 56 77 [.ref x0, .int x1, .int x2] [.int s0] w Q := sm_R_go d56_67 rfl
theorem d56_70 : decode (sm_code 56) 70 = .ok (.aload_n 0, 1) := by decide +kernel
theorem r56_70 {X : sm_X} {w : sm_W} {Q : Option Value → sm_W → Prop} {x0 : Nat} {x1 : Int32} {x2 : Int32} : sm_R X 56 70 [.ref x0, .int x1, .int x2] [] w Q ↔ sm_R X 56 71 [.ref x0, .int x1, .int x2] [.ref x0] w Q := sm_R_go d56_70 rfl
theorem d56_71 : decode (sm_code 56) 71 = .ok (.getfield 42, 3) := by decide +kernel
theorem r56_71 {X : sm_X} {w : sm_W} {Q : Option Value → sm_W → Prop} {x0 : Nat} {x1 : Int32} {x2 : Int32} {s0 : Nat} : sm_R X 56 71 [.ref x0, .int x1, .int x2] [.ref s0] w Q ↔ sm_wp (sm_fld 6 5 (sm_at w s0)) (fun v => sm_R X 56 74 [.ref x0, .int x1, .int x2] [v] w Q) := sm_q_getf d56_71 rfl (by decide)
theorem d56_74 : decode (sm_code 56) 74 = .ok (.getfield 133, 3) := by decide +kernel
theorem r56_74 {X : sm_X} {w : sm_W} {Q : Option Value → sm_W → Prop} {x0 : Nat} {x1 : Int32} {x2 : Int32} {s0 : Nat} : sm_R X 56 74 [.ref x0, .int x1, .int x2] [.ref s0] w Q ↔ sm_wp (sm_fld 2 4 (sm_at w s0)) (fun v => sm_R X 56 77 [.ref x0, .int x1, .int x2] [v] w Q) := sm_q_getf d56_74 rfl (by decide)
theorem d56_77 : decode (sm_code 56) 77 = .ok (.ireturn, 1) := by decide +kernel
theorem r56_77 {X : sm_X} {w : sm_W} {Q : Option Value → sm_W → Prop} {x0 : Nat} {x1 : Int32} {x2 : Int32} {s0 : Int32} : sm_R X 56 77 [.ref x0, .int x1, .int x2] [.int s0] w Q ↔ Q (some (.int s0)) w := sm_q_iret d56_77 rfl
theorem d56_78 : decode (sm_code 56) 78 = .ok (.iload_n 2, 1) := by decide +kernel
theorem r56_78 {X : sm_X} {w : sm_W} {Q : Option Value → sm_W → Prop} {x0 : Nat} {x1 : Int32} {x2 : Int32} : sm_R X 56 78 [.ref x0, .int x1, .int x2] [] w Q ↔ sm_R X 56 79 [.ref x0, .int x1, .int x2] [.int x2] w Q := sm_R_go d56_78 rfl
theorem d56_79 : decode (sm_code 56) 79 = .ok (.ifCond .eq 8, 3) := by decide +kernel
theorem r56_79 {X : sm_X} {w : sm_W} {Q : Option Value → sm_W → Prop} {x0 : Nat} {x1 : Int32} {x2 : Int32} {s0 : Int32} : sm_R X 56 79 [.ref x0, .int x1, .int x2] [.int s0] w Q ↔ (if s0 = 0 then sm_R X 56 87 [.ref x0, .int x1, .int x2] [] w Q else sm_R X 56 82 [.ref x0, .int x1, .int x2] [] w Q) := sm_q_br d56_79 rfl
theorem d56_82 : decode (sm_code 56) 82 = .ok (.bipush (-3), 2) := by decide +kernel
theorem r56_82 {X : sm_X} {w : sm_W} {Q : Option Value → sm_W → Prop} {x0 : Nat} {x1 : Int32} {x2 : Int32} : sm_R X 56 82 [.ref x0, .int x1, .int x2] [] w Q ↔ sm_R X 56 84 [.ref x0, .int x1, .int x2] [.int (-3)] w Q := sm_R_go d56_82 rfl
theorem d56_84 : decode (sm_code 56) 84 = .ok (.goto 10, 3) := by decide +kernel
theorem r56_84 {X : sm_X} {w : sm_W} {Q : Option Value → sm_W → Prop} {x0 : Nat} {x1 : Int32} {x2 : Int32} {s0 : Int32} : sm_R X 56 84 [.ref x0, .int x1, .int x2] [.int s0] w Q ↔ sm_R X 56 94 [.ref x0, .int x1, .int x2] [.int s0] w Q := sm_R_go d56_84 rfl
theorem d56_87 : decode (sm_code 56) 87 = .ok (.aload_n 0, 1) := by decide +kernel
theorem r56_87 {X : sm_X} {w : sm_W} {Q : Option Value → sm_W → Prop} {x0 : Nat} {x1 : Int32} {x2 : Int32} : sm_R X 56 87 [.ref x0, .int x1, .int x2] [] w Q ↔ sm_R X 56 88 [.ref x0, .int x1, .int x2] [.ref x0] w Q := sm_R_go d56_87 rfl
theorem d56_88 : decode (sm_code 56) 88 = .ok (.getfield 42, 3) := by decide +kernel
theorem r56_88 {X : sm_X} {w : sm_W} {Q : Option Value → sm_W → Prop} {x0 : Nat} {x1 : Int32} {x2 : Int32} {s0 : Nat} : sm_R X 56 88 [.ref x0, .int x1, .int x2] [.ref s0] w Q ↔ sm_wp (sm_fld 6 5 (sm_at w s0)) (fun v => sm_R X 56 91 [.ref x0, .int x1, .int x2] [v] w Q) := sm_q_getf d56_88 rfl (by decide)
theorem d56_91 : decode (sm_code 56) 91 = .ok (.getfield 136, 3) := by decide +kernel
theorem r56_91 {X : sm_X} {w : sm_W} {Q : Option Value → sm_W → Prop} {x0 : Nat} {x1 : Int32} {x2 : Int32} {s0 : Nat} : sm_R X 56 91 [.ref x0, .int x1, .int x2] [.ref s0] w Q ↔ sm_wp (sm_fld 2 5 (sm_at w s0)) (fun v => sm_R X 56 94 [.ref x0, .int x1, .int x2] [v] w Q) := sm_q_getf d56_91 rfl (by decide)
theorem d56_94 : decode (sm_code 56) 94 = .ok (.ireturn, 1) := by decide +kernel
theorem r56_94 {X : sm_X} {w : sm_W} {Q : Option Value → sm_W → Prop} {x0 : Nat} {x1 : Int32} {x2 : Int32} {s0 : Int32} : sm_R X 56 94 [.ref x0, .int x1, .int x2] [.int s0] w Q ↔ Q (some (.int s0)) w := sm_q_iret d56_94 rfl
theorem d56_95 : decode (sm_code 56) 95 = .ok (.iconst (-1), 1) := by decide +kernel
theorem r56_95 {X : sm_X} {w : sm_W} {Q : Option Value → sm_W → Prop} {x0 : Nat} {x1 : Int32} {x2 : Int32} : sm_R X 56 95 [.ref x0, .int x1, .int x2] [] w Q ↔ sm_R X 56 96 [.ref x0, .int x1, .int x2] [.int (-1)] w Q := sm_R_go d56_95 rfl
theorem d56_96 : decode (sm_code 56) 96 = .ok (.ireturn, 1) := by decide +kernel
theorem r56_96 {X : sm_X} {w : sm_W} {Q : Option Value → sm_W → Prop} {x0 : Nat} {x1 : Int32} {x2 : Int32} {s0 : Int32} : sm_R X 56 96 [.ref x0, .int x1, .int x2] [.int s0] w Q ↔ Q (some (.int s0)) w := sm_q_iret d56_96 rfl
-- GroupLedger.logged(I)I
theorem d57_0 : decode (sm_code 57) 0 = .ok (.iload_n 1, 1) := by decide +kernel
theorem r57_0 {X : sm_X} {w : sm_W} {Q : Option Value → sm_W → Prop} {x0 : Nat} {x1 : Int32} : sm_R X 57 0 [.ref x0, .int x1] [] w Q ↔ sm_R X 57 1 [.ref x0, .int x1] [.int x1] w Q := sm_R_go d57_0 rfl
theorem d57_1 : decode (sm_code 57) 1 = .ok (.ifCond .lt 31, 3) := by decide +kernel
theorem r57_1 {X : sm_X} {w : sm_W} {Q : Option Value → sm_W → Prop} {x0 : Nat} {x1 : Int32} {s0 : Int32} : sm_R X 57 1 [.ref x0, .int x1] [.int s0] w Q ↔ (if s0 < 0 then sm_R X 57 32 [.ref x0, .int x1] [] w Q else sm_R X 57 4 [.ref x0, .int x1] [] w Q) := sm_q_br d57_1 rfl
theorem d57_4 : decode (sm_code 57) 4 = .ok (.iload_n 1, 1) := by decide +kernel
theorem r57_4 {X : sm_X} {w : sm_W} {Q : Option Value → sm_W → Prop} {x0 : Nat} {x1 : Int32} : sm_R X 57 4 [.ref x0, .int x1] [] w Q ↔ sm_R X 57 5 [.ref x0, .int x1] [.int x1] w Q := sm_R_go d57_4 rfl
theorem d57_5 : decode (sm_code 57) 5 = .ok (.bipush 8, 2) := by decide +kernel
theorem r57_5 {X : sm_X} {w : sm_W} {Q : Option Value → sm_W → Prop} {x0 : Nat} {x1 : Int32} {s0 : Int32} : sm_R X 57 5 [.ref x0, .int x1] [.int s0] w Q ↔ sm_R X 57 7 [.ref x0, .int x1] [.int 8, .int s0] w Q := sm_R_go d57_5 rfl
theorem d57_7 : decode (sm_code 57) 7 = .ok (.if_icmp .ge 25, 3) := by decide +kernel
theorem r57_7 {X : sm_X} {w : sm_W} {Q : Option Value → sm_W → Prop} {x0 : Nat} {x1 : Int32} {s0 : Int32} {s1 : Int32} : sm_R X 57 7 [.ref x0, .int x1] [.int s0, .int s1] w Q ↔ (if s0 ≤ s1 then sm_R X 57 32 [.ref x0, .int x1] [] w Q else sm_R X 57 10 [.ref x0, .int x1] [] w Q) := sm_q_br d57_7 rfl
theorem d57_10 : decode (sm_code 57) 10 = .ok (.iload_n 1, 1) := by decide +kernel
theorem r57_10 {X : sm_X} {w : sm_W} {Q : Option Value → sm_W → Prop} {x0 : Nat} {x1 : Int32} : sm_R X 57 10 [.ref x0, .int x1] [] w Q ↔ sm_R X 57 11 [.ref x0, .int x1] [.int x1] w Q := sm_R_go d57_10 rfl
theorem d57_11 : decode (sm_code 57) 11 = .ok (.aload_n 0, 1) := by decide +kernel
theorem r57_11 {X : sm_X} {w : sm_W} {Q : Option Value → sm_W → Prop} {x0 : Nat} {x1 : Int32} {s0 : Int32} : sm_R X 57 11 [.ref x0, .int x1] [.int s0] w Q ↔ sm_R X 57 12 [.ref x0, .int x1] [.ref x0, .int s0] w Q := sm_R_go d57_11 rfl
theorem d57_12 : decode (sm_code 57) 12 = .ok (.getfield 10, 3) := by decide +kernel
theorem r57_12 {X : sm_X} {w : sm_W} {Q : Option Value → sm_W → Prop} {x0 : Nat} {x1 : Int32} {s0 : Nat} {s1 : Int32} : sm_R X 57 12 [.ref x0, .int x1] [.ref s0, .int s1] w Q ↔ sm_wp (sm_fld 6 0 (sm_at w s0)) (fun v => sm_R X 57 15 [.ref x0, .int x1] [v, .int s1] w Q) := sm_q_getf d57_12 rfl (by decide)
theorem d57_15 : decode (sm_code 57) 15 = .ok (.getfield 139, 3) := by decide +kernel
theorem r57_15 {X : sm_X} {w : sm_W} {Q : Option Value → sm_W → Prop} {x0 : Nat} {x1 : Int32} {s0 : Nat} {s1 : Int32} : sm_R X 57 15 [.ref x0, .int x1] [.ref s0, .int s1] w Q ↔ sm_wp (sm_fld 0 5 (sm_at w s0)) (fun v => sm_R X 57 18 [.ref x0, .int x1] [v, .int s1] w Q) := sm_q_getf d57_15 rfl (by decide)
theorem d57_18 : decode (sm_code 57) 18 = .ok (.if_icmp .ge 14, 3) := by decide +kernel
theorem r57_18 {X : sm_X} {w : sm_W} {Q : Option Value → sm_W → Prop} {x0 : Nat} {x1 : Int32} {s0 : Int32} {s1 : Int32} : sm_R X 57 18 [.ref x0, .int x1] [.int s0, .int s1] w Q ↔ (if s0 ≤ s1 then sm_R X 57 32 [.ref x0, .int x1] [] w Q else sm_R X 57 21 [.ref x0, .int x1] [] w Q) := sm_q_br d57_18 rfl
theorem d57_21 : decode (sm_code 57) 21 = .ok (.aload_n 0, 1) := by decide +kernel
theorem r57_21 {X : sm_X} {w : sm_W} {Q : Option Value → sm_W → Prop} {x0 : Nat} {x1 : Int32} : sm_R X 57 21 [.ref x0, .int x1] [] w Q ↔ sm_R X 57 22 [.ref x0, .int x1] [.ref x0] w Q := sm_R_go d57_21 rfl
theorem d57_22 : decode (sm_code 57) 22 = .ok (.getfield 10, 3) := by decide +kernel
theorem r57_22 {X : sm_X} {w : sm_W} {Q : Option Value → sm_W → Prop} {x0 : Nat} {x1 : Int32} {s0 : Nat} : sm_R X 57 22 [.ref x0, .int x1] [.ref s0] w Q ↔ sm_wp (sm_fld 6 0 (sm_at w s0)) (fun v => sm_R X 57 25 [.ref x0, .int x1] [v] w Q) := sm_q_getf d57_22 rfl (by decide)
theorem d57_25 : decode (sm_code 57) 25 = .ok (.iload_n 1, 1) := by decide +kernel
theorem r57_25 {X : sm_X} {w : sm_W} {Q : Option Value → sm_W → Prop} {x0 : Nat} {x1 : Int32} {s0 : Nat} : sm_R X 57 25 [.ref x0, .int x1] [.ref s0] w Q ↔ sm_R X 57 26 [.ref x0, .int x1] [.int x1, .ref s0] w Q := sm_R_go d57_25 rfl
theorem d57_26 : decode (sm_code 57) 26 = .ok (.invokevirtual 142, 3) := by decide +kernel
theorem r57_26 {X : sm_X} {w : sm_W} {Q : Option Value → sm_W → Prop} {x0 : Nat} {x1 : Int32} {s0 : Int32} {s1 : Nat} : sm_R X 57 26 [.ref x0, .int x1] [.int s0, .ref s1] w Q ↔ (sm_cN (sm_at w s1) = some 0 ∧ sm_R X 58 0 [.ref s1, .int s0] [] w (fun v w => sm_R X 57 29 [.ref x0, .int x1] (v.toList ++ []) w Q)) := sm_q_vir (k := 58) (as := [.ref s1, .int s0]) (rest := []) d57_26 rfl rfl rfl rfl rfl
theorem d57_29 : decode (sm_code 57) 29 = .ok (.goto 5, 3) := by decide +kernel
theorem r57_29 {X : sm_X} {w : sm_W} {Q : Option Value → sm_W → Prop} {x0 : Nat} {x1 : Int32} {s0 : Int32} : sm_R X 57 29 [.ref x0, .int x1] [.int s0] w Q ↔ sm_R X 57 34 [.ref x0, .int x1] [.int s0] w Q := sm_R_go d57_29 rfl
theorem d57_32 : decode (sm_code 57) 32 = .ok (.bipush (-3), 2) := by decide +kernel
theorem r57_32 {X : sm_X} {w : sm_W} {Q : Option Value → sm_W → Prop} {x0 : Nat} {x1 : Int32} : sm_R X 57 32 [.ref x0, .int x1] [] w Q ↔ sm_R X 57 34 [.ref x0, .int x1] [.int (-3)] w Q := sm_R_go d57_32 rfl
theorem d57_34 : decode (sm_code 57) 34 = .ok (.ireturn, 1) := by decide +kernel
theorem r57_34 {X : sm_X} {w : sm_W} {Q : Option Value → sm_W → Prop} {x0 : Nat} {x1 : Int32} {s0 : Int32} : sm_R X 57 34 [.ref x0, .int x1] [.int s0] w Q ↔ Q (some (.int s0)) w := sm_q_iret d57_34 rfl
-- GroupLedger$Books.loggedBack(I)I
theorem d58_0 : decode (sm_code 58) 0 = .ok (.aload_n 0, 1) := by decide +kernel
theorem r58_0 {X : sm_X} {w : sm_W} {Q : Option Value → sm_W → Prop} {x0 : Nat} {x1 : Int32} : sm_R X 58 0 [.ref x0, .int x1] [] w Q ↔ sm_R X 58 1 [.ref x0, .int x1] [.ref x0] w Q := sm_R_go d58_0 rfl
theorem d58_1 : decode (sm_code 58) 1 = .ok (.getfield 26, 3) := by decide +kernel
theorem r58_1 {X : sm_X} {w : sm_W} {Q : Option Value → sm_W → Prop} {x0 : Nat} {x1 : Int32} {s0 : Nat} : sm_R X 58 1 [.ref x0, .int x1] [.ref s0] w Q ↔ sm_wp (sm_fld 0 4 (sm_at w s0)) (fun v => sm_R X 58 4 [.ref x0, .int x1] [v] w Q) := sm_q_getf d58_1 rfl (by decide)
theorem d58_4 : decode (sm_code 58) 4 = .ok (.aload_n 0, 1) := by decide +kernel
theorem r58_4 {X : sm_X} {w : sm_W} {Q : Option Value → sm_W → Prop} {x0 : Nat} {x1 : Int32} {s0 : Nat} : sm_R X 58 4 [.ref x0, .int x1] [.ref s0] w Q ↔ sm_R X 58 5 [.ref x0, .int x1] [.ref x0, .ref s0] w Q := sm_R_go d58_4 rfl
theorem d58_5 : decode (sm_code 58) 5 = .ok (.getfield 35, 3) := by decide +kernel
theorem r58_5 {X : sm_X} {w : sm_W} {Q : Option Value → sm_W → Prop} {x0 : Nat} {x1 : Int32} {s0 : Nat} {s1 : Nat} : sm_R X 58 5 [.ref x0, .int x1] [.ref s0, .ref s1] w Q ↔ sm_wp (sm_fld 0 5 (sm_at w s0)) (fun v => sm_R X 58 8 [.ref x0, .int x1] [v, .ref s1] w Q) := sm_q_getf d58_5 rfl (by decide)
theorem d58_8 : decode (sm_code 58) 8 = .ok (.iconst 1, 1) := by decide +kernel
theorem r58_8 {X : sm_X} {w : sm_W} {Q : Option Value → sm_W → Prop} {x0 : Nat} {x1 : Int32} {s0 : Int32} {s1 : Nat} : sm_R X 58 8 [.ref x0, .int x1] [.int s0, .ref s1] w Q ↔ sm_R X 58 9 [.ref x0, .int x1] [.int 1, .int s0, .ref s1] w Q := sm_R_go d58_8 rfl
theorem d58_9 : decode (sm_code 58) 9 = .ok (.isub, 1) := by decide +kernel
theorem r58_9 {X : sm_X} {w : sm_W} {Q : Option Value → sm_W → Prop} {x0 : Nat} {x1 : Int32} {s0 : Int32} {s1 : Int32} {s2 : Nat} : sm_R X 58 9 [.ref x0, .int x1] [.int s0, .int s1, .ref s2] w Q ↔ sm_R X 58 10 [.ref x0, .int x1] [.int (s1 - s0), .ref s2] w Q := sm_R_go d58_9 rfl
theorem d58_10 : decode (sm_code 58) 10 = .ok (.iload_n 1, 1) := by decide +kernel
theorem r58_10 {X : sm_X} {w : sm_W} {Q : Option Value → sm_W → Prop} {x0 : Nat} {x1 : Int32} {s0 : Int32} {s1 : Nat} : sm_R X 58 10 [.ref x0, .int x1] [.int s0, .ref s1] w Q ↔ sm_R X 58 11 [.ref x0, .int x1] [.int x1, .int s0, .ref s1] w Q := sm_R_go d58_10 rfl
theorem d58_11 : decode (sm_code 58) 11 = .ok (.isub, 1) := by decide +kernel
theorem r58_11 {X : sm_X} {w : sm_W} {Q : Option Value → sm_W → Prop} {x0 : Nat} {x1 : Int32} {s0 : Int32} {s1 : Int32} {s2 : Nat} : sm_R X 58 11 [.ref x0, .int x1] [.int s0, .int s1, .ref s2] w Q ↔ sm_R X 58 12 [.ref x0, .int x1] [.int (s1 - s0), .ref s2] w Q := sm_R_go d58_11 rfl
theorem d58_12 : decode (sm_code 58) 12 = .ok (.bipush 8, 2) := by decide +kernel
theorem r58_12 {X : sm_X} {w : sm_W} {Q : Option Value → sm_W → Prop} {x0 : Nat} {x1 : Int32} {s0 : Int32} {s1 : Nat} : sm_R X 58 12 [.ref x0, .int x1] [.int s0, .ref s1] w Q ↔ sm_R X 58 14 [.ref x0, .int x1] [.int 8, .int s0, .ref s1] w Q := sm_R_go d58_12 rfl
theorem d58_14 : decode (sm_code 58) 14 = .ok (.irem, 1) := by decide +kernel
theorem r58_14 {X : sm_X} {w : sm_W} {Q : Option Value → sm_W → Prop} {x0 : Nat} {x1 : Int32} {s0 : Int32} {s1 : Int32} {s2 : Nat} (h : ¬ s0 = 0) : sm_R X 58 14 [.ref x0, .int x1] [.int s0, .int s1, .ref s2] w Q ↔ sm_R X 58 15 [.ref x0, .int x1] [.int (s1 - s1 / s0 * s0), .ref s2] w Q := sm_q_irem d58_14 h
theorem d58_15 : decode (sm_code 58) 15 = .ok (.iaload, 1) := by decide +kernel
theorem r58_15 {X : sm_X} {w : sm_W} {Q : Option Value → sm_W → Prop} {x0 : Nat} {x1 : Int32} {s0 : Int32} {s1 : Nat} : sm_R X 58 15 [.ref x0, .int x1] [.int s0, .ref s1] w Q ↔ sm_wp (sm_ai s0 (sm_get X w s1)) (fun v => sm_R X 58 16 [.ref x0, .int x1] [.int v] w Q) := sm_q_iald d58_15
theorem d58_16 : decode (sm_code 58) 16 = .ok (.ireturn, 1) := by decide +kernel
theorem r58_16 {X : sm_X} {w : sm_W} {Q : Option Value → sm_W → Prop} {x0 : Nat} {x1 : Int32} {s0 : Int32} : sm_R X 58 16 [.ref x0, .int x1] [.int s0] w Q ↔ Q (some (.int s0)) w := sm_q_iret d58_16 rfl
-- GroupLedger.count(I)I
theorem d59_0 : decode (sm_code 59) 0 = .ok (.iload_n 1, 1) := by decide +kernel
theorem r59_0 {X : sm_X} {w : sm_W} {Q : Option Value → sm_W → Prop} {x0 : Nat} {x1 : Int32} : sm_R X 59 0 [.ref x0, .int x1] [] w Q ↔ sm_R X 59 1 [.ref x0, .int x1] [.int x1] w Q := sm_R_go d59_0 rfl
theorem d59_1 : decode (sm_code 59) 1 = .ok (.tableswitch 97 0 8 #[51, 59, 67, 72, 77, 85, 85, 85, 85], 51) := by decide +kernel
theorem r59_1 {X : sm_X} {w : sm_W} {Q : Option Value → sm_W → Prop} {x0 : Nat} {x1 : Int32} {s0 : Int32} : sm_R X 59 1 [.ref x0, .int x1] [.int s0] w Q ↔ sm_R X 59 (sm_sw s0.toInt 0 [52, 60, 68, 73, 78, 86, 86, 86, 86] 98) [.ref x0, .int x1] [] w Q := sm_q_tab d59_1 rfl rfl rfl rfl
theorem d59_52 : decode (sm_code 59) 52 = .ok (.aload_n 0, 1) := by decide +kernel
theorem r59_52 {X : sm_X} {w : sm_W} {Q : Option Value → sm_W → Prop} {x0 : Nat} {x1 : Int32} : sm_R X 59 52 [.ref x0, .int x1] [] w Q ↔ sm_R X 59 53 [.ref x0, .int x1] [.ref x0] w Q := sm_R_go d59_52 rfl
theorem d59_53 : decode (sm_code 59) 53 = .ok (.getfield 22, 3) := by decide +kernel
theorem r59_53 {X : sm_X} {w : sm_W} {Q : Option Value → sm_W → Prop} {x0 : Nat} {x1 : Int32} {s0 : Nat} : sm_R X 59 53 [.ref x0, .int x1] [.ref s0] w Q ↔ sm_wp (sm_fld 6 2 (sm_at w s0)) (fun v => sm_R X 59 56 [.ref x0, .int x1] [v] w Q) := sm_q_getf d59_53 rfl (by decide)
theorem d59_56 : decode (sm_code 59) 56 = .ok (.getfield 71, 3) := by decide +kernel
theorem r59_56 {X : sm_X} {w : sm_W} {Q : Option Value → sm_W → Prop} {x0 : Nat} {x1 : Int32} {s0 : Nat} : sm_R X 59 56 [.ref x0, .int x1] [.ref s0] w Q ↔ sm_wp (sm_fld 3 2 (sm_at w s0)) (fun v => sm_R X 59 59 [.ref x0, .int x1] [v] w Q) := sm_q_getf d59_56 rfl (by decide)
theorem d59_59 : decode (sm_code 59) 59 = .ok (.ireturn, 1) := by decide +kernel
theorem r59_59 {X : sm_X} {w : sm_W} {Q : Option Value → sm_W → Prop} {x0 : Nat} {x1 : Int32} {s0 : Int32} : sm_R X 59 59 [.ref x0, .int x1] [.int s0] w Q ↔ Q (some (.int s0)) w := sm_q_iret d59_59 rfl
theorem d59_60 : decode (sm_code 59) 60 = .ok (.aload_n 0, 1) := by decide +kernel
theorem r59_60 {X : sm_X} {w : sm_W} {Q : Option Value → sm_W → Prop} {x0 : Nat} {x1 : Int32} : sm_R X 59 60 [.ref x0, .int x1] [] w Q ↔ sm_R X 59 61 [.ref x0, .int x1] [.ref x0] w Q := sm_R_go d59_60 rfl
theorem d59_61 : decode (sm_code 59) 61 = .ok (.getfield 33, 3) := by decide +kernel
theorem r59_61 {X : sm_X} {w : sm_W} {Q : Option Value → sm_W → Prop} {x0 : Nat} {x1 : Int32} {s0 : Nat} : sm_R X 59 61 [.ref x0, .int x1] [.ref s0] w Q ↔ sm_wp (sm_fld 6 4 (sm_at w s0)) (fun v => sm_R X 59 64 [.ref x0, .int x1] [v] w Q) := sm_q_getf d59_61 rfl (by decide)
theorem d59_64 : decode (sm_code 59) 64 = .ok (.getfield 86, 3) := by decide +kernel
theorem r59_64 {X : sm_X} {w : sm_W} {Q : Option Value → sm_W → Prop} {x0 : Nat} {x1 : Int32} {s0 : Nat} : sm_R X 59 64 [.ref x0, .int x1] [.ref s0] w Q ↔ sm_wp (sm_fld 1 1 (sm_at w s0)) (fun v => sm_R X 59 67 [.ref x0, .int x1] [v] w Q) := sm_q_getf d59_64 rfl (by decide)
theorem d59_67 : decode (sm_code 59) 67 = .ok (.ireturn, 1) := by decide +kernel
theorem r59_67 {X : sm_X} {w : sm_W} {Q : Option Value → sm_W → Prop} {x0 : Nat} {x1 : Int32} {s0 : Int32} : sm_R X 59 67 [.ref x0, .int x1] [.int s0] w Q ↔ Q (some (.int s0)) w := sm_q_iret d59_67 rfl
theorem d59_68 : decode (sm_code 59) 68 = .ok (.aload_n 0, 1) := by decide +kernel
theorem r59_68 {X : sm_X} {w : sm_W} {Q : Option Value → sm_W → Prop} {x0 : Nat} {x1 : Int32} : sm_R X 59 68 [.ref x0, .int x1] [] w Q ↔ sm_R X 59 69 [.ref x0, .int x1] [.ref x0] w Q := sm_R_go d59_68 rfl
theorem d59_69 : decode (sm_code 59) 69 = .ok (.getfield 111, 3) := by decide +kernel
theorem r59_69 {X : sm_X} {w : sm_W} {Q : Option Value → sm_W → Prop} {x0 : Nat} {x1 : Int32} {s0 : Nat} : sm_R X 59 69 [.ref x0, .int x1] [.ref s0] w Q ↔ sm_wp (sm_fld 6 7 (sm_at w s0)) (fun v => sm_R X 59 72 [.ref x0, .int x1] [v] w Q) := sm_q_getf d59_69 rfl (by decide)
theorem d59_72 : decode (sm_code 59) 72 = .ok (.ireturn, 1) := by decide +kernel
theorem r59_72 {X : sm_X} {w : sm_W} {Q : Option Value → sm_W → Prop} {x0 : Nat} {x1 : Int32} {s0 : Int32} : sm_R X 59 72 [.ref x0, .int x1] [.int s0] w Q ↔ Q (some (.int s0)) w := sm_q_iret d59_72 rfl
theorem d59_73 : decode (sm_code 59) 73 = .ok (.aload_n 0, 1) := by decide +kernel
theorem r59_73 {X : sm_X} {w : sm_W} {Q : Option Value → sm_W → Prop} {x0 : Nat} {x1 : Int32} : sm_R X 59 73 [.ref x0, .int x1] [] w Q ↔ sm_R X 59 74 [.ref x0, .int x1] [.ref x0] w Q := sm_R_go d59_73 rfl
theorem d59_74 : decode (sm_code 59) 74 = .ok (.getfield 114, 3) := by decide +kernel
theorem r59_74 {X : sm_X} {w : sm_W} {Q : Option Value → sm_W → Prop} {x0 : Nat} {x1 : Int32} {s0 : Nat} : sm_R X 59 74 [.ref x0, .int x1] [.ref s0] w Q ↔ sm_wp (sm_fld 6 8 (sm_at w s0)) (fun v => sm_R X 59 77 [.ref x0, .int x1] [v] w Q) := sm_q_getf d59_74 rfl (by decide)
theorem d59_77 : decode (sm_code 59) 77 = .ok (.ireturn, 1) := by decide +kernel
theorem r59_77 {X : sm_X} {w : sm_W} {Q : Option Value → sm_W → Prop} {x0 : Nat} {x1 : Int32} {s0 : Int32} : sm_R X 59 77 [.ref x0, .int x1] [.int s0] w Q ↔ Q (some (.int s0)) w := sm_q_iret d59_77 rfl
theorem d59_78 : decode (sm_code 59) 78 = .ok (.aload_n 0, 1) := by decide +kernel
theorem r59_78 {X : sm_X} {w : sm_W} {Q : Option Value → sm_W → Prop} {x0 : Nat} {x1 : Int32} : sm_R X 59 78 [.ref x0, .int x1] [] w Q ↔ sm_R X 59 79 [.ref x0, .int x1] [.ref x0] w Q := sm_R_go d59_78 rfl
theorem d59_79 : decode (sm_code 59) 79 = .ok (.getfield 10, 3) := by decide +kernel
theorem r59_79 {X : sm_X} {w : sm_W} {Q : Option Value → sm_W → Prop} {x0 : Nat} {x1 : Int32} {s0 : Nat} : sm_R X 59 79 [.ref x0, .int x1] [.ref s0] w Q ↔ sm_wp (sm_fld 6 0 (sm_at w s0)) (fun v => sm_R X 59 82 [.ref x0, .int x1] [v] w Q) := sm_q_getf d59_79 rfl (by decide)
theorem d59_82 : decode (sm_code 59) 82 = .ok (.getfield 139, 3) := by decide +kernel
theorem r59_82 {X : sm_X} {w : sm_W} {Q : Option Value → sm_W → Prop} {x0 : Nat} {x1 : Int32} {s0 : Nat} : sm_R X 59 82 [.ref x0, .int x1] [.ref s0] w Q ↔ sm_wp (sm_fld 0 5 (sm_at w s0)) (fun v => sm_R X 59 85 [.ref x0, .int x1] [v] w Q) := sm_q_getf d59_82 rfl (by decide)
theorem d59_85 : decode (sm_code 59) 85 = .ok (.ireturn, 1) := by decide +kernel
theorem r59_85 {X : sm_X} {w : sm_W} {Q : Option Value → sm_W → Prop} {x0 : Nat} {x1 : Int32} {s0 : Int32} : sm_R X 59 85 [.ref x0, .int x1] [.int s0] w Q ↔ Q (some (.int s0)) w := sm_q_iret d59_85 rfl
theorem d59_86 : decode (sm_code 59) 86 = .ok (.aload_n 0, 1) := by decide +kernel
theorem r59_86 {X : sm_X} {w : sm_W} {Q : Option Value → sm_W → Prop} {x0 : Nat} {x1 : Int32} : sm_R X 59 86 [.ref x0, .int x1] [] w Q ↔ sm_R X 59 87 [.ref x0, .int x1] [.ref x0] w Q := sm_R_go d59_86 rfl
theorem d59_87 : decode (sm_code 59) 87 = .ok (.getfield 26, 3) := by decide +kernel
theorem r59_87 {X : sm_X} {w : sm_W} {Q : Option Value → sm_W → Prop} {x0 : Nat} {x1 : Int32} {s0 : Nat} : sm_R X 59 87 [.ref x0, .int x1] [.ref s0] w Q ↔ sm_wp (sm_fld 6 3 (sm_at w s0)) (fun v => sm_R X 59 90 [.ref x0, .int x1] [v] w Q) := sm_q_getf d59_87 rfl (by decide)
theorem d59_90 : decode (sm_code 59) 90 = .ok (.iload_n 1, 1) := by decide +kernel
theorem r59_90 {X : sm_X} {w : sm_W} {Q : Option Value → sm_W → Prop} {x0 : Nat} {x1 : Int32} {s0 : Nat} : sm_R X 59 90 [.ref x0, .int x1] [.ref s0] w Q ↔ sm_R X 59 91 [.ref x0, .int x1] [.int x1, .ref s0] w Q := sm_R_go d59_90 rfl
theorem d59_91 : decode (sm_code 59) 91 = .ok (.iconst 5, 1) := by decide +kernel
theorem r59_91 {X : sm_X} {w : sm_W} {Q : Option Value → sm_W → Prop} {x0 : Nat} {x1 : Int32} {s0 : Int32} {s1 : Nat} : sm_R X 59 91 [.ref x0, .int x1] [.int s0, .ref s1] w Q ↔ sm_R X 59 92 [.ref x0, .int x1] [.int 5, .int s0, .ref s1] w Q := sm_R_go d59_91 rfl
theorem d59_92 : decode (sm_code 59) 92 = .ok (.isub, 1) := by decide +kernel
theorem r59_92 {X : sm_X} {w : sm_W} {Q : Option Value → sm_W → Prop} {x0 : Nat} {x1 : Int32} {s0 : Int32} {s1 : Int32} {s2 : Nat} : sm_R X 59 92 [.ref x0, .int x1] [.int s0, .int s1, .ref s2] w Q ↔ sm_R X 59 93 [.ref x0, .int x1] [.int (s1 - s0), .ref s2] w Q := sm_R_go d59_92 rfl
theorem d59_93 : decode (sm_code 59) 93 = .ok (.aaload, 1) := by decide +kernel
theorem r59_93 {X : sm_X} {w : sm_W} {Q : Option Value → sm_W → Prop} {x0 : Nat} {x1 : Int32} {s0 : Int32} {s1 : Nat} : sm_R X 59 93 [.ref x0, .int x1] [.int s0, .ref s1] w Q ↔ sm_wp (sm_aa s1 s0 (sm_get X w s1)) (fun v => sm_R X 59 94 [.ref x0, .int x1] [.ref v] w Q) := sm_q_aald d59_93
theorem d59_94 : decode (sm_code 59) 94 = .ok (.getfield 71, 3) := by decide +kernel
theorem r59_94 {X : sm_X} {w : sm_W} {Q : Option Value → sm_W → Prop} {x0 : Nat} {x1 : Int32} {s0 : Nat} : sm_R X 59 94 [.ref x0, .int x1] [.ref s0] w Q ↔ sm_wp (sm_fld 3 2 (sm_at w s0)) (fun v => sm_R X 59 97 [.ref x0, .int x1] [v] w Q) := sm_q_getf d59_94 rfl (by decide)
theorem d59_97 : decode (sm_code 59) 97 = .ok (.ireturn, 1) := by decide +kernel
theorem r59_97 {X : sm_X} {w : sm_W} {Q : Option Value → sm_W → Prop} {x0 : Nat} {x1 : Int32} {s0 : Int32} : sm_R X 59 97 [.ref x0, .int x1] [.int s0] w Q ↔ Q (some (.int s0)) w := sm_q_iret d59_97 rfl
theorem d59_98 : decode (sm_code 59) 98 = .ok (.iconst (-1), 1) := by decide +kernel
theorem r59_98 {X : sm_X} {w : sm_W} {Q : Option Value → sm_W → Prop} {x0 : Nat} {x1 : Int32} : sm_R X 59 98 [.ref x0, .int x1] [] w Q ↔ sm_R X 59 99 [.ref x0, .int x1] [.int (-1)] w Q := sm_R_go d59_98 rfl
theorem d59_99 : decode (sm_code 59) 99 = .ok (.ireturn, 1) := by decide +kernel
theorem r59_99 {X : sm_X} {w : sm_W} {Q : Option Value → sm_W → Prop} {x0 : Nat} {x1 : Int32} {s0 : Int32} : sm_R X 59 99 [.ref x0, .int x1] [.int s0] w Q ↔ Q (some (.int s0)) w := sm_q_iret d59_99 rfl
