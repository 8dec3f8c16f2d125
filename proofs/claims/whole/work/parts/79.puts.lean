/-! SETTING A CELL KEEPS THE SHAPE (gen/puts.py) -/
theorem Sh.p0 {w : sm_W} {x6 : Int32} {x7 : Int32} {x8 : Int32} (hS : Sh w) : Sh (w.set 0 (.inr (6, [.ref 101, .ref 115, .ref 129, .ref 132, .ref 145, .ref 155, .int x6, .int x7, .int x8]))) := by
  have hl : 0 < w.length := by rw [hS.1]; decide
  refine hS.put (by decide) ?_
  simp only [sh, wn_s hl, wr_s hl, List.getD_cons_zero, List.getD_cons_succ]
theorem wn0_6 {w : sm_W} {x6 : Int32} {x7 : Int32} {x8 : Int32} (hS : w.length = 74) : wn (w.set 0 (.inr (6, [.ref 101, .ref 115, .ref 129, .ref 132, .ref 145, .ref 155, .int x6, .int x7, .int x8]))) 0 6 = x6 := (wn_s (by rw [hS]; decide)).trans rfl
theorem wn0_7 {w : sm_W} {x6 : Int32} {x7 : Int32} {x8 : Int32} (hS : w.length = 74) : wn (w.set 0 (.inr (6, [.ref 101, .ref 115, .ref 129, .ref 132, .ref 145, .ref 155, .int x6, .int x7, .int x8]))) 0 7 = x7 := (wn_s (by rw [hS]; decide)).trans rfl
theorem wn0_8 {w : sm_W} {x6 : Int32} {x7 : Int32} {x8 : Int32} (hS : w.length = 74) : wn (w.set 0 (.inr (6, [.ref 101, .ref 115, .ref 129, .ref 132, .ref 145, .ref 155, .int x6, .int x7, .int x8]))) 0 8 = x8 := (wn_s (by rw [hS]; decide)).trans rfl
theorem Sh.p1 {w : sm_W} {x5 : Int32} (hS : Sh w) : Sh (w.set 1 (.inr (0, [.ref 102, .ref 103, .ref 108, .ref 113, .ref 114, .int x5]))) := by
  have hl : 1 < w.length := by rw [hS.1]; decide
  refine hS.put (by decide) ?_
  simp only [sh, wn_s hl, wr_s hl, List.getD_cons_zero, List.getD_cons_succ]
theorem wn1_5 {w : sm_W} {x5 : Int32} (hS : w.length = 74) : wn (w.set 1 (.inr (0, [.ref 102, .ref 103, .ref 108, .ref 113, .ref 114, .int x5]))) 1 5 = x5 := (wn_s (by rw [hS]; decide)).trans rfl
theorem Sh.p2 {w : sm_W} {f : Nat → Int32} (hS : Sh w) : Sh (w.set 2 (.inl (0, 6, .inl f))) := by
  have hl : 2 < w.length := by rw [hS.1]; decide
  refine hS.put (by decide) ?_
  simp only [sh, wi_s hl]
theorem wi2_s {w : sm_W} {f : Nat → Int32} (hS : w.length = 74) : wi (w.set 2 (.inl (0, 6, .inl f))) 2 = f := wi_s (by rw [hS]; decide)
theorem Sh.p4 {w : sm_W} {f : Nat → Int32} (hS : Sh w) : Sh (w.set 4 (.inl (0, 4, .inl f))) := by
  have hl : 4 < w.length := by rw [hS.1]; decide
  refine hS.put (by decide) ?_
  simp only [sh, wi_s hl]
theorem wi4_s {w : sm_W} {f : Nat → Int32} (hS : w.length = 74) : wi (w.set 4 (.inl (0, 4, .inl f))) 4 = f := wi_s (by rw [hS]; decide)
theorem Sh.p5 {w : sm_W} {f : Nat → Int32} (hS : Sh w) : Sh (w.set 5 (.inl (0, 4, .inl f))) := by
  have hl : 5 < w.length := by rw [hS.1]; decide
  refine hS.put (by decide) ?_
  simp only [sh, wi_s hl]
theorem wi5_s {w : sm_W} {f : Nat → Int32} (hS : w.length = 74) : wi (w.set 5 (.inl (0, 4, .inl f))) 5 = f := wi_s (by rw [hS]; decide)
theorem Sh.p6 {w : sm_W} {f : Nat → Int32} (hS : Sh w) : Sh (w.set 6 (.inl (0, 4, .inl f))) := by
  have hl : 6 < w.length := by rw [hS.1]; decide
  refine hS.put (by decide) ?_
  simp only [sh, wi_s hl]
theorem wi6_s {w : sm_W} {f : Nat → Int32} (hS : w.length = 74) : wi (w.set 6 (.inl (0, 4, .inl f))) 6 = f := wi_s (by rw [hS]; decide)
theorem Sh.p7 {w : sm_W} {f : Nat → Int32} (hS : Sh w) : Sh (w.set 7 (.inl (0, 4, .inl f))) := by
  have hl : 7 < w.length := by rw [hS.1]; decide
  refine hS.put (by decide) ?_
  simp only [sh, wi_s hl]
theorem wi7_s {w : sm_W} {f : Nat → Int32} (hS : w.length = 74) : wi (w.set 7 (.inl (0, 4, .inl f))) 7 = f := wi_s (by rw [hS]; decide)
theorem Sh.p9 {w : sm_W} {f : Nat → Int32} (hS : Sh w) : Sh (w.set 9 (.inl (0, 12, .inl f))) := by
  have hl : 9 < w.length := by rw [hS.1]; decide
  refine hS.put (by decide) ?_
  simp only [sh, wi_s hl]
theorem wi9_s {w : sm_W} {f : Nat → Int32} (hS : w.length = 74) : wi (w.set 9 (.inl (0, 12, .inl f))) 9 = f := wi_s (by rw [hS]; decide)
theorem Sh.p10 {w : sm_W} {f : Nat → Int32} (hS : Sh w) : Sh (w.set 10 (.inl (0, 12, .inl f))) := by
  have hl : 10 < w.length := by rw [hS.1]; decide
  refine hS.put (by decide) ?_
  simp only [sh, wi_s hl]
theorem wi10_s {w : sm_W} {f : Nat → Int32} (hS : w.length = 74) : wi (w.set 10 (.inl (0, 12, .inl f))) 10 = f := wi_s (by rw [hS]; decide)
theorem Sh.p11 {w : sm_W} {f : Nat → Int32} (hS : Sh w) : Sh (w.set 11 (.inl (0, 12, .inl f))) := by
  have hl : 11 < w.length := by rw [hS.1]; decide
  refine hS.put (by decide) ?_
  simp only [sh, wi_s hl]
theorem wi11_s {w : sm_W} {f : Nat → Int32} (hS : w.length = 74) : wi (w.set 11 (.inl (0, 12, .inl f))) 11 = f := wi_s (by rw [hS]; decide)
theorem Sh.p12 {w : sm_W} {f : Nat → Int32} (hS : Sh w) : Sh (w.set 12 (.inl (0, 12, .inl f))) := by
  have hl : 12 < w.length := by rw [hS.1]; decide
  refine hS.put (by decide) ?_
  simp only [sh, wi_s hl]
theorem wi12_s {w : sm_W} {f : Nat → Int32} (hS : w.length = 74) : wi (w.set 12 (.inl (0, 12, .inl f))) 12 = f := wi_s (by rw [hS]; decide)
theorem Sh.p13 {w : sm_W} {f : Nat → Int32} (hS : Sh w) : Sh (w.set 13 (.inl (0, 6, .inl f))) := by
  have hl : 13 < w.length := by rw [hS.1]; decide
  refine hS.put (by decide) ?_
  simp only [sh, wi_s hl]
theorem wi13_s {w : sm_W} {f : Nat → Int32} (hS : w.length = 74) : wi (w.set 13 (.inl (0, 6, .inl f))) 13 = f := wi_s (by rw [hS]; decide)
theorem Sh.p14 {w : sm_W} {f : Nat → Int32} (hS : Sh w) : Sh (w.set 14 (.inl (0, 8, .inl f))) := by
  have hl : 14 < w.length := by rw [hS.1]; decide
  refine hS.put (by decide) ?_
  simp only [sh, wi_s hl]
theorem wi14_s {w : sm_W} {f : Nat → Int32} (hS : w.length = 74) : wi (w.set 14 (.inl (0, 8, .inl f))) 14 = f := wi_s (by rw [hS]; decide)
theorem Sh.p15 {w : sm_W} {x5 : Int32} (hS : Sh w) : Sh (w.set 15 (.inr (0, [.ref 116, .ref 117, .ref 122, .ref 127, .ref 128, .int x5]))) := by
  have hl : 15 < w.length := by rw [hS.1]; decide
  refine hS.put (by decide) ?_
  simp only [sh, wn_s hl, wr_s hl, List.getD_cons_zero, List.getD_cons_succ]
theorem wn15_5 {w : sm_W} {x5 : Int32} (hS : w.length = 74) : wn (w.set 15 (.inr (0, [.ref 116, .ref 117, .ref 122, .ref 127, .ref 128, .int x5]))) 15 5 = x5 := (wn_s (by rw [hS]; decide)).trans rfl
theorem Sh.p16 {w : sm_W} {f : Nat → Int32} (hS : Sh w) : Sh (w.set 16 (.inl (0, 6, .inl f))) := by
  have hl : 16 < w.length := by rw [hS.1]; decide
  refine hS.put (by decide) ?_
  simp only [sh, wi_s hl]
theorem wi16_s {w : sm_W} {f : Nat → Int32} (hS : w.length = 74) : wi (w.set 16 (.inl (0, 6, .inl f))) 16 = f := wi_s (by rw [hS]; decide)
theorem Sh.p18 {w : sm_W} {f : Nat → Int32} (hS : Sh w) : Sh (w.set 18 (.inl (0, 4, .inl f))) := by
  have hl : 18 < w.length := by rw [hS.1]; decide
  refine hS.put (by decide) ?_
  simp only [sh, wi_s hl]
theorem wi18_s {w : sm_W} {f : Nat → Int32} (hS : w.length = 74) : wi (w.set 18 (.inl (0, 4, .inl f))) 18 = f := wi_s (by rw [hS]; decide)
theorem Sh.p19 {w : sm_W} {f : Nat → Int32} (hS : Sh w) : Sh (w.set 19 (.inl (0, 4, .inl f))) := by
  have hl : 19 < w.length := by rw [hS.1]; decide
  refine hS.put (by decide) ?_
  simp only [sh, wi_s hl]
theorem wi19_s {w : sm_W} {f : Nat → Int32} (hS : w.length = 74) : wi (w.set 19 (.inl (0, 4, .inl f))) 19 = f := wi_s (by rw [hS]; decide)
theorem Sh.p20 {w : sm_W} {f : Nat → Int32} (hS : Sh w) : Sh (w.set 20 (.inl (0, 4, .inl f))) := by
  have hl : 20 < w.length := by rw [hS.1]; decide
  refine hS.put (by decide) ?_
  simp only [sh, wi_s hl]
theorem wi20_s {w : sm_W} {f : Nat → Int32} (hS : w.length = 74) : wi (w.set 20 (.inl (0, 4, .inl f))) 20 = f := wi_s (by rw [hS]; decide)
theorem Sh.p21 {w : sm_W} {f : Nat → Int32} (hS : Sh w) : Sh (w.set 21 (.inl (0, 4, .inl f))) := by
  have hl : 21 < w.length := by rw [hS.1]; decide
  refine hS.put (by decide) ?_
  simp only [sh, wi_s hl]
theorem wi21_s {w : sm_W} {f : Nat → Int32} (hS : w.length = 74) : wi (w.set 21 (.inl (0, 4, .inl f))) 21 = f := wi_s (by rw [hS]; decide)
theorem Sh.p23 {w : sm_W} {f : Nat → Int32} (hS : Sh w) : Sh (w.set 23 (.inl (0, 12, .inl f))) := by
  have hl : 23 < w.length := by rw [hS.1]; decide
  refine hS.put (by decide) ?_
  simp only [sh, wi_s hl]
theorem wi23_s {w : sm_W} {f : Nat → Int32} (hS : w.length = 74) : wi (w.set 23 (.inl (0, 12, .inl f))) 23 = f := wi_s (by rw [hS]; decide)
theorem Sh.p24 {w : sm_W} {f : Nat → Int32} (hS : Sh w) : Sh (w.set 24 (.inl (0, 12, .inl f))) := by
  have hl : 24 < w.length := by rw [hS.1]; decide
  refine hS.put (by decide) ?_
  simp only [sh, wi_s hl]
theorem wi24_s {w : sm_W} {f : Nat → Int32} (hS : w.length = 74) : wi (w.set 24 (.inl (0, 12, .inl f))) 24 = f := wi_s (by rw [hS]; decide)
theorem Sh.p25 {w : sm_W} {f : Nat → Int32} (hS : Sh w) : Sh (w.set 25 (.inl (0, 12, .inl f))) := by
  have hl : 25 < w.length := by rw [hS.1]; decide
  refine hS.put (by decide) ?_
  simp only [sh, wi_s hl]
theorem wi25_s {w : sm_W} {f : Nat → Int32} (hS : w.length = 74) : wi (w.set 25 (.inl (0, 12, .inl f))) 25 = f := wi_s (by rw [hS]; decide)
theorem Sh.p26 {w : sm_W} {f : Nat → Int32} (hS : Sh w) : Sh (w.set 26 (.inl (0, 12, .inl f))) := by
  have hl : 26 < w.length := by rw [hS.1]; decide
  refine hS.put (by decide) ?_
  simp only [sh, wi_s hl]
theorem wi26_s {w : sm_W} {f : Nat → Int32} (hS : w.length = 74) : wi (w.set 26 (.inl (0, 12, .inl f))) 26 = f := wi_s (by rw [hS]; decide)
theorem Sh.p27 {w : sm_W} {f : Nat → Int32} (hS : Sh w) : Sh (w.set 27 (.inl (0, 6, .inl f))) := by
  have hl : 27 < w.length := by rw [hS.1]; decide
  refine hS.put (by decide) ?_
  simp only [sh, wi_s hl]
theorem wi27_s {w : sm_W} {f : Nat → Int32} (hS : w.length = 74) : wi (w.set 27 (.inl (0, 6, .inl f))) 27 = f := wi_s (by rw [hS]; decide)
theorem Sh.p28 {w : sm_W} {f : Nat → Int32} (hS : Sh w) : Sh (w.set 28 (.inl (0, 8, .inl f))) := by
  have hl : 28 < w.length := by rw [hS.1]; decide
  refine hS.put (by decide) ?_
  simp only [sh, wi_s hl]
theorem wi28_s {w : sm_W} {f : Nat → Int32} (hS : w.length = 74) : wi (w.set 28 (.inl (0, 8, .inl f))) 28 = f := wi_s (by rw [hS]; decide)
theorem Sh.p29 {w : sm_W} {x2 : Int32} (hS : Sh w) : Sh (w.set 29 (.inr (3, [.ref 130, .ref 131, .int x2]))) := by
  have hl : 29 < w.length := by rw [hS.1]; decide
  refine hS.put (by decide) ?_
  simp only [sh, wn_s hl, wr_s hl, List.getD_cons_zero, List.getD_cons_succ]
theorem wn29_2 {w : sm_W} {x2 : Int32} (hS : w.length = 74) : wn (w.set 29 (.inr (3, [.ref 130, .ref 131, .int x2]))) 29 2 = x2 := (wn_s (by rw [hS]; decide)).trans rfl
theorem Sh.p30 {w : sm_W} {f : Nat → Int32} (hS : Sh w) : Sh (w.set 30 (.inl (0, 32, .inl f))) := by
  have hl : 30 < w.length := by rw [hS.1]; decide
  refine hS.put (by decide) ?_
  simp only [sh, wi_s hl]
theorem wi30_s {w : sm_W} {f : Nat → Int32} (hS : w.length = 74) : wi (w.set 30 (.inl (0, 32, .inl f))) 30 = f := wi_s (by rw [hS]; decide)
theorem Sh.p31 {w : sm_W} {f : Nat → Int32} (hS : Sh w) : Sh (w.set 31 (.inl (0, 32, .inl f))) := by
  have hl : 31 < w.length := by rw [hS.1]; decide
  refine hS.put (by decide) ?_
  simp only [sh, wi_s hl]
theorem wi31_s {w : sm_W} {f : Nat → Int32} (hS : w.length = 74) : wi (w.set 31 (.inl (0, 32, .inl f))) 31 = f := wi_s (by rw [hS]; decide)
theorem Sh.p33 {w : sm_W} {x2 : Int32} (hS : Sh w) : Sh (w.set 33 (.inr (3, [.ref 134, .ref 135, .int x2]))) := by
  have hl : 33 < w.length := by rw [hS.1]; decide
  refine hS.put (by decide) ?_
  simp only [sh, wn_s hl, wr_s hl, List.getD_cons_zero, List.getD_cons_succ]
theorem wn33_2 {w : sm_W} {x2 : Int32} (hS : w.length = 74) : wn (w.set 33 (.inr (3, [.ref 134, .ref 135, .int x2]))) 33 2 = x2 := (wn_s (by rw [hS]; decide)).trans rfl
theorem Sh.p34 {w : sm_W} {f : Nat → Int32} (hS : Sh w) : Sh (w.set 34 (.inl (0, 32, .inl f))) := by
  have hl : 34 < w.length := by rw [hS.1]; decide
  refine hS.put (by decide) ?_
  simp only [sh, wi_s hl]
theorem wi34_s {w : sm_W} {f : Nat → Int32} (hS : w.length = 74) : wi (w.set 34 (.inl (0, 32, .inl f))) 34 = f := wi_s (by rw [hS]; decide)
theorem Sh.p35 {w : sm_W} {f : Nat → Int32} (hS : Sh w) : Sh (w.set 35 (.inl (0, 32, .inl f))) := by
  have hl : 35 < w.length := by rw [hS.1]; decide
  refine hS.put (by decide) ?_
  simp only [sh, wi_s hl]
theorem wi35_s {w : sm_W} {f : Nat → Int32} (hS : w.length = 74) : wi (w.set 35 (.inl (0, 32, .inl f))) 35 = f := wi_s (by rw [hS]; decide)
theorem Sh.p36 {w : sm_W} {x2 : Int32} (hS : Sh w) : Sh (w.set 36 (.inr (3, [.ref 137, .ref 138, .int x2]))) := by
  have hl : 36 < w.length := by rw [hS.1]; decide
  refine hS.put (by decide) ?_
  simp only [sh, wn_s hl, wr_s hl, List.getD_cons_zero, List.getD_cons_succ]
theorem wn36_2 {w : sm_W} {x2 : Int32} (hS : w.length = 74) : wn (w.set 36 (.inr (3, [.ref 137, .ref 138, .int x2]))) 36 2 = x2 := (wn_s (by rw [hS]; decide)).trans rfl
theorem Sh.p37 {w : sm_W} {f : Nat → Int32} (hS : Sh w) : Sh (w.set 37 (.inl (0, 32, .inl f))) := by
  have hl : 37 < w.length := by rw [hS.1]; decide
  refine hS.put (by decide) ?_
  simp only [sh, wi_s hl]
theorem wi37_s {w : sm_W} {f : Nat → Int32} (hS : w.length = 74) : wi (w.set 37 (.inl (0, 32, .inl f))) 37 = f := wi_s (by rw [hS]; decide)
theorem Sh.p38 {w : sm_W} {f : Nat → Int32} (hS : Sh w) : Sh (w.set 38 (.inl (0, 32, .inl f))) := by
  have hl : 38 < w.length := by rw [hS.1]; decide
  refine hS.put (by decide) ?_
  simp only [sh, wi_s hl]
theorem wi38_s {w : sm_W} {f : Nat → Int32} (hS : w.length = 74) : wi (w.set 38 (.inl (0, 32, .inl f))) 38 = f := wi_s (by rw [hS]; decide)
theorem Sh.p39 {w : sm_W} {x2 : Int32} (hS : Sh w) : Sh (w.set 39 (.inr (3, [.ref 140, .ref 141, .int x2]))) := by
  have hl : 39 < w.length := by rw [hS.1]; decide
  refine hS.put (by decide) ?_
  simp only [sh, wn_s hl, wr_s hl, List.getD_cons_zero, List.getD_cons_succ]
theorem wn39_2 {w : sm_W} {x2 : Int32} (hS : w.length = 74) : wn (w.set 39 (.inr (3, [.ref 140, .ref 141, .int x2]))) 39 2 = x2 := (wn_s (by rw [hS]; decide)).trans rfl
theorem Sh.p40 {w : sm_W} {f : Nat → Int32} (hS : Sh w) : Sh (w.set 40 (.inl (0, 32, .inl f))) := by
  have hl : 40 < w.length := by rw [hS.1]; decide
  refine hS.put (by decide) ?_
  simp only [sh, wi_s hl]
theorem wi40_s {w : sm_W} {f : Nat → Int32} (hS : w.length = 74) : wi (w.set 40 (.inl (0, 32, .inl f))) 40 = f := wi_s (by rw [hS]; decide)
theorem Sh.p41 {w : sm_W} {f : Nat → Int32} (hS : Sh w) : Sh (w.set 41 (.inl (0, 32, .inl f))) := by
  have hl : 41 < w.length := by rw [hS.1]; decide
  refine hS.put (by decide) ?_
  simp only [sh, wi_s hl]
theorem wi41_s {w : sm_W} {f : Nat → Int32} (hS : w.length = 74) : wi (w.set 41 (.inl (0, 32, .inl f))) 41 = f := wi_s (by rw [hS]; decide)
theorem Sh.p42 {w : sm_W} {x2 : Int32} (hS : Sh w) : Sh (w.set 42 (.inr (3, [.ref 143, .ref 144, .int x2]))) := by
  have hl : 42 < w.length := by rw [hS.1]; decide
  refine hS.put (by decide) ?_
  simp only [sh, wn_s hl, wr_s hl, List.getD_cons_zero, List.getD_cons_succ]
theorem wn42_2 {w : sm_W} {x2 : Int32} (hS : w.length = 74) : wn (w.set 42 (.inr (3, [.ref 143, .ref 144, .int x2]))) 42 2 = x2 := (wn_s (by rw [hS]; decide)).trans rfl
theorem Sh.p43 {w : sm_W} {f : Nat → Int32} (hS : Sh w) : Sh (w.set 43 (.inl (0, 32, .inl f))) := by
  have hl : 43 < w.length := by rw [hS.1]; decide
  refine hS.put (by decide) ?_
  simp only [sh, wi_s hl]
theorem wi43_s {w : sm_W} {f : Nat → Int32} (hS : w.length = 74) : wi (w.set 43 (.inl (0, 32, .inl f))) 43 = f := wi_s (by rw [hS]; decide)
theorem Sh.p44 {w : sm_W} {f : Nat → Int32} (hS : Sh w) : Sh (w.set 44 (.inl (0, 32, .inl f))) := by
  have hl : 44 < w.length := by rw [hS.1]; decide
  refine hS.put (by decide) ?_
  simp only [sh, wi_s hl]
theorem wi44_s {w : sm_W} {f : Nat → Int32} (hS : w.length = 74) : wi (w.set 44 (.inl (0, 32, .inl f))) 44 = f := wi_s (by rw [hS]; decide)
theorem Sh.p45 {w : sm_W} {x1 : Int32} (hS : Sh w) : Sh (w.set 45 (.inr (1, [.ref 146, .int x1]))) := by
  have hl : 45 < w.length := by rw [hS.1]; decide
  refine hS.put (by decide) ?_
  simp only [sh, wn_s hl, wr_s hl, List.getD_cons_zero, List.getD_cons_succ]
theorem wn45_1 {w : sm_W} {x1 : Int32} (hS : w.length = 74) : wn (w.set 45 (.inr (1, [.ref 146, .int x1]))) 45 1 = x1 := (wn_s (by rw [hS]; decide)).trans rfl
theorem Sh.p47 {w : sm_W} {x0 : Int32} {x1 : Int32} {x2 : Int32} {x3 : Int32} {x4 : Int32} {x5 : Int32} {x6 : Int32} {x7 : Int32} (hS : Sh w) : Sh (w.set 47 (.inr (5, [.int x0, .int x1, .int x2, .int x3, .int x4, .int x5, .int x6, .int x7, .ref 148]))) := by
  have hl : 47 < w.length := by rw [hS.1]; decide
  refine hS.put (by decide) ?_
  simp only [sh, wn_s hl, wr_s hl, List.getD_cons_zero, List.getD_cons_succ]
theorem wn47_0 {w : sm_W} {x0 : Int32} {x1 : Int32} {x2 : Int32} {x3 : Int32} {x4 : Int32} {x5 : Int32} {x6 : Int32} {x7 : Int32} (hS : w.length = 74) : wn (w.set 47 (.inr (5, [.int x0, .int x1, .int x2, .int x3, .int x4, .int x5, .int x6, .int x7, .ref 148]))) 47 0 = x0 := (wn_s (by rw [hS]; decide)).trans rfl
theorem wn47_1 {w : sm_W} {x0 : Int32} {x1 : Int32} {x2 : Int32} {x3 : Int32} {x4 : Int32} {x5 : Int32} {x6 : Int32} {x7 : Int32} (hS : w.length = 74) : wn (w.set 47 (.inr (5, [.int x0, .int x1, .int x2, .int x3, .int x4, .int x5, .int x6, .int x7, .ref 148]))) 47 1 = x1 := (wn_s (by rw [hS]; decide)).trans rfl
theorem wn47_2 {w : sm_W} {x0 : Int32} {x1 : Int32} {x2 : Int32} {x3 : Int32} {x4 : Int32} {x5 : Int32} {x6 : Int32} {x7 : Int32} (hS : w.length = 74) : wn (w.set 47 (.inr (5, [.int x0, .int x1, .int x2, .int x3, .int x4, .int x5, .int x6, .int x7, .ref 148]))) 47 2 = x2 := (wn_s (by rw [hS]; decide)).trans rfl
theorem wn47_3 {w : sm_W} {x0 : Int32} {x1 : Int32} {x2 : Int32} {x3 : Int32} {x4 : Int32} {x5 : Int32} {x6 : Int32} {x7 : Int32} (hS : w.length = 74) : wn (w.set 47 (.inr (5, [.int x0, .int x1, .int x2, .int x3, .int x4, .int x5, .int x6, .int x7, .ref 148]))) 47 3 = x3 := (wn_s (by rw [hS]; decide)).trans rfl
theorem wn47_4 {w : sm_W} {x0 : Int32} {x1 : Int32} {x2 : Int32} {x3 : Int32} {x4 : Int32} {x5 : Int32} {x6 : Int32} {x7 : Int32} (hS : w.length = 74) : wn (w.set 47 (.inr (5, [.int x0, .int x1, .int x2, .int x3, .int x4, .int x5, .int x6, .int x7, .ref 148]))) 47 4 = x4 := (wn_s (by rw [hS]; decide)).trans rfl
theorem wn47_5 {w : sm_W} {x0 : Int32} {x1 : Int32} {x2 : Int32} {x3 : Int32} {x4 : Int32} {x5 : Int32} {x6 : Int32} {x7 : Int32} (hS : w.length = 74) : wn (w.set 47 (.inr (5, [.int x0, .int x1, .int x2, .int x3, .int x4, .int x5, .int x6, .int x7, .ref 148]))) 47 5 = x5 := (wn_s (by rw [hS]; decide)).trans rfl
theorem wn47_6 {w : sm_W} {x0 : Int32} {x1 : Int32} {x2 : Int32} {x3 : Int32} {x4 : Int32} {x5 : Int32} {x6 : Int32} {x7 : Int32} (hS : w.length = 74) : wn (w.set 47 (.inr (5, [.int x0, .int x1, .int x2, .int x3, .int x4, .int x5, .int x6, .int x7, .ref 148]))) 47 6 = x6 := (wn_s (by rw [hS]; decide)).trans rfl
theorem wn47_7 {w : sm_W} {x0 : Int32} {x1 : Int32} {x2 : Int32} {x3 : Int32} {x4 : Int32} {x5 : Int32} {x6 : Int32} {x7 : Int32} (hS : w.length = 74) : wn (w.set 47 (.inr (5, [.int x0, .int x1, .int x2, .int x3, .int x4, .int x5, .int x6, .int x7, .ref 148]))) 47 7 = x7 := (wn_s (by rw [hS]; decide)).trans rfl
theorem Sh.p48 {w : sm_W} {f : Nat → Int32} (hS : Sh w) : Sh (w.set 48 (.inl (0, 4, .inl f))) := by
  have hl : 48 < w.length := by rw [hS.1]; decide
  refine hS.put (by decide) ?_
  simp only [sh, wi_s hl]
theorem wi48_s {w : sm_W} {f : Nat → Int32} (hS : w.length = 74) : wi (w.set 48 (.inl (0, 4, .inl f))) 48 = f := wi_s (by rw [hS]; decide)
theorem Sh.p49 {w : sm_W} {x0 : Int32} {x1 : Int32} {x2 : Int32} {x3 : Int32} {x4 : Int32} {x5 : Int32} {x6 : Int32} {x7 : Int32} (hS : Sh w) : Sh (w.set 49 (.inr (5, [.int x0, .int x1, .int x2, .int x3, .int x4, .int x5, .int x6, .int x7, .ref 150]))) := by
  have hl : 49 < w.length := by rw [hS.1]; decide
  refine hS.put (by decide) ?_
  simp only [sh, wn_s hl, wr_s hl, List.getD_cons_zero, List.getD_cons_succ]
theorem wn49_0 {w : sm_W} {x0 : Int32} {x1 : Int32} {x2 : Int32} {x3 : Int32} {x4 : Int32} {x5 : Int32} {x6 : Int32} {x7 : Int32} (hS : w.length = 74) : wn (w.set 49 (.inr (5, [.int x0, .int x1, .int x2, .int x3, .int x4, .int x5, .int x6, .int x7, .ref 150]))) 49 0 = x0 := (wn_s (by rw [hS]; decide)).trans rfl
theorem wn49_1 {w : sm_W} {x0 : Int32} {x1 : Int32} {x2 : Int32} {x3 : Int32} {x4 : Int32} {x5 : Int32} {x6 : Int32} {x7 : Int32} (hS : w.length = 74) : wn (w.set 49 (.inr (5, [.int x0, .int x1, .int x2, .int x3, .int x4, .int x5, .int x6, .int x7, .ref 150]))) 49 1 = x1 := (wn_s (by rw [hS]; decide)).trans rfl
theorem wn49_2 {w : sm_W} {x0 : Int32} {x1 : Int32} {x2 : Int32} {x3 : Int32} {x4 : Int32} {x5 : Int32} {x6 : Int32} {x7 : Int32} (hS : w.length = 74) : wn (w.set 49 (.inr (5, [.int x0, .int x1, .int x2, .int x3, .int x4, .int x5, .int x6, .int x7, .ref 150]))) 49 2 = x2 := (wn_s (by rw [hS]; decide)).trans rfl
theorem wn49_3 {w : sm_W} {x0 : Int32} {x1 : Int32} {x2 : Int32} {x3 : Int32} {x4 : Int32} {x5 : Int32} {x6 : Int32} {x7 : Int32} (hS : w.length = 74) : wn (w.set 49 (.inr (5, [.int x0, .int x1, .int x2, .int x3, .int x4, .int x5, .int x6, .int x7, .ref 150]))) 49 3 = x3 := (wn_s (by rw [hS]; decide)).trans rfl
theorem wn49_4 {w : sm_W} {x0 : Int32} {x1 : Int32} {x2 : Int32} {x3 : Int32} {x4 : Int32} {x5 : Int32} {x6 : Int32} {x7 : Int32} (hS : w.length = 74) : wn (w.set 49 (.inr (5, [.int x0, .int x1, .int x2, .int x3, .int x4, .int x5, .int x6, .int x7, .ref 150]))) 49 4 = x4 := (wn_s (by rw [hS]; decide)).trans rfl
theorem wn49_5 {w : sm_W} {x0 : Int32} {x1 : Int32} {x2 : Int32} {x3 : Int32} {x4 : Int32} {x5 : Int32} {x6 : Int32} {x7 : Int32} (hS : w.length = 74) : wn (w.set 49 (.inr (5, [.int x0, .int x1, .int x2, .int x3, .int x4, .int x5, .int x6, .int x7, .ref 150]))) 49 5 = x5 := (wn_s (by rw [hS]; decide)).trans rfl
theorem wn49_6 {w : sm_W} {x0 : Int32} {x1 : Int32} {x2 : Int32} {x3 : Int32} {x4 : Int32} {x5 : Int32} {x6 : Int32} {x7 : Int32} (hS : w.length = 74) : wn (w.set 49 (.inr (5, [.int x0, .int x1, .int x2, .int x3, .int x4, .int x5, .int x6, .int x7, .ref 150]))) 49 6 = x6 := (wn_s (by rw [hS]; decide)).trans rfl
theorem wn49_7 {w : sm_W} {x0 : Int32} {x1 : Int32} {x2 : Int32} {x3 : Int32} {x4 : Int32} {x5 : Int32} {x6 : Int32} {x7 : Int32} (hS : w.length = 74) : wn (w.set 49 (.inr (5, [.int x0, .int x1, .int x2, .int x3, .int x4, .int x5, .int x6, .int x7, .ref 150]))) 49 7 = x7 := (wn_s (by rw [hS]; decide)).trans rfl
theorem Sh.p50 {w : sm_W} {f : Nat → Int32} (hS : Sh w) : Sh (w.set 50 (.inl (0, 4, .inl f))) := by
  have hl : 50 < w.length := by rw [hS.1]; decide
  refine hS.put (by decide) ?_
  simp only [sh, wi_s hl]
theorem wi50_s {w : sm_W} {f : Nat → Int32} (hS : w.length = 74) : wi (w.set 50 (.inl (0, 4, .inl f))) 50 = f := wi_s (by rw [hS]; decide)
theorem Sh.p51 {w : sm_W} {x0 : Int32} {x1 : Int32} {x2 : Int32} {x3 : Int32} {x4 : Int32} {x5 : Int32} {x6 : Int32} {x7 : Int32} (hS : Sh w) : Sh (w.set 51 (.inr (5, [.int x0, .int x1, .int x2, .int x3, .int x4, .int x5, .int x6, .int x7, .ref 152]))) := by
  have hl : 51 < w.length := by rw [hS.1]; decide
  refine hS.put (by decide) ?_
  simp only [sh, wn_s hl, wr_s hl, List.getD_cons_zero, List.getD_cons_succ]
theorem wn51_0 {w : sm_W} {x0 : Int32} {x1 : Int32} {x2 : Int32} {x3 : Int32} {x4 : Int32} {x5 : Int32} {x6 : Int32} {x7 : Int32} (hS : w.length = 74) : wn (w.set 51 (.inr (5, [.int x0, .int x1, .int x2, .int x3, .int x4, .int x5, .int x6, .int x7, .ref 152]))) 51 0 = x0 := (wn_s (by rw [hS]; decide)).trans rfl
theorem wn51_1 {w : sm_W} {x0 : Int32} {x1 : Int32} {x2 : Int32} {x3 : Int32} {x4 : Int32} {x5 : Int32} {x6 : Int32} {x7 : Int32} (hS : w.length = 74) : wn (w.set 51 (.inr (5, [.int x0, .int x1, .int x2, .int x3, .int x4, .int x5, .int x6, .int x7, .ref 152]))) 51 1 = x1 := (wn_s (by rw [hS]; decide)).trans rfl
theorem wn51_2 {w : sm_W} {x0 : Int32} {x1 : Int32} {x2 : Int32} {x3 : Int32} {x4 : Int32} {x5 : Int32} {x6 : Int32} {x7 : Int32} (hS : w.length = 74) : wn (w.set 51 (.inr (5, [.int x0, .int x1, .int x2, .int x3, .int x4, .int x5, .int x6, .int x7, .ref 152]))) 51 2 = x2 := (wn_s (by rw [hS]; decide)).trans rfl
theorem wn51_3 {w : sm_W} {x0 : Int32} {x1 : Int32} {x2 : Int32} {x3 : Int32} {x4 : Int32} {x5 : Int32} {x6 : Int32} {x7 : Int32} (hS : w.length = 74) : wn (w.set 51 (.inr (5, [.int x0, .int x1, .int x2, .int x3, .int x4, .int x5, .int x6, .int x7, .ref 152]))) 51 3 = x3 := (wn_s (by rw [hS]; decide)).trans rfl
theorem wn51_4 {w : sm_W} {x0 : Int32} {x1 : Int32} {x2 : Int32} {x3 : Int32} {x4 : Int32} {x5 : Int32} {x6 : Int32} {x7 : Int32} (hS : w.length = 74) : wn (w.set 51 (.inr (5, [.int x0, .int x1, .int x2, .int x3, .int x4, .int x5, .int x6, .int x7, .ref 152]))) 51 4 = x4 := (wn_s (by rw [hS]; decide)).trans rfl
theorem wn51_5 {w : sm_W} {x0 : Int32} {x1 : Int32} {x2 : Int32} {x3 : Int32} {x4 : Int32} {x5 : Int32} {x6 : Int32} {x7 : Int32} (hS : w.length = 74) : wn (w.set 51 (.inr (5, [.int x0, .int x1, .int x2, .int x3, .int x4, .int x5, .int x6, .int x7, .ref 152]))) 51 5 = x5 := (wn_s (by rw [hS]; decide)).trans rfl
theorem wn51_6 {w : sm_W} {x0 : Int32} {x1 : Int32} {x2 : Int32} {x3 : Int32} {x4 : Int32} {x5 : Int32} {x6 : Int32} {x7 : Int32} (hS : w.length = 74) : wn (w.set 51 (.inr (5, [.int x0, .int x1, .int x2, .int x3, .int x4, .int x5, .int x6, .int x7, .ref 152]))) 51 6 = x6 := (wn_s (by rw [hS]; decide)).trans rfl
theorem wn51_7 {w : sm_W} {x0 : Int32} {x1 : Int32} {x2 : Int32} {x3 : Int32} {x4 : Int32} {x5 : Int32} {x6 : Int32} {x7 : Int32} (hS : w.length = 74) : wn (w.set 51 (.inr (5, [.int x0, .int x1, .int x2, .int x3, .int x4, .int x5, .int x6, .int x7, .ref 152]))) 51 7 = x7 := (wn_s (by rw [hS]; decide)).trans rfl
theorem Sh.p52 {w : sm_W} {f : Nat → Int32} (hS : Sh w) : Sh (w.set 52 (.inl (0, 4, .inl f))) := by
  have hl : 52 < w.length := by rw [hS.1]; decide
  refine hS.put (by decide) ?_
  simp only [sh, wi_s hl]
theorem wi52_s {w : sm_W} {f : Nat → Int32} (hS : w.length = 74) : wi (w.set 52 (.inl (0, 4, .inl f))) 52 = f := wi_s (by rw [hS]; decide)
theorem Sh.p53 {w : sm_W} {x0 : Int32} {x1 : Int32} {x2 : Int32} {x3 : Int32} {x4 : Int32} {x5 : Int32} {x6 : Int32} {x7 : Int32} (hS : Sh w) : Sh (w.set 53 (.inr (5, [.int x0, .int x1, .int x2, .int x3, .int x4, .int x5, .int x6, .int x7, .ref 154]))) := by
  have hl : 53 < w.length := by rw [hS.1]; decide
  refine hS.put (by decide) ?_
  simp only [sh, wn_s hl, wr_s hl, List.getD_cons_zero, List.getD_cons_succ]
theorem wn53_0 {w : sm_W} {x0 : Int32} {x1 : Int32} {x2 : Int32} {x3 : Int32} {x4 : Int32} {x5 : Int32} {x6 : Int32} {x7 : Int32} (hS : w.length = 74) : wn (w.set 53 (.inr (5, [.int x0, .int x1, .int x2, .int x3, .int x4, .int x5, .int x6, .int x7, .ref 154]))) 53 0 = x0 := (wn_s (by rw [hS]; decide)).trans rfl
theorem wn53_1 {w : sm_W} {x0 : Int32} {x1 : Int32} {x2 : Int32} {x3 : Int32} {x4 : Int32} {x5 : Int32} {x6 : Int32} {x7 : Int32} (hS : w.length = 74) : wn (w.set 53 (.inr (5, [.int x0, .int x1, .int x2, .int x3, .int x4, .int x5, .int x6, .int x7, .ref 154]))) 53 1 = x1 := (wn_s (by rw [hS]; decide)).trans rfl
theorem wn53_2 {w : sm_W} {x0 : Int32} {x1 : Int32} {x2 : Int32} {x3 : Int32} {x4 : Int32} {x5 : Int32} {x6 : Int32} {x7 : Int32} (hS : w.length = 74) : wn (w.set 53 (.inr (5, [.int x0, .int x1, .int x2, .int x3, .int x4, .int x5, .int x6, .int x7, .ref 154]))) 53 2 = x2 := (wn_s (by rw [hS]; decide)).trans rfl
theorem wn53_3 {w : sm_W} {x0 : Int32} {x1 : Int32} {x2 : Int32} {x3 : Int32} {x4 : Int32} {x5 : Int32} {x6 : Int32} {x7 : Int32} (hS : w.length = 74) : wn (w.set 53 (.inr (5, [.int x0, .int x1, .int x2, .int x3, .int x4, .int x5, .int x6, .int x7, .ref 154]))) 53 3 = x3 := (wn_s (by rw [hS]; decide)).trans rfl
theorem wn53_4 {w : sm_W} {x0 : Int32} {x1 : Int32} {x2 : Int32} {x3 : Int32} {x4 : Int32} {x5 : Int32} {x6 : Int32} {x7 : Int32} (hS : w.length = 74) : wn (w.set 53 (.inr (5, [.int x0, .int x1, .int x2, .int x3, .int x4, .int x5, .int x6, .int x7, .ref 154]))) 53 4 = x4 := (wn_s (by rw [hS]; decide)).trans rfl
theorem wn53_5 {w : sm_W} {x0 : Int32} {x1 : Int32} {x2 : Int32} {x3 : Int32} {x4 : Int32} {x5 : Int32} {x6 : Int32} {x7 : Int32} (hS : w.length = 74) : wn (w.set 53 (.inr (5, [.int x0, .int x1, .int x2, .int x3, .int x4, .int x5, .int x6, .int x7, .ref 154]))) 53 5 = x5 := (wn_s (by rw [hS]; decide)).trans rfl
theorem wn53_6 {w : sm_W} {x0 : Int32} {x1 : Int32} {x2 : Int32} {x3 : Int32} {x4 : Int32} {x5 : Int32} {x6 : Int32} {x7 : Int32} (hS : w.length = 74) : wn (w.set 53 (.inr (5, [.int x0, .int x1, .int x2, .int x3, .int x4, .int x5, .int x6, .int x7, .ref 154]))) 53 6 = x6 := (wn_s (by rw [hS]; decide)).trans rfl
theorem wn53_7 {w : sm_W} {x0 : Int32} {x1 : Int32} {x2 : Int32} {x3 : Int32} {x4 : Int32} {x5 : Int32} {x6 : Int32} {x7 : Int32} (hS : w.length = 74) : wn (w.set 53 (.inr (5, [.int x0, .int x1, .int x2, .int x3, .int x4, .int x5, .int x6, .int x7, .ref 154]))) 53 7 = x7 := (wn_s (by rw [hS]; decide)).trans rfl
theorem Sh.p54 {w : sm_W} {f : Nat → Int32} (hS : Sh w) : Sh (w.set 54 (.inl (0, 4, .inl f))) := by
  have hl : 54 < w.length := by rw [hS.1]; decide
  refine hS.put (by decide) ?_
  simp only [sh, wi_s hl]
theorem wi54_s {w : sm_W} {f : Nat → Int32} (hS : w.length = 74) : wi (w.set 54 (.inl (0, 4, .inl f))) 54 = f := wi_s (by rw [hS]; decide)
theorem Sh.p55 {w : sm_W} {x3 : Int32} {x4 : Int32} {x5 : Int32} {x6 : Int32} {x7 : Nat} {x8 : Int32} {x9 : Int32} {x10 : Int32} (hS : Sh w) : Sh (w.set 55 (.inr (2, [.ref 101, .ref 145, .ref 156, .int x3, .int x4, .int x5, .int x6, .ref x7, .int x8, .int x9, .int x10]))) := by
  have hl : 55 < w.length := by rw [hS.1]; decide
  refine hS.put (by decide) ?_
  simp only [sh, wn_s hl, wr_s hl, List.getD_cons_zero, List.getD_cons_succ]
theorem wn55_3 {w : sm_W} {x3 : Int32} {x4 : Int32} {x5 : Int32} {x6 : Int32} {x7 : Nat} {x8 : Int32} {x9 : Int32} {x10 : Int32} (hS : w.length = 74) : wn (w.set 55 (.inr (2, [.ref 101, .ref 145, .ref 156, .int x3, .int x4, .int x5, .int x6, .ref x7, .int x8, .int x9, .int x10]))) 55 3 = x3 := (wn_s (by rw [hS]; decide)).trans rfl
theorem wn55_4 {w : sm_W} {x3 : Int32} {x4 : Int32} {x5 : Int32} {x6 : Int32} {x7 : Nat} {x8 : Int32} {x9 : Int32} {x10 : Int32} (hS : w.length = 74) : wn (w.set 55 (.inr (2, [.ref 101, .ref 145, .ref 156, .int x3, .int x4, .int x5, .int x6, .ref x7, .int x8, .int x9, .int x10]))) 55 4 = x4 := (wn_s (by rw [hS]; decide)).trans rfl
theorem wn55_5 {w : sm_W} {x3 : Int32} {x4 : Int32} {x5 : Int32} {x6 : Int32} {x7 : Nat} {x8 : Int32} {x9 : Int32} {x10 : Int32} (hS : w.length = 74) : wn (w.set 55 (.inr (2, [.ref 101, .ref 145, .ref 156, .int x3, .int x4, .int x5, .int x6, .ref x7, .int x8, .int x9, .int x10]))) 55 5 = x5 := (wn_s (by rw [hS]; decide)).trans rfl
theorem wn55_6 {w : sm_W} {x3 : Int32} {x4 : Int32} {x5 : Int32} {x6 : Int32} {x7 : Nat} {x8 : Int32} {x9 : Int32} {x10 : Int32} (hS : w.length = 74) : wn (w.set 55 (.inr (2, [.ref 101, .ref 145, .ref 156, .int x3, .int x4, .int x5, .int x6, .ref x7, .int x8, .int x9, .int x10]))) 55 6 = x6 := (wn_s (by rw [hS]; decide)).trans rfl
theorem wr55_7 {w : sm_W} {x3 : Int32} {x4 : Int32} {x5 : Int32} {x6 : Int32} {x7 : Nat} {x8 : Int32} {x9 : Int32} {x10 : Int32} (hS : w.length = 74) : wr (w.set 55 (.inr (2, [.ref 101, .ref 145, .ref 156, .int x3, .int x4, .int x5, .int x6, .ref x7, .int x8, .int x9, .int x10]))) 55 7 = x7 := (wr_s (by rw [hS]; decide)).trans rfl
theorem wn55_8 {w : sm_W} {x3 : Int32} {x4 : Int32} {x5 : Int32} {x6 : Int32} {x7 : Nat} {x8 : Int32} {x9 : Int32} {x10 : Int32} (hS : w.length = 74) : wn (w.set 55 (.inr (2, [.ref 101, .ref 145, .ref 156, .int x3, .int x4, .int x5, .int x6, .ref x7, .int x8, .int x9, .int x10]))) 55 8 = x8 := (wn_s (by rw [hS]; decide)).trans rfl
theorem wn55_9 {w : sm_W} {x3 : Int32} {x4 : Int32} {x5 : Int32} {x6 : Int32} {x7 : Nat} {x8 : Int32} {x9 : Int32} {x10 : Int32} (hS : w.length = 74) : wn (w.set 55 (.inr (2, [.ref 101, .ref 145, .ref 156, .int x3, .int x4, .int x5, .int x6, .ref x7, .int x8, .int x9, .int x10]))) 55 9 = x9 := (wn_s (by rw [hS]; decide)).trans rfl
theorem wn55_10 {w : sm_W} {x3 : Int32} {x4 : Int32} {x5 : Int32} {x6 : Int32} {x7 : Nat} {x8 : Int32} {x9 : Int32} {x10 : Int32} (hS : w.length = 74) : wn (w.set 55 (.inr (2, [.ref 101, .ref 145, .ref 156, .int x3, .int x4, .int x5, .int x6, .ref x7, .int x8, .int x9, .int x10]))) 55 10 = x10 := (wn_s (by rw [hS]; decide)).trans rfl
theorem Sh.p56 {w : sm_W} {x2 : Int32} (hS : Sh w) : Sh (w.set 56 (.inr (4, [.ref 157, .ref 158, .int x2]))) := by
  have hl : 56 < w.length := by rw [hS.1]; decide
  refine hS.put (by decide) ?_
  simp only [sh, wn_s hl, wr_s hl, List.getD_cons_zero, List.getD_cons_succ]
theorem wn56_2 {w : sm_W} {x2 : Int32} (hS : w.length = 74) : wn (w.set 56 (.inr (4, [.ref 157, .ref 158, .int x2]))) 56 2 = x2 := (wn_s (by rw [hS]; decide)).trans rfl
theorem Sh.p57 {w : sm_W} {f : Nat → Int32} (hS : Sh w) : Sh (w.set 57 (.inl (0, 8, .inl f))) := by
  have hl : 57 < w.length := by rw [hS.1]; decide
  refine hS.put (by decide) ?_
  simp only [sh, wi_s hl]
theorem wi57_s {w : sm_W} {f : Nat → Int32} (hS : w.length = 74) : wi (w.set 57 (.inl (0, 8, .inl f))) 57 = f := wi_s (by rw [hS]; decide)
theorem Sh.p58 {w : sm_W} {f : Nat → Int32} (hS : Sh w) : Sh (w.set 58 (.inl (0, 8, .inl f))) := by
  have hl : 58 < w.length := by rw [hS.1]; decide
  refine hS.put (by decide) ?_
  simp only [sh, wi_s hl]
theorem wi58_s {w : sm_W} {f : Nat → Int32} (hS : w.length = 74) : wi (w.set 58 (.inl (0, 8, .inl f))) 58 = f := wi_s (by rw [hS]; decide)
theorem Sh.p59 {w : sm_W} {x5 : Int32} {x12 : Int32} {x13 : Int32} {x14 : Int32} {x15 : Int32} {x16 : Int32} {x17 : Int32} {x18 : Int32} {x19 : Int32} {x20 : Int32} {x24 : Int32} {x25 : Int32} (hS : Sh w) : Sh (w.set 59 (.inr (7, [.ref 160, .ref 161, .ref 162, .ref 163, .ref 164, .int x5, .ref 165, .ref 166, .ref 167, .ref 168, .ref 169, .ref 170, .int x12, .int x13, .int x14, .int x15, .int x16, .int x17, .int x18, .int x19, .int x20, .ref 171, .ref 172, .ref 173, .int x24, .int x25]))) := by
  have hl : 59 < w.length := by rw [hS.1]; decide
  refine hS.put (by decide) ?_
  simp only [sh, wn_s hl, wr_s hl, List.getD_cons_zero, List.getD_cons_succ]
theorem wn59_5 {w : sm_W} {x5 : Int32} {x12 : Int32} {x13 : Int32} {x14 : Int32} {x15 : Int32} {x16 : Int32} {x17 : Int32} {x18 : Int32} {x19 : Int32} {x20 : Int32} {x24 : Int32} {x25 : Int32} (hS : w.length = 74) : wn (w.set 59 (.inr (7, [.ref 160, .ref 161, .ref 162, .ref 163, .ref 164, .int x5, .ref 165, .ref 166, .ref 167, .ref 168, .ref 169, .ref 170, .int x12, .int x13, .int x14, .int x15, .int x16, .int x17, .int x18, .int x19, .int x20, .ref 171, .ref 172, .ref 173, .int x24, .int x25]))) 59 5 = x5 := (wn_s (by rw [hS]; decide)).trans rfl
theorem wn59_12 {w : sm_W} {x5 : Int32} {x12 : Int32} {x13 : Int32} {x14 : Int32} {x15 : Int32} {x16 : Int32} {x17 : Int32} {x18 : Int32} {x19 : Int32} {x20 : Int32} {x24 : Int32} {x25 : Int32} (hS : w.length = 74) : wn (w.set 59 (.inr (7, [.ref 160, .ref 161, .ref 162, .ref 163, .ref 164, .int x5, .ref 165, .ref 166, .ref 167, .ref 168, .ref 169, .ref 170, .int x12, .int x13, .int x14, .int x15, .int x16, .int x17, .int x18, .int x19, .int x20, .ref 171, .ref 172, .ref 173, .int x24, .int x25]))) 59 12 = x12 := (wn_s (by rw [hS]; decide)).trans rfl
theorem wn59_13 {w : sm_W} {x5 : Int32} {x12 : Int32} {x13 : Int32} {x14 : Int32} {x15 : Int32} {x16 : Int32} {x17 : Int32} {x18 : Int32} {x19 : Int32} {x20 : Int32} {x24 : Int32} {x25 : Int32} (hS : w.length = 74) : wn (w.set 59 (.inr (7, [.ref 160, .ref 161, .ref 162, .ref 163, .ref 164, .int x5, .ref 165, .ref 166, .ref 167, .ref 168, .ref 169, .ref 170, .int x12, .int x13, .int x14, .int x15, .int x16, .int x17, .int x18, .int x19, .int x20, .ref 171, .ref 172, .ref 173, .int x24, .int x25]))) 59 13 = x13 := (wn_s (by rw [hS]; decide)).trans rfl
theorem wn59_14 {w : sm_W} {x5 : Int32} {x12 : Int32} {x13 : Int32} {x14 : Int32} {x15 : Int32} {x16 : Int32} {x17 : Int32} {x18 : Int32} {x19 : Int32} {x20 : Int32} {x24 : Int32} {x25 : Int32} (hS : w.length = 74) : wn (w.set 59 (.inr (7, [.ref 160, .ref 161, .ref 162, .ref 163, .ref 164, .int x5, .ref 165, .ref 166, .ref 167, .ref 168, .ref 169, .ref 170, .int x12, .int x13, .int x14, .int x15, .int x16, .int x17, .int x18, .int x19, .int x20, .ref 171, .ref 172, .ref 173, .int x24, .int x25]))) 59 14 = x14 := (wn_s (by rw [hS]; decide)).trans rfl
theorem wn59_15 {w : sm_W} {x5 : Int32} {x12 : Int32} {x13 : Int32} {x14 : Int32} {x15 : Int32} {x16 : Int32} {x17 : Int32} {x18 : Int32} {x19 : Int32} {x20 : Int32} {x24 : Int32} {x25 : Int32} (hS : w.length = 74) : wn (w.set 59 (.inr (7, [.ref 160, .ref 161, .ref 162, .ref 163, .ref 164, .int x5, .ref 165, .ref 166, .ref 167, .ref 168, .ref 169, .ref 170, .int x12, .int x13, .int x14, .int x15, .int x16, .int x17, .int x18, .int x19, .int x20, .ref 171, .ref 172, .ref 173, .int x24, .int x25]))) 59 15 = x15 := (wn_s (by rw [hS]; decide)).trans rfl
theorem wn59_16 {w : sm_W} {x5 : Int32} {x12 : Int32} {x13 : Int32} {x14 : Int32} {x15 : Int32} {x16 : Int32} {x17 : Int32} {x18 : Int32} {x19 : Int32} {x20 : Int32} {x24 : Int32} {x25 : Int32} (hS : w.length = 74) : wn (w.set 59 (.inr (7, [.ref 160, .ref 161, .ref 162, .ref 163, .ref 164, .int x5, .ref 165, .ref 166, .ref 167, .ref 168, .ref 169, .ref 170, .int x12, .int x13, .int x14, .int x15, .int x16, .int x17, .int x18, .int x19, .int x20, .ref 171, .ref 172, .ref 173, .int x24, .int x25]))) 59 16 = x16 := (wn_s (by rw [hS]; decide)).trans rfl
theorem wn59_17 {w : sm_W} {x5 : Int32} {x12 : Int32} {x13 : Int32} {x14 : Int32} {x15 : Int32} {x16 : Int32} {x17 : Int32} {x18 : Int32} {x19 : Int32} {x20 : Int32} {x24 : Int32} {x25 : Int32} (hS : w.length = 74) : wn (w.set 59 (.inr (7, [.ref 160, .ref 161, .ref 162, .ref 163, .ref 164, .int x5, .ref 165, .ref 166, .ref 167, .ref 168, .ref 169, .ref 170, .int x12, .int x13, .int x14, .int x15, .int x16, .int x17, .int x18, .int x19, .int x20, .ref 171, .ref 172, .ref 173, .int x24, .int x25]))) 59 17 = x17 := (wn_s (by rw [hS]; decide)).trans rfl
theorem wn59_18 {w : sm_W} {x5 : Int32} {x12 : Int32} {x13 : Int32} {x14 : Int32} {x15 : Int32} {x16 : Int32} {x17 : Int32} {x18 : Int32} {x19 : Int32} {x20 : Int32} {x24 : Int32} {x25 : Int32} (hS : w.length = 74) : wn (w.set 59 (.inr (7, [.ref 160, .ref 161, .ref 162, .ref 163, .ref 164, .int x5, .ref 165, .ref 166, .ref 167, .ref 168, .ref 169, .ref 170, .int x12, .int x13, .int x14, .int x15, .int x16, .int x17, .int x18, .int x19, .int x20, .ref 171, .ref 172, .ref 173, .int x24, .int x25]))) 59 18 = x18 := (wn_s (by rw [hS]; decide)).trans rfl
theorem wn59_19 {w : sm_W} {x5 : Int32} {x12 : Int32} {x13 : Int32} {x14 : Int32} {x15 : Int32} {x16 : Int32} {x17 : Int32} {x18 : Int32} {x19 : Int32} {x20 : Int32} {x24 : Int32} {x25 : Int32} (hS : w.length = 74) : wn (w.set 59 (.inr (7, [.ref 160, .ref 161, .ref 162, .ref 163, .ref 164, .int x5, .ref 165, .ref 166, .ref 167, .ref 168, .ref 169, .ref 170, .int x12, .int x13, .int x14, .int x15, .int x16, .int x17, .int x18, .int x19, .int x20, .ref 171, .ref 172, .ref 173, .int x24, .int x25]))) 59 19 = x19 := (wn_s (by rw [hS]; decide)).trans rfl
theorem wn59_20 {w : sm_W} {x5 : Int32} {x12 : Int32} {x13 : Int32} {x14 : Int32} {x15 : Int32} {x16 : Int32} {x17 : Int32} {x18 : Int32} {x19 : Int32} {x20 : Int32} {x24 : Int32} {x25 : Int32} (hS : w.length = 74) : wn (w.set 59 (.inr (7, [.ref 160, .ref 161, .ref 162, .ref 163, .ref 164, .int x5, .ref 165, .ref 166, .ref 167, .ref 168, .ref 169, .ref 170, .int x12, .int x13, .int x14, .int x15, .int x16, .int x17, .int x18, .int x19, .int x20, .ref 171, .ref 172, .ref 173, .int x24, .int x25]))) 59 20 = x20 := (wn_s (by rw [hS]; decide)).trans rfl
theorem wn59_24 {w : sm_W} {x5 : Int32} {x12 : Int32} {x13 : Int32} {x14 : Int32} {x15 : Int32} {x16 : Int32} {x17 : Int32} {x18 : Int32} {x19 : Int32} {x20 : Int32} {x24 : Int32} {x25 : Int32} (hS : w.length = 74) : wn (w.set 59 (.inr (7, [.ref 160, .ref 161, .ref 162, .ref 163, .ref 164, .int x5, .ref 165, .ref 166, .ref 167, .ref 168, .ref 169, .ref 170, .int x12, .int x13, .int x14, .int x15, .int x16, .int x17, .int x18, .int x19, .int x20, .ref 171, .ref 172, .ref 173, .int x24, .int x25]))) 59 24 = x24 := (wn_s (by rw [hS]; decide)).trans rfl
theorem wn59_25 {w : sm_W} {x5 : Int32} {x12 : Int32} {x13 : Int32} {x14 : Int32} {x15 : Int32} {x16 : Int32} {x17 : Int32} {x18 : Int32} {x19 : Int32} {x20 : Int32} {x24 : Int32} {x25 : Int32} (hS : w.length = 74) : wn (w.set 59 (.inr (7, [.ref 160, .ref 161, .ref 162, .ref 163, .ref 164, .int x5, .ref 165, .ref 166, .ref 167, .ref 168, .ref 169, .ref 170, .int x12, .int x13, .int x14, .int x15, .int x16, .int x17, .int x18, .int x19, .int x20, .ref 171, .ref 172, .ref 173, .int x24, .int x25]))) 59 25 = x25 := (wn_s (by rw [hS]; decide)).trans rfl
theorem Sh.p60 {w : sm_W} {f : Nat → Int64} (hS : Sh w) : Sh (w.set 60 (.inl (1, 94, .inr (.inl f)))) := by
  have hl : 60 < w.length := by rw [hS.1]; decide
  refine hS.put (by decide) ?_
  simp only [sh, wl_s hl]
theorem wl60_s {w : sm_W} {f : Nat → Int64} (hS : w.length = 74) : wl (w.set 60 (.inl (1, 94, .inr (.inl f)))) 60 = f := wl_s (by rw [hS]; decide)
theorem Sh.p61 {w : sm_W} {f : Nat → Int64} (hS : Sh w) : Sh (w.set 61 (.inl (1, 94, .inr (.inl f)))) := by
  have hl : 61 < w.length := by rw [hS.1]; decide
  refine hS.put (by decide) ?_
  simp only [sh, wl_s hl]
theorem wl61_s {w : sm_W} {f : Nat → Int64} (hS : w.length = 74) : wl (w.set 61 (.inl (1, 94, .inr (.inl f)))) 61 = f := wl_s (by rw [hS]; decide)
theorem Sh.p62 {w : sm_W} {f : Nat → Int32} (hS : Sh w) : Sh (w.set 62 (.inl (0, 160, .inl f))) := by
  have hl : 62 < w.length := by rw [hS.1]; decide
  refine hS.put (by decide) ?_
  simp only [sh, wi_s hl]
theorem wi62_s {w : sm_W} {f : Nat → Int32} (hS : w.length = 74) : wi (w.set 62 (.inl (0, 160, .inl f))) 62 = f := wi_s (by rw [hS]; decide)
theorem Sh.p63 {w : sm_W} {f : Nat → Int32} (hS : Sh w) : Sh (w.set 63 (.inl (0, 160, .inl f))) := by
  have hl : 63 < w.length := by rw [hS.1]; decide
  refine hS.put (by decide) ?_
  simp only [sh, wi_s hl]
theorem wi63_s {w : sm_W} {f : Nat → Int32} (hS : w.length = 74) : wi (w.set 63 (.inl (0, 160, .inl f))) 63 = f := wi_s (by rw [hS]; decide)
theorem Sh.p64 {w : sm_W} {f : Nat → Int32} (hS : Sh w) : Sh (w.set 64 (.inl (0, 5, .inl f))) := by
  have hl : 64 < w.length := by rw [hS.1]; decide
  refine hS.put (by decide) ?_
  simp only [sh, wi_s hl]
theorem wi64_s {w : sm_W} {f : Nat → Int32} (hS : w.length = 74) : wi (w.set 64 (.inl (0, 5, .inl f))) 64 = f := wi_s (by rw [hS]; decide)
theorem Sh.p65 {w : sm_W} {f : Nat → Int32} (hS : Sh w) : Sh (w.set 65 (.inl (0, 4, .inl f))) := by
  have hl : 65 < w.length := by rw [hS.1]; decide
  refine hS.put (by decide) ?_
  simp only [sh, wi_s hl]
theorem wi65_s {w : sm_W} {f : Nat → Int32} (hS : w.length = 74) : wi (w.set 65 (.inl (0, 4, .inl f))) 65 = f := wi_s (by rw [hS]; decide)
theorem Sh.p66 {w : sm_W} {f : Nat → Int32} (hS : Sh w) : Sh (w.set 66 (.inl (0, 4, .inl f))) := by
  have hl : 66 < w.length := by rw [hS.1]; decide
  refine hS.put (by decide) ?_
  simp only [sh, wi_s hl]
theorem wi66_s {w : sm_W} {f : Nat → Int32} (hS : w.length = 74) : wi (w.set 66 (.inl (0, 4, .inl f))) 66 = f := wi_s (by rw [hS]; decide)
theorem Sh.p67 {w : sm_W} {f : Nat → Int32} (hS : Sh w) : Sh (w.set 67 (.inl (0, 4, .inl f))) := by
  have hl : 67 < w.length := by rw [hS.1]; decide
  refine hS.put (by decide) ?_
  simp only [sh, wi_s hl]
theorem wi67_s {w : sm_W} {f : Nat → Int32} (hS : w.length = 74) : wi (w.set 67 (.inl (0, 4, .inl f))) 67 = f := wi_s (by rw [hS]; decide)
theorem Sh.p68 {w : sm_W} {f : Nat → Int32} (hS : Sh w) : Sh (w.set 68 (.inl (0, 4, .inl f))) := by
  have hl : 68 < w.length := by rw [hS.1]; decide
  refine hS.put (by decide) ?_
  simp only [sh, wi_s hl]
theorem wi68_s {w : sm_W} {f : Nat → Int32} (hS : w.length = 74) : wi (w.set 68 (.inl (0, 4, .inl f))) 68 = f := wi_s (by rw [hS]; decide)
theorem Sh.p69 {w : sm_W} {f : Nat → Int32} (hS : Sh w) : Sh (w.set 69 (.inl (0, 4, .inl f))) := by
  have hl : 69 < w.length := by rw [hS.1]; decide
  refine hS.put (by decide) ?_
  simp only [sh, wi_s hl]
theorem wi69_s {w : sm_W} {f : Nat → Int32} (hS : w.length = 74) : wi (w.set 69 (.inl (0, 4, .inl f))) 69 = f := wi_s (by rw [hS]; decide)
theorem Sh.p70 {w : sm_W} {f : Nat → Int64} (hS : Sh w) : Sh (w.set 70 (.inl (1, 16, .inr (.inl f)))) := by
  have hl : 70 < w.length := by rw [hS.1]; decide
  refine hS.put (by decide) ?_
  simp only [sh, wl_s hl]
theorem wl70_s {w : sm_W} {f : Nat → Int64} (hS : w.length = 74) : wl (w.set 70 (.inl (1, 16, .inr (.inl f)))) 70 = f := wl_s (by rw [hS]; decide)
theorem Sh.p71 {w : sm_W} {f : Nat → Int64} (hS : Sh w) : Sh (w.set 71 (.inl (1, 8, .inr (.inl f)))) := by
  have hl : 71 < w.length := by rw [hS.1]; decide
  refine hS.put (by decide) ?_
  simp only [sh, wl_s hl]
theorem wl71_s {w : sm_W} {f : Nat → Int64} (hS : w.length = 74) : wl (w.set 71 (.inl (1, 8, .inr (.inl f)))) 71 = f := wl_s (by rw [hS]; decide)
theorem Sh.p72 {w : sm_W} {f : Nat → Int64} (hS : Sh w) : Sh (w.set 72 (.inl (1, 100, .inr (.inl f)))) := by
  have hl : 72 < w.length := by rw [hS.1]; decide
  refine hS.put (by decide) ?_
  simp only [sh, wl_s hl]
theorem wl72_s {w : sm_W} {f : Nat → Int64} (hS : w.length = 74) : wl (w.set 72 (.inl (1, 100, .inr (.inl f)))) 72 = f := wl_s (by rw [hS]; decide)
theorem Sh.p73 {w : sm_W} {f : Nat → Int64} (hS : Sh w) : Sh (w.set 73 (.inl (1, 10, .inr (.inl f)))) := by
  have hl : 73 < w.length := by rw [hS.1]; decide
  refine hS.put (by decide) ?_
  simp only [sh, wl_s hl]
theorem wl73_s {w : sm_W} {f : Nat → Int64} (hS : w.length = 74) : wl (w.set 73 (.inl (1, 10, .inr (.inl f)))) 73 = f := wl_s (by rw [hS]; decide)
theorem shGl {w : sm_W} (hS : Sh w) {p : Nat} (hp : p < 4) : w[4 + p]? = some (.inl (0, 4, .inl (wi w (4 + p)))) := by
  match p, hp with
  | 0, _ => exact sh4 hS
  | 1, _ => exact sh5 hS
  | 2, _ => exact sh6 hS
  | 3, _ => exact sh7 hS
theorem shLo {w : sm_W} (hS : Sh w) {p : Nat} (hp : p < 4) : w[9 + p]? = some (.inl (0, 12, .inl (wi w (9 + p)))) := by
  match p, hp with
  | 0, _ => exact sh9 hS
  | 1, _ => exact sh10 hS
  | 2, _ => exact sh11 hS
  | 3, _ => exact sh12 hS
theorem shPr {w : sm_W} (hS : Sh w) {p : Nat} (hp : p < 4) : w[33 + 3 * p]? = some (.inr (3, [.ref (134 + 3 * p), .ref (135 + 3 * p), .int (wn w (33 + 3 * p) 2)])) := by
  match p, hp with
  | 0, _ => exact sh33 hS
  | 1, _ => exact sh36 hS
  | 2, _ => exact sh39 hS
  | 3, _ => exact sh42 hS
theorem shPc {w : sm_W} (hS : Sh w) {p : Nat} (hp : p < 4) : w[34 + 3 * p]? = some (.inl (0, 32, .inl (wi w (34 + 3 * p)))) := by
  match p, hp with
  | 0, _ => exact sh34 hS
  | 1, _ => exact sh37 hS
  | 2, _ => exact sh40 hS
  | 3, _ => exact sh43 hS
theorem shPo {w : sm_W} (hS : Sh w) {p : Nat} (hp : p < 4) : w[35 + 3 * p]? = some (.inl (0, 32, .inl (wi w (35 + 3 * p)))) := by
  match p, hp with
  | 0, _ => exact sh35 hS
  | 1, _ => exact sh38 hS
  | 2, _ => exact sh41 hS
  | 3, _ => exact sh44 hS
theorem shTr {w : sm_W} (hS : Sh w) {p : Nat} (hp : p < 4) : w[47 + 2 * p]? = some (.inr (5, [.int (wn w (47 + 2 * p) 0), .int (wn w (47 + 2 * p) 1), .int (wn w (47 + 2 * p) 2), .int (wn w (47 + 2 * p) 3), .int (wn w (47 + 2 * p) 4), .int (wn w (47 + 2 * p) 5), .int (wn w (47 + 2 * p) 6), .int (wn w (47 + 2 * p) 7), .ref (148 + 2 * p)])) := by
  match p, hp with
  | 0, _ => exact sh47 hS
  | 1, _ => exact sh49 hS
  | 2, _ => exact sh51 hS
  | 3, _ => exact sh53 hS
theorem shSc {w : sm_W} (hS : Sh w) {p : Nat} (hp : p < 4) : w[48 + 2 * p]? = some (.inl (0, 4, .inl (wi w (48 + 2 * p)))) := by
  match p, hp with
  | 0, _ => exact sh48 hS
  | 1, _ => exact sh50 hS
  | 2, _ => exact sh52 hS
  | 3, _ => exact sh54 hS
theorem zr3_p {p : Nat} (hp : p < 4) : zr3 p = some (104 + p) := by
  match p, hp with
  | 0, _ => rfl
  | 1, _ => rfl
  | 2, _ => rfl
  | 3, _ => rfl
theorem zr8_p {p : Nat} (hp : p < 4) : zr8 p = some (109 + p) := by
  match p, hp with
  | 0, _ => rfl
  | 1, _ => rfl
  | 2, _ => rfl
  | 3, _ => rfl
theorem zr32_p {p : Nat} (hp : p < 4) : zr32 p = some (133 + 3 * p) := by
  match p, hp with
  | 0, _ => rfl
  | 1, _ => rfl
  | 2, _ => rfl
  | 3, _ => rfl
theorem zr46_p {p : Nat} (hp : p < 4) : zr46 p = some (147 + 2 * p) := by
  match p, hp with
  | 0, _ => rfl
  | 1, _ => rfl
  | 2, _ => rfl
  | 3, _ => rfl
theorem zr17_p {p : Nat} (hp : p < 4) : zr17 p = some (118 + p) := by
  match p, hp with
  | 0, _ => rfl
  | 1, _ => rfl
  | 2, _ => rfl
  | 3, _ => rfl
theorem zr22_p {p : Nat} (hp : p < 4) : zr22 p = some (123 + p) := by
  match p, hp with
  | 0, _ => rfl
  | 1, _ => rfl
  | 2, _ => rfl
  | 3, _ => rfl
