/-! A STEP OF A PROGRAM, described purely (gen/pure.py). S 12 values and S 13 sorts of the stack (1 a number, 2 an account); S 14: 0 how many, 1 the next place, 2 ended, 3 the whole budget, 4 spent, 5 done -/
def s_pr (c : Nat) : Nat := [1, 1, 1, 1, 1, 1, 1, 1, 1, 1, 2, 2, 1, 1, 1, 1, 1, 1, 1, 1, 1, 3, 3, 3, 3, 3, 1, 1, 1, 1, 1].getD c 1
def s_mu (c : Nat) : Nat := [0, 0, 0, 0, 0, 0, 0, 0, 1, 1, 1, 1, 1, 3, 0, 0, 3, 0, 0, 0, 0, 0, 0, 0, 2, 0, 0, 0, 0, 0, 0].getD c 0
def s_mt (c : Nat) : Nat := [0, 0, 0, 0, 0, 0, 1, 1, 1, 1, 1, 1, 1, 3, 1, 3, 3, 3, 0, 1, 1, 0, 1, 2, 1, 2, 0, 1, 1, 1, 1].getD c 0
/-- of a sort that the mask allows -/
def s_ok (m s : Nat) : Prop := m = 3 ∨ m = s
def s_pre (S : sm_S) (c : Nat) : Nat := if S 14 0 < s_tk c then 1 else if 1 ≤ s_tk c ∧ ¬ (s_mt c = 3 ∨ s_mt c = S 13 (S 14 0 - 1)) then 2 else if s_tk c = 2 ∧ ¬ (s_mu c = 3 ∨ s_mu c = S 13 (S 14 0 - 2)) then 2 else 0
/-- take k, put one, go on -/
def s_psh (S : sm_S) (k s v : Nat) : sm_S := s_up (s_up (s_up (s_up S 12 (S 14 0 - k) v) 13 (S 14 0 - k) s) 14 0 (S 14 0 - k + 1)) 14 1 (S 14 1 + 1)
/-- take k, go on -/
def s_tke (S : sm_S) (k : Nat) : sm_S := s_up (s_up S 14 0 (S 14 0 - k)) 14 1 (S 14 1 + 1)
def s_put (S : sm_S) (s v : Nat) : Nat × sm_S := if 8 ≤ S 14 0 then (1, S) else (0, s_psh S 0 s v)
def s_if (c : Prop) [Decidable c] (S S' : sm_S) : Nat × sm_S := if c then (0, S') else (3, S)
/-- what the instruction c does, with operand a, in the call at place t; y the top, x under it, with their sorts -/
def s_do (S : sm_S) (t a y ys x xs c : Nat) : Nat × sm_S := match c with
  | 0 => s_put S 1 a
  | 1 => s_put S 2 a
  | 2 => s_put S 1 (if a = 0 then S 7 t else S 8 t)
  | 3 => s_put S 2 (S 5 t)
  | 4 => s_put S 1 (S 10 1)
  | 5 => s_put S 1 t
  | 6 => s_if (y < S 10 1 ∧ S 4 y = 3) S (s_psh S 1 1 (S 7 y))
  | 7 => s_if (y < S 10 1 ∧ S 4 y = 3) S (s_psh S 1 2 (S 6 y))
  | 8 => s_if (x + y ≤ 2147483647) S (s_psh S 2 1 (x + y))
  | 9 => s_if (y ≤ x) S (s_psh S 2 1 (x - y))
  | 10 => s_if (x * y ≤ 2147483647) S (s_psh S 2 1 (x * y))
  | 11 => s_if (y ≠ 0) S (s_psh S 2 1 (x / y))
  | 12 => (0, s_psh S 2 1 (if x < y then 1 else 0))
  | 13 => (0, s_psh S 2 1 (if xs = ys ∧ x = y then 1 else 0))
  | 14 => (0, s_psh S 1 1 (if y = 0 then 1 else 0))
  | 15 => s_put S ys y
  | 16 => (0, s_up (s_psh (s_psh S 2 ys y) 0 xs x) 14 1 (S 14 1 + 1))
  | 17 => (0, s_tke S 1)
  | 18 => (0, s_up S 14 1 a)
  | 19 => (0, s_up (s_tke S 1) 14 1 (if y = 0 then S 14 1 + 1 else a))
  | 20 => s_if (y ≠ 0) S (s_tke S 1)
  | 21 => s_put S 1 (S 0 (6 + S 6 t * 4 + a))
  | 22 => (0, s_up (s_tke S 1) 0 (6 + S 6 t * 4 + a) y)
  | 23 => s_if (S 0 (22 + S 6 t * 6 + y) = 1) S (s_psh S 1 1 (S 0 (46 + S 6 t * 12 + (y * 2 + a))))
  | 24 => s_if (S 0 (22 + S 6 t * 6 + x) = 1) S (s_up (s_tke S 2) 0 (46 + S 6 t * 12 + (x * 2 + a)) y)
  | 25 => (0, s_psh S 1 1 (S 0 y))
  | 26 => s_put S 1 (S 9 (t * 4 + a))
  | 27 => (0, s_up (s_tke S 1) 9 (t * 4 + a) y)
  | 28 => s_if (y < t ∧ S 4 y ≠ 3) S (s_psh S 1 1 (S 9 (y * 4 + a)))
  | 29 => (0, s_up (s_up (s_tke S 1) 1 (S 10 0) y) 10 0 (S 10 0 + 1))
  | _ => s_if (y ≠ 0) S (s_up (s_tke S 1) 14 2 1)
def s_act (S : sm_S) (t c a : Nat) : Nat × sm_S := s_do S t a (S 12 (S 14 0 - 1)) (S 13 (S 14 0 - 1)) (S 12 (S 14 0 - 2)) (S 13 (S 14 0 - 2)) c
/-- the price is paid -/
def s_chg (S : sm_S) (c : Nat) : sm_S := s_up (s_up S 14 4 (S 14 4 + s_pr c)) 14 5 (S 14 5 + 1)
/-- one step at the next place: the fault (0 none), and the state after it -/
def s_step (S : sm_S) (t : Nat) : Nat × sm_S := if S 3 (S 6 t) ≤ S 14 1 then (5, S) else if S 14 3 < S 14 4 + s_pr (S 2 (S 6 t * 32 + S 14 1)) then (4, S) else if s_pre S (S 2 (S 6 t * 32 + S 14 1)) ≠ 0 then (s_pre S (S 2 (S 6 t * 32 + S 14 1)), s_chg S (S 2 (S 6 t * 32 + S 14 1))) else s_act (s_chg S (S 2 (S 6 t * 32 + S 14 1))) t (S 2 (S 6 t * 32 + S 14 1)) (S 11 (S 6 t * 32 + S 14 1))
