/-! THE PURE STATE S (a file of numbers) and its two pictures. S 0: as the reference's array of 94 numbers; S 1 logs (oldest first); S 2 codes, S 11 operands (app * 32 + place, the draft is app 4), S 3 sizes; the group: S 4 kinds (3: a payment), S 5 senders, S 6 receivers or apps, S 7 amounts or x, S 8 y; S 9 scratch (place * 4 + k); S 10: 0 logs in all, 1 transactions, 2 groups without fault, 3 with, 4 .. 7 the report -/
abbrev sm_S : Type := Nat → Nat → Nat
def s_ob (S : sm_S) (a : Nat) : Nat := S 0 (22 + a) + 2 * S 0 (28 + a) + 4 * S 0 (34 + a) + 8 * S 0 (40 + a)
def s_pb (p : Nat) : Nat := if p = 4 then 29 else 33 + 3 * p
def BkC (b : Nat) (w : sm_W) (S : sm_S) : Prop := (∀ a, a < 6 → wi w (b + 1) a = nI (S 0 a)) ∧
  (∀ p, p < 4 → ∀ k, k < 4 → wi w (b + 3 + p) k = nI (S 0 (6 + p * 4 + k))) ∧
  (∀ a, a < 6 → wi w (b + 12) a = nI (s_ob S a)) ∧
  (∀ p, p < 4 → ∀ i, i < 12 → wi w (b + 8 + p) i = nI (S 0 (46 + p * 12 + i))) ∧
  wn w b 5 = nI (S 10 0) ∧
  (∀ j, j < S 10 0 → S 10 0 ≤ j + 8 → wi w (b + 13) (j % 8) = nI (S 1 j))
def PrC (w : sm_W) (S : sm_S) : Prop := ∀ p, p < 5 → wn w (s_pb p) 2 = nI (S 3 p) ∧ ∀ k, k < S 3 p → wi w (s_pb p + 1) k = nI (S 2 (p * 32 + k)) ∧ wi w (s_pb p + 2) k = nI (S 11 (p * 32 + k))
def GrC (w : sm_W) (S : sm_S) : Prop := wn w 45 1 = nI (S 10 1) ∧ ∀ t, t < S 10 1 →
  (S 4 t = 3 → wn w (47 + 2 * t) 0 = 1 ∧ wn w (47 + 2 * t) 2 = nI (S 6 t) ∧ wn w (47 + 2 * t) 3 = nI (S 7 t)) ∧
  (S 4 t ≠ 3 → wn w (47 + 2 * t) 0 = 0 ∧ wn w (47 + 2 * t) 4 = nI (S 6 t) ∧ wn w (47 + 2 * t) 5 = nI (S 4 t) ∧ wn w (47 + 2 * t) 6 = nI (S 7 t) ∧ wn w (47 + 2 * t) 7 = nI (S 8 t)) ∧
  wn w (47 + 2 * t) 1 = nI (S 5 t)
def ScC (w : sm_W) (S : sm_S) : Prop := ∀ t, t < 4 → ∀ k, k < 4 → wi w (48 + 2 * t) k = nI (S 9 (t * 4 + k))
def RpC (w : sm_W) (S : sm_S) : Prop := wn w 0 6 = nI (S 10 4) ∧ wn w 55 6 = nI (S 10 5) ∧ wn w 0 7 = nI (S 10 2) ∧ wn w 0 8 = nI (S 10 3) ∧ (S 10 2 + S 10 3 ≠ 0 → wn w 55 4 = nI (S 10 6) ∧ wn w 55 5 = nI (S 10 7))
def PicC (w : sm_W) (S : sm_S) : Prop := BkC 1 w S ∧ PrC w S ∧ GrC w S ∧ ScC w S ∧ RpC w S
def BkM (w : sm_W) (S : sm_S) : Prop := (∀ i, i < 94 → wl w 60 i = lN (S 0 i)) ∧ (∀ k, k < 8 → k < S 10 0 → wl w 71 k = lN (S 1 (S 10 0 - 1 - k))) ∧ wn w 59 18 = nI (S 10 0)
def PrM (w : sm_W) (S : sm_S) : Prop := ∀ p, p < 5 → wi w 64 p = nI (S 3 p) ∧ ∀ k, k < S 3 p → wi w 62 (p * 32 + k) = nI (S 2 (p * 32 + k)) ∧ wi w 63 (p * 32 + k) = nI (S 11 (p * 32 + k))
def GrM (w : sm_W) (S : sm_S) : Prop := wn w 59 5 = nI (S 10 1) ∧ ∀ t, t < S 10 1 → wi w 65 t = (if S 4 t = 3 then -1 else nI (S 4 t)) ∧ wi w 66 t = nI (S 5 t) ∧ wi w 67 t = nI (S 6 t) ∧ wi w 68 t = nI (S 7 t) ∧ wi w 69 t = nI (S 8 t)
def ScM (w : sm_W) (S : sm_S) : Prop := ∀ i, i < 16 → wl w 70 i = lN (S 9 i)
def RpM (w : sm_W) (S : sm_S) : Prop := wn w 59 12 = nI (S 10 4) ∧ wn w 59 13 = nI (S 10 5) ∧ wn w 59 16 = nI (S 10 2) ∧ wn w 59 17 = nI (S 10 3) ∧ wn w 59 14 = nI (S 10 6) ∧ wn w 59 15 = nI (S 10 7)
def PicM (w : sm_W) (S : sm_S) : Prop := BkM w S ∧ PrM w S ∧ GrM w S ∧ ScM w S ∧ RpM w S
/-- an operand that the instruction allows -/
def s_fit (c a : Nat) : Prop := (c = 0 → a < 2 ^ 31) ∧ (c = 1 → a < 6) ∧ (c = 2 ∨ c = 23 ∨ c = 24 → a < 2) ∧ (c = 18 ∨ c = 19 → a < 32) ∧ (c = 21 ∨ c = 22 ∨ c = 26 ∨ c = 27 ∨ c = 28 → a < 4)
def BdB (S : sm_S) : Prop := (∀ i, i < 94 → S 0 i < 2 ^ 31) ∧ (∀ i, 22 ≤ i → i < 46 → S 0 i ≤ 1) ∧ (∀ j, j < S 10 0 → S 1 j < 2 ^ 31)
def BdP (S : sm_S) : Prop := ∀ p, p < 5 → S 3 p ≤ 32 ∧ ∀ k, k < S 3 p → S 2 (p * 32 + k) < 31 ∧ s_fit (S 2 (p * 32 + k)) (S 11 (p * 32 + k))
def BdG (S : sm_S) : Prop := S 10 1 ≤ 4 ∧ ∀ t, t < S 10 1 → S 4 t ≤ 3 ∧ S 5 t < 6 ∧ (S 4 t = 3 → S 6 t < 6 ∧ S 8 t = 0) ∧ (S 4 t ≠ 3 → S 6 t < 4) ∧ S 7 t < 2 ^ 31 ∧ S 8 t < 2 ^ 31
def BdR (n : Nat) (S : sm_S) : Prop := S 10 0 ≤ 80 * n ∧ S 10 2 + S 10 3 ≤ n ∧ (S 10 2 + S 10 3 = 0 → S 10 6 = 4294967293 ∧ S 10 7 = 4294967293)
def Bd (n : Nat) (S : sm_S) : Prop := BdB S ∧ BdP S ∧ BdG S ∧ (∀ i, i < 16 → S 9 i < 2 ^ 31) ∧ BdR n S
def Inv (n : Nat) (w : sm_W) : Prop := Sh w ∧ ∃ S : sm_S, PicC w S ∧ PicM w S ∧ Bd n S
theorem Inv.sh {n : Nat} {w : sm_W} (h : Inv n w) : Sh w := h.1
theorem Inv.step {n : Nat} {w : sm_W} (h : Inv n w) : Inv (n + 1) w := by
  obtain ⟨hS, S, hC, hM, hb, hp, hg, hs, r1, r2, r3⟩ := h
  exact ⟨hS, S, hC, hM, hb, hp, hg, hs, by omega, by omega, r3⟩
def iS : sm_S := fun k i => if k = 10 ∧ 4 ≤ i then 4294967293 else 0
theorem iS0 {k i : Nat} (h : k ≠ 10 ∨ i < 4) : iS k i = 0 := by
  unfold iS
  rw [if_neg (by omega)]
theorem inv_init : Inv 0 iwZ := by
  refine ⟨iSh, iS, ⟨⟨?_, ?_, ?_, ?_, rfl, ?_⟩, ?_, ⟨rfl, ?_⟩, ?_, ⟨rfl, rfl, rfl, rfl, ?_⟩⟩, ⟨⟨?_, ?_, rfl⟩, ?_, ⟨rfl, ?_⟩, ?_, ⟨rfl, rfl, rfl, rfl, rfl, rfl⟩⟩, ⟨?_, ?_, ?_⟩, ?_, ⟨?_, ?_⟩, ?_, ?_, ?_, ?_⟩
  · intro a ha
    rfl
  · intro p hp k hk
    rw [iS0 (Or.inl (by decide))]
    match p, hp with
    | 0, _ => rfl
    | 1, _ => rfl
    | 2, _ => rfl
    | 3, _ => rfl
  · intro a ha
    rfl
  · intro p hp i hi
    rw [iS0 (Or.inl (by decide))]
    match p, hp with
    | 0, _ => rfl
    | 1, _ => rfl
    | 2, _ => rfl
    | 3, _ => rfl
  · intro j hj
    exact absurd hj (Nat.not_lt_zero _)
  · intro p hp
    refine ⟨?_, fun k hk => absurd hk (Nat.not_lt_zero _)⟩
    rw [iS0 (Or.inl (by decide))]
    match p, hp with
    | 0, _ => rfl
    | 1, _ => rfl
    | 2, _ => rfl
    | 3, _ => rfl
    | 4, _ => rfl
  · intro t ht
    exact absurd ht (Nat.not_lt_zero _)
  · intro t ht k hk
    rw [iS0 (Or.inl (by decide))]
    match t, ht with
    | 0, _ => rfl
    | 1, _ => rfl
    | 2, _ => rfl
    | 3, _ => rfl
  · intro h
    exact absurd rfl h
  · intro i hi
    rfl
  · intro k hk hj
    exact absurd hj (Nat.not_lt_zero _)
  · intro p hp
    exact ⟨rfl, fun k hk => absurd hk (Nat.not_lt_zero _)⟩
  · intro t ht
    exact absurd ht (Nat.not_lt_zero _)
  · intro i hi
    rfl
  · intro i hi
    rw [iS0 (Or.inl (by decide))]
    decide
  · intro i hi hj
    rw [iS0 (Or.inl (by decide))]
    decide
  · intro j hj
    exact absurd hj (Nat.not_lt_zero _)
  · intro p hp
    exact ⟨Nat.zero_le _, fun k hk => absurd hk (Nat.not_lt_zero _)⟩
  · exact Nat.zero_le _
  · intro t ht
    exact absurd ht (Nat.not_lt_zero _)
  · intro i hi
    rw [iS0 (Or.inl (by decide))]
    decide
  · exact Nat.zero_le _
  · exact Nat.zero_le _
  · intro _
    exact ⟨rfl, rfl⟩
