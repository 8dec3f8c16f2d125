/-! A STEP AND A RUN of the reference (gen/mm4.py) -/
theorem pre_t {S : sm_S} {c : Nat} (hk : 1 ≤ s_tk c) (hp : s_pre S c = 0) : s_tk c ≤ S 14 0 ∧ (s_mt c = 3 ∨ s_mt c = S 13 (S 14 0 - 1)) ∧ (s_tk c = 2 → s_mu c = 3 ∨ s_mu c = S 13 (S 14 0 - 2)) := by
  have e : ¬ S 14 0 < s_tk c := fun e => by
    have p : s_pre S c = 1 := if_pos e
    rw [hp] at p
    exact absurd p (by decide)
  have h := (pre_i e).mp hp
  refine ⟨by omega, ?_, fun h2 => ?_⟩
  · by_cases q : s_mt c = 3 ∨ s_mt c = S 13 (S 14 0 - 1)
    · exact q
    · exact absurd ⟨hk, q⟩ h.1
  · by_cases q : s_mu c = 3 ∨ s_mu c = S 13 (S 14 0 - 2)
    · exact q
    · exact absurd ⟨h2, q⟩ h.2
theorem py_0 {X : sm_X} {w : sm_W} {Q : Option Value → sm_W → Prop} {S : sm_S} {T t a : Nat} (hR : RnM T w S (S 14 1)) (hB : RnB T S t) (hp : s_pre S 0 = 0) (hf : s_fit 0 a) (hQ : ∀ w', AfM T w w' (S 14 1) (s_act S t 0 a) → Q (some (.int (nI (s_act S t 0 a).1))) w') : sm_R X 75 0 [.ref 159, .int (nI 0), .int (nI a), .int (nI t), sm_J, sm_J, sm_J, sm_J, sm_J] [] w Q := by
  rw [pf_0 (by decide) hR hB rfl hp]
  exact px_0 (y := S 12 (S 14 0 - 1)) (ys := S 13 (S 14 0 - 1)) (x := S 12 (S 14 0 - 2)) (xs := S 13 (S 14 0 - 2)) hR hB (Nat.zero_le _) (hf.1 rfl) hQ
theorem py_1 {X : sm_X} {w : sm_W} {Q : Option Value → sm_W → Prop} {S : sm_S} {T t a : Nat} (hR : RnM T w S (S 14 1)) (hB : RnB T S t) (hp : s_pre S 1 = 0) (hf : s_fit 1 a) (hQ : ∀ w', AfM T w w' (S 14 1) (s_act S t 1 a) → Q (some (.int (nI (s_act S t 1 a).1))) w') : sm_R X 75 0 [.ref 159, .int (nI 1), .int (nI a), .int (nI t), sm_J, sm_J, sm_J, sm_J, sm_J] [] w Q := by
  rw [pf_0 (by decide) hR hB rfl hp]
  exact px_1 (y := S 12 (S 14 0 - 1)) (ys := S 13 (S 14 0 - 1)) (x := S 12 (S 14 0 - 2)) (xs := S 13 (S 14 0 - 2)) hR hB (Nat.zero_le _) (hf.2.1 rfl) hQ
theorem py_2 {X : sm_X} {w : sm_W} {Q : Option Value → sm_W → Prop} {S : sm_S} {T t a : Nat} (hR : RnM T w S (S 14 1)) (hB : RnB T S t) (hp : s_pre S 2 = 0) (hf : s_fit 2 a) (hQ : ∀ w', AfM T w w' (S 14 1) (s_act S t 2 a) → Q (some (.int (nI (s_act S t 2 a).1))) w') : sm_R X 75 0 [.ref 159, .int (nI 2), .int (nI a), .int (nI t), sm_J, sm_J, sm_J, sm_J, sm_J] [] w Q := by
  rw [pf_0 (by decide) hR hB rfl hp]
  exact px_2 (y := S 12 (S 14 0 - 1)) (ys := S 13 (S 14 0 - 1)) (x := S 12 (S 14 0 - 2)) (xs := S 13 (S 14 0 - 2)) hR hB (Nat.zero_le _) (hf.2.2.1 (by decide)) hQ
theorem py_3 {X : sm_X} {w : sm_W} {Q : Option Value → sm_W → Prop} {S : sm_S} {T t a : Nat} (hR : RnM T w S (S 14 1)) (hB : RnB T S t) (hp : s_pre S 3 = 0) (hf : s_fit 3 a) (hQ : ∀ w', AfM T w w' (S 14 1) (s_act S t 3 a) → Q (some (.int (nI (s_act S t 3 a).1))) w') : sm_R X 75 0 [.ref 159, .int (nI 3), .int (nI a), .int (nI t), sm_J, sm_J, sm_J, sm_J, sm_J] [] w Q := by
  rw [pf_0 (by decide) hR hB rfl hp]
  exact px_3 (y := S 12 (S 14 0 - 1)) (ys := S 13 (S 14 0 - 1)) (x := S 12 (S 14 0 - 2)) (xs := S 13 (S 14 0 - 2)) hR hB (Nat.zero_le _) (True.intro) hQ
theorem py_4 {X : sm_X} {w : sm_W} {Q : Option Value → sm_W → Prop} {S : sm_S} {T t a : Nat} (hR : RnM T w S (S 14 1)) (hB : RnB T S t) (hp : s_pre S 4 = 0) (hf : s_fit 4 a) (hQ : ∀ w', AfM T w w' (S 14 1) (s_act S t 4 a) → Q (some (.int (nI (s_act S t 4 a).1))) w') : sm_R X 75 0 [.ref 159, .int (nI 4), .int (nI a), .int (nI t), sm_J, sm_J, sm_J, sm_J, sm_J] [] w Q := by
  rw [pf_0 (by decide) hR hB rfl hp]
  exact px_4 (y := S 12 (S 14 0 - 1)) (ys := S 13 (S 14 0 - 1)) (x := S 12 (S 14 0 - 2)) (xs := S 13 (S 14 0 - 2)) hR hB (Nat.zero_le _) (True.intro) hQ
theorem py_5 {X : sm_X} {w : sm_W} {Q : Option Value → sm_W → Prop} {S : sm_S} {T t a : Nat} (hR : RnM T w S (S 14 1)) (hB : RnB T S t) (hp : s_pre S 5 = 0) (hf : s_fit 5 a) (hQ : ∀ w', AfM T w w' (S 14 1) (s_act S t 5 a) → Q (some (.int (nI (s_act S t 5 a).1))) w') : sm_R X 75 0 [.ref 159, .int (nI 5), .int (nI a), .int (nI t), sm_J, sm_J, sm_J, sm_J, sm_J] [] w Q := by
  rw [pf_0 (by decide) hR hB rfl hp]
  exact px_5 (y := S 12 (S 14 0 - 1)) (ys := S 13 (S 14 0 - 1)) (x := S 12 (S 14 0 - 2)) (xs := S 13 (S 14 0 - 2)) hR hB (Nat.zero_le _) (True.intro) hQ
theorem py_6 {X : sm_X} {w : sm_W} {Q : Option Value → sm_W → Prop} {S : sm_S} {T t a : Nat} (hR : RnM T w S (S 14 1)) (hB : RnB T S t) (hp : s_pre S 6 = 0) (hf : s_fit 6 a) (hQ : ∀ w', AfM T w w' (S 14 1) (s_act S t 6 a) → Q (some (.int (nI (s_act S t 6 a).1))) w') : sm_R X 75 0 [.ref 159, .int (nI 6), .int (nI a), .int (nI t), sm_J, sm_J, sm_J, sm_J, sm_J] [] w Q := by
  rw [pf_1 (by decide) hR hB rfl hp]
  obtain ⟨t1, t2, t3⟩ := pre_t (by decide) hp
  have t1 : 1 ≤ S 14 0 := t1
  have en := hB.2.2.2.2.2.1.2 (S 14 0 - 1) (by omega)
  have s1 : S 13 (S 14 0 - 1) = 1 := by
    have v : s_mt 6 = 1 := rfl
    omega
  have y1 : S 12 (S 14 0 - 1) < 2 ^ 31 := by
    unfold s_ent at en
    omega
  have ey : lE (S 13 (S 14 0 - 1)) (S 12 (S 14 0 - 1)) = (lN (S 12 (S 14 0 - 1))) := by
    rw [s1]
    rfl
  rw [ey]
  exact px_6 (y := S 12 (S 14 0 - 1)) (ys := S 13 (S 14 0 - 1)) (x := S 12 (S 14 0 - 2)) (xs := S 13 (S 14 0 - 2)) hR hB t1 y1 (True.intro) hQ
theorem py_7 {X : sm_X} {w : sm_W} {Q : Option Value → sm_W → Prop} {S : sm_S} {T t a : Nat} (hR : RnM T w S (S 14 1)) (hB : RnB T S t) (hp : s_pre S 7 = 0) (hf : s_fit 7 a) (hQ : ∀ w', AfM T w w' (S 14 1) (s_act S t 7 a) → Q (some (.int (nI (s_act S t 7 a).1))) w') : sm_R X 75 0 [.ref 159, .int (nI 7), .int (nI a), .int (nI t), sm_J, sm_J, sm_J, sm_J, sm_J] [] w Q := by
  rw [pf_1 (by decide) hR hB rfl hp]
  obtain ⟨t1, t2, t3⟩ := pre_t (by decide) hp
  have t1 : 1 ≤ S 14 0 := t1
  have en := hB.2.2.2.2.2.1.2 (S 14 0 - 1) (by omega)
  have s1 : S 13 (S 14 0 - 1) = 1 := by
    have v : s_mt 7 = 1 := rfl
    omega
  have y1 : S 12 (S 14 0 - 1) < 2 ^ 31 := by
    unfold s_ent at en
    omega
  have ey : lE (S 13 (S 14 0 - 1)) (S 12 (S 14 0 - 1)) = (lN (S 12 (S 14 0 - 1))) := by
    rw [s1]
    rfl
  rw [ey]
  exact px_7 (y := S 12 (S 14 0 - 1)) (ys := S 13 (S 14 0 - 1)) (x := S 12 (S 14 0 - 2)) (xs := S 13 (S 14 0 - 2)) hR hB t1 y1 (True.intro) hQ
theorem py_8 {X : sm_X} {w : sm_W} {Q : Option Value → sm_W → Prop} {S : sm_S} {T t a : Nat} (hR : RnM T w S (S 14 1)) (hB : RnB T S t) (hp : s_pre S 8 = 0) (hf : s_fit 8 a) (hQ : ∀ w', AfM T w w' (S 14 1) (s_act S t 8 a) → Q (some (.int (nI (s_act S t 8 a).1))) w') : sm_R X 75 0 [.ref 159, .int (nI 8), .int (nI a), .int (nI t), sm_J, sm_J, sm_J, sm_J, sm_J] [] w Q := by
  rw [pf_2 (by decide) hR hB rfl hp]
  obtain ⟨t1, t2, t3⟩ := pre_t (by decide) hp
  have t1 : 2 ≤ S 14 0 := t1
  have en := hB.2.2.2.2.2.1.2 (S 14 0 - 1) (by omega)
  have s1 : S 13 (S 14 0 - 1) = 1 := by
    have v : s_mt 8 = 1 := rfl
    omega
  have y1 : S 12 (S 14 0 - 1) < 2 ^ 31 := by
    unfold s_ent at en
    omega
  have ey : lE (S 13 (S 14 0 - 1)) (S 12 (S 14 0 - 1)) = (lN (S 12 (S 14 0 - 1))) := by
    rw [s1]
    rfl
  rw [ey]
  have em := hB.2.2.2.2.2.1.2 (S 14 0 - 2) (by omega)
  have s2 : S 13 (S 14 0 - 2) = 1 := by
    have v : s_mu 8 = 1 := rfl
    have := t3 rfl
    omega
  have x1 : S 12 (S 14 0 - 2) < 2 ^ 31 := by
    unfold s_ent at em
    omega
  have ex : lE (S 13 (S 14 0 - 2)) (S 12 (S 14 0 - 2)) = (lN (S 12 (S 14 0 - 2))) := by
    rw [s2]
    rfl
  rw [ex]
  exact px_8 (y := S 12 (S 14 0 - 1)) (ys := S 13 (S 14 0 - 1)) (x := S 12 (S 14 0 - 2)) (xs := S 13 (S 14 0 - 2)) hR hB t1 y1 x1 (True.intro) hQ
theorem py_9 {X : sm_X} {w : sm_W} {Q : Option Value → sm_W → Prop} {S : sm_S} {T t a : Nat} (hR : RnM T w S (S 14 1)) (hB : RnB T S t) (hp : s_pre S 9 = 0) (hf : s_fit 9 a) (hQ : ∀ w', AfM T w w' (S 14 1) (s_act S t 9 a) → Q (some (.int (nI (s_act S t 9 a).1))) w') : sm_R X 75 0 [.ref 159, .int (nI 9), .int (nI a), .int (nI t), sm_J, sm_J, sm_J, sm_J, sm_J] [] w Q := by
  rw [pf_2 (by decide) hR hB rfl hp]
  obtain ⟨t1, t2, t3⟩ := pre_t (by decide) hp
  have t1 : 2 ≤ S 14 0 := t1
  have en := hB.2.2.2.2.2.1.2 (S 14 0 - 1) (by omega)
  have s1 : S 13 (S 14 0 - 1) = 1 := by
    have v : s_mt 9 = 1 := rfl
    omega
  have y1 : S 12 (S 14 0 - 1) < 2 ^ 31 := by
    unfold s_ent at en
    omega
  have ey : lE (S 13 (S 14 0 - 1)) (S 12 (S 14 0 - 1)) = (lN (S 12 (S 14 0 - 1))) := by
    rw [s1]
    rfl
  rw [ey]
  have em := hB.2.2.2.2.2.1.2 (S 14 0 - 2) (by omega)
  have s2 : S 13 (S 14 0 - 2) = 1 := by
    have v : s_mu 9 = 1 := rfl
    have := t3 rfl
    omega
  have x1 : S 12 (S 14 0 - 2) < 2 ^ 31 := by
    unfold s_ent at em
    omega
  have ex : lE (S 13 (S 14 0 - 2)) (S 12 (S 14 0 - 2)) = (lN (S 12 (S 14 0 - 2))) := by
    rw [s2]
    rfl
  rw [ex]
  exact px_9 (y := S 12 (S 14 0 - 1)) (ys := S 13 (S 14 0 - 1)) (x := S 12 (S 14 0 - 2)) (xs := S 13 (S 14 0 - 2)) hR hB t1 y1 x1 (True.intro) hQ
theorem py_10 {X : sm_X} {w : sm_W} {Q : Option Value → sm_W → Prop} {S : sm_S} {T t a : Nat} (hR : RnM T w S (S 14 1)) (hB : RnB T S t) (hp : s_pre S 10 = 0) (hf : s_fit 10 a) (hQ : ∀ w', AfM T w w' (S 14 1) (s_act S t 10 a) → Q (some (.int (nI (s_act S t 10 a).1))) w') : sm_R X 75 0 [.ref 159, .int (nI 10), .int (nI a), .int (nI t), sm_J, sm_J, sm_J, sm_J, sm_J] [] w Q := by
  rw [pf_2 (by decide) hR hB rfl hp]
  obtain ⟨t1, t2, t3⟩ := pre_t (by decide) hp
  have t1 : 2 ≤ S 14 0 := t1
  have en := hB.2.2.2.2.2.1.2 (S 14 0 - 1) (by omega)
  have s1 : S 13 (S 14 0 - 1) = 1 := by
    have v : s_mt 10 = 1 := rfl
    omega
  have y1 : S 12 (S 14 0 - 1) < 2 ^ 31 := by
    unfold s_ent at en
    omega
  have ey : lE (S 13 (S 14 0 - 1)) (S 12 (S 14 0 - 1)) = (lN (S 12 (S 14 0 - 1))) := by
    rw [s1]
    rfl
  rw [ey]
  have em := hB.2.2.2.2.2.1.2 (S 14 0 - 2) (by omega)
  have s2 : S 13 (S 14 0 - 2) = 1 := by
    have v : s_mu 10 = 1 := rfl
    have := t3 rfl
    omega
  have x1 : S 12 (S 14 0 - 2) < 2 ^ 31 := by
    unfold s_ent at em
    omega
  have ex : lE (S 13 (S 14 0 - 2)) (S 12 (S 14 0 - 2)) = (lN (S 12 (S 14 0 - 2))) := by
    rw [s2]
    rfl
  rw [ex]
  exact px_10 (y := S 12 (S 14 0 - 1)) (ys := S 13 (S 14 0 - 1)) (x := S 12 (S 14 0 - 2)) (xs := S 13 (S 14 0 - 2)) hR hB t1 y1 x1 (True.intro) hQ
theorem py_11 {X : sm_X} {w : sm_W} {Q : Option Value → sm_W → Prop} {S : sm_S} {T t a : Nat} (hR : RnM T w S (S 14 1)) (hB : RnB T S t) (hp : s_pre S 11 = 0) (hf : s_fit 11 a) (hQ : ∀ w', AfM T w w' (S 14 1) (s_act S t 11 a) → Q (some (.int (nI (s_act S t 11 a).1))) w') : sm_R X 75 0 [.ref 159, .int (nI 11), .int (nI a), .int (nI t), sm_J, sm_J, sm_J, sm_J, sm_J] [] w Q := by
  rw [pf_2 (by decide) hR hB rfl hp]
  obtain ⟨t1, t2, t3⟩ := pre_t (by decide) hp
  have t1 : 2 ≤ S 14 0 := t1
  have en := hB.2.2.2.2.2.1.2 (S 14 0 - 1) (by omega)
  have s1 : S 13 (S 14 0 - 1) = 1 := by
    have v : s_mt 11 = 1 := rfl
    omega
  have y1 : S 12 (S 14 0 - 1) < 2 ^ 31 := by
    unfold s_ent at en
    omega
  have ey : lE (S 13 (S 14 0 - 1)) (S 12 (S 14 0 - 1)) = (lN (S 12 (S 14 0 - 1))) := by
    rw [s1]
    rfl
  rw [ey]
  have em := hB.2.2.2.2.2.1.2 (S 14 0 - 2) (by omega)
  have s2 : S 13 (S 14 0 - 2) = 1 := by
    have v : s_mu 11 = 1 := rfl
    have := t3 rfl
    omega
  have x1 : S 12 (S 14 0 - 2) < 2 ^ 31 := by
    unfold s_ent at em
    omega
  have ex : lE (S 13 (S 14 0 - 2)) (S 12 (S 14 0 - 2)) = (lN (S 12 (S 14 0 - 2))) := by
    rw [s2]
    rfl
  rw [ex]
  exact px_11 (y := S 12 (S 14 0 - 1)) (ys := S 13 (S 14 0 - 1)) (x := S 12 (S 14 0 - 2)) (xs := S 13 (S 14 0 - 2)) hR hB t1 y1 x1 (True.intro) hQ
theorem py_12 {X : sm_X} {w : sm_W} {Q : Option Value → sm_W → Prop} {S : sm_S} {T t a : Nat} (hR : RnM T w S (S 14 1)) (hB : RnB T S t) (hp : s_pre S 12 = 0) (hf : s_fit 12 a) (hQ : ∀ w', AfM T w w' (S 14 1) (s_act S t 12 a) → Q (some (.int (nI (s_act S t 12 a).1))) w') : sm_R X 75 0 [.ref 159, .int (nI 12), .int (nI a), .int (nI t), sm_J, sm_J, sm_J, sm_J, sm_J] [] w Q := by
  rw [pf_2 (by decide) hR hB rfl hp]
  obtain ⟨t1, t2, t3⟩ := pre_t (by decide) hp
  have t1 : 2 ≤ S 14 0 := t1
  have en := hB.2.2.2.2.2.1.2 (S 14 0 - 1) (by omega)
  have s1 : S 13 (S 14 0 - 1) = 1 := by
    have v : s_mt 12 = 1 := rfl
    omega
  have y1 : S 12 (S 14 0 - 1) < 2 ^ 31 := by
    unfold s_ent at en
    omega
  have ey : lE (S 13 (S 14 0 - 1)) (S 12 (S 14 0 - 1)) = (lN (S 12 (S 14 0 - 1))) := by
    rw [s1]
    rfl
  rw [ey]
  have em := hB.2.2.2.2.2.1.2 (S 14 0 - 2) (by omega)
  have s2 : S 13 (S 14 0 - 2) = 1 := by
    have v : s_mu 12 = 1 := rfl
    have := t3 rfl
    omega
  have x1 : S 12 (S 14 0 - 2) < 2 ^ 31 := by
    unfold s_ent at em
    omega
  have ex : lE (S 13 (S 14 0 - 2)) (S 12 (S 14 0 - 2)) = (lN (S 12 (S 14 0 - 2))) := by
    rw [s2]
    rfl
  rw [ex]
  exact px_12 (y := S 12 (S 14 0 - 1)) (ys := S 13 (S 14 0 - 1)) (x := S 12 (S 14 0 - 2)) (xs := S 13 (S 14 0 - 2)) hR hB t1 y1 x1 (True.intro) hQ
theorem py_13 {X : sm_X} {w : sm_W} {Q : Option Value → sm_W → Prop} {S : sm_S} {T t a : Nat} (hR : RnM T w S (S 14 1)) (hB : RnB T S t) (hp : s_pre S 13 = 0) (hf : s_fit 13 a) (hQ : ∀ w', AfM T w w' (S 14 1) (s_act S t 13 a) → Q (some (.int (nI (s_act S t 13 a).1))) w') : sm_R X 75 0 [.ref 159, .int (nI 13), .int (nI a), .int (nI t), sm_J, sm_J, sm_J, sm_J, sm_J] [] w Q := by
  rw [pf_2 (by decide) hR hB rfl hp]
  obtain ⟨t1, t2, t3⟩ := pre_t (by decide) hp
  have t1 : 2 ≤ S 14 0 := t1
  have en := hB.2.2.2.2.2.1.2 (S 14 0 - 1) (by omega)
  have em := hB.2.2.2.2.2.1.2 (S 14 0 - 2) (by omega)
  exact px_13 (y := S 12 (S 14 0 - 1)) (ys := S 13 (S 14 0 - 1)) (x := S 12 (S 14 0 - 2)) (xs := S 13 (S 14 0 - 2)) hR hB t1 en em (True.intro) hQ
theorem py_14 {X : sm_X} {w : sm_W} {Q : Option Value → sm_W → Prop} {S : sm_S} {T t a : Nat} (hR : RnM T w S (S 14 1)) (hB : RnB T S t) (hp : s_pre S 14 = 0) (hf : s_fit 14 a) (hQ : ∀ w', AfM T w w' (S 14 1) (s_act S t 14 a) → Q (some (.int (nI (s_act S t 14 a).1))) w') : sm_R X 75 0 [.ref 159, .int (nI 14), .int (nI a), .int (nI t), sm_J, sm_J, sm_J, sm_J, sm_J] [] w Q := by
  rw [pf_1 (by decide) hR hB rfl hp]
  obtain ⟨t1, t2, t3⟩ := pre_t (by decide) hp
  have t1 : 1 ≤ S 14 0 := t1
  have en := hB.2.2.2.2.2.1.2 (S 14 0 - 1) (by omega)
  have s1 : S 13 (S 14 0 - 1) = 1 := by
    have v : s_mt 14 = 1 := rfl
    omega
  have y1 : S 12 (S 14 0 - 1) < 2 ^ 31 := by
    unfold s_ent at en
    omega
  have ey : lE (S 13 (S 14 0 - 1)) (S 12 (S 14 0 - 1)) = (lN (S 12 (S 14 0 - 1))) := by
    rw [s1]
    rfl
  rw [ey]
  exact px_14 (y := S 12 (S 14 0 - 1)) (ys := S 13 (S 14 0 - 1)) (x := S 12 (S 14 0 - 2)) (xs := S 13 (S 14 0 - 2)) hR hB t1 y1 (True.intro) hQ
theorem py_15 {X : sm_X} {w : sm_W} {Q : Option Value → sm_W → Prop} {S : sm_S} {T t a : Nat} (hR : RnM T w S (S 14 1)) (hB : RnB T S t) (hp : s_pre S 15 = 0) (hf : s_fit 15 a) (hQ : ∀ w', AfM T w w' (S 14 1) (s_act S t 15 a) → Q (some (.int (nI (s_act S t 15 a).1))) w') : sm_R X 75 0 [.ref 159, .int (nI 15), .int (nI a), .int (nI t), sm_J, sm_J, sm_J, sm_J, sm_J] [] w Q := by
  rw [pf_1 (by decide) hR hB rfl hp]
  obtain ⟨t1, t2, t3⟩ := pre_t (by decide) hp
  have t1 : 1 ≤ S 14 0 := t1
  have en := hB.2.2.2.2.2.1.2 (S 14 0 - 1) (by omega)
  exact px_15 (y := S 12 (S 14 0 - 1)) (ys := S 13 (S 14 0 - 1)) (x := S 12 (S 14 0 - 2)) (xs := S 13 (S 14 0 - 2)) hR hB t1 en (True.intro) rfl rfl hQ
theorem py_16 {X : sm_X} {w : sm_W} {Q : Option Value → sm_W → Prop} {S : sm_S} {T t a : Nat} (hR : RnM T w S (S 14 1)) (hB : RnB T S t) (hp : s_pre S 16 = 0) (hf : s_fit 16 a) (hQ : ∀ w', AfM T w w' (S 14 1) (s_act S t 16 a) → Q (some (.int (nI (s_act S t 16 a).1))) w') : sm_R X 75 0 [.ref 159, .int (nI 16), .int (nI a), .int (nI t), sm_J, sm_J, sm_J, sm_J, sm_J] [] w Q := by
  rw [pf_2 (by decide) hR hB rfl hp]
  obtain ⟨t1, t2, t3⟩ := pre_t (by decide) hp
  have t1 : 2 ≤ S 14 0 := t1
  have en := hB.2.2.2.2.2.1.2 (S 14 0 - 1) (by omega)
  have em := hB.2.2.2.2.2.1.2 (S 14 0 - 2) (by omega)
  exact px_16 (y := S 12 (S 14 0 - 1)) (ys := S 13 (S 14 0 - 1)) (x := S 12 (S 14 0 - 2)) (xs := S 13 (S 14 0 - 2)) hR hB t1 en em (True.intro) hQ
theorem py_17 {X : sm_X} {w : sm_W} {Q : Option Value → sm_W → Prop} {S : sm_S} {T t a : Nat} (hR : RnM T w S (S 14 1)) (hB : RnB T S t) (hp : s_pre S 17 = 0) (hf : s_fit 17 a) (hQ : ∀ w', AfM T w w' (S 14 1) (s_act S t 17 a) → Q (some (.int (nI (s_act S t 17 a).1))) w') : sm_R X 75 0 [.ref 159, .int (nI 17), .int (nI a), .int (nI t), sm_J, sm_J, sm_J, sm_J, sm_J] [] w Q := by
  rw [pf_1 (by decide) hR hB rfl hp]
  obtain ⟨t1, t2, t3⟩ := pre_t (by decide) hp
  have t1 : 1 ≤ S 14 0 := t1
  have en := hB.2.2.2.2.2.1.2 (S 14 0 - 1) (by omega)
  exact px_17 (y := S 12 (S 14 0 - 1)) (ys := S 13 (S 14 0 - 1)) (x := S 12 (S 14 0 - 2)) (xs := S 13 (S 14 0 - 2)) hR hB t1 en (True.intro) hQ
theorem py_18 {X : sm_X} {w : sm_W} {Q : Option Value → sm_W → Prop} {S : sm_S} {T t a : Nat} (hR : RnM T w S (S 14 1)) (hB : RnB T S t) (hp : s_pre S 18 = 0) (hf : s_fit 18 a) (hQ : ∀ w', AfM T w w' (S 14 1) (s_act S t 18 a) → Q (some (.int (nI (s_act S t 18 a).1))) w') : sm_R X 75 0 [.ref 159, .int (nI 18), .int (nI a), .int (nI t), sm_J, sm_J, sm_J, sm_J, sm_J] [] w Q := by
  rw [pf_0 (by decide) hR hB rfl hp]
  exact px_18 (y := S 12 (S 14 0 - 1)) (ys := S 13 (S 14 0 - 1)) (x := S 12 (S 14 0 - 2)) (xs := S 13 (S 14 0 - 2)) hR hB (Nat.zero_le _) (hf.2.2.2.1 (by decide)) hQ
theorem py_19 {X : sm_X} {w : sm_W} {Q : Option Value → sm_W → Prop} {S : sm_S} {T t a : Nat} (hR : RnM T w S (S 14 1)) (hB : RnB T S t) (hp : s_pre S 19 = 0) (hf : s_fit 19 a) (hQ : ∀ w', AfM T w w' (S 14 1) (s_act S t 19 a) → Q (some (.int (nI (s_act S t 19 a).1))) w') : sm_R X 75 0 [.ref 159, .int (nI 19), .int (nI a), .int (nI t), sm_J, sm_J, sm_J, sm_J, sm_J] [] w Q := by
  rw [pf_1 (by decide) hR hB rfl hp]
  obtain ⟨t1, t2, t3⟩ := pre_t (by decide) hp
  have t1 : 1 ≤ S 14 0 := t1
  have en := hB.2.2.2.2.2.1.2 (S 14 0 - 1) (by omega)
  have s1 : S 13 (S 14 0 - 1) = 1 := by
    have v : s_mt 19 = 1 := rfl
    omega
  have y1 : S 12 (S 14 0 - 1) < 2 ^ 31 := by
    unfold s_ent at en
    omega
  have ey : lE (S 13 (S 14 0 - 1)) (S 12 (S 14 0 - 1)) = (lN (S 12 (S 14 0 - 1))) := by
    rw [s1]
    rfl
  rw [ey]
  exact px_19 (y := S 12 (S 14 0 - 1)) (ys := S 13 (S 14 0 - 1)) (x := S 12 (S 14 0 - 2)) (xs := S 13 (S 14 0 - 2)) hR hB t1 y1 (hf.2.2.2.1 (by decide)) hQ
theorem py_20 {X : sm_X} {w : sm_W} {Q : Option Value → sm_W → Prop} {S : sm_S} {T t a : Nat} (hR : RnM T w S (S 14 1)) (hB : RnB T S t) (hp : s_pre S 20 = 0) (hf : s_fit 20 a) (hQ : ∀ w', AfM T w w' (S 14 1) (s_act S t 20 a) → Q (some (.int (nI (s_act S t 20 a).1))) w') : sm_R X 75 0 [.ref 159, .int (nI 20), .int (nI a), .int (nI t), sm_J, sm_J, sm_J, sm_J, sm_J] [] w Q := by
  rw [pf_1 (by decide) hR hB rfl hp]
  obtain ⟨t1, t2, t3⟩ := pre_t (by decide) hp
  have t1 : 1 ≤ S 14 0 := t1
  have en := hB.2.2.2.2.2.1.2 (S 14 0 - 1) (by omega)
  have s1 : S 13 (S 14 0 - 1) = 1 := by
    have v : s_mt 20 = 1 := rfl
    omega
  have y1 : S 12 (S 14 0 - 1) < 2 ^ 31 := by
    unfold s_ent at en
    omega
  have ey : lE (S 13 (S 14 0 - 1)) (S 12 (S 14 0 - 1)) = (lN (S 12 (S 14 0 - 1))) := by
    rw [s1]
    rfl
  rw [ey]
  exact px_20 (y := S 12 (S 14 0 - 1)) (ys := S 13 (S 14 0 - 1)) (x := S 12 (S 14 0 - 2)) (xs := S 13 (S 14 0 - 2)) hR hB t1 y1 (True.intro) hQ
theorem py_21 {X : sm_X} {w : sm_W} {Q : Option Value → sm_W → Prop} {S : sm_S} {T t a : Nat} (hR : RnM T w S (S 14 1)) (hB : RnB T S t) (hp : s_pre S 21 = 0) (hf : s_fit 21 a) (hQ : ∀ w', AfM T w w' (S 14 1) (s_act S t 21 a) → Q (some (.int (nI (s_act S t 21 a).1))) w') : sm_R X 75 0 [.ref 159, .int (nI 21), .int (nI a), .int (nI t), sm_J, sm_J, sm_J, sm_J, sm_J] [] w Q := by
  rw [pf_0 (by decide) hR hB rfl hp]
  exact px_21 (y := S 12 (S 14 0 - 1)) (ys := S 13 (S 14 0 - 1)) (x := S 12 (S 14 0 - 2)) (xs := S 13 (S 14 0 - 2)) hR hB (Nat.zero_le _) (hf.2.2.2.2 (by decide)) hQ
theorem py_22 {X : sm_X} {w : sm_W} {Q : Option Value → sm_W → Prop} {S : sm_S} {T t a : Nat} (hR : RnM T w S (S 14 1)) (hB : RnB T S t) (hp : s_pre S 22 = 0) (hf : s_fit 22 a) (hQ : ∀ w', AfM T w w' (S 14 1) (s_act S t 22 a) → Q (some (.int (nI (s_act S t 22 a).1))) w') : sm_R X 75 0 [.ref 159, .int (nI 22), .int (nI a), .int (nI t), sm_J, sm_J, sm_J, sm_J, sm_J] [] w Q := by
  rw [pf_1 (by decide) hR hB rfl hp]
  obtain ⟨t1, t2, t3⟩ := pre_t (by decide) hp
  have t1 : 1 ≤ S 14 0 := t1
  have en := hB.2.2.2.2.2.1.2 (S 14 0 - 1) (by omega)
  have s1 : S 13 (S 14 0 - 1) = 1 := by
    have v : s_mt 22 = 1 := rfl
    omega
  have y1 : S 12 (S 14 0 - 1) < 2 ^ 31 := by
    unfold s_ent at en
    omega
  have ey : lE (S 13 (S 14 0 - 1)) (S 12 (S 14 0 - 1)) = (lN (S 12 (S 14 0 - 1))) := by
    rw [s1]
    rfl
  rw [ey]
  exact px_22 (y := S 12 (S 14 0 - 1)) (ys := S 13 (S 14 0 - 1)) (x := S 12 (S 14 0 - 2)) (xs := S 13 (S 14 0 - 2)) hR hB t1 y1 (hf.2.2.2.2 (by decide)) hQ
theorem py_23 {X : sm_X} {w : sm_W} {Q : Option Value → sm_W → Prop} {S : sm_S} {T t a : Nat} (hR : RnM T w S (S 14 1)) (hB : RnB T S t) (hp : s_pre S 23 = 0) (hf : s_fit 23 a) (hQ : ∀ w', AfM T w w' (S 14 1) (s_act S t 23 a) → Q (some (.int (nI (s_act S t 23 a).1))) w') : sm_R X 75 0 [.ref 159, .int (nI 23), .int (nI a), .int (nI t), sm_J, sm_J, sm_J, sm_J, sm_J] [] w Q := by
  rw [pf_1 (by decide) hR hB rfl hp]
  obtain ⟨t1, t2, t3⟩ := pre_t (by decide) hp
  have t1 : 1 ≤ S 14 0 := t1
  have en := hB.2.2.2.2.2.1.2 (S 14 0 - 1) (by omega)
  have s1 : S 13 (S 14 0 - 1) = 2 := by
    have v : s_mt 23 = 2 := rfl
    omega
  have y1 : S 12 (S 14 0 - 1) < 6 := by
    unfold s_ent at en
    omega
  have ey : lE (S 13 (S 14 0 - 1)) (S 12 (S 14 0 - 1)) = (-1 - lN (S 12 (S 14 0 - 1))) := by
    rw [s1]
    rfl
  rw [ey]
  exact px_23 (y := S 12 (S 14 0 - 1)) (ys := S 13 (S 14 0 - 1)) (x := S 12 (S 14 0 - 2)) (xs := S 13 (S 14 0 - 2)) hR hB t1 y1 (hf.2.2.1 (by decide)) hQ
theorem py_24 {X : sm_X} {w : sm_W} {Q : Option Value → sm_W → Prop} {S : sm_S} {T t a : Nat} (hR : RnM T w S (S 14 1)) (hB : RnB T S t) (hp : s_pre S 24 = 0) (hf : s_fit 24 a) (hQ : ∀ w', AfM T w w' (S 14 1) (s_act S t 24 a) → Q (some (.int (nI (s_act S t 24 a).1))) w') : sm_R X 75 0 [.ref 159, .int (nI 24), .int (nI a), .int (nI t), sm_J, sm_J, sm_J, sm_J, sm_J] [] w Q := by
  rw [pf_2 (by decide) hR hB rfl hp]
  obtain ⟨t1, t2, t3⟩ := pre_t (by decide) hp
  have t1 : 2 ≤ S 14 0 := t1
  have en := hB.2.2.2.2.2.1.2 (S 14 0 - 1) (by omega)
  have s1 : S 13 (S 14 0 - 1) = 1 := by
    have v : s_mt 24 = 1 := rfl
    omega
  have y1 : S 12 (S 14 0 - 1) < 2 ^ 31 := by
    unfold s_ent at en
    omega
  have ey : lE (S 13 (S 14 0 - 1)) (S 12 (S 14 0 - 1)) = (lN (S 12 (S 14 0 - 1))) := by
    rw [s1]
    rfl
  rw [ey]
  have em := hB.2.2.2.2.2.1.2 (S 14 0 - 2) (by omega)
  have s2 : S 13 (S 14 0 - 2) = 2 := by
    have v : s_mu 24 = 2 := rfl
    have := t3 rfl
    omega
  have x1 : S 12 (S 14 0 - 2) < 6 := by
    unfold s_ent at em
    omega
  have ex : lE (S 13 (S 14 0 - 2)) (S 12 (S 14 0 - 2)) = (-1 - lN (S 12 (S 14 0 - 2))) := by
    rw [s2]
    rfl
  rw [ex]
  exact px_24 (y := S 12 (S 14 0 - 1)) (ys := S 13 (S 14 0 - 1)) (x := S 12 (S 14 0 - 2)) (xs := S 13 (S 14 0 - 2)) hR hB t1 y1 x1 (hf.2.2.1 (by decide)) hQ
theorem py_25 {X : sm_X} {w : sm_W} {Q : Option Value → sm_W → Prop} {S : sm_S} {T t a : Nat} (hR : RnM T w S (S 14 1)) (hB : RnB T S t) (hp : s_pre S 25 = 0) (hf : s_fit 25 a) (hQ : ∀ w', AfM T w w' (S 14 1) (s_act S t 25 a) → Q (some (.int (nI (s_act S t 25 a).1))) w') : sm_R X 75 0 [.ref 159, .int (nI 25), .int (nI a), .int (nI t), sm_J, sm_J, sm_J, sm_J, sm_J] [] w Q := by
  rw [pf_1 (by decide) hR hB rfl hp]
  obtain ⟨t1, t2, t3⟩ := pre_t (by decide) hp
  have t1 : 1 ≤ S 14 0 := t1
  have en := hB.2.2.2.2.2.1.2 (S 14 0 - 1) (by omega)
  have s1 : S 13 (S 14 0 - 1) = 2 := by
    have v : s_mt 25 = 2 := rfl
    omega
  have y1 : S 12 (S 14 0 - 1) < 6 := by
    unfold s_ent at en
    omega
  have ey : lE (S 13 (S 14 0 - 1)) (S 12 (S 14 0 - 1)) = (-1 - lN (S 12 (S 14 0 - 1))) := by
    rw [s1]
    rfl
  rw [ey]
  exact px_25 (y := S 12 (S 14 0 - 1)) (ys := S 13 (S 14 0 - 1)) (x := S 12 (S 14 0 - 2)) (xs := S 13 (S 14 0 - 2)) hR hB t1 y1 (True.intro) hQ
theorem py_26 {X : sm_X} {w : sm_W} {Q : Option Value → sm_W → Prop} {S : sm_S} {T t a : Nat} (hR : RnM T w S (S 14 1)) (hB : RnB T S t) (hp : s_pre S 26 = 0) (hf : s_fit 26 a) (hQ : ∀ w', AfM T w w' (S 14 1) (s_act S t 26 a) → Q (some (.int (nI (s_act S t 26 a).1))) w') : sm_R X 75 0 [.ref 159, .int (nI 26), .int (nI a), .int (nI t), sm_J, sm_J, sm_J, sm_J, sm_J] [] w Q := by
  rw [pf_0 (by decide) hR hB rfl hp]
  exact px_26 (y := S 12 (S 14 0 - 1)) (ys := S 13 (S 14 0 - 1)) (x := S 12 (S 14 0 - 2)) (xs := S 13 (S 14 0 - 2)) hR hB (Nat.zero_le _) (hf.2.2.2.2 (by decide)) hQ
theorem py_27 {X : sm_X} {w : sm_W} {Q : Option Value → sm_W → Prop} {S : sm_S} {T t a : Nat} (hR : RnM T w S (S 14 1)) (hB : RnB T S t) (hp : s_pre S 27 = 0) (hf : s_fit 27 a) (hQ : ∀ w', AfM T w w' (S 14 1) (s_act S t 27 a) → Q (some (.int (nI (s_act S t 27 a).1))) w') : sm_R X 75 0 [.ref 159, .int (nI 27), .int (nI a), .int (nI t), sm_J, sm_J, sm_J, sm_J, sm_J] [] w Q := by
  rw [pf_1 (by decide) hR hB rfl hp]
  obtain ⟨t1, t2, t3⟩ := pre_t (by decide) hp
  have t1 : 1 ≤ S 14 0 := t1
  have en := hB.2.2.2.2.2.1.2 (S 14 0 - 1) (by omega)
  have s1 : S 13 (S 14 0 - 1) = 1 := by
    have v : s_mt 27 = 1 := rfl
    omega
  have y1 : S 12 (S 14 0 - 1) < 2 ^ 31 := by
    unfold s_ent at en
    omega
  have ey : lE (S 13 (S 14 0 - 1)) (S 12 (S 14 0 - 1)) = (lN (S 12 (S 14 0 - 1))) := by
    rw [s1]
    rfl
  rw [ey]
  exact px_27 (y := S 12 (S 14 0 - 1)) (ys := S 13 (S 14 0 - 1)) (x := S 12 (S 14 0 - 2)) (xs := S 13 (S 14 0 - 2)) hR hB t1 y1 (hf.2.2.2.2 (by decide)) hQ
theorem py_28 {X : sm_X} {w : sm_W} {Q : Option Value → sm_W → Prop} {S : sm_S} {T t a : Nat} (hR : RnM T w S (S 14 1)) (hB : RnB T S t) (hp : s_pre S 28 = 0) (hf : s_fit 28 a) (hQ : ∀ w', AfM T w w' (S 14 1) (s_act S t 28 a) → Q (some (.int (nI (s_act S t 28 a).1))) w') : sm_R X 75 0 [.ref 159, .int (nI 28), .int (nI a), .int (nI t), sm_J, sm_J, sm_J, sm_J, sm_J] [] w Q := by
  rw [pf_1 (by decide) hR hB rfl hp]
  obtain ⟨t1, t2, t3⟩ := pre_t (by decide) hp
  have t1 : 1 ≤ S 14 0 := t1
  have en := hB.2.2.2.2.2.1.2 (S 14 0 - 1) (by omega)
  have s1 : S 13 (S 14 0 - 1) = 1 := by
    have v : s_mt 28 = 1 := rfl
    omega
  have y1 : S 12 (S 14 0 - 1) < 2 ^ 31 := by
    unfold s_ent at en
    omega
  have ey : lE (S 13 (S 14 0 - 1)) (S 12 (S 14 0 - 1)) = (lN (S 12 (S 14 0 - 1))) := by
    rw [s1]
    rfl
  rw [ey]
  exact px_28 (y := S 12 (S 14 0 - 1)) (ys := S 13 (S 14 0 - 1)) (x := S 12 (S 14 0 - 2)) (xs := S 13 (S 14 0 - 2)) hR hB t1 y1 (hf.2.2.2.2 (by decide)) hQ
theorem py_29 {X : sm_X} {w : sm_W} {Q : Option Value → sm_W → Prop} {S : sm_S} {T t a : Nat} (hR : RnM T w S (S 14 1)) (hB : RnB T S t) (hp : s_pre S 29 = 0) (hf : s_fit 29 a) (hQ : ∀ w', AfM T w w' (S 14 1) (s_act S t 29 a) → Q (some (.int (nI (s_act S t 29 a).1))) w') : sm_R X 75 0 [.ref 159, .int (nI 29), .int (nI a), .int (nI t), sm_J, sm_J, sm_J, sm_J, sm_J] [] w Q := by
  rw [pf_1 (by decide) hR hB rfl hp]
  obtain ⟨t1, t2, t3⟩ := pre_t (by decide) hp
  have t1 : 1 ≤ S 14 0 := t1
  have en := hB.2.2.2.2.2.1.2 (S 14 0 - 1) (by omega)
  have s1 : S 13 (S 14 0 - 1) = 1 := by
    have v : s_mt 29 = 1 := rfl
    omega
  have y1 : S 12 (S 14 0 - 1) < 2 ^ 31 := by
    unfold s_ent at en
    omega
  have ey : lE (S 13 (S 14 0 - 1)) (S 12 (S 14 0 - 1)) = (lN (S 12 (S 14 0 - 1))) := by
    rw [s1]
    rfl
  rw [ey]
  exact px_29 (y := S 12 (S 14 0 - 1)) (ys := S 13 (S 14 0 - 1)) (x := S 12 (S 14 0 - 2)) (xs := S 13 (S 14 0 - 2)) hR hB t1 y1 (True.intro) hQ
theorem py_30 {X : sm_X} {w : sm_W} {Q : Option Value → sm_W → Prop} {S : sm_S} {T t a : Nat} (hR : RnM T w S (S 14 1)) (hB : RnB T S t) (hp : s_pre S 30 = 0) (hf : s_fit 30 a) (hQ : ∀ w', AfM T w w' (S 14 1) (s_act S t 30 a) → Q (some (.int (nI (s_act S t 30 a).1))) w') : sm_R X 75 0 [.ref 159, .int (nI 30), .int (nI a), .int (nI t), sm_J, sm_J, sm_J, sm_J, sm_J] [] w Q := by
  rw [pf_1 (by decide) hR hB rfl hp]
  obtain ⟨t1, t2, t3⟩ := pre_t (by decide) hp
  have t1 : 1 ≤ S 14 0 := t1
  have en := hB.2.2.2.2.2.1.2 (S 14 0 - 1) (by omega)
  have s1 : S 13 (S 14 0 - 1) = 1 := by
    have v : s_mt 30 = 1 := rfl
    omega
  have y1 : S 12 (S 14 0 - 1) < 2 ^ 31 := by
    unfold s_ent at en
    omega
  have ey : lE (S 13 (S 14 0 - 1)) (S 12 (S 14 0 - 1)) = (lN (S 12 (S 14 0 - 1))) := by
    rw [s1]
    rfl
  rw [ey]
  exact px_30 (y := S 12 (S 14 0 - 1)) (ys := S 13 (S 14 0 - 1)) (x := S 12 (S 14 0 - 2)) (xs := S 13 (S 14 0 - 2)) hR hB t1 y1 (True.intro) hQ
theorem perf_M {X : sm_X} {w : sm_W} {Q : Option Value → sm_W → Prop} {S : sm_S} {T t a c : Nat} (hc : c < 31) (hR : RnM T w S (S 14 1)) (hB : RnB T S t) (hp : s_pre S c = 0) (hf : s_fit c a) (hQ : ∀ w', AfM T w w' (S 14 1) (s_act S t c a) → Q (some (.int (nI (s_act S t c a).1))) w') : sm_R X 75 0 [.ref 159, .int (nI c), .int (nI a), .int (nI t), sm_J, sm_J, sm_J, sm_J, sm_J] [] w Q := by
  have h : c = 0 ∨ c = 1 ∨ c = 2 ∨ c = 3 ∨ c = 4 ∨ c = 5 ∨ c = 6 ∨ c = 7 ∨ c = 8 ∨ c = 9 ∨ c = 10 ∨ c = 11 ∨ c = 12 ∨ c = 13 ∨ c = 14 ∨ c = 15 ∨ c = 16 ∨ c = 17 ∨ c = 18 ∨ c = 19 ∨ c = 20 ∨ c = 21 ∨ c = 22 ∨ c = 23 ∨ c = 24 ∨ c = 25 ∨ c = 26 ∨ c = 27 ∨ c = 28 ∨ c = 29 ∨ c = 30 := by omega
  rcases h with rfl | rfl | rfl | rfl | rfl | rfl | rfl | rfl | rfl | rfl | rfl | rfl | rfl | rfl | rfl | rfl | rfl | rfl | rfl | rfl | rfl | rfl | rfl | rfl | rfl | rfl | rfl | rfl | rfl | rfl | rfl
  · exact py_0 hR hB hp hf hQ
  · exact py_1 hR hB hp hf hQ
  · exact py_2 hR hB hp hf hQ
  · exact py_3 hR hB hp hf hQ
  · exact py_4 hR hB hp hf hQ
  · exact py_5 hR hB hp hf hQ
  · exact py_6 hR hB hp hf hQ
  · exact py_7 hR hB hp hf hQ
  · exact py_8 hR hB hp hf hQ
  · exact py_9 hR hB hp hf hQ
  · exact py_10 hR hB hp hf hQ
  · exact py_11 hR hB hp hf hQ
  · exact py_12 hR hB hp hf hQ
  · exact py_13 hR hB hp hf hQ
  · exact py_14 hR hB hp hf hQ
  · exact py_15 hR hB hp hf hQ
  · exact py_16 hR hB hp hf hQ
  · exact py_17 hR hB hp hf hQ
  · exact py_18 hR hB hp hf hQ
  · exact py_19 hR hB hp hf hQ
  · exact py_20 hR hB hp hf hQ
  · exact py_21 hR hB hp hf hQ
  · exact py_22 hR hB hp hf hQ
  · exact py_23 hR hB hp hf hQ
  · exact py_24 hR hB hp hf hQ
  · exact py_25 hR hB hp hf hQ
  · exact py_26 hR hB hp hf hQ
  · exact py_27 hR hB hp hf hQ
  · exact py_28 hR hB hp hf hQ
  · exact py_29 hR hB hp hf hQ
  · exact py_30 hR hB hp hf hQ
theorem pr_0 {X : sm_X} {w : sm_W} {Q : Option Value → sm_W → Prop} {x1 x2 x3 : Int32} {x5 x6 : Value} (hS : Sh w) : sm_R X 74 85 [.ref 159, .int x1, .int x2, .int x3, .int (nI 0), x5, x6] [] w Q ↔ sm_R X 74 123 [.ref 159, .int x1, .int x2, .int x3, .int (nI 0), .int (nI (s_pr 0)), x6] [] w Q := by
  simp (decide := true) only [r74_85, r74_87, r74_89, r74_92, r74_94, r74_96, r74_99, r74_100, r74_103, r74_104, r74_106, r74_108, r74_110, r74_113, r74_116, r74_117, r74_120, r74_121, r62_0, r62_1, r62_2, r62_5, r62_6, r62_7, r62_10, r62_11, r62_14, r62_15 (s0 := 0) (Or.inl rfl), r62_15 (s0 := 1) (Or.inr rfl), sh59 hS, sm_wp_some, sm_wp_none, sm_at, sm_get, sm_fld, sm_pfl, sm_cN, sm_ai, sm_al, sm_si, sm_slg, sm_aa, List.getElem?_cons_zero, List.getElem?_cons_succ, List.set_cons_zero, List.set_cons_succ, List.length_cons, List.length_nil, Option.toList_some, Option.toList_none, List.cons_append, List.nil_append, if_true, if_false, true_and, and_true, Option.some.injEq, gs_o, gs_s, List.length_set, hS.1, pk_us, Nat.reduceLT, Nat.reduceLeDiff, Nat.reduceSub, Nat.reduceEqDiff, Nat.reduceAdd, Int32.reduceLT, Int32.reduceLE, Int32.reduceAdd, Int32.reduceSub, Int32.reduceToNatClampNeg, ↓reduceIte, reduceCtorEq, Nat.lt_irrefl]
  first | done | exact Iff.rfl
theorem pr_1 {X : sm_X} {w : sm_W} {Q : Option Value → sm_W → Prop} {x1 x2 x3 : Int32} {x5 x6 : Value} (hS : Sh w) : sm_R X 74 85 [.ref 159, .int x1, .int x2, .int x3, .int (nI 1), x5, x6] [] w Q ↔ sm_R X 74 123 [.ref 159, .int x1, .int x2, .int x3, .int (nI 1), .int (nI (s_pr 1)), x6] [] w Q := by
  simp (decide := true) only [r74_85, r74_87, r74_89, r74_92, r74_94, r74_96, r74_99, r74_100, r74_103, r74_104, r74_106, r74_108, r74_110, r74_113, r74_116, r74_117, r74_120, r74_121, r62_0, r62_1, r62_2, r62_5, r62_6, r62_7, r62_10, r62_11, r62_14, r62_15 (s0 := 0) (Or.inl rfl), r62_15 (s0 := 1) (Or.inr rfl), sh59 hS, sm_wp_some, sm_wp_none, sm_at, sm_get, sm_fld, sm_pfl, sm_cN, sm_ai, sm_al, sm_si, sm_slg, sm_aa, List.getElem?_cons_zero, List.getElem?_cons_succ, List.set_cons_zero, List.set_cons_succ, List.length_cons, List.length_nil, Option.toList_some, Option.toList_none, List.cons_append, List.nil_append, if_true, if_false, true_and, and_true, Option.some.injEq, gs_o, gs_s, List.length_set, hS.1, pk_us, Nat.reduceLT, Nat.reduceLeDiff, Nat.reduceSub, Nat.reduceEqDiff, Nat.reduceAdd, Int32.reduceLT, Int32.reduceLE, Int32.reduceAdd, Int32.reduceSub, Int32.reduceToNatClampNeg, ↓reduceIte, reduceCtorEq, Nat.lt_irrefl]
  first | done | exact Iff.rfl
theorem pr_2 {X : sm_X} {w : sm_W} {Q : Option Value → sm_W → Prop} {x1 x2 x3 : Int32} {x5 x6 : Value} (hS : Sh w) : sm_R X 74 85 [.ref 159, .int x1, .int x2, .int x3, .int (nI 2), x5, x6] [] w Q ↔ sm_R X 74 123 [.ref 159, .int x1, .int x2, .int x3, .int (nI 2), .int (nI (s_pr 2)), x6] [] w Q := by
  simp (decide := true) only [r74_85, r74_87, r74_89, r74_92, r74_94, r74_96, r74_99, r74_100, r74_103, r74_104, r74_106, r74_108, r74_110, r74_113, r74_116, r74_117, r74_120, r74_121, r62_0, r62_1, r62_2, r62_5, r62_6, r62_7, r62_10, r62_11, r62_14, r62_15 (s0 := 0) (Or.inl rfl), r62_15 (s0 := 1) (Or.inr rfl), sh59 hS, sm_wp_some, sm_wp_none, sm_at, sm_get, sm_fld, sm_pfl, sm_cN, sm_ai, sm_al, sm_si, sm_slg, sm_aa, List.getElem?_cons_zero, List.getElem?_cons_succ, List.set_cons_zero, List.set_cons_succ, List.length_cons, List.length_nil, Option.toList_some, Option.toList_none, List.cons_append, List.nil_append, if_true, if_false, true_and, and_true, Option.some.injEq, gs_o, gs_s, List.length_set, hS.1, pk_us, Nat.reduceLT, Nat.reduceLeDiff, Nat.reduceSub, Nat.reduceEqDiff, Nat.reduceAdd, Int32.reduceLT, Int32.reduceLE, Int32.reduceAdd, Int32.reduceSub, Int32.reduceToNatClampNeg, ↓reduceIte, reduceCtorEq, Nat.lt_irrefl]
  first | done | exact Iff.rfl
theorem pr_3 {X : sm_X} {w : sm_W} {Q : Option Value → sm_W → Prop} {x1 x2 x3 : Int32} {x5 x6 : Value} (hS : Sh w) : sm_R X 74 85 [.ref 159, .int x1, .int x2, .int x3, .int (nI 3), x5, x6] [] w Q ↔ sm_R X 74 123 [.ref 159, .int x1, .int x2, .int x3, .int (nI 3), .int (nI (s_pr 3)), x6] [] w Q := by
  simp (decide := true) only [r74_85, r74_87, r74_89, r74_92, r74_94, r74_96, r74_99, r74_100, r74_103, r74_104, r74_106, r74_108, r74_110, r74_113, r74_116, r74_117, r74_120, r74_121, r62_0, r62_1, r62_2, r62_5, r62_6, r62_7, r62_10, r62_11, r62_14, r62_15 (s0 := 0) (Or.inl rfl), r62_15 (s0 := 1) (Or.inr rfl), sh59 hS, sm_wp_some, sm_wp_none, sm_at, sm_get, sm_fld, sm_pfl, sm_cN, sm_ai, sm_al, sm_si, sm_slg, sm_aa, List.getElem?_cons_zero, List.getElem?_cons_succ, List.set_cons_zero, List.set_cons_succ, List.length_cons, List.length_nil, Option.toList_some, Option.toList_none, List.cons_append, List.nil_append, if_true, if_false, true_and, and_true, Option.some.injEq, gs_o, gs_s, List.length_set, hS.1, pk_us, Nat.reduceLT, Nat.reduceLeDiff, Nat.reduceSub, Nat.reduceEqDiff, Nat.reduceAdd, Int32.reduceLT, Int32.reduceLE, Int32.reduceAdd, Int32.reduceSub, Int32.reduceToNatClampNeg, ↓reduceIte, reduceCtorEq, Nat.lt_irrefl]
  first | done | exact Iff.rfl
theorem pr_4 {X : sm_X} {w : sm_W} {Q : Option Value → sm_W → Prop} {x1 x2 x3 : Int32} {x5 x6 : Value} (hS : Sh w) : sm_R X 74 85 [.ref 159, .int x1, .int x2, .int x3, .int (nI 4), x5, x6] [] w Q ↔ sm_R X 74 123 [.ref 159, .int x1, .int x2, .int x3, .int (nI 4), .int (nI (s_pr 4)), x6] [] w Q := by
  simp (decide := true) only [r74_85, r74_87, r74_89, r74_92, r74_94, r74_96, r74_99, r74_100, r74_103, r74_104, r74_106, r74_108, r74_110, r74_113, r74_116, r74_117, r74_120, r74_121, r62_0, r62_1, r62_2, r62_5, r62_6, r62_7, r62_10, r62_11, r62_14, r62_15 (s0 := 0) (Or.inl rfl), r62_15 (s0 := 1) (Or.inr rfl), sh59 hS, sm_wp_some, sm_wp_none, sm_at, sm_get, sm_fld, sm_pfl, sm_cN, sm_ai, sm_al, sm_si, sm_slg, sm_aa, List.getElem?_cons_zero, List.getElem?_cons_succ, List.set_cons_zero, List.set_cons_succ, List.length_cons, List.length_nil, Option.toList_some, Option.toList_none, List.cons_append, List.nil_append, if_true, if_false, true_and, and_true, Option.some.injEq, gs_o, gs_s, List.length_set, hS.1, pk_us, Nat.reduceLT, Nat.reduceLeDiff, Nat.reduceSub, Nat.reduceEqDiff, Nat.reduceAdd, Int32.reduceLT, Int32.reduceLE, Int32.reduceAdd, Int32.reduceSub, Int32.reduceToNatClampNeg, ↓reduceIte, reduceCtorEq, Nat.lt_irrefl]
  first | done | exact Iff.rfl
theorem pr_5 {X : sm_X} {w : sm_W} {Q : Option Value → sm_W → Prop} {x1 x2 x3 : Int32} {x5 x6 : Value} (hS : Sh w) : sm_R X 74 85 [.ref 159, .int x1, .int x2, .int x3, .int (nI 5), x5, x6] [] w Q ↔ sm_R X 74 123 [.ref 159, .int x1, .int x2, .int x3, .int (nI 5), .int (nI (s_pr 5)), x6] [] w Q := by
  simp (decide := true) only [r74_85, r74_87, r74_89, r74_92, r74_94, r74_96, r74_99, r74_100, r74_103, r74_104, r74_106, r74_108, r74_110, r74_113, r74_116, r74_117, r74_120, r74_121, r62_0, r62_1, r62_2, r62_5, r62_6, r62_7, r62_10, r62_11, r62_14, r62_15 (s0 := 0) (Or.inl rfl), r62_15 (s0 := 1) (Or.inr rfl), sh59 hS, sm_wp_some, sm_wp_none, sm_at, sm_get, sm_fld, sm_pfl, sm_cN, sm_ai, sm_al, sm_si, sm_slg, sm_aa, List.getElem?_cons_zero, List.getElem?_cons_succ, List.set_cons_zero, List.set_cons_succ, List.length_cons, List.length_nil, Option.toList_some, Option.toList_none, List.cons_append, List.nil_append, if_true, if_false, true_and, and_true, Option.some.injEq, gs_o, gs_s, List.length_set, hS.1, pk_us, Nat.reduceLT, Nat.reduceLeDiff, Nat.reduceSub, Nat.reduceEqDiff, Nat.reduceAdd, Int32.reduceLT, Int32.reduceLE, Int32.reduceAdd, Int32.reduceSub, Int32.reduceToNatClampNeg, ↓reduceIte, reduceCtorEq, Nat.lt_irrefl]
  first | done | exact Iff.rfl
theorem pr_6 {X : sm_X} {w : sm_W} {Q : Option Value → sm_W → Prop} {x1 x2 x3 : Int32} {x5 x6 : Value} (hS : Sh w) : sm_R X 74 85 [.ref 159, .int x1, .int x2, .int x3, .int (nI 6), x5, x6] [] w Q ↔ sm_R X 74 123 [.ref 159, .int x1, .int x2, .int x3, .int (nI 6), .int (nI (s_pr 6)), x6] [] w Q := by
  simp (decide := true) only [r74_85, r74_87, r74_89, r74_92, r74_94, r74_96, r74_99, r74_100, r74_103, r74_104, r74_106, r74_108, r74_110, r74_113, r74_116, r74_117, r74_120, r74_121, r62_0, r62_1, r62_2, r62_5, r62_6, r62_7, r62_10, r62_11, r62_14, r62_15 (s0 := 0) (Or.inl rfl), r62_15 (s0 := 1) (Or.inr rfl), sh59 hS, sm_wp_some, sm_wp_none, sm_at, sm_get, sm_fld, sm_pfl, sm_cN, sm_ai, sm_al, sm_si, sm_slg, sm_aa, List.getElem?_cons_zero, List.getElem?_cons_succ, List.set_cons_zero, List.set_cons_succ, List.length_cons, List.length_nil, Option.toList_some, Option.toList_none, List.cons_append, List.nil_append, if_true, if_false, true_and, and_true, Option.some.injEq, gs_o, gs_s, List.length_set, hS.1, pk_us, Nat.reduceLT, Nat.reduceLeDiff, Nat.reduceSub, Nat.reduceEqDiff, Nat.reduceAdd, Int32.reduceLT, Int32.reduceLE, Int32.reduceAdd, Int32.reduceSub, Int32.reduceToNatClampNeg, ↓reduceIte, reduceCtorEq, Nat.lt_irrefl]
  first | done | exact Iff.rfl
theorem pr_7 {X : sm_X} {w : sm_W} {Q : Option Value → sm_W → Prop} {x1 x2 x3 : Int32} {x5 x6 : Value} (hS : Sh w) : sm_R X 74 85 [.ref 159, .int x1, .int x2, .int x3, .int (nI 7), x5, x6] [] w Q ↔ sm_R X 74 123 [.ref 159, .int x1, .int x2, .int x3, .int (nI 7), .int (nI (s_pr 7)), x6] [] w Q := by
  simp (decide := true) only [r74_85, r74_87, r74_89, r74_92, r74_94, r74_96, r74_99, r74_100, r74_103, r74_104, r74_106, r74_108, r74_110, r74_113, r74_116, r74_117, r74_120, r74_121, r62_0, r62_1, r62_2, r62_5, r62_6, r62_7, r62_10, r62_11, r62_14, r62_15 (s0 := 0) (Or.inl rfl), r62_15 (s0 := 1) (Or.inr rfl), sh59 hS, sm_wp_some, sm_wp_none, sm_at, sm_get, sm_fld, sm_pfl, sm_cN, sm_ai, sm_al, sm_si, sm_slg, sm_aa, List.getElem?_cons_zero, List.getElem?_cons_succ, List.set_cons_zero, List.set_cons_succ, List.length_cons, List.length_nil, Option.toList_some, Option.toList_none, List.cons_append, List.nil_append, if_true, if_false, true_and, and_true, Option.some.injEq, gs_o, gs_s, List.length_set, hS.1, pk_us, Nat.reduceLT, Nat.reduceLeDiff, Nat.reduceSub, Nat.reduceEqDiff, Nat.reduceAdd, Int32.reduceLT, Int32.reduceLE, Int32.reduceAdd, Int32.reduceSub, Int32.reduceToNatClampNeg, ↓reduceIte, reduceCtorEq, Nat.lt_irrefl]
  first | done | exact Iff.rfl
theorem pr_8 {X : sm_X} {w : sm_W} {Q : Option Value → sm_W → Prop} {x1 x2 x3 : Int32} {x5 x6 : Value} (hS : Sh w) : sm_R X 74 85 [.ref 159, .int x1, .int x2, .int x3, .int (nI 8), x5, x6] [] w Q ↔ sm_R X 74 123 [.ref 159, .int x1, .int x2, .int x3, .int (nI 8), .int (nI (s_pr 8)), x6] [] w Q := by
  simp (decide := true) only [r74_85, r74_87, r74_89, r74_92, r74_94, r74_96, r74_99, r74_100, r74_103, r74_104, r74_106, r74_108, r74_110, r74_113, r74_116, r74_117, r74_120, r74_121, r62_0, r62_1, r62_2, r62_5, r62_6, r62_7, r62_10, r62_11, r62_14, r62_15 (s0 := 0) (Or.inl rfl), r62_15 (s0 := 1) (Or.inr rfl), sh59 hS, sm_wp_some, sm_wp_none, sm_at, sm_get, sm_fld, sm_pfl, sm_cN, sm_ai, sm_al, sm_si, sm_slg, sm_aa, List.getElem?_cons_zero, List.getElem?_cons_succ, List.set_cons_zero, List.set_cons_succ, List.length_cons, List.length_nil, Option.toList_some, Option.toList_none, List.cons_append, List.nil_append, if_true, if_false, true_and, and_true, Option.some.injEq, gs_o, gs_s, List.length_set, hS.1, pk_us, Nat.reduceLT, Nat.reduceLeDiff, Nat.reduceSub, Nat.reduceEqDiff, Nat.reduceAdd, Int32.reduceLT, Int32.reduceLE, Int32.reduceAdd, Int32.reduceSub, Int32.reduceToNatClampNeg, ↓reduceIte, reduceCtorEq, Nat.lt_irrefl]
  first | done | exact Iff.rfl
theorem pr_9 {X : sm_X} {w : sm_W} {Q : Option Value → sm_W → Prop} {x1 x2 x3 : Int32} {x5 x6 : Value} (hS : Sh w) : sm_R X 74 85 [.ref 159, .int x1, .int x2, .int x3, .int (nI 9), x5, x6] [] w Q ↔ sm_R X 74 123 [.ref 159, .int x1, .int x2, .int x3, .int (nI 9), .int (nI (s_pr 9)), x6] [] w Q := by
  simp (decide := true) only [r74_85, r74_87, r74_89, r74_92, r74_94, r74_96, r74_99, r74_100, r74_103, r74_104, r74_106, r74_108, r74_110, r74_113, r74_116, r74_117, r74_120, r74_121, r62_0, r62_1, r62_2, r62_5, r62_6, r62_7, r62_10, r62_11, r62_14, r62_15 (s0 := 0) (Or.inl rfl), r62_15 (s0 := 1) (Or.inr rfl), sh59 hS, sm_wp_some, sm_wp_none, sm_at, sm_get, sm_fld, sm_pfl, sm_cN, sm_ai, sm_al, sm_si, sm_slg, sm_aa, List.getElem?_cons_zero, List.getElem?_cons_succ, List.set_cons_zero, List.set_cons_succ, List.length_cons, List.length_nil, Option.toList_some, Option.toList_none, List.cons_append, List.nil_append, if_true, if_false, true_and, and_true, Option.some.injEq, gs_o, gs_s, List.length_set, hS.1, pk_us, Nat.reduceLT, Nat.reduceLeDiff, Nat.reduceSub, Nat.reduceEqDiff, Nat.reduceAdd, Int32.reduceLT, Int32.reduceLE, Int32.reduceAdd, Int32.reduceSub, Int32.reduceToNatClampNeg, ↓reduceIte, reduceCtorEq, Nat.lt_irrefl]
  first | done | exact Iff.rfl
theorem pr_10 {X : sm_X} {w : sm_W} {Q : Option Value → sm_W → Prop} {x1 x2 x3 : Int32} {x5 x6 : Value} (hS : Sh w) : sm_R X 74 85 [.ref 159, .int x1, .int x2, .int x3, .int (nI 10), x5, x6] [] w Q ↔ sm_R X 74 123 [.ref 159, .int x1, .int x2, .int x3, .int (nI 10), .int (nI (s_pr 10)), x6] [] w Q := by
  simp (decide := true) only [r74_85, r74_87, r74_89, r74_92, r74_94, r74_96, r74_99, r74_100, r74_103, r74_104, r74_106, r74_108, r74_110, r74_113, r74_116, r74_117, r74_120, r74_121, r62_0, r62_1, r62_2, r62_5, r62_6, r62_7, r62_10, r62_11, r62_14, r62_15 (s0 := 0) (Or.inl rfl), r62_15 (s0 := 1) (Or.inr rfl), sh59 hS, sm_wp_some, sm_wp_none, sm_at, sm_get, sm_fld, sm_pfl, sm_cN, sm_ai, sm_al, sm_si, sm_slg, sm_aa, List.getElem?_cons_zero, List.getElem?_cons_succ, List.set_cons_zero, List.set_cons_succ, List.length_cons, List.length_nil, Option.toList_some, Option.toList_none, List.cons_append, List.nil_append, if_true, if_false, true_and, and_true, Option.some.injEq, gs_o, gs_s, List.length_set, hS.1, pk_us, Nat.reduceLT, Nat.reduceLeDiff, Nat.reduceSub, Nat.reduceEqDiff, Nat.reduceAdd, Int32.reduceLT, Int32.reduceLE, Int32.reduceAdd, Int32.reduceSub, Int32.reduceToNatClampNeg, ↓reduceIte, reduceCtorEq, Nat.lt_irrefl]
  first | done | exact Iff.rfl
theorem pr_11 {X : sm_X} {w : sm_W} {Q : Option Value → sm_W → Prop} {x1 x2 x3 : Int32} {x5 x6 : Value} (hS : Sh w) : sm_R X 74 85 [.ref 159, .int x1, .int x2, .int x3, .int (nI 11), x5, x6] [] w Q ↔ sm_R X 74 123 [.ref 159, .int x1, .int x2, .int x3, .int (nI 11), .int (nI (s_pr 11)), x6] [] w Q := by
  simp (decide := true) only [r74_85, r74_87, r74_89, r74_92, r74_94, r74_96, r74_99, r74_100, r74_103, r74_104, r74_106, r74_108, r74_110, r74_113, r74_116, r74_117, r74_120, r74_121, r62_0, r62_1, r62_2, r62_5, r62_6, r62_7, r62_10, r62_11, r62_14, r62_15 (s0 := 0) (Or.inl rfl), r62_15 (s0 := 1) (Or.inr rfl), sh59 hS, sm_wp_some, sm_wp_none, sm_at, sm_get, sm_fld, sm_pfl, sm_cN, sm_ai, sm_al, sm_si, sm_slg, sm_aa, List.getElem?_cons_zero, List.getElem?_cons_succ, List.set_cons_zero, List.set_cons_succ, List.length_cons, List.length_nil, Option.toList_some, Option.toList_none, List.cons_append, List.nil_append, if_true, if_false, true_and, and_true, Option.some.injEq, gs_o, gs_s, List.length_set, hS.1, pk_us, Nat.reduceLT, Nat.reduceLeDiff, Nat.reduceSub, Nat.reduceEqDiff, Nat.reduceAdd, Int32.reduceLT, Int32.reduceLE, Int32.reduceAdd, Int32.reduceSub, Int32.reduceToNatClampNeg, ↓reduceIte, reduceCtorEq, Nat.lt_irrefl]
  first | done | exact Iff.rfl
theorem pr_12 {X : sm_X} {w : sm_W} {Q : Option Value → sm_W → Prop} {x1 x2 x3 : Int32} {x5 x6 : Value} (hS : Sh w) : sm_R X 74 85 [.ref 159, .int x1, .int x2, .int x3, .int (nI 12), x5, x6] [] w Q ↔ sm_R X 74 123 [.ref 159, .int x1, .int x2, .int x3, .int (nI 12), .int (nI (s_pr 12)), x6] [] w Q := by
  simp (decide := true) only [r74_85, r74_87, r74_89, r74_92, r74_94, r74_96, r74_99, r74_100, r74_103, r74_104, r74_106, r74_108, r74_110, r74_113, r74_116, r74_117, r74_120, r74_121, r62_0, r62_1, r62_2, r62_5, r62_6, r62_7, r62_10, r62_11, r62_14, r62_15 (s0 := 0) (Or.inl rfl), r62_15 (s0 := 1) (Or.inr rfl), sh59 hS, sm_wp_some, sm_wp_none, sm_at, sm_get, sm_fld, sm_pfl, sm_cN, sm_ai, sm_al, sm_si, sm_slg, sm_aa, List.getElem?_cons_zero, List.getElem?_cons_succ, List.set_cons_zero, List.set_cons_succ, List.length_cons, List.length_nil, Option.toList_some, Option.toList_none, List.cons_append, List.nil_append, if_true, if_false, true_and, and_true, Option.some.injEq, gs_o, gs_s, List.length_set, hS.1, pk_us, Nat.reduceLT, Nat.reduceLeDiff, Nat.reduceSub, Nat.reduceEqDiff, Nat.reduceAdd, Int32.reduceLT, Int32.reduceLE, Int32.reduceAdd, Int32.reduceSub, Int32.reduceToNatClampNeg, ↓reduceIte, reduceCtorEq, Nat.lt_irrefl]
  first | done | exact Iff.rfl
theorem pr_13 {X : sm_X} {w : sm_W} {Q : Option Value → sm_W → Prop} {x1 x2 x3 : Int32} {x5 x6 : Value} (hS : Sh w) : sm_R X 74 85 [.ref 159, .int x1, .int x2, .int x3, .int (nI 13), x5, x6] [] w Q ↔ sm_R X 74 123 [.ref 159, .int x1, .int x2, .int x3, .int (nI 13), .int (nI (s_pr 13)), x6] [] w Q := by
  simp (decide := true) only [r74_85, r74_87, r74_89, r74_92, r74_94, r74_96, r74_99, r74_100, r74_103, r74_104, r74_106, r74_108, r74_110, r74_113, r74_116, r74_117, r74_120, r74_121, r62_0, r62_1, r62_2, r62_5, r62_6, r62_7, r62_10, r62_11, r62_14, r62_15 (s0 := 0) (Or.inl rfl), r62_15 (s0 := 1) (Or.inr rfl), sh59 hS, sm_wp_some, sm_wp_none, sm_at, sm_get, sm_fld, sm_pfl, sm_cN, sm_ai, sm_al, sm_si, sm_slg, sm_aa, List.getElem?_cons_zero, List.getElem?_cons_succ, List.set_cons_zero, List.set_cons_succ, List.length_cons, List.length_nil, Option.toList_some, Option.toList_none, List.cons_append, List.nil_append, if_true, if_false, true_and, and_true, Option.some.injEq, gs_o, gs_s, List.length_set, hS.1, pk_us, Nat.reduceLT, Nat.reduceLeDiff, Nat.reduceSub, Nat.reduceEqDiff, Nat.reduceAdd, Int32.reduceLT, Int32.reduceLE, Int32.reduceAdd, Int32.reduceSub, Int32.reduceToNatClampNeg, ↓reduceIte, reduceCtorEq, Nat.lt_irrefl]
  first | done | exact Iff.rfl
theorem pr_14 {X : sm_X} {w : sm_W} {Q : Option Value → sm_W → Prop} {x1 x2 x3 : Int32} {x5 x6 : Value} (hS : Sh w) : sm_R X 74 85 [.ref 159, .int x1, .int x2, .int x3, .int (nI 14), x5, x6] [] w Q ↔ sm_R X 74 123 [.ref 159, .int x1, .int x2, .int x3, .int (nI 14), .int (nI (s_pr 14)), x6] [] w Q := by
  simp (decide := true) only [r74_85, r74_87, r74_89, r74_92, r74_94, r74_96, r74_99, r74_100, r74_103, r74_104, r74_106, r74_108, r74_110, r74_113, r74_116, r74_117, r74_120, r74_121, r62_0, r62_1, r62_2, r62_5, r62_6, r62_7, r62_10, r62_11, r62_14, r62_15 (s0 := 0) (Or.inl rfl), r62_15 (s0 := 1) (Or.inr rfl), sh59 hS, sm_wp_some, sm_wp_none, sm_at, sm_get, sm_fld, sm_pfl, sm_cN, sm_ai, sm_al, sm_si, sm_slg, sm_aa, List.getElem?_cons_zero, List.getElem?_cons_succ, List.set_cons_zero, List.set_cons_succ, List.length_cons, List.length_nil, Option.toList_some, Option.toList_none, List.cons_append, List.nil_append, if_true, if_false, true_and, and_true, Option.some.injEq, gs_o, gs_s, List.length_set, hS.1, pk_us, Nat.reduceLT, Nat.reduceLeDiff, Nat.reduceSub, Nat.reduceEqDiff, Nat.reduceAdd, Int32.reduceLT, Int32.reduceLE, Int32.reduceAdd, Int32.reduceSub, Int32.reduceToNatClampNeg, ↓reduceIte, reduceCtorEq, Nat.lt_irrefl]
  first | done | exact Iff.rfl
theorem pr_15 {X : sm_X} {w : sm_W} {Q : Option Value → sm_W → Prop} {x1 x2 x3 : Int32} {x5 x6 : Value} (hS : Sh w) : sm_R X 74 85 [.ref 159, .int x1, .int x2, .int x3, .int (nI 15), x5, x6] [] w Q ↔ sm_R X 74 123 [.ref 159, .int x1, .int x2, .int x3, .int (nI 15), .int (nI (s_pr 15)), x6] [] w Q := by
  simp (decide := true) only [r74_85, r74_87, r74_89, r74_92, r74_94, r74_96, r74_99, r74_100, r74_103, r74_104, r74_106, r74_108, r74_110, r74_113, r74_116, r74_117, r74_120, r74_121, r62_0, r62_1, r62_2, r62_5, r62_6, r62_7, r62_10, r62_11, r62_14, r62_15 (s0 := 0) (Or.inl rfl), r62_15 (s0 := 1) (Or.inr rfl), sh59 hS, sm_wp_some, sm_wp_none, sm_at, sm_get, sm_fld, sm_pfl, sm_cN, sm_ai, sm_al, sm_si, sm_slg, sm_aa, List.getElem?_cons_zero, List.getElem?_cons_succ, List.set_cons_zero, List.set_cons_succ, List.length_cons, List.length_nil, Option.toList_some, Option.toList_none, List.cons_append, List.nil_append, if_true, if_false, true_and, and_true, Option.some.injEq, gs_o, gs_s, List.length_set, hS.1, pk_us, Nat.reduceLT, Nat.reduceLeDiff, Nat.reduceSub, Nat.reduceEqDiff, Nat.reduceAdd, Int32.reduceLT, Int32.reduceLE, Int32.reduceAdd, Int32.reduceSub, Int32.reduceToNatClampNeg, ↓reduceIte, reduceCtorEq, Nat.lt_irrefl]
  first | done | exact Iff.rfl
theorem pr_16 {X : sm_X} {w : sm_W} {Q : Option Value → sm_W → Prop} {x1 x2 x3 : Int32} {x5 x6 : Value} (hS : Sh w) : sm_R X 74 85 [.ref 159, .int x1, .int x2, .int x3, .int (nI 16), x5, x6] [] w Q ↔ sm_R X 74 123 [.ref 159, .int x1, .int x2, .int x3, .int (nI 16), .int (nI (s_pr 16)), x6] [] w Q := by
  simp (decide := true) only [r74_85, r74_87, r74_89, r74_92, r74_94, r74_96, r74_99, r74_100, r74_103, r74_104, r74_106, r74_108, r74_110, r74_113, r74_116, r74_117, r74_120, r74_121, r62_0, r62_1, r62_2, r62_5, r62_6, r62_7, r62_10, r62_11, r62_14, r62_15 (s0 := 0) (Or.inl rfl), r62_15 (s0 := 1) (Or.inr rfl), sh59 hS, sm_wp_some, sm_wp_none, sm_at, sm_get, sm_fld, sm_pfl, sm_cN, sm_ai, sm_al, sm_si, sm_slg, sm_aa, List.getElem?_cons_zero, List.getElem?_cons_succ, List.set_cons_zero, List.set_cons_succ, List.length_cons, List.length_nil, Option.toList_some, Option.toList_none, List.cons_append, List.nil_append, if_true, if_false, true_and, and_true, Option.some.injEq, gs_o, gs_s, List.length_set, hS.1, pk_us, Nat.reduceLT, Nat.reduceLeDiff, Nat.reduceSub, Nat.reduceEqDiff, Nat.reduceAdd, Int32.reduceLT, Int32.reduceLE, Int32.reduceAdd, Int32.reduceSub, Int32.reduceToNatClampNeg, ↓reduceIte, reduceCtorEq, Nat.lt_irrefl]
  first | done | exact Iff.rfl
theorem pr_17 {X : sm_X} {w : sm_W} {Q : Option Value → sm_W → Prop} {x1 x2 x3 : Int32} {x5 x6 : Value} (hS : Sh w) : sm_R X 74 85 [.ref 159, .int x1, .int x2, .int x3, .int (nI 17), x5, x6] [] w Q ↔ sm_R X 74 123 [.ref 159, .int x1, .int x2, .int x3, .int (nI 17), .int (nI (s_pr 17)), x6] [] w Q := by
  simp (decide := true) only [r74_85, r74_87, r74_89, r74_92, r74_94, r74_96, r74_99, r74_100, r74_103, r74_104, r74_106, r74_108, r74_110, r74_113, r74_116, r74_117, r74_120, r74_121, r62_0, r62_1, r62_2, r62_5, r62_6, r62_7, r62_10, r62_11, r62_14, r62_15 (s0 := 0) (Or.inl rfl), r62_15 (s0 := 1) (Or.inr rfl), sh59 hS, sm_wp_some, sm_wp_none, sm_at, sm_get, sm_fld, sm_pfl, sm_cN, sm_ai, sm_al, sm_si, sm_slg, sm_aa, List.getElem?_cons_zero, List.getElem?_cons_succ, List.set_cons_zero, List.set_cons_succ, List.length_cons, List.length_nil, Option.toList_some, Option.toList_none, List.cons_append, List.nil_append, if_true, if_false, true_and, and_true, Option.some.injEq, gs_o, gs_s, List.length_set, hS.1, pk_us, Nat.reduceLT, Nat.reduceLeDiff, Nat.reduceSub, Nat.reduceEqDiff, Nat.reduceAdd, Int32.reduceLT, Int32.reduceLE, Int32.reduceAdd, Int32.reduceSub, Int32.reduceToNatClampNeg, ↓reduceIte, reduceCtorEq, Nat.lt_irrefl]
  first | done | exact Iff.rfl
theorem pr_18 {X : sm_X} {w : sm_W} {Q : Option Value → sm_W → Prop} {x1 x2 x3 : Int32} {x5 x6 : Value} (hS : Sh w) : sm_R X 74 85 [.ref 159, .int x1, .int x2, .int x3, .int (nI 18), x5, x6] [] w Q ↔ sm_R X 74 123 [.ref 159, .int x1, .int x2, .int x3, .int (nI 18), .int (nI (s_pr 18)), x6] [] w Q := by
  simp (decide := true) only [r74_85, r74_87, r74_89, r74_92, r74_94, r74_96, r74_99, r74_100, r74_103, r74_104, r74_106, r74_108, r74_110, r74_113, r74_116, r74_117, r74_120, r74_121, r62_0, r62_1, r62_2, r62_5, r62_6, r62_7, r62_10, r62_11, r62_14, r62_15 (s0 := 0) (Or.inl rfl), r62_15 (s0 := 1) (Or.inr rfl), sh59 hS, sm_wp_some, sm_wp_none, sm_at, sm_get, sm_fld, sm_pfl, sm_cN, sm_ai, sm_al, sm_si, sm_slg, sm_aa, List.getElem?_cons_zero, List.getElem?_cons_succ, List.set_cons_zero, List.set_cons_succ, List.length_cons, List.length_nil, Option.toList_some, Option.toList_none, List.cons_append, List.nil_append, if_true, if_false, true_and, and_true, Option.some.injEq, gs_o, gs_s, List.length_set, hS.1, pk_us, Nat.reduceLT, Nat.reduceLeDiff, Nat.reduceSub, Nat.reduceEqDiff, Nat.reduceAdd, Int32.reduceLT, Int32.reduceLE, Int32.reduceAdd, Int32.reduceSub, Int32.reduceToNatClampNeg, ↓reduceIte, reduceCtorEq, Nat.lt_irrefl]
  first | done | exact Iff.rfl
theorem pr_19 {X : sm_X} {w : sm_W} {Q : Option Value → sm_W → Prop} {x1 x2 x3 : Int32} {x5 x6 : Value} (hS : Sh w) : sm_R X 74 85 [.ref 159, .int x1, .int x2, .int x3, .int (nI 19), x5, x6] [] w Q ↔ sm_R X 74 123 [.ref 159, .int x1, .int x2, .int x3, .int (nI 19), .int (nI (s_pr 19)), x6] [] w Q := by
  simp (decide := true) only [r74_85, r74_87, r74_89, r74_92, r74_94, r74_96, r74_99, r74_100, r74_103, r74_104, r74_106, r74_108, r74_110, r74_113, r74_116, r74_117, r74_120, r74_121, r62_0, r62_1, r62_2, r62_5, r62_6, r62_7, r62_10, r62_11, r62_14, r62_15 (s0 := 0) (Or.inl rfl), r62_15 (s0 := 1) (Or.inr rfl), sh59 hS, sm_wp_some, sm_wp_none, sm_at, sm_get, sm_fld, sm_pfl, sm_cN, sm_ai, sm_al, sm_si, sm_slg, sm_aa, List.getElem?_cons_zero, List.getElem?_cons_succ, List.set_cons_zero, List.set_cons_succ, List.length_cons, List.length_nil, Option.toList_some, Option.toList_none, List.cons_append, List.nil_append, if_true, if_false, true_and, and_true, Option.some.injEq, gs_o, gs_s, List.length_set, hS.1, pk_us, Nat.reduceLT, Nat.reduceLeDiff, Nat.reduceSub, Nat.reduceEqDiff, Nat.reduceAdd, Int32.reduceLT, Int32.reduceLE, Int32.reduceAdd, Int32.reduceSub, Int32.reduceToNatClampNeg, ↓reduceIte, reduceCtorEq, Nat.lt_irrefl]
  first | done | exact Iff.rfl
theorem pr_20 {X : sm_X} {w : sm_W} {Q : Option Value → sm_W → Prop} {x1 x2 x3 : Int32} {x5 x6 : Value} (hS : Sh w) : sm_R X 74 85 [.ref 159, .int x1, .int x2, .int x3, .int (nI 20), x5, x6] [] w Q ↔ sm_R X 74 123 [.ref 159, .int x1, .int x2, .int x3, .int (nI 20), .int (nI (s_pr 20)), x6] [] w Q := by
  simp (decide := true) only [r74_85, r74_87, r74_89, r74_92, r74_94, r74_96, r74_99, r74_100, r74_103, r74_104, r74_106, r74_108, r74_110, r74_113, r74_116, r74_117, r74_120, r74_121, r62_0, r62_1, r62_2, r62_5, r62_6, r62_7, r62_10, r62_11, r62_14, r62_15 (s0 := 0) (Or.inl rfl), r62_15 (s0 := 1) (Or.inr rfl), sh59 hS, sm_wp_some, sm_wp_none, sm_at, sm_get, sm_fld, sm_pfl, sm_cN, sm_ai, sm_al, sm_si, sm_slg, sm_aa, List.getElem?_cons_zero, List.getElem?_cons_succ, List.set_cons_zero, List.set_cons_succ, List.length_cons, List.length_nil, Option.toList_some, Option.toList_none, List.cons_append, List.nil_append, if_true, if_false, true_and, and_true, Option.some.injEq, gs_o, gs_s, List.length_set, hS.1, pk_us, Nat.reduceLT, Nat.reduceLeDiff, Nat.reduceSub, Nat.reduceEqDiff, Nat.reduceAdd, Int32.reduceLT, Int32.reduceLE, Int32.reduceAdd, Int32.reduceSub, Int32.reduceToNatClampNeg, ↓reduceIte, reduceCtorEq, Nat.lt_irrefl]
  first | done | exact Iff.rfl
theorem pr_21 {X : sm_X} {w : sm_W} {Q : Option Value → sm_W → Prop} {x1 x2 x3 : Int32} {x5 x6 : Value} (hS : Sh w) : sm_R X 74 85 [.ref 159, .int x1, .int x2, .int x3, .int (nI 21), x5, x6] [] w Q ↔ sm_R X 74 123 [.ref 159, .int x1, .int x2, .int x3, .int (nI 21), .int (nI (s_pr 21)), x6] [] w Q := by
  simp (decide := true) only [r74_85, r74_87, r74_89, r74_92, r74_94, r74_96, r74_99, r74_100, r74_103, r74_104, r74_106, r74_108, r74_110, r74_113, r74_116, r74_117, r74_120, r74_121, r62_0, r62_1, r62_2, r62_5, r62_6, r62_7, r62_10, r62_11, r62_14, r62_15 (s0 := 0) (Or.inl rfl), r62_15 (s0 := 1) (Or.inr rfl), sh59 hS, sm_wp_some, sm_wp_none, sm_at, sm_get, sm_fld, sm_pfl, sm_cN, sm_ai, sm_al, sm_si, sm_slg, sm_aa, List.getElem?_cons_zero, List.getElem?_cons_succ, List.set_cons_zero, List.set_cons_succ, List.length_cons, List.length_nil, Option.toList_some, Option.toList_none, List.cons_append, List.nil_append, if_true, if_false, true_and, and_true, Option.some.injEq, gs_o, gs_s, List.length_set, hS.1, pk_us, Nat.reduceLT, Nat.reduceLeDiff, Nat.reduceSub, Nat.reduceEqDiff, Nat.reduceAdd, Int32.reduceLT, Int32.reduceLE, Int32.reduceAdd, Int32.reduceSub, Int32.reduceToNatClampNeg, ↓reduceIte, reduceCtorEq, Nat.lt_irrefl]
  first | done | exact Iff.rfl
theorem pr_22 {X : sm_X} {w : sm_W} {Q : Option Value → sm_W → Prop} {x1 x2 x3 : Int32} {x5 x6 : Value} (hS : Sh w) : sm_R X 74 85 [.ref 159, .int x1, .int x2, .int x3, .int (nI 22), x5, x6] [] w Q ↔ sm_R X 74 123 [.ref 159, .int x1, .int x2, .int x3, .int (nI 22), .int (nI (s_pr 22)), x6] [] w Q := by
  simp (decide := true) only [r74_85, r74_87, r74_89, r74_92, r74_94, r74_96, r74_99, r74_100, r74_103, r74_104, r74_106, r74_108, r74_110, r74_113, r74_116, r74_117, r74_120, r74_121, r62_0, r62_1, r62_2, r62_5, r62_6, r62_7, r62_10, r62_11, r62_14, r62_15 (s0 := 0) (Or.inl rfl), r62_15 (s0 := 1) (Or.inr rfl), sh59 hS, sm_wp_some, sm_wp_none, sm_at, sm_get, sm_fld, sm_pfl, sm_cN, sm_ai, sm_al, sm_si, sm_slg, sm_aa, List.getElem?_cons_zero, List.getElem?_cons_succ, List.set_cons_zero, List.set_cons_succ, List.length_cons, List.length_nil, Option.toList_some, Option.toList_none, List.cons_append, List.nil_append, if_true, if_false, true_and, and_true, Option.some.injEq, gs_o, gs_s, List.length_set, hS.1, pk_us, Nat.reduceLT, Nat.reduceLeDiff, Nat.reduceSub, Nat.reduceEqDiff, Nat.reduceAdd, Int32.reduceLT, Int32.reduceLE, Int32.reduceAdd, Int32.reduceSub, Int32.reduceToNatClampNeg, ↓reduceIte, reduceCtorEq, Nat.lt_irrefl]
  first | done | exact Iff.rfl
theorem pr_23 {X : sm_X} {w : sm_W} {Q : Option Value → sm_W → Prop} {x1 x2 x3 : Int32} {x5 x6 : Value} (hS : Sh w) : sm_R X 74 85 [.ref 159, .int x1, .int x2, .int x3, .int (nI 23), x5, x6] [] w Q ↔ sm_R X 74 123 [.ref 159, .int x1, .int x2, .int x3, .int (nI 23), .int (nI (s_pr 23)), x6] [] w Q := by
  simp (decide := true) only [r74_85, r74_87, r74_89, r74_92, r74_94, r74_96, r74_99, r74_100, r74_103, r74_104, r74_106, r74_108, r74_110, r74_113, r74_116, r74_117, r74_120, r74_121, r62_0, r62_1, r62_2, r62_5, r62_6, r62_7, r62_10, r62_11, r62_14, r62_15 (s0 := 0) (Or.inl rfl), r62_15 (s0 := 1) (Or.inr rfl), sh59 hS, sm_wp_some, sm_wp_none, sm_at, sm_get, sm_fld, sm_pfl, sm_cN, sm_ai, sm_al, sm_si, sm_slg, sm_aa, List.getElem?_cons_zero, List.getElem?_cons_succ, List.set_cons_zero, List.set_cons_succ, List.length_cons, List.length_nil, Option.toList_some, Option.toList_none, List.cons_append, List.nil_append, if_true, if_false, true_and, and_true, Option.some.injEq, gs_o, gs_s, List.length_set, hS.1, pk_us, Nat.reduceLT, Nat.reduceLeDiff, Nat.reduceSub, Nat.reduceEqDiff, Nat.reduceAdd, Int32.reduceLT, Int32.reduceLE, Int32.reduceAdd, Int32.reduceSub, Int32.reduceToNatClampNeg, ↓reduceIte, reduceCtorEq, Nat.lt_irrefl]
  first | done | exact Iff.rfl
theorem pr_24 {X : sm_X} {w : sm_W} {Q : Option Value → sm_W → Prop} {x1 x2 x3 : Int32} {x5 x6 : Value} (hS : Sh w) : sm_R X 74 85 [.ref 159, .int x1, .int x2, .int x3, .int (nI 24), x5, x6] [] w Q ↔ sm_R X 74 123 [.ref 159, .int x1, .int x2, .int x3, .int (nI 24), .int (nI (s_pr 24)), x6] [] w Q := by
  simp (decide := true) only [r74_85, r74_87, r74_89, r74_92, r74_94, r74_96, r74_99, r74_100, r74_103, r74_104, r74_106, r74_108, r74_110, r74_113, r74_116, r74_117, r74_120, r74_121, r62_0, r62_1, r62_2, r62_5, r62_6, r62_7, r62_10, r62_11, r62_14, r62_15 (s0 := 0) (Or.inl rfl), r62_15 (s0 := 1) (Or.inr rfl), sh59 hS, sm_wp_some, sm_wp_none, sm_at, sm_get, sm_fld, sm_pfl, sm_cN, sm_ai, sm_al, sm_si, sm_slg, sm_aa, List.getElem?_cons_zero, List.getElem?_cons_succ, List.set_cons_zero, List.set_cons_succ, List.length_cons, List.length_nil, Option.toList_some, Option.toList_none, List.cons_append, List.nil_append, if_true, if_false, true_and, and_true, Option.some.injEq, gs_o, gs_s, List.length_set, hS.1, pk_us, Nat.reduceLT, Nat.reduceLeDiff, Nat.reduceSub, Nat.reduceEqDiff, Nat.reduceAdd, Int32.reduceLT, Int32.reduceLE, Int32.reduceAdd, Int32.reduceSub, Int32.reduceToNatClampNeg, ↓reduceIte, reduceCtorEq, Nat.lt_irrefl]
  first | done | exact Iff.rfl
theorem pr_25 {X : sm_X} {w : sm_W} {Q : Option Value → sm_W → Prop} {x1 x2 x3 : Int32} {x5 x6 : Value} (hS : Sh w) : sm_R X 74 85 [.ref 159, .int x1, .int x2, .int x3, .int (nI 25), x5, x6] [] w Q ↔ sm_R X 74 123 [.ref 159, .int x1, .int x2, .int x3, .int (nI 25), .int (nI (s_pr 25)), x6] [] w Q := by
  simp (decide := true) only [r74_85, r74_87, r74_89, r74_92, r74_94, r74_96, r74_99, r74_100, r74_103, r74_104, r74_106, r74_108, r74_110, r74_113, r74_116, r74_117, r74_120, r74_121, r62_0, r62_1, r62_2, r62_5, r62_6, r62_7, r62_10, r62_11, r62_14, r62_15 (s0 := 0) (Or.inl rfl), r62_15 (s0 := 1) (Or.inr rfl), sh59 hS, sm_wp_some, sm_wp_none, sm_at, sm_get, sm_fld, sm_pfl, sm_cN, sm_ai, sm_al, sm_si, sm_slg, sm_aa, List.getElem?_cons_zero, List.getElem?_cons_succ, List.set_cons_zero, List.set_cons_succ, List.length_cons, List.length_nil, Option.toList_some, Option.toList_none, List.cons_append, List.nil_append, if_true, if_false, true_and, and_true, Option.some.injEq, gs_o, gs_s, List.length_set, hS.1, pk_us, Nat.reduceLT, Nat.reduceLeDiff, Nat.reduceSub, Nat.reduceEqDiff, Nat.reduceAdd, Int32.reduceLT, Int32.reduceLE, Int32.reduceAdd, Int32.reduceSub, Int32.reduceToNatClampNeg, ↓reduceIte, reduceCtorEq, Nat.lt_irrefl]
  first | done | exact Iff.rfl
theorem pr_26 {X : sm_X} {w : sm_W} {Q : Option Value → sm_W → Prop} {x1 x2 x3 : Int32} {x5 x6 : Value} (hS : Sh w) : sm_R X 74 85 [.ref 159, .int x1, .int x2, .int x3, .int (nI 26), x5, x6] [] w Q ↔ sm_R X 74 123 [.ref 159, .int x1, .int x2, .int x3, .int (nI 26), .int (nI (s_pr 26)), x6] [] w Q := by
  simp (decide := true) only [r74_85, r74_87, r74_89, r74_92, r74_94, r74_96, r74_99, r74_100, r74_103, r74_104, r74_106, r74_108, r74_110, r74_113, r74_116, r74_117, r74_120, r74_121, r62_0, r62_1, r62_2, r62_5, r62_6, r62_7, r62_10, r62_11, r62_14, r62_15 (s0 := 0) (Or.inl rfl), r62_15 (s0 := 1) (Or.inr rfl), sh59 hS, sm_wp_some, sm_wp_none, sm_at, sm_get, sm_fld, sm_pfl, sm_cN, sm_ai, sm_al, sm_si, sm_slg, sm_aa, List.getElem?_cons_zero, List.getElem?_cons_succ, List.set_cons_zero, List.set_cons_succ, List.length_cons, List.length_nil, Option.toList_some, Option.toList_none, List.cons_append, List.nil_append, if_true, if_false, true_and, and_true, Option.some.injEq, gs_o, gs_s, List.length_set, hS.1, pk_us, Nat.reduceLT, Nat.reduceLeDiff, Nat.reduceSub, Nat.reduceEqDiff, Nat.reduceAdd, Int32.reduceLT, Int32.reduceLE, Int32.reduceAdd, Int32.reduceSub, Int32.reduceToNatClampNeg, ↓reduceIte, reduceCtorEq, Nat.lt_irrefl]
  first | done | exact Iff.rfl
theorem pr_27 {X : sm_X} {w : sm_W} {Q : Option Value → sm_W → Prop} {x1 x2 x3 : Int32} {x5 x6 : Value} (hS : Sh w) : sm_R X 74 85 [.ref 159, .int x1, .int x2, .int x3, .int (nI 27), x5, x6] [] w Q ↔ sm_R X 74 123 [.ref 159, .int x1, .int x2, .int x3, .int (nI 27), .int (nI (s_pr 27)), x6] [] w Q := by
  simp (decide := true) only [r74_85, r74_87, r74_89, r74_92, r74_94, r74_96, r74_99, r74_100, r74_103, r74_104, r74_106, r74_108, r74_110, r74_113, r74_116, r74_117, r74_120, r74_121, r62_0, r62_1, r62_2, r62_5, r62_6, r62_7, r62_10, r62_11, r62_14, r62_15 (s0 := 0) (Or.inl rfl), r62_15 (s0 := 1) (Or.inr rfl), sh59 hS, sm_wp_some, sm_wp_none, sm_at, sm_get, sm_fld, sm_pfl, sm_cN, sm_ai, sm_al, sm_si, sm_slg, sm_aa, List.getElem?_cons_zero, List.getElem?_cons_succ, List.set_cons_zero, List.set_cons_succ, List.length_cons, List.length_nil, Option.toList_some, Option.toList_none, List.cons_append, List.nil_append, if_true, if_false, true_and, and_true, Option.some.injEq, gs_o, gs_s, List.length_set, hS.1, pk_us, Nat.reduceLT, Nat.reduceLeDiff, Nat.reduceSub, Nat.reduceEqDiff, Nat.reduceAdd, Int32.reduceLT, Int32.reduceLE, Int32.reduceAdd, Int32.reduceSub, Int32.reduceToNatClampNeg, ↓reduceIte, reduceCtorEq, Nat.lt_irrefl]
  first | done | exact Iff.rfl
theorem pr_28 {X : sm_X} {w : sm_W} {Q : Option Value → sm_W → Prop} {x1 x2 x3 : Int32} {x5 x6 : Value} (hS : Sh w) : sm_R X 74 85 [.ref 159, .int x1, .int x2, .int x3, .int (nI 28), x5, x6] [] w Q ↔ sm_R X 74 123 [.ref 159, .int x1, .int x2, .int x3, .int (nI 28), .int (nI (s_pr 28)), x6] [] w Q := by
  simp (decide := true) only [r74_85, r74_87, r74_89, r74_92, r74_94, r74_96, r74_99, r74_100, r74_103, r74_104, r74_106, r74_108, r74_110, r74_113, r74_116, r74_117, r74_120, r74_121, r62_0, r62_1, r62_2, r62_5, r62_6, r62_7, r62_10, r62_11, r62_14, r62_15 (s0 := 0) (Or.inl rfl), r62_15 (s0 := 1) (Or.inr rfl), sh59 hS, sm_wp_some, sm_wp_none, sm_at, sm_get, sm_fld, sm_pfl, sm_cN, sm_ai, sm_al, sm_si, sm_slg, sm_aa, List.getElem?_cons_zero, List.getElem?_cons_succ, List.set_cons_zero, List.set_cons_succ, List.length_cons, List.length_nil, Option.toList_some, Option.toList_none, List.cons_append, List.nil_append, if_true, if_false, true_and, and_true, Option.some.injEq, gs_o, gs_s, List.length_set, hS.1, pk_us, Nat.reduceLT, Nat.reduceLeDiff, Nat.reduceSub, Nat.reduceEqDiff, Nat.reduceAdd, Int32.reduceLT, Int32.reduceLE, Int32.reduceAdd, Int32.reduceSub, Int32.reduceToNatClampNeg, ↓reduceIte, reduceCtorEq, Nat.lt_irrefl]
  first | done | exact Iff.rfl
theorem pr_29 {X : sm_X} {w : sm_W} {Q : Option Value → sm_W → Prop} {x1 x2 x3 : Int32} {x5 x6 : Value} (hS : Sh w) : sm_R X 74 85 [.ref 159, .int x1, .int x2, .int x3, .int (nI 29), x5, x6] [] w Q ↔ sm_R X 74 123 [.ref 159, .int x1, .int x2, .int x3, .int (nI 29), .int (nI (s_pr 29)), x6] [] w Q := by
  simp (decide := true) only [r74_85, r74_87, r74_89, r74_92, r74_94, r74_96, r74_99, r74_100, r74_103, r74_104, r74_106, r74_108, r74_110, r74_113, r74_116, r74_117, r74_120, r74_121, r62_0, r62_1, r62_2, r62_5, r62_6, r62_7, r62_10, r62_11, r62_14, r62_15 (s0 := 0) (Or.inl rfl), r62_15 (s0 := 1) (Or.inr rfl), sh59 hS, sm_wp_some, sm_wp_none, sm_at, sm_get, sm_fld, sm_pfl, sm_cN, sm_ai, sm_al, sm_si, sm_slg, sm_aa, List.getElem?_cons_zero, List.getElem?_cons_succ, List.set_cons_zero, List.set_cons_succ, List.length_cons, List.length_nil, Option.toList_some, Option.toList_none, List.cons_append, List.nil_append, if_true, if_false, true_and, and_true, Option.some.injEq, gs_o, gs_s, List.length_set, hS.1, pk_us, Nat.reduceLT, Nat.reduceLeDiff, Nat.reduceSub, Nat.reduceEqDiff, Nat.reduceAdd, Int32.reduceLT, Int32.reduceLE, Int32.reduceAdd, Int32.reduceSub, Int32.reduceToNatClampNeg, ↓reduceIte, reduceCtorEq, Nat.lt_irrefl]
  first | done | exact Iff.rfl
theorem pr_30 {X : sm_X} {w : sm_W} {Q : Option Value → sm_W → Prop} {x1 x2 x3 : Int32} {x5 x6 : Value} (hS : Sh w) : sm_R X 74 85 [.ref 159, .int x1, .int x2, .int x3, .int (nI 30), x5, x6] [] w Q ↔ sm_R X 74 123 [.ref 159, .int x1, .int x2, .int x3, .int (nI 30), .int (nI (s_pr 30)), x6] [] w Q := by
  simp (decide := true) only [r74_85, r74_87, r74_89, r74_92, r74_94, r74_96, r74_99, r74_100, r74_103, r74_104, r74_106, r74_108, r74_110, r74_113, r74_116, r74_117, r74_120, r74_121, r62_0, r62_1, r62_2, r62_5, r62_6, r62_7, r62_10, r62_11, r62_14, r62_15 (s0 := 0) (Or.inl rfl), r62_15 (s0 := 1) (Or.inr rfl), sh59 hS, sm_wp_some, sm_wp_none, sm_at, sm_get, sm_fld, sm_pfl, sm_cN, sm_ai, sm_al, sm_si, sm_slg, sm_aa, List.getElem?_cons_zero, List.getElem?_cons_succ, List.set_cons_zero, List.set_cons_succ, List.length_cons, List.length_nil, Option.toList_some, Option.toList_none, List.cons_append, List.nil_append, if_true, if_false, true_and, and_true, Option.some.injEq, gs_o, gs_s, List.length_set, hS.1, pk_us, Nat.reduceLT, Nat.reduceLeDiff, Nat.reduceSub, Nat.reduceEqDiff, Nat.reduceAdd, Int32.reduceLT, Int32.reduceLE, Int32.reduceAdd, Int32.reduceSub, Int32.reduceToNatClampNeg, ↓reduceIte, reduceCtorEq, Nat.lt_irrefl]
  first | done | exact Iff.rfl
theorem pr_M {X : sm_X} {w : sm_W} {Q : Option Value → sm_W → Prop} {x1 x2 x3 : Int32} {x5 x6 : Value} {c : Nat} (hc : c < 31) (hS : Sh w) : sm_R X 74 85 [.ref 159, .int x1, .int x2, .int x3, .int (nI c), x5, x6] [] w Q ↔ sm_R X 74 123 [.ref 159, .int x1, .int x2, .int x3, .int (nI c), .int (nI (s_pr c)), x6] [] w Q := by
  have h : c = 0 ∨ c = 1 ∨ c = 2 ∨ c = 3 ∨ c = 4 ∨ c = 5 ∨ c = 6 ∨ c = 7 ∨ c = 8 ∨ c = 9 ∨ c = 10 ∨ c = 11 ∨ c = 12 ∨ c = 13 ∨ c = 14 ∨ c = 15 ∨ c = 16 ∨ c = 17 ∨ c = 18 ∨ c = 19 ∨ c = 20 ∨ c = 21 ∨ c = 22 ∨ c = 23 ∨ c = 24 ∨ c = 25 ∨ c = 26 ∨ c = 27 ∨ c = 28 ∨ c = 29 ∨ c = 30 := by omega
  rcases h with rfl | rfl | rfl | rfl | rfl | rfl | rfl | rfl | rfl | rfl | rfl | rfl | rfl | rfl | rfl | rfl | rfl | rfl | rfl | rfl | rfl | rfl | rfl | rfl | rfl | rfl | rfl | rfl | rfl | rfl | rfl
  · exact pr_0 hS
  · exact pr_1 hS
  · exact pr_2 hS
  · exact pr_3 hS
  · exact pr_4 hS
  · exact pr_5 hS
  · exact pr_6 hS
  · exact pr_7 hS
  · exact pr_8 hS
  · exact pr_9 hS
  · exact pr_10 hS
  · exact pr_11 hS
  · exact pr_12 hS
  · exact pr_13 hS
  · exact pr_14 hS
  · exact pr_15 hS
  · exact pr_16 hS
  · exact pr_17 hS
  · exact pr_18 hS
  · exact pr_19 hS
  · exact pr_20 hS
  · exact pr_21 hS
  · exact pr_22 hS
  · exact pr_23 hS
  · exact pr_24 hS
  · exact pr_25 hS
  · exact pr_26 hS
  · exact pr_27 hS
  · exact pr_28 hS
  · exact pr_29 hS
  · exact pr_30 hS
def ArM (T : Nat) (w w' : sm_W) (r : Nat × sm_S) : Prop := FrM w w' ∧ (r.1 = 0 → RnM T w' r.2 (r.2 14 1)) ∧ (r.1 ≠ 0 → RfM w' r.2 ∧ wn w' 59 13 = nI (r.2 10 5))
theorem ArM.tr {T : Nat} {w w' w'' : sm_W} {r : Nat × sm_S} (h : FrM w w') (h2 : ArM T w' w'' r) : ArM T w w'' r := ⟨h.tr h2.1, h2.2⟩
theorem step_M {X : sm_X} {w : sm_W} {Q : Option Value → sm_W → Prop} {S : sm_S} {T t g : Nat} {x4 x5 x6 : Value} (hg : g < 100) (hR : RnM T w S (S 14 1)) (hB : RnB T S t) (hQ : ∀ w' y4 y5, AfM T w w' (S 14 1) (s_step S t) → (s_step S t).1 = 0 → sm_R X 74 181 [.ref 159, .int (nI t), .int (nI (S 6 t)), .int (nI g), .int y4, .int y5, x6] [.int (nI (s_step S t).1)] w' Q) (hF : ∀ w', AfM T w w' (S 14 1) (s_step S t) → (s_step S t).1 ≠ 0 → Q (some (.int (nI (s_step S t).1))) w') : sm_R X 74 48 [.ref 159, .int (nI t), .int (nI (S 6 t)), .int (nI g), x4, x5, x6] [] w Q := by
  have hS := hR.1
  obtain ⟨bB, bP, bG, bS, ⟨ht, hk⟩, ⟨h8, hE⟩, hq32, h80, hcs, hst, hen, hT1, hT2, hT3⟩ := hB
  have hB : RnB T S t := ⟨bB, bP, bG, bS, ⟨ht, hk⟩, ⟨h8, hE⟩, hq32, h80, hcs, hst, hen, hT1, hT2, hT3⟩
  have bt := bG.2 t ht
  have hp : S 6 t < 4 := bt.2.2.2.1 hk
  have P0 := hR.2.2.1 (S 6 t) (by omega)
  obtain ⟨P1, P2⟩ := P0
  have bp := bP (S 6 t) (by omega)
  have g1 : ¬ 100 ≤ nI g := nI_ge (b := 100) hg (by decide)
  have a13 : wn w 59 13 = nI (S 14 1) := hR.2.2.2.2.2.2.2.2
  have v1 : sm_in (nI (S 6 t)) 5 = true := sm_in_nI (by omega) (by decide)
  have v2 : (nI (S 6 t)).toNatClampNeg = S 6 t := nI_clamp (by omega)
  have sl := step_l hB
  rw [r74_48]
  by_cases e : S 3 (S 6 t) ≤ S 14 1
  · have e1 : s_step S t = (5, S) := if_pos e
    rw [e1] at hF
    have y1 : ¬ nI (S 14 1) < nI (S 3 (S 6 t)) := nI_nlt e (by omega)
    simp (decide := true) only [r74_49, r74_51, r74_54, r74_55, r74_58, r74_59, r74_62, r74_63, r74_64, r74_67, r74_68, g1, a13, v1, v2, P1, y1, sh59 hS, sh64 hS, sm_wp_some, sm_wp_none, sm_at, sm_get, sm_fld, sm_pfl, sm_cN, sm_ai, sm_al, sm_si, sm_slg, sm_aa, List.getElem?_cons_zero, List.getElem?_cons_succ, List.set_cons_zero, List.set_cons_succ, List.length_cons, List.length_nil, Option.toList_some, Option.toList_none, List.cons_append, List.nil_append, if_true, if_false, true_and, and_true, Option.some.injEq, gs_o, gs_s, List.length_set, hS.1, pk_us, Nat.reduceLT, Nat.reduceLeDiff, Nat.reduceSub, Nat.reduceEqDiff, Nat.reduceAdd, Int32.reduceLT, Int32.reduceLE, Int32.reduceAdd, Int32.reduceSub, Int32.reduceToNatClampNeg, ↓reduceIte, reduceCtorEq, Nat.lt_irrefl]
    exact hF w ⟨FrM.rf w, fun h => absurd h (by omega), fun _ => ⟨hR.rf, a13⟩⟩ (by omega)
  · have y1 : nI (S 14 1) < nI (S 3 (S 6 t)) := nI_lt (by omega) (by omega)
    obtain ⟨P3, P4⟩ := P2 (S 14 1) (by omega)
    obtain ⟨bc, bf⟩ := bp.2 (S 14 1) (by omega)
    have m1 : nI (S 6 t) * 32 = nI (S 6 t * 32) := pk_mul _ 32
    have m2 : nI (S 6 t * 32) + nI (S 14 1) = nI (S 6 t * 32 + S 14 1) := nI_add _ _
    have m3 : sm_in (nI (S 6 t * 32 + S 14 1)) 160 = true := sm_in_nI (by omega) (by decide)
    have m4 : (nI (S 6 t * 32 + S 14 1)).toNatClampNeg = S 6 t * 32 + S 14 1 := nI_clamp (by omega)
    have e1 : s_step S t = if S 14 3 < S 14 4 + s_pr (S 2 (S 6 t * 32 + S 14 1)) then (4, S) else if s_pre S (S 2 (S 6 t * 32 + S 14 1)) ≠ 0 then (s_pre S (S 2 (S 6 t * 32 + S 14 1)), s_chg S (S 2 (S 6 t * 32 + S 14 1))) else s_act (s_chg S (S 2 (S 6 t * 32 + S 14 1))) t (S 2 (S 6 t * 32 + S 14 1)) (S 11 (S 6 t * 32 + S 14 1)) := if_neg e
    have t14 : wn w 59 14 = nI (S 14 4) := hR.2.2.2.2.2.2.2.1.2.2.2.1
    have t15 : wn w 59 15 = nI (S 14 5) := hR.2.2.2.2.2.2.2.1.2.2.2.2.1
    have t19 : wn w 59 19 = nI (S 14 3) := hR.2.2.2.2.2.2.2.1.2.2.1
    simp (decide := true) only [r74_49, r74_51, r74_54, r74_55, r74_58, r74_59, r74_62, r74_63, r74_64, r74_69, r74_70, r74_73, r74_74, r74_76, r74_77, r74_78, r74_81, r74_82, r74_83, g1, a13, v1, v2, P1, P3, y1, m1, m2, m3, m4, sh59 hS, sh62 hS, sh64 hS, sm_wp_some, sm_wp_none, sm_at, sm_get, sm_fld, sm_pfl, sm_cN, sm_ai, sm_al, sm_si, sm_slg, sm_aa, List.getElem?_cons_zero, List.getElem?_cons_succ, List.set_cons_zero, List.set_cons_succ, List.length_cons, List.length_nil, Option.toList_some, Option.toList_none, List.cons_append, List.nil_append, if_true, if_false, true_and, and_true, Option.some.injEq, gs_o, gs_s, List.length_set, hS.1, pk_us, Nat.reduceLT, Nat.reduceLeDiff, Nat.reduceSub, Nat.reduceEqDiff, Nat.reduceAdd, Int32.reduceLT, Int32.reduceLE, Int32.reduceAdd, Int32.reduceSub, Int32.reduceToNatClampNeg, ↓reduceIte, reduceCtorEq, Nat.lt_irrefl]
    rw [pr_M bc hS]
    obtain ⟨o0, o2, o3, k2, km, kt, kp, kp3⟩ := en_8 _ bc
    have x1 : nI (S 14 4) + nI (s_pr (S 2 (S 6 t * 32 + S 14 1))) = nI (S 14 4 + s_pr (S 2 (S 6 t * 32 + S 14 1))) := nI_add _ _
    by_cases f : S 14 3 < S 14 4 + s_pr (S 2 (S 6 t * 32 + S 14 1))
    · rw [if_pos f] at e1
      rw [e1] at hF
      have y2 : ¬ nI (S 14 4 + s_pr (S 2 (S 6 t * 32 + S 14 1))) ≤ nI (S 14 3) := nI_ge f (by omega)
      simp (decide := true) only [r74_123, r74_124, r74_127, r74_129, r74_130, r74_131, r74_134, r74_137, r74_138, t14, t19, x1, y2, sh59 hS, sm_wp_some, sm_wp_none, sm_at, sm_get, sm_fld, sm_pfl, sm_cN, sm_ai, sm_al, sm_si, sm_slg, sm_aa, List.getElem?_cons_zero, List.getElem?_cons_succ, List.set_cons_zero, List.set_cons_succ, List.length_cons, List.length_nil, Option.toList_some, Option.toList_none, List.cons_append, List.nil_append, if_true, if_false, true_and, and_true, Option.some.injEq, gs_o, gs_s, List.length_set, hS.1, pk_us, Nat.reduceLT, Nat.reduceLeDiff, Nat.reduceSub, Nat.reduceEqDiff, Nat.reduceAdd, Int32.reduceLT, Int32.reduceLE, Int32.reduceAdd, Int32.reduceSub, Int32.reduceToNatClampNeg, ↓reduceIte, reduceCtorEq, Nat.lt_irrefl]
      exact hF w ⟨FrM.rf w, fun h => absurd h (by omega), fun _ => ⟨hR.rf, a13⟩⟩ (by omega)
    · rw [if_neg f] at e1
      have y2 : nI (S 14 4 + s_pr (S 2 (S 6 t * 32 + S 14 1))) ≤ nI (S 14 3) := nI_le (by omega) (by omega)
      have x2 : nI (S 14 5) + 1 = nI (S 14 5 + 1) := nI_1 _
      simp (decide := true) only [r74_123, r74_124, r74_127, r74_129, r74_130, r74_131, r74_134, r74_139, r74_140, r74_141, r74_144, r74_146, r74_147, r74_150, r74_151, r74_152, r74_155, r74_156, r74_157, t14, t15, t19, x1, x2, y2, List.set_set, sh59 hS, sm_wp_some, sm_wp_none, sm_at, sm_get, sm_fld, sm_pfl, sm_cN, sm_al, sm_si, sm_slg, sm_aa, List.getElem?_cons_zero, List.getElem?_cons_succ, List.set_cons_zero, List.set_cons_succ, List.length_cons, List.length_nil, Option.toList_some, Option.toList_none, List.cons_append, List.nil_append, if_true, if_false, true_and, and_true, Option.some.injEq, gs_o, gs_s, List.length_set, hS.1, pk_us, Nat.reduceLT, Nat.reduceLeDiff, Nat.reduceSub, Nat.reduceEqDiff, Nat.reduceAdd, Int32.reduceLT, Int32.reduceLE, Int32.reduceAdd, Int32.reduceSub, Int32.reduceToNatClampNeg, ↓reduceIte, reduceCtorEq, Nat.lt_irrefl]
      have R1 := RnM.m59 (T := T) (S := s_chg S (S 2 (S 6 t * 32 + S 14 1))) (q := S 14 1) (x5 := wn w 59 5) (x12 := wn w 59 12) (x13 := wn w 59 13) (x14 := nI (S 14 4 + s_pr (S 2 (S 6 t * 32 + S 14 1)))) (x15 := nI (S 14 5 + 1)) (x16 := wn w 59 16) (x17 := wn w 59 17) (x18 := wn w 59 18) (x19 := wn w 59 19) (x20 := wn w 59 20) (x24 := wn w 59 24) (x25 := wn w 59 25) hS hR.2.1 hR.2.2.1 hR.2.2.2.1 hR.2.2.2.2.1 hR.2.2.2.2.2.1 hR.2.2.2.2.2.2.1 rfl hR.2.2.2.2.2.2.2.1.1 hR.2.2.2.2.2.2.2.1.2.1 t19 rfl rfl hR.2.2.2.2.2.2.2.1.2.2.2.2.2 a13
      have F1 := FrM.k59 (w := w) (x5 := wn w 59 5) (x13 := wn w 59 13) (x14 := nI (S 14 4 + s_pr (S 2 (S 6 t * 32 + S 14 1)))) (x15 := nI (S 14 5 + 1)) (x19 := wn w 59 19) (x20 := wn w 59 20) (x24 := wn w 59 24) (x25 := wn w 59 25) hS
      rw [t19] at R1 F1
      have hB1 := hB.chg kp (by omega)
      generalize w.set 59 (.inr (7, [.ref 160, .ref 161, .ref 162, .ref 163, .ref 164, .int (wn w 59 5), .ref 165, .ref 166, .ref 167, .ref 168, .ref 169, .ref 170, .int (wn w 59 12), .int (wn w 59 13), .int (nI (S 14 4 + s_pr (S 2 (S 6 t * 32 + S 14 1)))), .int (nI (S 14 5 + 1)), .int (wn w 59 16), .int (wn w 59 17), .int (wn w 59 18), .int (nI (S 14 3)), .int (wn w 59 20), .ref 171, .ref 172, .ref 173, .int (wn w 59 24), .int (wn w 59 25)])) = w1 at R1 F1
      have hS1 := R1.1
      have a131 : wn w1 59 13 = nI (S 14 1) := R1.2.2.2.2.2.2.2.2
      have P41 := ((R1.2.2.1 (S 6 t) (by omega)).2 (S 14 1) (by show S 14 1 < S 3 (S 6 t); omega)).2
      have P41 : wi w1 63 (S 6 t * 32 + S 14 1) = nI (S 11 (S 6 t * 32 + S 14 1)) := P41
      simp (decide := true) only [r74_160, r74_161, r74_163, r74_164, r74_167, r74_168, r74_170, r74_171, r74_172, r74_175, r74_176, r74_177, r74_178, a131, m1, m2, m3, m4, P41, sh59 hS1, sh63 hS1, sm_wp_some, sm_wp_none, sm_at, sm_get, sm_fld, sm_pfl, sm_cN, sm_ai, sm_al, sm_si, sm_slg, sm_aa, List.getElem?_cons_zero, List.getElem?_cons_succ, List.set_cons_zero, List.set_cons_succ, List.length_cons, List.length_nil, Option.toList_some, Option.toList_none, List.cons_append, List.nil_append, if_true, if_false, true_and, and_true, Option.some.injEq, gs_o, gs_s, List.length_set, pk_us, Nat.reduceLT, Nat.reduceLeDiff, Nat.reduceSub, Nat.reduceEqDiff, Nat.reduceAdd, Int32.reduceLT, Int32.reduceLE, Int32.reduceAdd, Int32.reduceSub, Int32.reduceToNatClampNeg, ↓reduceIte, reduceCtorEq, Nat.lt_irrefl]
      generalize S 2 (S 6 t * 32 + S 14 1) = c at *
      generalize S 11 (S 6 t * 32 + S 14 1) = a at *
      by_cases gg : s_pre S c = 0
      · rw [if_neg (fun h => h gg)] at e1
        refine perf_M bc R1 hB1 gg bf (fun w' hA => ?_)
        rw [← e1] at hA ⊢
        have hA' : AfM T w w' (S 14 1) (s_step S t) := AfM.tr F1 hA
        by_cases z : (s_step S t).1 = 0
        · exact hQ w' _ _ hA' z
        · have z2 : 0 < nI (s_step S t).1 := nI_lt (a := 0) (by omega) (by omega)
          simp (decide := true) only [r74_181, r74_183, r74_185, r74_196, r74_198, z2, if_true, Option.toList_some, List.cons_append, List.nil_append]
          exact hF w' hA' z
      · rw [if_pos gg] at e1
        have gq : s_pre (s_chg S c) c ≠ 0 := gg
        rw [pf_F bc R1 hB1 gq]
        have q0 : s_pre (s_chg S c) c = (s_step S t).1 := by rw [e1]; rfl
        rw [q0]
        have z : (s_step S t).1 ≠ 0 := by rw [e1]; exact gg
        have z2 : 0 < nI (s_step S t).1 := nI_lt (a := 0) (by omega) (by omega)
        simp (decide := true) only [r74_181, r74_183, r74_185, r74_196, r74_198, z2, if_true, Option.toList_some, List.cons_append, List.nil_append]
        have hs2 : (s_step S t).2 = s_chg S c := by rw [e1]
        refine hF w1 ⟨F1, fun h => absurd h z, fun _ => ?_⟩ z
        rw [hs2]
        exact ⟨R1.rf, a131⟩
theorem pl_M {X : sm_X} {Q : Option Value → sm_W → Prop} {T t p : Nat} : ∀ (n : Nat) {S : sm_S} {w : sm_W} {g : Nat} {x4 x5 x6 : Value}, RnM T w S (S 14 1) → RnB T S t → p = S 6 t → S 14 2 = 0 → S 14 3 - S 14 4 < n → g + n = 100 → (∀ w', ArM T w w' (s_run n S t) → Q (some (.int (nI (s_run n S t).1))) w') → sm_R X 74 48 [.ref 159, .int (nI t), .int (nI p), .int (nI g), x4, x5, x6] [] w Q := by
  intro n
  induction n with
  | zero => intro S w g x4 x5 x6 hR hB hP hz hn hi hQ; exact absurd hn (Nat.not_lt_zero _)
  | succ n ih =>
    intro S w g x4 x5 x6 hR hB hP hz hn hi hQ
    subst hP
    obtain ⟨h1, h2, h3⟩ := step_B hB
    have hle := hB.2.2.2.2.2.2.2.2.1
    rw [s_run_1] at hQ
    refine step_M (by omega) hR hB (fun w' y4 y5 hA z => ?_) (fun w' hA z => ?_)
    · rw [if_neg (fun h => h z)] at hQ
      obtain ⟨h4, h5⟩ := h3 z
      obtain ⟨a1, a2, a3⟩ := hA
      have hR' := a2 z
      have hS' := hR'.1
      have h14 := h1.2.2.1
      have h6 : (s_step S t).2 6 = S 6 := h1.1.2.2.2.2.1
      have n0 : nI (s_step S t).1 = 0 := by rw [z]; rfl
      have hle' := h4.2.2.2.2.2.2.2.2.1
      by_cases f : (s_step S t).2 14 2 = 1
      · rw [if_pos f] at hQ
        have e25 : wn w' 59 25 = 1 := by
          rw [hR'.2.2.2.2.2.2.2.1.2.1, f]
          rfl
        simp (decide := true) only [r74_181, r74_183, r74_185, r74_188, r74_189, r74_192, r74_193, r74_196, r74_198, n0, e25, sh59 hS', sm_wp_some, sm_wp_none, sm_at, sm_get, sm_fld, sm_pfl, sm_cN, sm_ai, sm_al, sm_si, sm_slg, sm_aa, List.getElem?_cons_zero, List.getElem?_cons_succ, List.set_cons_zero, List.set_cons_succ, List.length_cons, List.length_nil, Option.toList_some, Option.toList_none, List.cons_append, List.nil_append, if_true, if_false, true_and, and_true, Option.some.injEq, gs_o, gs_s, List.length_set, pk_us, Nat.reduceLT, Nat.reduceLeDiff, Nat.reduceSub, Nat.reduceEqDiff, Nat.reduceAdd, Int32.reduceLT, Int32.reduceLE, Int32.reduceAdd, Int32.reduceSub, Int32.reduceToNatClampNeg, ↓reduceIte, reduceCtorEq, Nat.lt_irrefl]
        exact hQ w' ⟨a1, fun _ => hR', fun h => absurd rfl h⟩
      · rw [if_neg f] at hQ
        have f0 : (s_step S t).2 14 2 = 0 := by
          have := h4.2.2.2.2.2.2.2.2.2.2.1
          omega
        have e25 : wn w' 59 25 = 0 := by
          rw [hR'.2.2.2.2.2.2.2.1.2.1, f0]
          rfl
        have i1 : nI g + 1 = nI (g + 1) := nI_1 g
        simp (decide := true) only [r74_181, r74_183, r74_185, r74_188, r74_189, r74_192, r74_193, r74_199, r74_202, n0, e25, i1, sh59 hS', sm_wp_some, sm_wp_none, sm_at, sm_get, sm_fld, sm_pfl, sm_cN, sm_ai, sm_al, sm_si, sm_slg, sm_aa, List.getElem?_cons_zero, List.getElem?_cons_succ, List.set_cons_zero, List.set_cons_succ, List.length_cons, List.length_nil, Option.toList_some, Option.toList_none, List.cons_append, List.nil_append, if_true, if_false, true_and, and_true, Option.some.injEq, gs_o, gs_s, List.length_set, pk_us, Nat.reduceLT, Nat.reduceLeDiff, Nat.reduceSub, Nat.reduceEqDiff, Nat.reduceAdd, Int32.reduceLT, Int32.reduceLE, Int32.reduceAdd, Int32.reduceSub, Int32.reduceToNatClampNeg, ↓reduceIte, reduceCtorEq, Nat.lt_irrefl]
        exact ih hR' h4 (by rw [h6]) f0 (by omega) (by omega) (fun w'' hA => hQ w'' (ArM.tr a1 hA))
    · rw [if_pos z] at hQ
      obtain ⟨a1, a2, a3⟩ := hA
      exact hQ w' ⟨a1, fun h => absurd h z, fun _ => ⟨(a3 z).1, (a3 z).2⟩⟩
/-! THE BEGIN of a run of the reference (gen/mm5.py) -/
theorem cl_it {X : sm_X} {w : sm_W} {Q : Option Value → sm_W → Prop} {t i : Nat} {p : Int32} (hS : Sh w) (ht : t < 4) (hi : i < 4) : sm_R X 74 24 [.ref 159, .int (nI t), .int p, .int (nI i), sm_J, sm_J, sm_J] [] w Q ↔ sm_R X 74 24 [.ref 159, .int (nI t), .int p, .int (nI (i + 1)), sm_J, sm_J, sm_J] [] (w.set 70 (.inl (1, 16, .inr (.inl (vp_updL (wl w 70) (t * 4 + i) 0))))) Q := by
  have y1 : ¬ 4 ≤ nI i := nI_ge (b := 4) hi (by decide)
  have p1 : nI t * 4 = nI (t * 4) := pk_mul _ 4
  have p3 : nI (t * 4) + nI i = nI (t * 4 + i) := nI_add _ _
  have p4 : sm_in (nI (t * 4 + i)) 16 = true := sm_in_nI (by omega) (by decide)
  have p5 : (nI (t * 4 + i)).toNatClampNeg = t * 4 + i := nI_clamp (by omega)
  have y4 : nI i + 1 = nI (i + 1) := nI_1 i
  rw [r74_24]
  simp (decide := true) only [r74_25, r74_26, r74_29, r74_30, r74_33, r74_34, r74_35, r74_36, r74_37, r74_38, r74_39, r74_40, r74_43, y1, y4, p1, p3, p4, p5, sh59 hS, sh70 hS, sm_wp_some, sm_wp_none, sm_at, sm_get, sm_fld, sm_pfl, sm_cN, sm_ai, sm_al, sm_si, sm_slg, sm_aa, List.getElem?_cons_zero, List.getElem?_cons_succ, List.set_cons_zero, List.set_cons_succ, List.length_cons, List.length_nil, Option.toList_some, Option.toList_none, List.cons_append, List.nil_append, if_true, if_false, true_and, and_true, Option.some.injEq, gs_o, gs_s, List.length_set, hS.1, pk_us, Nat.reduceLT, Nat.reduceLeDiff, Nat.reduceSub, Nat.reduceEqDiff, Nat.reduceAdd, Int32.reduceLT, Int32.reduceLE, Int32.reduceAdd, Int32.reduceSub, Int32.reduceToNatClampNeg, ↓reduceIte, reduceCtorEq, Nat.lt_irrefl]
theorem cl_lp {X : sm_X} {Q : Option Value → sm_W → Prop} {t : Nat} {p : Int32} (ht : t < 4) : ∀ (m : Nat) {i : Nat} {w : sm_W}, i + m = 4 → Sh w → (∀ k, k < i → wl w 70 (t * 4 + k) = 0) → (∀ w', Sh w' → (∀ k, k < 4 → wl w' 70 (t * 4 + k) = 0) → (∀ j, j < t * 4 ∨ t * 4 + 4 ≤ j → wl w' 70 j = wl w 70 j) → (∀ j, j ≠ 70 → w'[j]? = w[j]?) → sm_R X 74 48 [.ref 159, .int (nI t), .int p, .int (nI 0), sm_J, sm_J, sm_J] [] w' Q) → sm_R X 74 24 [.ref 159, .int (nI t), .int p, .int (nI i), sm_J, sm_J, sm_J] [] w Q := by
  intro m
  induction m with
  | zero =>
    intro i w hi hS hk hQ
    have e : i = 4 := by omega
    subst e
    have n4 : nI 4 = 4 := rfl
    rw [n4]
    simp (decide := true) only [r74_24, r74_25, r74_26, r74_46, r74_47, sm_wp_some, sm_wp_none, sm_at, sm_get, sm_fld, sm_pfl, sm_cN, sm_ai, sm_al, sm_si, sm_slg, sm_aa, List.getElem?_cons_zero, List.getElem?_cons_succ, List.set_cons_zero, List.set_cons_succ, List.length_cons, List.length_nil, Option.toList_some, Option.toList_none, List.cons_append, List.nil_append, if_true, if_false, true_and, and_true, Option.some.injEq, gs_o, gs_s, List.length_set, hS.1, pk_us, Nat.reduceLT, Nat.reduceLeDiff, Nat.reduceSub, Nat.reduceEqDiff, Nat.reduceAdd, Int32.reduceLT, Int32.reduceLE, Int32.reduceAdd, Int32.reduceSub, Int32.reduceToNatClampNeg, ↓reduceIte, reduceCtorEq, Nat.lt_irrefl]
    exact hQ w hS hk (fun _ _ => rfl) (fun _ _ => rfl)
  | succ m ih =>
    intro i w hi hS hk hQ
    rw [cl_it hS ht (by omega)]
    refine ih (by omega) hS.p70 (fun k hk2 => ?_) (fun w' h1 h2 h3 h4 => hQ w' h1 h2 (fun j hj => ?_) (fun j hj => (h4 j hj).trans (gs_o (by omega))))
    · rw [wl70_s hS.1]
      by_cases e : k = i
      · subst e
        exact pk_uLs
      · rw [pk_uLn (by omega)]
        exact hk k (by omega)
    · rw [h3 j hj, wl70_s hS.1, pk_uLn (by omega)]
def BtM (T : Nat) (w : sm_W) (S : sm_S) : Prop := Sh w ∧ NwM w S ∧ PrM w S ∧ GrM w S ∧ ScM w S ∧ FhM T w S ∧ wn w 59 19 = nI (S 14 3) ∧ wn w 59 14 = nI (S 14 4) ∧ wn w 59 15 = nI (S 14 5) ∧ wn w 59 20 = nI (S 10 0 - T)
theorem run_M {X : sm_X} {w : sm_W} {Q : Option Value → sm_W → Prop} {S : sm_S} {T t : Nat} (hT : BtM T w S) (hB : RnB T (s_beg S t) t) (hQ : ∀ w', ArM T w w' (s_run 100 (s_beg S t) t) → Q (some (.int (nI (s_run 100 (s_beg S t) t).1))) w') : sm_R X 74 0 [.ref 159, .int (nI t), sm_J, sm_J, sm_J, sm_J, sm_J] [] w Q := by
  obtain ⟨hS, hN, hP, hG, hC, hF, m19, m14, m15, m20⟩ := hT
  have h4 : S 10 1 ≤ 4 := hB.2.2.1.1
  have ht : t < S 10 1 := hB.2.2.2.2.1.1
  have ht4 : t < 4 := by omega
  have h80 : S 14 3 ≤ 80 := hB.2.2.2.2.2.2.2.1
  have v1 : sm_in (nI t) 4 = true := sm_in_nI ht4 (by decide)
  have v2 : (nI t).toNatClampNeg = t := nI_clamp (by omega)
  have g67 : wi w 67 t = nI (S 6 t) := (hG.2 t ht).2.2.1
  simp (decide := true) only [r74_0, r74_1, r74_4, r74_5, r74_6, r74_7, r74_8, r74_9, r74_12, r74_13, r74_14, r74_17, r74_18, r74_19, r74_22, r74_23, v1, v2, g67, List.set_set, sh59 hS, sh67 hS, sm_wp_some, sm_wp_none, sm_at, sm_get, sm_fld, sm_pfl, sm_cN, sm_ai, sm_al, sm_si, sm_slg, sm_aa, List.getElem?_cons_zero, List.getElem?_cons_succ, List.set_cons_zero, List.set_cons_succ, List.length_cons, List.length_nil, Option.toList_some, Option.toList_none, List.cons_append, List.nil_append, if_true, if_false, true_and, and_true, Option.some.injEq, gs_o, gs_s, List.length_set, hS.1, pk_us, Nat.reduceLT, Nat.reduceLeDiff, Nat.reduceSub, Nat.reduceEqDiff, Nat.reduceAdd, Int32.reduceLT, Int32.reduceLE, Int32.reduceAdd, Int32.reduceSub, Int32.reduceToNatClampNeg, ↓reduceIte, reduceCtorEq, Nat.lt_irrefl]
  have hS1 : Sh (w.set 59 (.inr (7, [.ref 160, .ref 161, .ref 162, .ref 163, .ref 164, .int (wn w 59 5), .ref 165, .ref 166, .ref 167, .ref 168, .ref 169, .ref 170, .int (wn w 59 12), .int 0, .int (wn w 59 14), .int (wn w 59 15), .int (wn w 59 16), .int (wn w 59 17), .int (wn w 59 18), .int (wn w 59 19), .int (wn w 59 20), .ref 171, .ref 172, .ref 173, .int 0, .int 0]))) := hS.p59
  have F1 : FrM w (w.set 59 (.inr (7, [.ref 160, .ref 161, .ref 162, .ref 163, .ref 164, .int (wn w 59 5), .ref 165, .ref 166, .ref 167, .ref 168, .ref 169, .ref 170, .int (wn w 59 12), .int 0, .int (wn w 59 14), .int (wn w 59 15), .int (wn w 59 16), .int (wn w 59 17), .int (wn w 59 18), .int (wn w 59 19), .int (wn w 59 20), .ref 171, .ref 172, .ref 173, .int 0, .int 0]))) := FrM.k59 hS
  refine cl_lp (i := 0) ht4 4 rfl hS1 (fun k hk => absurd hk (Nat.not_lt_zero _)) (fun w' s1 s2 s3 s4 => ?_)
  have c59 := s4 59 (by decide)
  have F2 : FrM (w.set 59 (.inr (7, [.ref 160, .ref 161, .ref 162, .ref 163, .ref 164, .int (wn w 59 5), .ref 165, .ref 166, .ref 167, .ref 168, .ref 169, .ref 170, .int (wn w 59 12), .int 0, .int (wn w 59 14), .int (wn w 59 15), .int (wn w 59 16), .int (wn w 59 17), .int (wn w 59 18), .int (wn w 59 19), .int (wn w 59 20), .ref 171, .ref 172, .ref 173, .int 0, .int 0]))) w' := ⟨fun j hj => s4 j (by omega), wn_c c59, wn_c c59, wn_c c59, wn_c c59⟩
  have R0 : RnM T w' (s_beg S t) 0 := by
    refine ⟨s1, fun i hi => ?_, ?_, ?_, fun i hi => ?_, fun i hi => absurd hi (Nat.not_lt_zero _), fun i hi => ?_, ⟨?_, ?_, ?_, ?_, ?_, ?_⟩, ?_⟩
    · rw [wl_c (s4 60 (by decide)), wl_o (by decide)]
      exact hN i hi
    · exact PrM.n (w := w) (S := s_beg S t) hP ((wi_c (s4 62 (by decide))).trans (wi_o (by decide))) ((wi_c (s4 63 (by decide))).trans (wi_o (by decide))) ((wi_c (s4 64 (by decide))).trans (wi_o (by decide)))
    · exact GrM.n (w := w) (S := s_beg S t) hG ((wi_c (s4 65 (by decide))).trans (wi_o (by decide))) ((wi_c (s4 66 (by decide))).trans (wi_o (by decide))) ((wi_c (s4 67 (by decide))).trans (wi_o (by decide))) ((wi_c (s4 68 (by decide))).trans (wi_o (by decide))) ((wi_c (s4 69 (by decide))).trans (wi_o (by decide))) ((wn_c c59).trans (wn59_5 hS.1))
    · have e9 : s_beg S t 9 i = if t * 4 ≤ i ∧ i < t * 4 + 4 then 0 else S 9 i := rfl
      rw [e9]
      by_cases e : t * 4 ≤ i ∧ i < t * 4 + 4
      · have := s2 (i - t * 4) (by omega)
        rw [show t * 4 + (i - t * 4) = i by omega] at this
        rw [if_pos e, this]
        rfl
      · rw [if_neg e, s3 i (by omega), wl_o (by decide)]
        exact hC i hi
    · rw [wl_c (s4 72 (by decide)), wl_o (by decide)]
      exact hF i hi
    · rw [wn_c c59, wn59_24 hS.1]; rfl
    · rw [wn_c c59, wn59_25 hS.1]; rfl
    · rw [wn_c c59, wn59_19 hS.1]; exact m19
    · rw [wn_c c59, wn59_14 hS.1]; exact m14
    · rw [wn_c c59, wn59_15 hS.1]; exact m15
    · rw [wn_c c59, wn59_20 hS.1]; exact m20
    · rw [wn_c c59, wn59_13 hS.1]; rfl
  exact pl_M (S := s_beg S t) 100 R0 hB rfl rfl (by show S 14 3 - S 14 4 < 100; omega) rfl (fun w'' hA => hQ w'' (ArM.tr (F1.tr F2) hA))
/-! A TRANSACTION of the reference (gen/mm6.py) -/
def AtM (T : Nat) (w w' : sm_W) (r : Nat × sm_S) : Prop := FrM w w' ∧ (r.1 = 0 → BtM T w' r.2 ∧ wn w' 59 13 = -3) ∧ (r.1 ≠ 0 → RfM w' r.2 ∧ wn w' 59 13 = nI (r.2 10 5))
theorem AtM.tr {T : Nat} {w w' w'' : sm_W} {r : Nat × sm_S} (h : FrM w w') (h2 : AtM T w' w'' r) : AtM T w w'' r := ⟨h.tr h2.1, h2.2⟩
theorem BtM.rf {T : Nat} {w : sm_W} {S : sm_S} (h : BtM T w S) (h13 : wn w 59 13 = -3) (h5 : S 10 5 = 4294967293) : RfM w S ∧ wn w 59 13 = nI (S 10 5) := by
  obtain ⟨hS, hN, hP, hG, hC, hF, m19, m14, m15, m20⟩ := h
  refine ⟨⟨hS, hP, hG, hC, m14, m15⟩, ?_⟩
  rw [h13, h5]
  rfl
theorem RnM.bt {T : Nat} {w : sm_W} {S : sm_S} {q : Nat} (h : RnM T w S q) : BtM T w S := by
  obtain ⟨h1, h2, h3, h4, h5, h6, h7, h8, h9⟩ := h
  exact ⟨h1, h2, h3, h4, h5, h7, h8.2.2.1, h8.2.2.2.1, h8.2.2.2.2.1, h8.2.2.2.2.2⟩
theorem BtM.now {T : Nat} {w : sm_W} {S : sm_S} {j v : Nat} {V : Int64} (h : BtM T w S) (hV : V = lN v) : BtM T (w.set 60 (.inl (1, 94, .inr (.inl (vp_updL (wl w 60) (j) V))))) (s_up S 0 j v) := by
  subst hV
  obtain ⟨hS, hN, hP, hG, hC, hF, m19, m14, m15, m20⟩ := h
  refine ⟨hS.p60, fun i hi => ?_, hP.o (by decide) (by decide) (by decide), hG.o (by decide) (by decide), hC.o (by decide), hF.o (by decide), ?_, ?_, ?_, ?_⟩
  · rw [wl60_s hS.1]
    by_cases e : i = j
    · subst e
      rw [pk_uLs, s_up_s]
    · rw [pk_uLn e, s_up_o (Or.inr e)]
      exact hN i hi
  · rw [wn_o (by decide)]; exact m19
  · rw [wn_o (by decide)]; exact m14
  · rw [wn_o (by decide)]; exact m15
  · rw [wn_o (by decide)]; exact m20
theorem BtM.at {T : Nat} {w : sm_W} {S : sm_S} {x : Int32} (h : BtM T w S) : BtM T (w.set 59 (.inr (7, [.ref 160, .ref 161, .ref 162, .ref 163, .ref 164, .int (wn w 59 5), .ref 165, .ref 166, .ref 167, .ref 168, .ref 169, .ref 170, .int (wn w 59 12), .int x, .int (wn w 59 14), .int (wn w 59 15), .int (wn w 59 16), .int (wn w 59 17), .int (wn w 59 18), .int (wn w 59 19), .int (wn w 59 20), .ref 171, .ref 172, .ref 173, .int (wn w 59 24), .int (wn w 59 25)]))) S := by
  obtain ⟨hS, hN, hP, hG, hC, hF, m19, m14, m15, m20⟩ := h
  refine ⟨hS.p59, hN.o (by decide), hP.o (by decide) (by decide) (by decide), hG.n (wi_o (by decide)) (wi_o (by decide)) (wi_o (by decide)) (wi_o (by decide)) (wi_o (by decide)) (wn59_5 hS.1), hC.o (by decide), hF.o (by decide), ?_, ?_, ?_, ?_⟩
  · rw [wn59_19 hS.1]; exact m19
  · rw [wn59_14 hS.1]; exact m14
  · rw [wn59_15 hS.1]; exact m15
  · rw [wn59_20 hS.1]; exact m20
theorem pay_M {X : sm_X} {w : sm_W} {Q : Option Value → sm_W → Prop} {S : sm_S} {T t : Nat} (hT : BtM T w S) (h13 : wn w 59 13 = -3) (hB : TxB T S) (ht : t < S 10 1) (hk : S 4 t = 3) (hQ : ∀ w', AtM T w w' (s_pay S t) → Q (some (.int (nI (s_pay S t).1))) w') : sm_R X 72 0 [.ref 159, .int (nI t)] [] w Q := by
  have h4 : S 10 1 ≤ 4 := hB.2.2.1.1
  have h5 := hB.2.2.2.2.2.2.2.2.2.2
  have bt := hB.2.2.1.2 t ht
  have hf : S 5 t < 6 := bt.2.1
  have ht4 : t < 4 := by omega
  have v1 : sm_in (nI t) 4 = true := sm_in_nI ht4 (by decide)
  have v2 : (nI t).toNatClampNeg = t := nI_clamp (by omega)
  have ho : S 6 t < 6 := (bt.2.2.1 hk).1
  have hv : S 7 t < 2 ^ 31 := bt.2.2.2.2.1
  have b5 := hB.1.1 (S 5 t) (by omega)
  have b6 := hB.1.1 (S 6 t) (by omega)
  have hS_w := hT.1
  have gt_w := hT.2.2.2.1.2 t ht
  have g65_w := gt_w.1
  have g66_w : wi w 66 t = nI (S 5 t) := gt_w.2.1
  have g67_w : wi w 67 t = nI (S 6 t) := gt_w.2.2.1
  have g68_w : wi w 68 t = nI (S 7 t) := gt_w.2.2.2.1
  have y1 : sm_in (nI (S 5 t)) 94 = true := sm_in_nI (by omega) (by decide)
  have y2 : (nI (S 5 t)).toNatClampNeg = S 5 t := nI_clamp (by omega)
  have y3 : wl w 60 (S 5 t) = lN (S 0 (S 5 t)) := hT.2.1 _ (by omega)
  have y4 : sm_in (nI (S 6 t)) 94 = true := sm_in_nI (by omega) (by decide)
  have y5 : (nI (S 6 t)).toNatClampNeg = S 6 t := nI_clamp (by omega)
  have y6 : wl w 60 (S 6 t) = lN (S 0 (S 6 t)) := hT.2.1 _ (by omega)
  have la : (nI (S 7 t)).toInt64 = lN (S 7 t) := nI_l hv
  by_cases e : S 0 (S 5 t) < S 7 t
  · have e1 : s_pay S t = (6, S) := if_pos e
    rw [e1] at hQ
    have x1 : ¬ 0 ≤ lg_cmp (lN (S 0 (S 5 t))) (lN (S 7 t)) := fun q => absurd ((lc_ge (by omega) (by omega)).mp q) (by omega)
    simp (decide := true) only [r72_0, r72_1, r72_4, r72_5, r72_8, r72_9, r72_10, r72_11, r72_12, r72_15, r72_16, r72_17, r72_18, r72_19, r72_22, r72_24, y1, y2, y3, la, x1, g66_w, g67_w, g68_w, v1, v2, sh59 hS_w, sh60 hS_w, sh64 hS_w, sh65 hS_w, sh66 hS_w, sh67 hS_w, sh68 hS_w, sm_wp_some, sm_wp_none, sm_at, sm_get, sm_fld, sm_pfl, sm_cN, sm_ai, sm_al, sm_si, sm_slg, sm_aa, List.getElem?_cons_zero, List.getElem?_cons_succ, List.set_cons_zero, List.set_cons_succ, List.length_cons, List.length_nil, Option.toList_some, Option.toList_none, List.cons_append, List.nil_append, if_true, if_false, true_and, and_true, Option.some.injEq, gs_o, gs_s, List.length_set, pk_us, Nat.reduceLT, Nat.reduceLeDiff, Nat.reduceSub, Nat.reduceEqDiff, Nat.reduceAdd, Int32.reduceLT, Int32.reduceLE, Int32.reduceAdd, Int32.reduceSub, Int32.reduceToNatClampNeg, ↓reduceIte, reduceCtorEq, Nat.lt_irrefl]
    exact hQ w ⟨FrM.rf w, fun h => absurd h (by omega), fun _ => hT.rf h13 h5⟩
  · have x1 : 0 ≤ lg_cmp (lN (S 0 (S 5 t))) (lN (S 7 t)) := (lc_ge (by omega) (by omega)).mpr (by omega)
    have d0 : s_pay S t = if S 5 t ≠ S 6 t ∧ 2147483647 < S 0 (S 6 t) + S 7 t then (7, S) else (0, s_up (s_up S 0 (S 5 t) (S 0 (S 5 t) - S 7 t)) 0 (S 6 t) (s_up S 0 (S 5 t) (S 0 (S 5 t) - S 7 t) 0 (S 6 t) + S 7 t)) := if_neg e
    rw [d0] at hQ
    clear d0
    have x2 : lN (S 0 (S 6 t)) + lN (S 7 t) = lN (S 0 (S 6 t) + S 7 t) := lN_add _ _
    have q0 : nI (S 5 t) = nI (S 6 t) ↔ S 5 t = S 6 t := nI_eq (by omega) (by omega)
    have e2 : (2147483647 : Int64) = lN 2147483647 := rfl
    have cm : lg_cmp (lN (S 0 (S 6 t) + S 7 t)) 2147483647 ≤ 0 ↔ S 0 (S 6 t) + S 7 t ≤ 2147483647 := by
      rw [e2]
      exact lc_le (by omega) (by decide)
    by_cases f : S 5 t ≠ S 6 t ∧ 2147483647 < S 0 (S 6 t) + S 7 t
    · rw [if_pos f] at hQ
      have q1 : ¬ nI (S 5 t) = nI (S 6 t) := fun h => f.1 (q0.mp h)
      have c1 : ¬ lg_cmp (lN (S 0 (S 6 t) + S 7 t)) 2147483647 ≤ 0 := fun h => absurd (cm.mp h) (by omega)
      simp (decide := true) only [r72_0, r72_1, r72_4, r72_5, r72_8, r72_9, r72_10, r72_11, r72_12, r72_15, r72_16, r72_17, r72_18, r72_19, r72_22, r72_24, r72_25, r72_26, r72_29, r72_30, r72_31, r72_32, r72_35, r72_36, r72_37, r72_40, r72_41, r72_44, r72_45, r72_48, r72_49, r72_50, r72_51, r72_52, r72_55, r72_56, r72_57, r72_58, r72_59, r72_62, r72_63, r72_66, r72_68, y1, y2, y3, y4, y5, y6, la, x1, x2, q1, c1, g66_w, g67_w, g68_w, v1, v2, sh59 hS_w, sh60 hS_w, sh64 hS_w, sh65 hS_w, sh66 hS_w, sh67 hS_w, sh68 hS_w, sm_wp_some, sm_wp_none, sm_at, sm_get, sm_fld, sm_pfl, sm_cN, sm_ai, sm_al, sm_si, sm_slg, sm_aa, List.getElem?_cons_zero, List.getElem?_cons_succ, List.set_cons_zero, List.set_cons_succ, List.length_cons, List.length_nil, Option.toList_some, Option.toList_none, List.cons_append, List.nil_append, if_true, if_false, true_and, and_true, Option.some.injEq, gs_o, gs_s, List.length_set, pk_us, Nat.reduceLT, Nat.reduceLeDiff, Nat.reduceSub, Nat.reduceEqDiff, Nat.reduceAdd, Int32.reduceLT, Int32.reduceLE, Int32.reduceAdd, Int32.reduceSub, Int32.reduceToNatClampNeg, ↓reduceIte, reduceCtorEq, Nat.lt_irrefl]
      exact hQ w ⟨FrM.rf w, fun h => absurd h (by omega), fun _ => hT.rf h13 h5⟩
    · rw [if_neg f] at hQ
      have go : sm_R X 72 69 [.ref 159, .int (nI t)] [] w Q := by
        have x3 : lN (S 0 (S 5 t)) - lN (S 7 t) = lN (S 0 (S 5 t) - S 7 t) := q_sub (by omega)
        simp (decide := true) only [r72_69, r72_70, r72_73, r72_74, r72_77, r72_78, r72_79, r72_80, r72_81, r72_82, r72_85, r72_86, r72_87, r72_88, r72_89, y1, y2, y3, la, x3, g66_w, g67_w, g68_w, v1, v2, sh59 hS_w, sh60 hS_w, sh64 hS_w, sh65 hS_w, sh66 hS_w, sh67 hS_w, sh68 hS_w, sm_wp_some, sm_wp_none, sm_at, sm_get, sm_fld, sm_pfl, sm_cN, sm_ai, sm_al, sm_si, sm_slg, sm_aa, List.getElem?_cons_zero, List.getElem?_cons_succ, List.set_cons_zero, List.set_cons_succ, List.length_cons, List.length_nil, Option.toList_some, Option.toList_none, List.cons_append, List.nil_append, if_true, if_false, true_and, and_true, Option.some.injEq, gs_o, gs_s, List.length_set, pk_us, Nat.reduceLT, Nat.reduceLeDiff, Nat.reduceSub, Nat.reduceEqDiff, Nat.reduceAdd, Int32.reduceLT, Int32.reduceLE, Int32.reduceAdd, Int32.reduceSub, Int32.reduceToNatClampNeg, ↓reduceIte, reduceCtorEq, Nat.lt_irrefl]
        have m1 := hT.now (j := S 5 t) (v := S 0 (S 5 t) - S 7 t) rfl
        have f1 : FrM w (w.set 60 (.inl (1, 94, .inr (.inl (vp_updL (wl w 60) (S 5 t) (lN (S 0 (S 5 t) - S 7 t))))))) := FrM.set (by decide)
        have n1 : wn (w.set 60 (.inl (1, 94, .inr (.inl (vp_updL (wl w 60) (S 5 t) (lN (S 0 (S 5 t) - S 7 t))))))) 59 13 = -3 := by rw [wn_o (by decide)]; exact h13
        generalize (w.set 60 (.inl (1, 94, .inr (.inl (vp_updL (wl w 60) (S 5 t) (lN (S 0 (S 5 t) - S 7 t))))))) = w1 at m1 f1 n1
        have hS_w1 := m1.1
        have gt_w1 := m1.2.2.2.1.2 t ht
        have g65_w1 := gt_w1.1
        have g66_w1 : wi w1 66 t = nI (S 5 t) := gt_w1.2.1
        have g67_w1 : wi w1 67 t = nI (S 6 t) := gt_w1.2.2.1
        have g68_w1 : wi w1 68 t = nI (S 7 t) := gt_w1.2.2.2.1
        have y61 := m1.2.1 (S 6 t) (by omega)
        have x4 : lN (s_up S 0 (S 5 t) (S 0 (S 5 t) - S 7 t) 0 (S 6 t)) + lN (S 7 t) = lN (s_up S 0 (S 5 t) (S 0 (S 5 t) - S 7 t) 0 (S 6 t) + S 7 t) := lN_add _ _
        simp (decide := true) only [r72_90, r72_91, r72_94, r72_95, r72_98, r72_99, r72_100, r72_101, r72_102, r72_103, r72_106, r72_107, r72_108, r72_109, r72_110, r72_111, r72_112, y4, y5, y61, la, x4, g66_w1, g67_w1, g68_w1, v1, v2, sh59 hS_w1, sh60 hS_w1, sh64 hS_w1, sh65 hS_w1, sh66 hS_w1, sh67 hS_w1, sh68 hS_w1, sm_wp_some, sm_wp_none, sm_at, sm_get, sm_fld, sm_pfl, sm_cN, sm_ai, sm_al, sm_si, sm_slg, sm_aa, List.getElem?_cons_zero, List.getElem?_cons_succ, List.set_cons_zero, List.set_cons_succ, List.length_cons, List.length_nil, Option.toList_some, Option.toList_none, List.cons_append, List.nil_append, if_true, if_false, true_and, and_true, Option.some.injEq, gs_o, gs_s, List.length_set, pk_us, Nat.reduceLT, Nat.reduceLeDiff, Nat.reduceSub, Nat.reduceEqDiff, Nat.reduceAdd, Int32.reduceLT, Int32.reduceLE, Int32.reduceAdd, Int32.reduceSub, Int32.reduceToNatClampNeg, ↓reduceIte, reduceCtorEq, Nat.lt_irrefl]
        have m2 := m1.now (j := S 6 t) (v := s_up S 0 (S 5 t) (S 0 (S 5 t) - S 7 t) 0 (S 6 t) + S 7 t) rfl
        exact hQ _ ⟨f1.tr (FrM.set (by decide)), fun _ => ⟨m2, by rw [wn_o (by decide)]; exact n1⟩, fun h => absurd rfl h⟩
      by_cases q : S 5 t = S 6 t
      · have q1 : (nI (S 5 t) = nI (S 6 t)) = True := eq_true (q0.mpr q)
        simp (decide := true) only [r72_0, r72_1, r72_4, r72_5, r72_8, r72_9, r72_10, r72_11, r72_12, r72_15, r72_16, r72_17, r72_18, r72_19, r72_22, r72_24, r72_25, r72_26, r72_29, r72_30, r72_31, r72_32, r72_35, r72_36, r72_37, y1, y2, y3, la, x1, q1, g66_w, g67_w, g68_w, v1, v2, sh59 hS_w, sh60 hS_w, sh64 hS_w, sh65 hS_w, sh66 hS_w, sh67 hS_w, sh68 hS_w, sm_wp_some, sm_wp_none, sm_at, sm_get, sm_fld, sm_pfl, sm_cN, sm_ai, sm_al, sm_si, sm_slg, sm_aa, List.getElem?_cons_zero, List.getElem?_cons_succ, List.set_cons_zero, List.set_cons_succ, List.length_cons, List.length_nil, Option.toList_some, Option.toList_none, List.cons_append, List.nil_append, if_true, if_false, true_and, and_true, Option.some.injEq, gs_o, gs_s, List.length_set, pk_us, Nat.reduceLT, Nat.reduceLeDiff, Nat.reduceSub, Nat.reduceEqDiff, Nat.reduceAdd, Int32.reduceLT, Int32.reduceLE, Int32.reduceAdd, Int32.reduceSub, Int32.reduceToNatClampNeg, ↓reduceIte, reduceCtorEq, Nat.lt_irrefl]
        exact go
      · have q1 : ¬ nI (S 5 t) = nI (S 6 t) := fun h => q (q0.mp h)
        have c1 : lg_cmp (lN (S 0 (S 6 t) + S 7 t)) 2147483647 ≤ 0 := cm.mpr (by omega)
        simp (decide := true) only [r72_0, r72_1, r72_4, r72_5, r72_8, r72_9, r72_10, r72_11, r72_12, r72_15, r72_16, r72_17, r72_18, r72_19, r72_22, r72_24, r72_25, r72_26, r72_29, r72_30, r72_31, r72_32, r72_35, r72_36, r72_37, r72_40, r72_41, r72_44, r72_45, r72_48, r72_49, r72_50, r72_51, r72_52, r72_55, r72_56, r72_57, r72_58, r72_59, r72_62, r72_63, y1, y2, y3, y4, y5, y6, la, x1, x2, q1, c1, g66_w, g67_w, g68_w, v1, v2, sh59 hS_w, sh60 hS_w, sh64 hS_w, sh65 hS_w, sh66 hS_w, sh67 hS_w, sh68 hS_w, sm_wp_some, sm_wp_none, sm_at, sm_get, sm_fld, sm_pfl, sm_cN, sm_ai, sm_al, sm_si, sm_slg, sm_aa, List.getElem?_cons_zero, List.getElem?_cons_succ, List.set_cons_zero, List.set_cons_succ, List.length_cons, List.length_nil, Option.toList_some, Option.toList_none, List.cons_append, List.nil_append, if_true, if_false, true_and, and_true, Option.some.injEq, gs_o, gs_s, List.length_set, pk_us, Nat.reduceLT, Nat.reduceLeDiff, Nat.reduceSub, Nat.reduceEqDiff, Nat.reduceAdd, Int32.reduceLT, Int32.reduceLE, Int32.reduceAdd, Int32.reduceSub, Int32.reduceToNatClampNeg, ↓reduceIte, reduceCtorEq, Nat.lt_irrefl]
        exact go
theorem call_M2 {X : sm_X} {w : sm_W} {Q : Option Value → sm_W → Prop} {S : sm_S} {T t : Nat} {x3 : Value} (hT : BtM T w S) (h13 : wn w 59 13 = -3) (hB : TxB T S) (ht : t < S 10 1) (hk : S 4 t ≠ 3) (hQ : ∀ w', AtM T w w' (if S 3 (S 6 t) = 0 then (9, S) else if (s_run 100 (s_beg S t) t).1 ≠ 0 then s_run 100 (s_beg S t) t else (0, s_cl S (s_run 100 (s_beg S t) t).2 t)) → Q (some (.int (nI (if S 3 (S 6 t) = 0 then (9, S) else if (s_run 100 (s_beg S t) t).1 ≠ 0 then s_run 100 (s_beg S t) t else (0, s_cl S (s_run 100 (s_beg S t) t).2 t)).1))) w') : sm_R X 73 136 [.ref 159, .int (nI t), .int (nI (22 + S 6 t * 6 + S 5 t)), sm_J] [] w Q := by
  have h4 : S 10 1 ≤ 4 := hB.2.2.1.1
  have h5 := hB.2.2.2.2.2.2.2.2.2.2
  have bt := hB.2.2.1.2 t ht
  have hf : S 5 t < 6 := bt.2.1
  have ht4 : t < 4 := by omega
  have v1 : sm_in (nI t) 4 = true := sm_in_nI ht4 (by decide)
  have v2 : (nI t).toNatClampNeg = t := nI_clamp (by omega)
  have hp : S 6 t < 4 := bt.2.2.2.1 hk
  have hS_w := hT.1
  have gt_w := hT.2.2.2.1.2 t ht
  have g65_w := gt_w.1
  have g66_w : wi w 66 t = nI (S 5 t) := gt_w.2.1
  have g67_w : wi w 67 t = nI (S 6 t) := gt_w.2.2.1
  have g68_w : wi w 68 t = nI (S 7 t) := gt_w.2.2.2.1
  have P1 := (hT.2.2.1 (S 6 t) (by omega)).1
  have bp := hB.2.1 (S 6 t) (by omega)
  have u1 : sm_in (nI (S 6 t)) 5 = true := sm_in_nI (by omega) (by decide)
  have u2 : (nI (S 6 t)).toNatClampNeg = S 6 t := nI_clamp (by omega)
  have m1 : nI (S 6 t) * 6 = nI (S 6 t * 6) := pk_mul _ 6
  have m2 : 22 + nI (S 6 t * 6) = nI (22 + S 6 t * 6) := nI_add 22 _
  have m4 : nI (22 + S 6 t * 6) + nI (S 5 t) = nI (22 + S 6 t * 6 + S 5 t) := nI_add _ _
  have m5 : sm_in (nI (22 + S 6 t * 6 + S 5 t)) 94 = true := sm_in_nI (by omega) (by decide)
  have m6 : (nI (22 + S 6 t * 6 + S 5 t)).toNatClampNeg = 22 + S 6 t * 6 + S 5 t := nI_clamp (by omega)
  by_cases e3 : S 3 (S 6 t) = 0
  · rw [if_pos e3] at hQ
    have n3 : nI (S 3 (S 6 t)) = 0 := by rw [e3]; rfl
    simp (decide := true) only [r73_136, r73_137, r73_140, r73_141, r73_144, r73_145, r73_146, r73_147, r73_150, r73_152, P1, n3, u1, u2, g66_w, g67_w, g68_w, v1, v2, sh59 hS_w, sh60 hS_w, sh64 hS_w, sh65 hS_w, sh66 hS_w, sh67 hS_w, sh68 hS_w, sm_wp_some, sm_wp_none, sm_at, sm_get, sm_fld, sm_pfl, sm_cN, sm_ai, sm_al, sm_si, sm_slg, sm_aa, List.getElem?_cons_zero, List.getElem?_cons_succ, List.set_cons_zero, List.set_cons_succ, List.length_cons, List.length_nil, Option.toList_some, Option.toList_none, List.cons_append, List.nil_append, if_true, if_false, true_and, and_true, Option.some.injEq, gs_o, gs_s, List.length_set, pk_us, Nat.reduceLT, Nat.reduceLeDiff, Nat.reduceSub, Nat.reduceEqDiff, Nat.reduceAdd, Int32.reduceLT, Int32.reduceLE, Int32.reduceAdd, Int32.reduceSub, Int32.reduceToNatClampNeg, ↓reduceIte, reduceCtorEq, Nat.lt_irrefl]
    exact hQ w ⟨FrM.rf w, fun h => absurd h (by omega), fun _ => hT.rf h13 h5⟩
  · rw [if_neg e3] at hQ
    have n3 : ¬ nI (S 3 (S 6 t)) = 0 := fun h => e3 ((nI_z (by omega)).mp h)
    simp (decide := true) only [r73_136, r73_137, r73_140, r73_141, r73_144, r73_145, r73_146, r73_147, r73_153, r73_154, r73_155, P1, n3, u1, u2, g66_w, g67_w, g68_w, v1, v2, sh59 hS_w, sh60 hS_w, sh64 hS_w, sh65 hS_w, sh66 hS_w, sh67 hS_w, sh68 hS_w, sm_wp_some, sm_wp_none, sm_at, sm_get, sm_fld, sm_pfl, sm_cN, sm_ai, sm_al, sm_si, sm_slg, sm_aa, List.getElem?_cons_zero, List.getElem?_cons_succ, List.set_cons_zero, List.set_cons_succ, List.length_cons, List.length_nil, Option.toList_some, Option.toList_none, List.cons_append, List.nil_append, if_true, if_false, true_and, and_true, Option.some.injEq, gs_o, gs_s, List.length_set, pk_us, Nat.reduceLT, Nat.reduceLeDiff, Nat.reduceSub, Nat.reduceEqDiff, Nat.reduceAdd, Int32.reduceLT, Int32.reduceLE, Int32.reduceAdd, Int32.reduceSub, Int32.reduceToNatClampNeg, ↓reduceIte, reduceCtorEq, Nat.lt_irrefl]
    have hb1 := hB.beg ht hk
    have hn : s_beg S t 14 3 - s_beg S t 14 4 < 100 := by
      have : s_beg S t 14 3 ≤ 80 := hB.2.2.2.2.1
      omega
    obtain ⟨r1, r2, r3⟩ := run_B 100 hb1 hn
    have rl := run_l 100 hb1 hn
    refine run_M hT hb1 (fun w' hA => ?_)
    obtain ⟨a1, a2, a3⟩ := hA
    have hs := s_sm.tr (T := T) (s_sm.beg (S := S) (t := t)) r1
    generalize s_run 100 (s_beg S t) t = r at *
    have r101 : r.2 10 1 = S 10 1 := hs.2.1 1 (by decide) (by decide)
    by_cases e : r.1 = 0
    · rw [if_neg (fun h => h e)] at hQ
      have n0 : nI r.1 = 0 := by rw [e]; rfl
      have hR := a2 e
      have hT' := hR.bt
      have hS' := hR.1
      have gt' := hR.2.2.2.1.2 t (by rw [r101]; exact ht)
      have g65' : wi w' 65 t = nI (S 4 t) := by
        rw [gt'.1, hs.1.2.2.1, if_neg hk]
      simp (decide := true) only [r73_158, r73_159, r73_160, r73_163, r73_164, r73_165, r73_166, r73_168, n0, sh59 hS', sm_wp_some, sm_wp_none, sm_at, sm_get, sm_fld, sm_pfl, sm_cN, sm_ai, sm_al, sm_si, sm_slg, sm_aa, List.getElem?_cons_zero, List.getElem?_cons_succ, List.set_cons_zero, List.set_cons_succ, List.length_cons, List.length_nil, Option.toList_some, Option.toList_none, List.cons_append, List.nil_append, if_true, if_false, true_and, and_true, Option.some.injEq, gs_o, gs_s, List.length_set, pk_us, Nat.reduceLT, Nat.reduceLeDiff, Nat.reduceSub, Nat.reduceEqDiff, Nat.reduceAdd, Int32.reduceLT, Int32.reduceLE, Int32.reduceAdd, Int32.reduceSub, Int32.reduceToNatClampNeg, ↓reduceIte, reduceCtorEq, Nat.lt_irrefl]
      have T2 := hT'.at (x := -3)
      have F2 : FrM w' (w'.set 59 (.inr (7, [.ref 160, .ref 161, .ref 162, .ref 163, .ref 164, .int (wn w' 59 5), .ref 165, .ref 166, .ref 167, .ref 168, .ref 169, .ref 170, .int (wn w' 59 12), .int (-3), .int (wn w' 59 14), .int (wn w' 59 15), .int (wn w' 59 16), .int (wn w' 59 17), .int (wn w' 59 18), .int (wn w' 59 19), .int (wn w' 59 20), .ref 171, .ref 172, .ref 173, .int (wn w' 59 24), .int (wn w' 59 25)]))) := FrM.k59 hS'
      have n2 : wn (w'.set 59 (.inr (7, [.ref 160, .ref 161, .ref 162, .ref 163, .ref 164, .int (wn w' 59 5), .ref 165, .ref 166, .ref 167, .ref 168, .ref 169, .ref 170, .int (wn w' 59 12), .int (-3), .int (wn w' 59 14), .int (wn w' 59 15), .int (wn w' 59 16), .int (wn w' 59 17), .int (wn w' 59 18), .int (wn w' 59 19), .int (wn w' 59 20), .ref 171, .ref 172, .ref 173, .int (wn w' 59 24), .int (wn w' 59 25)]))) 59 13 = -3 := wn59_13 hS'.1
      have g2 : wi (w'.set 59 (.inr (7, [.ref 160, .ref 161, .ref 162, .ref 163, .ref 164, .int (wn w' 59 5), .ref 165, .ref 166, .ref 167, .ref 168, .ref 169, .ref 170, .int (wn w' 59 12), .int (-3), .int (wn w' 59 14), .int (wn w' 59 15), .int (wn w' 59 16), .int (wn w' 59 17), .int (wn w' 59 18), .int (wn w' 59 19), .int (wn w' 59 20), .ref 171, .ref 172, .ref 173, .int (wn w' 59 24), .int (wn w' 59 25)]))) 65 t = nI (S 4 t) := by rw [wi_o (by decide)]; exact g65'
      generalize w'.set 59 (.inr (7, [.ref 160, .ref 161, .ref 162, .ref 163, .ref 164, .int (wn w' 59 5), .ref 165, .ref 166, .ref 167, .ref 168, .ref 169, .ref 170, .int (wn w' 59 12), .int (-3), .int (wn w' 59 14), .int (wn w' 59 15), .int (wn w' 59 16), .int (wn w' 59 17), .int (wn w' 59 18), .int (wn w' 59 19), .int (wn w' 59 20), .ref 171, .ref 172, .ref 173, .int (wn w' 59 24), .int (wn w' 59 25)])) = w2 at T2 F2 n2 g2
      have hS2 := T2.1
      by_cases k2 : S 4 t = 2
      · have k2' : nI (S 4 t) = 2 := by rw [k2]; rfl
        have c1 : s_cl S r.2 t = s_up r.2 0 (22 + S 6 t * 6 + S 5 t) 0 := if_pos k2
        rw [c1] at hQ
        simp (decide := true) only [r73_171, r73_172, r73_175, r73_176, r73_177, r73_178, r73_181, r73_182, r73_185, r73_186, r73_187, r73_188, r73_189, g2, k2', v1, v2, m5, m6, sh59 hS2, sh60 hS2, sh65 hS2, sm_wp_some, sm_wp_none, sm_at, sm_get, sm_fld, sm_pfl, sm_cN, sm_ai, sm_al, sm_si, sm_slg, sm_aa, List.getElem?_cons_zero, List.getElem?_cons_succ, List.set_cons_zero, List.set_cons_succ, List.length_cons, List.length_nil, Option.toList_some, Option.toList_none, List.cons_append, List.nil_append, if_true, if_false, true_and, and_true, Option.some.injEq, gs_o, gs_s, List.length_set, pk_us, Nat.reduceLT, Nat.reduceLeDiff, Nat.reduceSub, Nat.reduceEqDiff, Nat.reduceAdd, Int32.reduceLT, Int32.reduceLE, Int32.reduceAdd, Int32.reduceSub, Int32.reduceToNatClampNeg, ↓reduceIte, reduceCtorEq, Nat.lt_irrefl]
        have T3 := T2.now (j := 22 + S 6 t * 6 + S 5 t) (v := 0) (V := 0) rfl
        exact hQ _ ⟨(a1.tr F2).tr (FrM.set (by decide)), fun _ => ⟨T3, by rw [wn_o (by decide)]; exact n2⟩, fun h => absurd rfl h⟩
      · have k2' : ¬ nI (S 4 t) = 2 := fun h => k2 ((nI_eq (b := 2) (by omega) (by decide)).mp h)
        have c1 : s_cl S r.2 t = r.2 := if_neg k2
        rw [c1] at hQ
        simp (decide := true) only [r73_171, r73_172, r73_175, r73_176, r73_177, r73_178, r73_181, r73_182, r73_185, r73_186, r73_187, r73_188, r73_189, g2, k2', v1, v2, sh59 hS2, sh60 hS2, sh65 hS2, sm_wp_some, sm_wp_none, sm_at, sm_get, sm_fld, sm_pfl, sm_cN, sm_ai, sm_al, sm_si, sm_slg, sm_aa, List.getElem?_cons_zero, List.getElem?_cons_succ, List.set_cons_zero, List.set_cons_succ, List.length_cons, List.length_nil, Option.toList_some, Option.toList_none, List.cons_append, List.nil_append, if_true, if_false, true_and, and_true, Option.some.injEq, gs_o, gs_s, List.length_set, pk_us, Nat.reduceLT, Nat.reduceLeDiff, Nat.reduceSub, Nat.reduceEqDiff, Nat.reduceAdd, Int32.reduceLT, Int32.reduceLE, Int32.reduceAdd, Int32.reduceSub, Int32.reduceToNatClampNeg, ↓reduceIte, reduceCtorEq, Nat.lt_irrefl]
        exact hQ _ ⟨a1.tr F2, fun _ => ⟨T2, n2⟩, fun h => absurd rfl h⟩
    · rw [if_pos e] at hQ
      have n0 : ¬ nI r.1 ≤ 0 := nI_ge (a := 0) (by omega) (by omega)
      simp (decide := true) only [r73_158, r73_159, r73_160, r73_163, r73_164, n0, if_false, Option.toList_some, List.cons_append, List.nil_append]
      exact hQ w' ⟨a1, fun h => absurd h e, fun _ => a3 e⟩
theorem call_M {X : sm_X} {w : sm_W} {Q : Option Value → sm_W → Prop} {S : sm_S} {T t : Nat} (hT : BtM T w S) (h13 : wn w 59 13 = -3) (hB : TxB T S) (ht : t < S 10 1) (hk : S 4 t ≠ 3) (hQ : ∀ w', AtM T w w' (s_call S t) → Q (some (.int (nI (s_call S t).1))) w') : sm_R X 73 0 [.ref 159, .int (nI t), sm_J, sm_J] [] w Q := by
  have h4 : S 10 1 ≤ 4 := hB.2.2.1.1
  have h5 := hB.2.2.2.2.2.2.2.2.2.2
  have bt := hB.2.2.1.2 t ht
  have hf : S 5 t < 6 := bt.2.1
  have ht4 : t < 4 := by omega
  have v1 : sm_in (nI t) 4 = true := sm_in_nI ht4 (by decide)
  have v2 : (nI t).toNatClampNeg = t := nI_clamp (by omega)
  have hp : S 6 t < 4 := bt.2.2.2.1 hk
  have hS_w := hT.1
  have gt_w := hT.2.2.2.1.2 t ht
  have g65_w := gt_w.1
  have g66_w : wi w 66 t = nI (S 5 t) := gt_w.2.1
  have g67_w : wi w 67 t = nI (S 6 t) := gt_w.2.2.1
  have g68_w : wi w 68 t = nI (S 7 t) := gt_w.2.2.2.1
  have m1 : nI (S 6 t) * 6 = nI (S 6 t * 6) := pk_mul _ 6
  have m2 : 22 + nI (S 6 t * 6) = nI (22 + S 6 t * 6) := nI_add 22 _
  have m4 : nI (22 + S 6 t * 6) + nI (S 5 t) = nI (22 + S 6 t * 6 + S 5 t) := nI_add _ _
  have m5 : sm_in (nI (22 + S 6 t * 6 + S 5 t)) 94 = true := sm_in_nI (by omega) (by decide)
  have m6 : (nI (22 + S 6 t * 6 + S 5 t)).toNatClampNeg = 22 + S 6 t * 6 + S 5 t := nI_clamp (by omega)
  have m7 := hT.2.1 (22 + S 6 t * 6 + S 5 t) (by omega)
  have b1 := hB.1.2.1 (22 + S 6 t * 6 + S 5 t) (by omega) (by omega)
  have m8 : lg_cmp (lN (S 0 (22 + S 6 t * 6 + S 5 t))) 1 = 0 ↔ S 0 (22 + S 6 t * 6 + S 5 t) = 1 := lc_eq (b := 1) (by omega) (by decide)
  have m9 : lg_cmp (lN (S 0 (22 + S 6 t * 6 + S 5 t))) 0 = 0 ↔ S 0 (22 + S 6 t * 6 + S 5 t) = 0 := lc_z0 (by omega)
  have g65 : wi w 65 t = nI (S 4 t) := by rw [g65_w, if_neg hk]
  have kc : S 4 t = 0 ∨ S 4 t = 1 ∨ S 4 t = 2 := by omega
  rcases kc with k | k | k
  · have n : nI (S 4 t) = 0 := by rw [k]; rfl
    have d : s_call S t = if S 3 (S 6 t) = 0 then (9, S) else if (s_run 100 (s_beg (s_op S t) t) t).1 ≠ 0 then s_run 100 (s_beg (s_op S t) t) t else (0, s_cl S (s_run 100 (s_beg (s_op S t) t) t).2 t) := if_neg (fun q => by omega)
    have dop : s_op S t = S := if_neg (by omega)
    rw [d, dop] at hQ
    simp (decide := true) only [r73_0, r73_2, r73_3, r73_6, r73_7, r73_8, r73_10, r73_11, r73_12, r73_13, r73_16, r73_17, r73_18, r73_19, r73_20, r73_21, r73_24, r73_25, r73_26, r73_27, r73_30, r73_31, r73_34, r73_35, r73_36, r73_37, r73_38, r73_41, r73_42, r73_45, r73_46, r73_47, r73_48, r73_51, r73_52, r73_55, r73_56, r73_57, r73_58, r73_59, r73_62, r73_64, r73_65, r73_66, r73_69, r73_70, r73_71, r73_72, g65, n, m1, m2, m4, g66_w, g67_w, g68_w, v1, v2, sh59 hS_w, sh60 hS_w, sh64 hS_w, sh65 hS_w, sh66 hS_w, sh67 hS_w, sh68 hS_w, sm_wp_some, sm_wp_none, sm_at, sm_get, sm_fld, sm_pfl, sm_cN, sm_ai, sm_al, sm_si, sm_slg, sm_aa, List.getElem?_cons_zero, List.getElem?_cons_succ, List.set_cons_zero, List.set_cons_succ, List.length_cons, List.length_nil, Option.toList_some, Option.toList_none, List.cons_append, List.nil_append, if_true, if_false, true_and, and_true, Option.some.injEq, gs_o, gs_s, List.length_set, pk_us, Nat.reduceLT, Nat.reduceLeDiff, Nat.reduceSub, Nat.reduceEqDiff, Nat.reduceAdd, Int32.reduceLT, Int32.reduceLE, Int32.reduceAdd, Int32.reduceSub, Int32.reduceToNatClampNeg, ↓reduceIte, reduceCtorEq, Nat.lt_irrefl]
    exact call_M2 hT h13 hB ht hk hQ (x3 := sm_J)
  · have n : nI (S 4 t) = 1 := by rw [k]; rfl
    by_cases o : S 0 (22 + S 6 t * 6 + S 5 t) = 1
    · have d : s_call S t = (8, S) := if_pos (Or.inl ⟨k, o⟩)
      rw [d] at hQ
      have o1 := m8.mpr o
      simp (decide := true) only [r73_0, r73_2, r73_3, r73_6, r73_7, r73_8, r73_10, r73_11, r73_12, r73_13, r73_16, r73_17, r73_18, r73_19, r73_20, r73_21, r73_24, r73_25, r73_26, r73_27, r73_30, r73_31, r73_34, r73_35, r73_36, r73_37, r73_38, r73_41, r73_42, r73_45, r73_46, r73_47, r73_48, r73_51, r73_52, r73_55, r73_56, r73_57, r73_58, r73_59, r73_62, r73_64, g65, n, m1, m2, m4, m5, m6, m7, o1, g66_w, g67_w, g68_w, v1, v2, sh59 hS_w, sh60 hS_w, sh64 hS_w, sh65 hS_w, sh66 hS_w, sh67 hS_w, sh68 hS_w, sm_wp_some, sm_wp_none, sm_at, sm_get, sm_fld, sm_pfl, sm_cN, sm_ai, sm_al, sm_si, sm_slg, sm_aa, List.getElem?_cons_zero, List.getElem?_cons_succ, List.set_cons_zero, List.set_cons_succ, List.length_cons, List.length_nil, Option.toList_some, Option.toList_none, List.cons_append, List.nil_append, if_true, if_false, true_and, and_true, Option.some.injEq, gs_o, gs_s, List.length_set, pk_us, Nat.reduceLT, Nat.reduceLeDiff, Nat.reduceSub, Nat.reduceEqDiff, Nat.reduceAdd, Int32.reduceLT, Int32.reduceLE, Int32.reduceAdd, Int32.reduceSub, Int32.reduceToNatClampNeg, ↓reduceIte, reduceCtorEq, Nat.lt_irrefl]
      exact hQ w ⟨FrM.rf w, fun h => absurd h (by omega), fun _ => hT.rf h13 h5⟩
    · have d : s_call S t = if S 3 (S 6 t) = 0 then (9, S) else if (s_run 100 (s_beg (s_op S t) t) t).1 ≠ 0 then s_run 100 (s_beg (s_op S t) t) t else (0, s_cl S (s_run 100 (s_beg (s_op S t) t) t).2 t) := if_neg (fun q => by omega)
      have dop : s_op S t = s_in S (S 6 t) (S 5 t) := if_pos k
      have hB1 := (hB.op ht hk).1
      rw [dop] at hB1
      rw [d, dop] at hQ
      have o1 : ¬ lg_cmp (lN (S 0 (22 + S 6 t * 6 + S 5 t))) 1 = 0 := fun h => o (m8.mp h)
      simp (decide := true) only [r73_0, r73_2, r73_3, r73_6, r73_7, r73_8, r73_10, r73_11, r73_12, r73_13, r73_16, r73_17, r73_18, r73_19, r73_20, r73_21, r73_24, r73_25, r73_26, r73_27, r73_30, r73_31, r73_34, r73_35, r73_36, r73_37, r73_38, r73_41, r73_42, r73_45, r73_46, r73_47, r73_48, r73_51, r73_52, r73_55, r73_56, r73_57, r73_58, r73_59, r73_62, r73_64, r73_65, r73_66, r73_69, r73_70, r73_71, r73_72, r73_75, r73_76, r73_79, r73_80, r73_81, g65, n, m1, m2, m4, m5, m6, m7, o1, g66_w, g67_w, g68_w, v1, v2, sh59 hS_w, sh60 hS_w, sh64 hS_w, sh65 hS_w, sh66 hS_w, sh67 hS_w, sh68 hS_w, sm_wp_some, sm_wp_none, sm_at, sm_get, sm_fld, sm_pfl, sm_cN, sm_ai, sm_al, sm_si, sm_slg, sm_aa, List.getElem?_cons_zero, List.getElem?_cons_succ, List.set_cons_zero, List.set_cons_succ, List.length_cons, List.length_nil, Option.toList_some, Option.toList_none, List.cons_append, List.nil_append, if_true, if_false, true_and, and_true, Option.some.injEq, gs_o, gs_s, List.length_set, pk_us, Nat.reduceLT, Nat.reduceLeDiff, Nat.reduceSub, Nat.reduceEqDiff, Nat.reduceAdd, Int32.reduceLT, Int32.reduceLE, Int32.reduceAdd, Int32.reduceSub, Int32.reduceToNatClampNeg, ↓reduceIte, reduceCtorEq, Nat.lt_irrefl]
      have T1 := hT.now (j := 22 + S 6 t * 6 + S 5 t) (v := 1) (V := 1) rfl
      have F1 : FrM w (w.set 60 (.inl (1, 94, .inr (.inl (vp_updL (wl w 60) (22 + S 6 t * 6 + S 5 t) 1))))) := FrM.set (by decide)
      have n1 : wn (w.set 60 (.inl (1, 94, .inr (.inl (vp_updL (wl w 60) (22 + S 6 t * 6 + S 5 t) 1))))) 59 13 = -3 := by rw [wn_o (by decide)]; exact h13
      generalize (w.set 60 (.inl (1, 94, .inr (.inl (vp_updL (wl w 60) (22 + S 6 t * 6 + S 5 t) 1))))) = w1 at T1 F1 n1
      have hS_w1 := T1.1
      have gt_w1 := T1.2.2.2.1.2 t ht
      have g65_w1 := gt_w1.1
      have g66_w1 : wi w1 66 t = nI (S 5 t) := gt_w1.2.1
      have g67_w1 : wi w1 67 t = nI (S 6 t) := gt_w1.2.2.1
      have g68_w1 : wi w1 68 t = nI (S 7 t) := gt_w1.2.2.2.1
      have l1 : nI (S 6 t) * 12 = nI (S 6 t * 12) := pk_mul _ 12
      have l2 : 46 + nI (S 6 t * 12) = nI (46 + S 6 t * 12) := nI_add 46 _
      have l3 : nI (S 5 t) * 2 = nI (S 5 t * 2) := pk_mul _ 2
      have l4 : nI (46 + S 6 t * 12) + nI (S 5 t * 2) = nI (46 + S 6 t * 12 + (S 5 t * 2 + 0)) := by rw [nI_add, show 46 + S 6 t * 12 + S 5 t * 2 = 46 + S 6 t * 12 + (S 5 t * 2 + 0) by omega]
      have l6 : sm_in (nI (46 + S 6 t * 12 + (S 5 t * 2 + 0))) 94 = true := sm_in_nI (by omega) (by decide)
      have l7 : (nI (46 + S 6 t * 12 + (S 5 t * 2 + 0))).toNatClampNeg = 46 + S 6 t * 12 + (S 5 t * 2 + 0) := nI_clamp (by omega)
      simp (decide := true) only [r73_82, r73_83, r73_86, r73_88, r73_89, r73_92, r73_93, r73_94, r73_96, r73_97, r73_98, r73_99, r73_102, r73_103, r73_104, r73_105, r73_106, r73_107, r73_108, l1, l2, l3, l4, l6, l7, g66_w1, g67_w1, g68_w1, v1, v2, sh59 hS_w1, sh60 hS_w1, sh64 hS_w1, sh65 hS_w1, sh66 hS_w1, sh67 hS_w1, sh68 hS_w1, sm_wp_some, sm_wp_none, sm_at, sm_get, sm_fld, sm_pfl, sm_cN, sm_ai, sm_al, sm_si, sm_slg, sm_aa, List.getElem?_cons_zero, List.getElem?_cons_succ, List.set_cons_zero, List.set_cons_succ, List.length_cons, List.length_nil, Option.toList_some, Option.toList_none, List.cons_append, List.nil_append, if_true, if_false, true_and, and_true, Option.some.injEq, gs_o, gs_s, List.length_set, pk_us, Nat.reduceLT, Nat.reduceLeDiff, Nat.reduceSub, Nat.reduceEqDiff, Nat.reduceAdd, Int32.reduceLT, Int32.reduceLE, Int32.reduceAdd, Int32.reduceSub, Int32.reduceToNatClampNeg, ↓reduceIte, reduceCtorEq, Nat.lt_irrefl]
      have T2 := T1.now (j := 46 + S 6 t * 12 + (S 5 t * 2 + 0)) (v := 0) (V := 0) rfl
      have F2 : FrM w1 (w1.set 60 (.inl (1, 94, .inr (.inl (vp_updL (wl w1 60) (46 + S 6 t * 12 + (S 5 t * 2 + 0)) 0))))) := FrM.set (by decide)
      have n2 : wn (w1.set 60 (.inl (1, 94, .inr (.inl (vp_updL (wl w1 60) (46 + S 6 t * 12 + (S 5 t * 2 + 0)) 0))))) 59 13 = -3 := by rw [wn_o (by decide)]; exact n1
      generalize (w1.set 60 (.inl (1, 94, .inr (.inl (vp_updL (wl w1 60) (46 + S 6 t * 12 + (S 5 t * 2 + 0)) 0))))) = w2 at T2 F2 n2
      have hS_w2 := T2.1
      have gt_w2 := T2.2.2.2.1.2 t ht
      have g65_w2 := gt_w2.1
      have g66_w2 : wi w2 66 t = nI (S 5 t) := gt_w2.2.1
      have g67_w2 : wi w2 67 t = nI (S 6 t) := gt_w2.2.2.1
      have g68_w2 : wi w2 68 t = nI (S 7 t) := gt_w2.2.2.2.1
      clear l2 l4 l6 l7
      have l1 : nI (S 6 t) * 12 = nI (S 6 t * 12) := pk_mul _ 12
      have l2 : 47 + nI (S 6 t * 12) = nI (47 + S 6 t * 12) := nI_add 47 _
      have l3 : nI (S 5 t) * 2 = nI (S 5 t * 2) := pk_mul _ 2
      have l4 : nI (47 + S 6 t * 12) + nI (S 5 t * 2) = nI (46 + S 6 t * 12 + (S 5 t * 2 + 1)) := by rw [nI_add, show 47 + S 6 t * 12 + S 5 t * 2 = 46 + S 6 t * 12 + (S 5 t * 2 + 1) by omega]
      have l6 : sm_in (nI (46 + S 6 t * 12 + (S 5 t * 2 + 1))) 94 = true := sm_in_nI (by omega) (by decide)
      have l7 : (nI (46 + S 6 t * 12 + (S 5 t * 2 + 1))).toNatClampNeg = 46 + S 6 t * 12 + (S 5 t * 2 + 1) := nI_clamp (by omega)
      simp (decide := true) only [r73_109, r73_110, r73_113, r73_115, r73_116, r73_119, r73_120, r73_121, r73_123, r73_124, r73_125, r73_126, r73_129, r73_130, r73_131, r73_132, r73_133, r73_134, r73_135, l1, l2, l3, l4, l6, l7, g66_w2, g67_w2, g68_w2, v1, v2, sh59 hS_w2, sh60 hS_w2, sh64 hS_w2, sh65 hS_w2, sh66 hS_w2, sh67 hS_w2, sh68 hS_w2, sm_wp_some, sm_wp_none, sm_at, sm_get, sm_fld, sm_pfl, sm_cN, sm_ai, sm_al, sm_si, sm_slg, sm_aa, List.getElem?_cons_zero, List.getElem?_cons_succ, List.set_cons_zero, List.set_cons_succ, List.length_cons, List.length_nil, Option.toList_some, Option.toList_none, List.cons_append, List.nil_append, if_true, if_false, true_and, and_true, Option.some.injEq, gs_o, gs_s, List.length_set, pk_us, Nat.reduceLT, Nat.reduceLeDiff, Nat.reduceSub, Nat.reduceEqDiff, Nat.reduceAdd, Int32.reduceLT, Int32.reduceLE, Int32.reduceAdd, Int32.reduceSub, Int32.reduceToNatClampNeg, ↓reduceIte, reduceCtorEq, Nat.lt_irrefl]
      have T3 := T2.now (j := 46 + S 6 t * 12 + (S 5 t * 2 + 1)) (v := 0) (V := 0) rfl
      have F3 : FrM w2 (w2.set 60 (.inl (1, 94, .inr (.inl (vp_updL (wl w2 60) (46 + S 6 t * 12 + (S 5 t * 2 + 1)) 0))))) := FrM.set (by decide)
      have n3 : wn (w2.set 60 (.inl (1, 94, .inr (.inl (vp_updL (wl w2 60) (46 + S 6 t * 12 + (S 5 t * 2 + 1)) 0))))) 59 13 = -3 := by rw [wn_o (by decide)]; exact n2
      generalize (w2.set 60 (.inl (1, 94, .inr (.inl (vp_updL (wl w2 60) (46 + S 6 t * 12 + (S 5 t * 2 + 1)) 0))))) = w3 at T3 F3 n3
      have T4 : BtM T w3 (s_in S (S 6 t) (S 5 t)) := T3
      have dcl : ∀ S', s_cl (s_in S (S 6 t) (S 5 t)) S' t = s_cl S S' t := fun _ => rfl
      refine call_M2 (S := s_in S (S 6 t) (S 5 t)) (x3 := sm_J) T4 n3 hB1 ht hk (fun w'' hA => ?_)
      simp only [dcl] at hA ⊢
      have hF := (F1.tr F2).tr F3
      by_cases e3 : S 3 (S 6 t) = 0
      · rw [if_pos e3] at hQ
        have e3' : s_in S (S 6 t) (S 5 t) 3 (s_in S (S 6 t) (S 5 t) 6 t) = 0 := e3
        rw [if_pos e3'] at hA ⊢
        obtain ⟨a1, a2, a3⟩ := hA
        refine hQ w'' ⟨hF.tr a1, fun h => absurd h (by omega), fun _ => ?_⟩
        exact a3 (by show ¬ (9 : Nat) = 0; omega)
      · rw [if_neg e3] at hQ
        have e3' : ¬ s_in S (S 6 t) (S 5 t) 3 (s_in S (S 6 t) (S 5 t) 6 t) = 0 := e3
        rw [if_neg e3'] at hA ⊢
        exact hQ w'' (AtM.tr hF hA)
  · have n : nI (S 4 t) = 2 := by rw [k]; rfl
    by_cases o : S 0 (22 + S 6 t * 6 + S 5 t) = 1
    · have d : s_call S t = if S 3 (S 6 t) = 0 then (9, S) else if (s_run 100 (s_beg (s_op S t) t) t).1 ≠ 0 then s_run 100 (s_beg (s_op S t) t) t else (0, s_cl S (s_run 100 (s_beg (s_op S t) t) t).2 t) := if_neg (fun q => by omega)
      have dop : s_op S t = S := if_neg (by omega)
      rw [d, dop] at hQ
      have o1 : ¬ lg_cmp (lN (S 0 (22 + S 6 t * 6 + S 5 t))) 0 = 0 := fun h => by have := m9.mp h; omega
      simp (decide := true) only [r73_0, r73_2, r73_3, r73_6, r73_7, r73_8, r73_10, r73_11, r73_12, r73_13, r73_16, r73_17, r73_18, r73_19, r73_20, r73_21, r73_24, r73_25, r73_26, r73_27, r73_30, r73_31, r73_34, r73_35, r73_36, r73_37, r73_38, r73_41, r73_42, r73_45, r73_46, r73_47, r73_48, r73_51, r73_52, r73_55, r73_56, r73_57, r73_58, r73_59, r73_62, r73_64, r73_65, r73_66, r73_69, r73_70, r73_71, r73_72, g65, n, m1, m2, m4, m5, m6, m7, o1, g66_w, g67_w, g68_w, v1, v2, sh59 hS_w, sh60 hS_w, sh64 hS_w, sh65 hS_w, sh66 hS_w, sh67 hS_w, sh68 hS_w, sm_wp_some, sm_wp_none, sm_at, sm_get, sm_fld, sm_pfl, sm_cN, sm_ai, sm_al, sm_si, sm_slg, sm_aa, List.getElem?_cons_zero, List.getElem?_cons_succ, List.set_cons_zero, List.set_cons_succ, List.length_cons, List.length_nil, Option.toList_some, Option.toList_none, List.cons_append, List.nil_append, if_true, if_false, true_and, and_true, Option.some.injEq, gs_o, gs_s, List.length_set, pk_us, Nat.reduceLT, Nat.reduceLeDiff, Nat.reduceSub, Nat.reduceEqDiff, Nat.reduceAdd, Int32.reduceLT, Int32.reduceLE, Int32.reduceAdd, Int32.reduceSub, Int32.reduceToNatClampNeg, ↓reduceIte, reduceCtorEq, Nat.lt_irrefl]
      exact call_M2 hT h13 hB ht hk hQ (x3 := sm_J)
    · have d : s_call S t = (8, S) := if_pos (Or.inr ⟨k, o⟩)
      rw [d] at hQ
      have o1 := m9.mpr (by omega)
      simp (decide := true) only [r73_0, r73_2, r73_3, r73_6, r73_7, r73_8, r73_10, r73_11, r73_12, r73_13, r73_16, r73_17, r73_18, r73_19, r73_20, r73_21, r73_24, r73_25, r73_26, r73_27, r73_30, r73_31, r73_34, r73_35, r73_36, r73_37, r73_38, r73_41, r73_42, r73_45, r73_46, r73_47, r73_48, r73_51, r73_52, r73_55, r73_56, r73_57, r73_58, r73_59, r73_62, r73_64, g65, n, m1, m2, m4, m5, m6, m7, o1, g66_w, g67_w, g68_w, v1, v2, sh59 hS_w, sh60 hS_w, sh64 hS_w, sh65 hS_w, sh66 hS_w, sh67 hS_w, sh68 hS_w, sm_wp_some, sm_wp_none, sm_at, sm_get, sm_fld, sm_pfl, sm_cN, sm_ai, sm_al, sm_si, sm_slg, sm_aa, List.getElem?_cons_zero, List.getElem?_cons_succ, List.set_cons_zero, List.set_cons_succ, List.length_cons, List.length_nil, Option.toList_some, Option.toList_none, List.cons_append, List.nil_append, if_true, if_false, true_and, and_true, Option.some.injEq, gs_o, gs_s, List.length_set, pk_us, Nat.reduceLT, Nat.reduceLeDiff, Nat.reduceSub, Nat.reduceEqDiff, Nat.reduceAdd, Int32.reduceLT, Int32.reduceLE, Int32.reduceAdd, Int32.reduceSub, Int32.reduceToNatClampNeg, ↓reduceIte, reduceCtorEq, Nat.lt_irrefl]
      exact hQ w ⟨FrM.rf w, fun h => absurd h (by omega), fun _ => hT.rf h13 h5⟩
/-! transaction (gen/mm7.py) -/
theorem tx_Me {X : sm_X} {w : sm_W} {Q : Option Value → sm_W → Prop} {S : sm_S} {T t : Nat} {x2 : Int32} {S' : sm_S} (hT : BtM T w S') (hB : TxB T S') (hs : s_sm T S S') (ht : t < S 10 1) (bG : BdG S) (hQ : ∀ w', FrM w w' → BtM T w' S' → wn w' 59 13 = -3 → Q (some (.int (if s_low S t S' = true then 10 else 0))) w') : sm_R X 71 69 [.ref 159, .int (nI t), .int x2, sm_J] [] w Q := by
  have h4 : S 10 1 ≤ 4 := bG.1
  have bt := bG.2 t ht
  have hf : S 5 t < 6 := bt.2.1
  have ht4 : t < 4 := by omega
  have v1 : sm_in (nI t) 4 = true := sm_in_nI ht4 (by decide)
  have v2 : (nI t).toNatClampNeg = t := nI_clamp (by omega)
  have hS0 := hT.1
  simp (decide := true) only [r71_69, r71_70, r71_72, sh59 hS0, sm_wp_some, sm_wp_none, sm_at, sm_get, sm_fld, sm_pfl, sm_cN, sm_ai, sm_al, sm_si, sm_slg, sm_aa, List.getElem?_cons_zero, List.getElem?_cons_succ, List.set_cons_zero, List.set_cons_succ, List.length_cons, List.length_nil, Option.toList_some, Option.toList_none, List.cons_append, List.nil_append, if_true, if_false, true_and, and_true, Option.some.injEq, gs_o, gs_s, List.length_set, pk_us, Nat.reduceLT, Nat.reduceLeDiff, Nat.reduceSub, Nat.reduceEqDiff, Nat.reduceAdd, Int32.reduceLT, Int32.reduceLE, Int32.reduceAdd, Int32.reduceSub, Int32.reduceToNatClampNeg, ↓reduceIte, reduceCtorEq, Nat.lt_irrefl]
  have T1 := hT.at (x := -3)
  have F1 : FrM w (w.set 59 (.inr (7, [.ref 160, .ref 161, .ref 162, .ref 163, .ref 164, .int (wn w 59 5), .ref 165, .ref 166, .ref 167, .ref 168, .ref 169, .ref 170, .int (wn w 59 12), .int (-3), .int (wn w 59 14), .int (wn w 59 15), .int (wn w 59 16), .int (wn w 59 17), .int (wn w 59 18), .int (wn w 59 19), .int (wn w 59 20), .ref 171, .ref 172, .ref 173, .int (wn w 59 24), .int (wn w 59 25)]))) := FrM.k59 hS0
  have n1 : wn (w.set 59 (.inr (7, [.ref 160, .ref 161, .ref 162, .ref 163, .ref 164, .int (wn w 59 5), .ref 165, .ref 166, .ref 167, .ref 168, .ref 169, .ref 170, .int (wn w 59 12), .int (-3), .int (wn w 59 14), .int (wn w 59 15), .int (wn w 59 16), .int (wn w 59 17), .int (wn w 59 18), .int (wn w 59 19), .int (wn w 59 20), .ref 171, .ref 172, .ref 173, .int (wn w 59 24), .int (wn w 59 25)]))) 59 13 = -3 := wn59_13 hS0.1
  generalize (w.set 59 (.inr (7, [.ref 160, .ref 161, .ref 162, .ref 163, .ref 164, .int (wn w 59 5), .ref 165, .ref 166, .ref 167, .ref 168, .ref 169, .ref 170, .int (wn w 59 12), .int (-3), .int (wn w 59 14), .int (wn w 59 15), .int (wn w 59 16), .int (wn w 59 17), .int (wn w 59 18), .int (wn w 59 19), .int (wn w 59 20), .ref 171, .ref 172, .ref 173, .int (wn w 59 24), .int (wn w 59 25)]))) = w1 at T1 F1 n1
  have hS := T1.1
  have hQ := hQ w1 F1 T1 n1
  have r101 : S' 10 1 = S 10 1 := hs.2.1 1 (by decide) (by decide)
  have gt := T1.2.2.2.1.2 t (by rw [r101]; exact ht)
  rw [hs.1.2.2.1, hs.1.2.2.2.1, hs.1.2.2.2.2.1, hs.1.2.2.2.2.2.1] at gt
  have g66 : wi w1 66 t = nI (S 5 t) := gt.2.1
  have g67 : wi w1 67 t = nI (S 6 t) := gt.2.2.1
  have y1 : sm_in (nI (S 5 t)) 94 = true := sm_in_nI (by omega) (by decide)
  have y2 : (nI (S 5 t)).toNatClampNeg = S 5 t := nI_clamp (by omega)
  have y3 : wl w1 60 (S 5 t) = lN (S' 0 (S 5 t)) := T1.2.1 _ (by omega)
  have bb := hB.1.1 (S 5 t) (by omega)
  have cl := cnt_le hB.1.2.1 hf
  have b1 := fun Q => least_M (X := X) (Q := Q) hS hf T1.2.1 hB.1.1 hB.1.2.1
  have c1 : lg_cmp (lN (S' 0 (S 5 t))) (lN (s_least S' (S 5 t))) < 0 ↔ S' 0 (S 5 t) < s_least S' (S 5 t) := lc_lt (by omega) (by omega)
  by_cases e : S' 0 (S 5 t) < s_least S' (S 5 t)
  · have l : s_low S t S' = true := decide_eq_true (Or.inl e)
    rw [if_pos l] at hQ
    have c2 := c1.mpr e
    simp (decide := true) only [r71_75, r71_76, r71_79, r71_80, r71_83, r71_84, r71_85, r71_86, r71_87, r71_88, r71_91, r71_92, r71_93, r71_96, r71_97, r71_134, r71_135, r71_138, r71_139, r71_140, r71_141, r71_144, r71_146, r71_149, r71_150, v1, v2, g66, y1, y2, y3, b1, c2, sh59 hS, sh60 hS, sh66 hS, sm_wp_some, sm_wp_none, sm_at, sm_get, sm_fld, sm_pfl, sm_cN, sm_ai, sm_al, sm_si, sm_slg, sm_aa, List.getElem?_cons_zero, List.getElem?_cons_succ, List.set_cons_zero, List.set_cons_succ, List.length_cons, List.length_nil, Option.toList_some, Option.toList_none, List.cons_append, List.nil_append, if_true, if_false, true_and, and_true, Option.some.injEq, gs_o, gs_s, List.length_set, hS.1, pk_us, Nat.reduceLT, Nat.reduceLeDiff, Nat.reduceSub, Nat.reduceEqDiff, Nat.reduceAdd, Int32.reduceLT, Int32.reduceLE, Int32.reduceAdd, Int32.reduceSub, Int32.reduceToNatClampNeg, ↓reduceIte, reduceCtorEq, Nat.lt_irrefl]
    exact hQ
  · have c2 : ¬ lg_cmp (lN (S' 0 (S 5 t))) (lN (s_least S' (S 5 t))) < 0 := fun q => e (c1.mp q)
    by_cases k : S 4 t = 3
    · have g65 : wi w1 65 t = -1 := by rw [gt.1, if_pos k]
      have ho : S 6 t < 6 := (bt.2.2.1 k).1
      have z1 : sm_in (nI (S 6 t)) 94 = true := sm_in_nI (by omega) (by decide)
      have z2 : (nI (S 6 t)).toNatClampNeg = S 6 t := nI_clamp (by omega)
      have z3 : wl w1 60 (S 6 t) = lN (S' 0 (S 6 t)) := T1.2.1 _ (by omega)
      have bb2 := hB.1.1 (S 6 t) (by omega)
      have cl2 := cnt_le hB.1.2.1 ho
      have b2 := fun Q => least_M (X := X) (Q := Q) hS ho T1.2.1 hB.1.1 hB.1.2.1
      have c3 : 0 ≤ lg_cmp (lN (S' 0 (S 6 t))) (lN (s_least S' (S 6 t))) ↔ s_least S' (S 6 t) ≤ S' 0 (S 6 t) := lc_ge (by omega) (by omega)
      by_cases e2 : S' 0 (S 6 t) < s_least S' (S 6 t)
      · have l : s_low S t S' = true := decide_eq_true (Or.inr ⟨k, e2⟩)
        rw [if_pos l] at hQ
        have c4 : ¬ 0 ≤ lg_cmp (lN (S' 0 (S 6 t))) (lN (s_least S' (S 6 t))) := fun q => absurd (c3.mp q) (by omega)
        simp (decide := true) only [r71_75, r71_76, r71_79, r71_80, r71_83, r71_84, r71_85, r71_86, r71_87, r71_88, r71_91, r71_92, r71_93, r71_96, r71_97, r71_100, r71_101, r71_104, r71_105, r71_106, r71_109, r71_110, r71_113, r71_114, r71_117, r71_118, r71_119, r71_120, r71_121, r71_122, r71_125, r71_126, r71_127, r71_130, r71_131, r71_134, r71_135, r71_138, r71_139, r71_140, r71_141, r71_144, r71_146, r71_149, r71_150, v1, v2, g65, g66, g67, y1, y2, y3, z1, z2, z3, b1, b2, c2, c4, sh59 hS, sh60 hS, sh65 hS, sh66 hS, sh67 hS, sm_wp_some, sm_wp_none, sm_at, sm_get, sm_fld, sm_pfl, sm_cN, sm_ai, sm_al, sm_si, sm_slg, sm_aa, List.getElem?_cons_zero, List.getElem?_cons_succ, List.set_cons_zero, List.set_cons_succ, List.length_cons, List.length_nil, Option.toList_some, Option.toList_none, List.cons_append, List.nil_append, if_true, if_false, true_and, and_true, Option.some.injEq, gs_o, gs_s, List.length_set, hS.1, pk_us, Nat.reduceLT, Nat.reduceLeDiff, Nat.reduceSub, Nat.reduceEqDiff, Nat.reduceAdd, Int32.reduceLT, Int32.reduceLE, Int32.reduceAdd, Int32.reduceSub, Int32.reduceToNatClampNeg, ↓reduceIte, reduceCtorEq, Nat.lt_irrefl]
        exact hQ
      · have l : ¬ s_low S t S' = true := fun h => by
          rcases of_decide_eq_true h with q | q
          · exact e q
          · exact e2 q.2
        rw [if_neg l] at hQ
        have c4 : 0 ≤ lg_cmp (lN (S' 0 (S 6 t))) (lN (s_least S' (S 6 t))) := c3.mpr (by omega)
        simp (decide := true) only [r71_75, r71_76, r71_79, r71_80, r71_83, r71_84, r71_85, r71_86, r71_87, r71_88, r71_91, r71_92, r71_93, r71_96, r71_97, r71_100, r71_101, r71_104, r71_105, r71_106, r71_109, r71_110, r71_113, r71_114, r71_117, r71_118, r71_119, r71_120, r71_121, r71_122, r71_125, r71_126, r71_127, r71_130, r71_131, r71_134, r71_135, r71_138, r71_139, r71_140, r71_141, r71_144, r71_146, r71_149, r71_150, v1, v2, g65, g66, g67, y1, y2, y3, z1, z2, z3, b1, b2, c2, c4, sh59 hS, sh60 hS, sh65 hS, sh66 hS, sh67 hS, sm_wp_some, sm_wp_none, sm_at, sm_get, sm_fld, sm_pfl, sm_cN, sm_ai, sm_al, sm_si, sm_slg, sm_aa, List.getElem?_cons_zero, List.getElem?_cons_succ, List.set_cons_zero, List.set_cons_succ, List.length_cons, List.length_nil, Option.toList_some, Option.toList_none, List.cons_append, List.nil_append, if_true, if_false, true_and, and_true, Option.some.injEq, gs_o, gs_s, List.length_set, hS.1, pk_us, Nat.reduceLT, Nat.reduceLeDiff, Nat.reduceSub, Nat.reduceEqDiff, Nat.reduceAdd, Int32.reduceLT, Int32.reduceLE, Int32.reduceAdd, Int32.reduceSub, Int32.reduceToNatClampNeg, ↓reduceIte, reduceCtorEq, Nat.lt_irrefl]
        exact hQ
    · have g65 : wi w1 65 t = nI (S 4 t) := by rw [gt.1, if_neg k]
      have k3 : S 4 t ≤ 3 := bt.1
      have c5 : 0 ≤ nI (S 4 t) := nI_le (a := 0) (Nat.zero_le _) (by omega)
      have l : ¬ s_low S t S' = true := fun h => by
        rcases of_decide_eq_true h with q | q
        · exact e q
        · exact k q.1
      rw [if_neg l] at hQ
      simp (decide := true) only [r71_75, r71_76, r71_79, r71_80, r71_83, r71_84, r71_85, r71_86, r71_87, r71_88, r71_91, r71_92, r71_93, r71_96, r71_97, r71_100, r71_101, r71_104, r71_105, r71_106, r71_109, r71_110, r71_113, r71_114, r71_117, r71_118, r71_119, r71_120, r71_121, r71_122, r71_125, r71_126, r71_127, r71_130, r71_131, r71_134, r71_135, r71_138, r71_139, r71_140, r71_141, r71_144, r71_146, r71_149, r71_150, v1, v2, g65, g66, y1, y2, y3, b1, c2, c5, sh59 hS, sh60 hS, sh65 hS, sh66 hS, sh67 hS, sm_wp_some, sm_wp_none, sm_at, sm_get, sm_fld, sm_pfl, sm_cN, sm_ai, sm_al, sm_si, sm_slg, sm_aa, List.getElem?_cons_zero, List.getElem?_cons_succ, List.set_cons_zero, List.set_cons_succ, List.length_cons, List.length_nil, Option.toList_some, Option.toList_none, List.cons_append, List.nil_append, if_true, if_false, true_and, and_true, Option.some.injEq, gs_o, gs_s, List.length_set, hS.1, pk_us, Nat.reduceLT, Nat.reduceLeDiff, Nat.reduceSub, Nat.reduceEqDiff, Nat.reduceAdd, Int32.reduceLT, Int32.reduceLE, Int32.reduceAdd, Int32.reduceSub, Int32.reduceToNatClampNeg, ↓reduceIte, reduceCtorEq, Nat.lt_irrefl]
      exact hQ
theorem tx_M {X : sm_X} {w : sm_W} {Q : Option Value → sm_W → Prop} {S : sm_S} {T t : Nat} (hT : BtM T w S) (hB : TxB T S) (ht : t < S 10 1) (hQ : ∀ w', AtM T w w' (s_tx S t) → Q (some (.int (nI (s_tx S t).1))) w') : sm_R X 71 0 [.ref 159, .int (nI t), sm_J, sm_J] [] w Q := by
  have h4 : S 10 1 ≤ 4 := hB.2.2.1.1
  have h5 := hB.2.2.2.2.2.2.2.2.2.2
  have bt := hB.2.2.1.2 t ht
  have hf : S 5 t < 6 := bt.2.1
  have ht4 : t < 4 := by omega
  have v1 : sm_in (nI t) 4 = true := sm_in_nI ht4 (by decide)
  have v2 : (nI t).toNatClampNeg = t := nI_clamp (by omega)
  have hS0 := hT.1
  simp (decide := true) only [r71_0, r71_1, r71_3, sh59 hS0, sm_wp_some, sm_wp_none, sm_at, sm_get, sm_fld, sm_pfl, sm_cN, sm_ai, sm_al, sm_si, sm_slg, sm_aa, List.getElem?_cons_zero, List.getElem?_cons_succ, List.set_cons_zero, List.set_cons_succ, List.length_cons, List.length_nil, Option.toList_some, Option.toList_none, List.cons_append, List.nil_append, if_true, if_false, true_and, and_true, Option.some.injEq, gs_o, gs_s, List.length_set, pk_us, Nat.reduceLT, Nat.reduceLeDiff, Nat.reduceSub, Nat.reduceEqDiff, Nat.reduceAdd, Int32.reduceLT, Int32.reduceLE, Int32.reduceAdd, Int32.reduceSub, Int32.reduceToNatClampNeg, ↓reduceIte, reduceCtorEq, Nat.lt_irrefl]
  have T1 := hT.at (x := -3)
  have F1 : FrM w (w.set 59 (.inr (7, [.ref 160, .ref 161, .ref 162, .ref 163, .ref 164, .int (wn w 59 5), .ref 165, .ref 166, .ref 167, .ref 168, .ref 169, .ref 170, .int (wn w 59 12), .int (-3), .int (wn w 59 14), .int (wn w 59 15), .int (wn w 59 16), .int (wn w 59 17), .int (wn w 59 18), .int (wn w 59 19), .int (wn w 59 20), .ref 171, .ref 172, .ref 173, .int (wn w 59 24), .int (wn w 59 25)]))) := FrM.k59 hS0
  have n1 : wn (w.set 59 (.inr (7, [.ref 160, .ref 161, .ref 162, .ref 163, .ref 164, .int (wn w 59 5), .ref 165, .ref 166, .ref 167, .ref 168, .ref 169, .ref 170, .int (wn w 59 12), .int (-3), .int (wn w 59 14), .int (wn w 59 15), .int (wn w 59 16), .int (wn w 59 17), .int (wn w 59 18), .int (wn w 59 19), .int (wn w 59 20), .ref 171, .ref 172, .ref 173, .int (wn w 59 24), .int (wn w 59 25)]))) 59 13 = -3 := wn59_13 hS0.1
  generalize (w.set 59 (.inr (7, [.ref 160, .ref 161, .ref 162, .ref 163, .ref 164, .int (wn w 59 5), .ref 165, .ref 166, .ref 167, .ref 168, .ref 169, .ref 170, .int (wn w 59 12), .int (-3), .int (wn w 59 14), .int (wn w 59 15), .int (wn w 59 16), .int (wn w 59 17), .int (wn w 59 18), .int (wn w 59 19), .int (wn w 59 20), .ref 171, .ref 172, .ref 173, .int (wn w 59 24), .int (wn w 59 25)]))) = w1 at T1 F1 n1
  have hS := T1.1
  have gt := T1.2.2.2.1.2 t ht
  have g66 : wi w1 66 t = nI (S 5 t) := gt.2.1
  have y1 : sm_in (nI (S 5 t)) 94 = true := sm_in_nI (by omega) (by decide)
  have y2 : (nI (S 5 t)).toNatClampNeg = S 5 t := nI_clamp (by omega)
  have y3 : wl w1 60 (S 5 t) = lN (S 0 (S 5 t)) := T1.2.1 _ (by omega)
  have b5 := hB.1.1 (S 5 t) (by omega)
  have c0 : 0 ≤ lg_cmp (lN (S 0 (S 5 t))) 1 ↔ 1 ≤ S 0 (S 5 t) := lc_ge (b := 1) (by omega) (by decide)
  by_cases e : S 0 (S 5 t) < 1
  · have d : s_tx S t = (6, S) := if_pos e
    rw [d] at hQ
    have x1 : ¬ 0 ≤ lg_cmp (lN (S 0 (S 5 t))) 1 := fun q => absurd (c0.mp q) (by omega)
    simp (decide := true) only [r71_6, r71_7, r71_10, r71_11, r71_14, r71_15, r71_16, r71_17, r71_18, r71_19, r71_22, r71_24, g66, v1, v2, y1, y2, y3, x1, sh59 hS, sh60 hS, sh66 hS, sm_wp_some, sm_wp_none, sm_at, sm_get, sm_fld, sm_pfl, sm_cN, sm_ai, sm_al, sm_si, sm_slg, sm_aa, List.getElem?_cons_zero, List.getElem?_cons_succ, List.set_cons_zero, List.set_cons_succ, List.length_cons, List.length_nil, Option.toList_some, Option.toList_none, List.cons_append, List.nil_append, if_true, if_false, true_and, and_true, Option.some.injEq, gs_o, gs_s, List.length_set, hS.1, pk_us, Nat.reduceLT, Nat.reduceLeDiff, Nat.reduceSub, Nat.reduceEqDiff, Nat.reduceAdd, Int32.reduceLT, Int32.reduceLE, Int32.reduceAdd, Int32.reduceSub, Int32.reduceToNatClampNeg, ↓reduceIte, reduceCtorEq, Nat.lt_irrefl]
    exact hQ w1 ⟨F1, fun h => absurd h (by omega), fun _ => T1.rf n1 h5⟩
  · have x1 : 0 ≤ lg_cmp (lN (S 0 (S 5 t))) 1 := c0.mpr (by omega)
    have x2 : lN (S 0 (S 5 t)) - 1 = lN (S 0 (S 5 t) - 1) := q_sub (b := 1) (by omega)
    simp (decide := true) only [r71_6, r71_7, r71_10, r71_11, r71_14, r71_15, r71_16, r71_17, r71_18, r71_19, r71_25, r71_26, r71_29, r71_30, r71_33, r71_34, r71_35, r71_36, r71_37, r71_38, r71_39, g66, v1, v2, y1, y2, y3, x1, x2, sh59 hS, sh60 hS, sh66 hS, sm_wp_some, sm_wp_none, sm_at, sm_get, sm_fld, sm_pfl, sm_cN, sm_ai, sm_al, sm_si, sm_slg, sm_aa, List.getElem?_cons_zero, List.getElem?_cons_succ, List.set_cons_zero, List.set_cons_succ, List.length_cons, List.length_nil, Option.toList_some, Option.toList_none, List.cons_append, List.nil_append, if_true, if_false, true_and, and_true, Option.some.injEq, gs_o, gs_s, List.length_set, hS.1, pk_us, Nat.reduceLT, Nat.reduceLeDiff, Nat.reduceSub, Nat.reduceEqDiff, Nat.reduceAdd, Int32.reduceLT, Int32.reduceLE, Int32.reduceAdd, Int32.reduceSub, Int32.reduceToNatClampNeg, ↓reduceIte, reduceCtorEq, Nat.lt_irrefl]
    have T2 : BtM T _ (s_fee S t) := T1.now (j := S 5 t) (v := S 0 (S 5 t) - 1) rfl
    have F2 : FrM w1 (w1.set 60 (.inl (1, 94, .inr (.inl (vp_updL (wl w1 60) (S 5 t) (lN (S 0 (S 5 t) - 1))))))) := FrM.set (by decide)
    have n2 : wn (w1.set 60 (.inl (1, 94, .inr (.inl (vp_updL (wl w1 60) (S 5 t) (lN (S 0 (S 5 t) - 1))))))) 59 13 = -3 := by rw [wn_o (by decide)]; exact n1
    have hB1 := hB.fee ht
    have d : s_tx S t = if (s_body S t).1 ≠ 0 then s_body S t else if s_low S t (s_body S t).2 = true then (10, (s_body S t).2) else (0, (s_body S t).2) := if_neg e
    rw [d] at hQ
    obtain ⟨c1, c2, c3, c4⟩ := s_body_B hB ht
    generalize (w1.set 60 (.inl (1, 94, .inr (.inl (vp_updL (wl w1 60) (S 5 t) (lN (S 0 (S 5 t) - 1))))))) = w2 at T2 F2 n2
    have hS2 := T2.1
    have gt2 := T2.2.2.2.1.2 t ht
    have fin : ∀ w', AtM T w2 w' (s_body S t) → sm_R X 71 62 [.ref 159, .int (nI t), sm_J, sm_J] [.int (nI (s_body S t).1)] w' Q := by
      intro w' hA
      obtain ⟨a1, a2, a3⟩ := hA
      by_cases f : (s_body S t).1 = 0
      · rw [if_neg (fun h => h f)] at hQ
        have n0 : nI (s_body S t).1 = 0 := by rw [f]; rfl
        simp (decide := true) only [r71_62, r71_63, r71_64, n0, if_true]
        refine tx_Me (a2 f).1 (c4 f) c1 ht hB.2.2.1 (fun w'' b1 b2 b3 => ?_)
        by_cases l : s_low S t (s_body S t).2 = true
        · rw [if_pos l] at hQ ⊢
          exact hQ w'' ⟨((F1.tr F2).tr a1).tr b1, fun h => absurd h (by omega), fun _ => b2.rf b3 (c4 f).2.2.2.2.2.2.2.2.2.2⟩
        · rw [if_neg l] at hQ ⊢
          exact hQ w'' ⟨((F1.tr F2).tr a1).tr b1, fun _ => ⟨b2, b3⟩, fun h => absurd rfl h⟩
      · rw [if_pos f] at hQ
        have n0 : ¬ nI (s_body S t).1 ≤ 0 := nI_ge (a := 0) (by omega) (by omega)
        simp (decide := true) only [r71_62, r71_63, r71_64, r71_67, r71_68, n0, if_false]
        exact hQ w' ⟨(F1.tr F2).tr a1, fun h => absurd h f, fun _ => a3 f⟩
    by_cases k : S 4 t = 3
    · have g65 : wi w2 65 t = -1 := by
        rw [gt2.1]
        exact if_pos k
      have db : s_body S t = s_pay (s_fee S t) t := if_pos k
      simp (decide := true) only [r71_40, r71_41, r71_44, r71_45, r71_46, r71_49, r71_50, r71_51, v1, v2, g65, sh59 hS2, sh65 hS2, sm_wp_some, sm_wp_none, sm_at, sm_get, sm_fld, sm_pfl, sm_cN, sm_ai, sm_al, sm_si, sm_slg, sm_aa, List.getElem?_cons_zero, List.getElem?_cons_succ, List.set_cons_zero, List.set_cons_succ, List.length_cons, List.length_nil, Option.toList_some, Option.toList_none, List.cons_append, List.nil_append, if_true, if_false, true_and, and_true, Option.some.injEq, gs_o, gs_s, List.length_set, pk_us, Nat.reduceLT, Nat.reduceLeDiff, Nat.reduceSub, Nat.reduceEqDiff, Nat.reduceAdd, Int32.reduceLT, Int32.reduceLE, Int32.reduceAdd, Int32.reduceSub, Int32.reduceToNatClampNeg, ↓reduceIte, reduceCtorEq, Nat.lt_irrefl]
      refine pay_M T2 n2 hB1 ht k (fun w' hA => ?_)
      rw [← db] at hA ⊢
      simp (decide := true) only [r71_54, Option.toList_some, List.cons_append, List.nil_append]
      exact fin w' hA
    · have g65 : wi w2 65 t = nI (S 4 t) := by
        rw [gt2.1]
        exact if_neg k
      have k3 : S 4 t ≤ 3 := bt.1
      have c5 : 0 ≤ nI (S 4 t) := nI_le (a := 0) (Nat.zero_le _) (by omega)
      have db : s_body S t = s_call (s_fee S t) t := if_neg k
      simp (decide := true) only [r71_40, r71_41, r71_44, r71_45, r71_46, r71_57, r71_58, r71_59, v1, v2, g65, c5, sh59 hS2, sh65 hS2, sm_wp_some, sm_wp_none, sm_at, sm_get, sm_fld, sm_pfl, sm_cN, sm_ai, sm_al, sm_si, sm_slg, sm_aa, List.getElem?_cons_zero, List.getElem?_cons_succ, List.set_cons_zero, List.set_cons_succ, List.length_cons, List.length_nil, Option.toList_some, Option.toList_none, List.cons_append, List.nil_append, if_true, if_false, true_and, and_true, Option.some.injEq, gs_o, gs_s, List.length_set, pk_us, Nat.reduceLT, Nat.reduceLeDiff, Nat.reduceSub, Nat.reduceEqDiff, Nat.reduceAdd, Int32.reduceLT, Int32.reduceLE, Int32.reduceAdd, Int32.reduceSub, Int32.reduceToNatClampNeg, ↓reduceIte, reduceCtorEq, Nat.lt_irrefl]
      refine call_M T2 n2 hB1 ht k (fun w' hA => ?_)
      rw [← db] at hA ⊢
      exact fin w' hA
