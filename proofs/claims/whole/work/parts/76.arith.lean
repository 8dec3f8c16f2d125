/-! SMALL REASONING on numbers -/
theorem ob_bit {f : Nat → Nat} (h : ∀ i, i < 4 → f i ≤ 1) {p : Nat} (hp : p < 4) : (nI (f 0 + 2 * f 1 + 4 * f 2 + 8 * f 3) &&& 1 <<< (nI p &&& 31) = 0) ↔ f p = 0 := by
  have h0 := h 0 (by decide)
  have h1 := h 1 (by decide)
  have h2 := h 2 (by decide)
  have h3 := h 3 (by decide)
  have c0 : f 0 = 0 ∨ f 0 = 1 := by omega
  have c1 : f 1 = 0 ∨ f 1 = 1 := by omega
  have c2 : f 2 = 0 ∨ f 2 = 1 := by omega
  have c3 : f 3 = 0 ∨ f 3 = 1 := by omega
  match p, hp with
  | 0, _ => rcases c0 with e0 | e0 <;> rcases c1 with e1 | e1 <;> rcases c2 with e2 | e2 <;> rcases c3 with e3 | e3 <;> rw [e0, e1, e2, e3] <;> decide
  | 1, _ => rcases c0 with e0 | e0 <;> rcases c1 with e1 | e1 <;> rcases c2 with e2 | e2 <;> rcases c3 with e3 | e3 <;> rw [e0, e1, e2, e3] <;> decide
  | 2, _ => rcases c0 with e0 | e0 <;> rcases c1 with e1 | e1 <;> rcases c2 with e2 | e2 <;> rcases c3 with e3 | e3 <;> rw [e0, e1, e2, e3] <;> decide
  | 3, _ => rcases c0 with e0 | e0 <;> rcases c1 with e1 | e1 <;> rcases c2 with e2 | e2 <;> rcases c3 with e3 | e3 <;> rw [e0, e1, e2, e3] <;> decide
theorem ti_ne {x k : Int32} (h : ¬ x = k) : ¬ x.toInt = k.toInt := fun e => h (Int32.toInt_inj.mp e)
theorem nI_z {a : Nat} (h : a < 2 ^ 31) : nI a = 0 ↔ a = 0 := nI_eq (b := 0) h (by decide)
