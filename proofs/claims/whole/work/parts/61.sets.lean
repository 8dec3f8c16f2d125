theorem gs_o {w : sm_W} {i j : Nat} {c : sm_C} (h : ¬ i = j) : (w.set i c)[j]? = w[j]? := List.getElem?_set_ne h
theorem gs_s {w : sm_W} {i : Nat} {c : sm_C} (h : i < w.length) : (w.set i c)[i]? = some c := List.getElem?_set_self h
theorem sm_in_nI {j n : Nat} (h : j < n) (hn : n < 2 ^ 31) : sm_in (nI j) n = true := by
  unfold sm_in
  exact decide_eq_true (nI_in h hn)
theorem i_zr (f : Nat → Option Nat) (k j : Nat) : va_up f k (some j) k = some j := va_up_self f k _
