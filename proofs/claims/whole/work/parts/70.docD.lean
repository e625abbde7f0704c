/-! ===== the class's reader of documents: words ===== -/
theorem utf_ok {f : Nat → Nat} {a to : Nat} (h : to ≤ 2000) : uS f (to - a + 1) a to 0 0 0 = decide (bd f a to < 0) := by
  unfold bd
  exact uS_bd (by omega) _ _ _ _ (by omega)
theorem dc_step {w : List Nat} {v i j r : Nat} (hm : ∀ m, m < j → w.getD (w.length - 1 - m) 0 = 48 + v / 10 ^ m % 10) (hl : i + 1 + j = w.length) (hc : w.getD i 0 = 48 + r % 10) (hr : r = v / 10 ^ j) : ∀ m, m < j + 1 → w.getD (w.length - 1 - m) 0 = 48 + v / 10 ^ m % 10 := by
  intro m h
  by_cases z : m < j
  · exact hm m z
  · have e : m = j := by omega
    subst e
    rw [show w.length - 1 - m = i by omega, hc, hr]
