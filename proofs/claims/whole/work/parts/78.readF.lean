/-! ===== a whole document ===== -/
theorem dcB_b {f : Nat → Nat} {n : Nat} : dcB f 0 n = (bOK f 0 3 0 n && decide (wh f 0 = n)) := by
  unfold dcB
  by_cases h : 5 ≤ wh f 0 ∧ wh f 0 = n
  · have ho : opF f 0 n 0 = 0 := by
      unfold opF
      rw [if_neg (by omega), if_neg (by omega), if_neg (by omega), if_neg (by decide)]
    have hb := bOK_pe (f := f) (dep := 0) (k := 3) (a := 0) (last := n) ⟨h.1, by omega, by decide⟩
    rw [decide_eq_true ho, hb, decide_eq_true h.2, Bool.true_and, Bool.and_true]
    unfold PE
    rw [h.2, pE_more n 1 (0 + 4) (0 + n - 1) false 0 [] (by omega) (by omega) (0 + n - 1 - (0 + 4) + 1) (by omega)]
    rfl
  · have ho : ¬ opF f 0 n 0 = 0 := fun z => by
      have := opF_0 z
      exact h ⟨this.2.1, this.2.2.2.2 rfl⟩
    rw [decide_eq_false ho, Bool.false_and]
    symm
    by_cases hw : wh f 0 = n
    · rw [bOK_no (by omega)]; rfl
    · rw [decide_eq_false hw, Bool.and_false]
