/-! ===== signs against the reference's numbers; rules kept and lengthened ===== -/
def cNw (w : List Nat) : Nat := if decide (w = ltr "$eq") = true then 1 else if decide (w = ltr "$ne") = true then 2 else if decide (w = ltr "$in") = true then 3 else if decide (w = ltr "$nin") = true then 4 else if decide (w = ltr "$lt") = true then 5 else if decide (w = ltr "$lte") = true then 6 else if decide (w = ltr "$gt") = true then 7 else if decide (w = ltr "$gte") = true then 8 else if decide (w = ltr "$exists") = true then 9 else if decide (w = ltr "$size") = true then 10 else if decide (w = ltr "$elem") = true then 11 else if decide (w = ltr "$not") = true then 12 else 0
def sgX (n : Nat) (k10 : Bool) (el : Nat) : Nat := if n < 3 then 5 else if n < 5 then 6 else if n = 5 then 7 else if n = 6 then (if k10 = true then 5 else 8) else if n = 7 then 9 else if n = 8 then (if k10 = true then 5 else 10) else if n = 9 then 11 else if n = 10 then 12 else if n = 11 then el else 15
theorem sg_w (w : List Nat) (el : Nat) (k10 z : Bool) : (cNw w ≠ 0 → cS1 w el k10 = sgX (cNw w) k10 el) ∧ (cNw w = 0 → cS1 w el k10 = 0) ∧ nS1 w z = (if cNw w = 9 then z else decide (cNw w = 2 ∨ cNw w = 4 ∨ cNw w = 12)) := by
  by_cases h0 : w = ltr "$eq"
  · subst h0
    exact ⟨fun _ => rfl, fun q => absurd q (by decide), rfl⟩
  by_cases h1 : w = ltr "$ne"
  · subst h1
    exact ⟨fun _ => rfl, fun q => absurd q (by decide), rfl⟩
  by_cases h2 : w = ltr "$in"
  · subst h2
    exact ⟨fun _ => rfl, fun q => absurd q (by decide), rfl⟩
  by_cases h3 : w = ltr "$nin"
  · subst h3
    exact ⟨fun _ => rfl, fun q => absurd q (by decide), rfl⟩
  by_cases h4 : w = ltr "$lt"
  · subst h4
    exact ⟨fun _ => rfl, fun q => absurd q (by decide), rfl⟩
  by_cases h5 : w = ltr "$lte"
  · subst h5
    exact ⟨fun _ => rfl, fun q => absurd q (by decide), rfl⟩
  by_cases h6 : w = ltr "$gt"
  · subst h6
    exact ⟨fun _ => rfl, fun q => absurd q (by decide), rfl⟩
  by_cases h7 : w = ltr "$gte"
  · subst h7
    exact ⟨fun _ => rfl, fun q => absurd q (by decide), rfl⟩
  by_cases h8 : w = ltr "$exists"
  · subst h8
    exact ⟨fun _ => rfl, fun q => absurd q (by decide), rfl⟩
  by_cases h9 : w = ltr "$size"
  · subst h9
    exact ⟨fun _ => rfl, fun q => absurd q (by decide), rfl⟩
  by_cases h10 : w = ltr "$elem"
  · subst h10
    exact ⟨fun _ => rfl, fun q => absurd q (by decide), rfl⟩
  by_cases h11 : w = ltr "$not"
  · subst h11
    exact ⟨fun _ => rfl, fun q => absurd q (by decide), rfl⟩
  have e : cNw w = 0 := by
    unfold cNw
    rw [decide_eq_false h0, decide_eq_false h1, decide_eq_false h2, decide_eq_false h3, decide_eq_false h4, decide_eq_false h5, decide_eq_false h6, decide_eq_false h7, decide_eq_false h8, decide_eq_false h9, decide_eq_false h10, decide_eq_false h11]
    rfl
  refine ⟨fun q => absurd e q, fun _ => ?_, ?_⟩
  · unfold cS1 oS1
    rw [decide_eq_false h0, decide_eq_false h1, decide_eq_false h2, decide_eq_false h3, decide_eq_false h8, decide_eq_false h9, decide_eq_false h10, decide_eq_false h11, decide_eq_false h4, decide_eq_false h6, decide_eq_false h5, decide_eq_false h7]
    rfl
  · rw [e]
    unfold nS1
    rw [decide_eq_false h8, decide_eq_false h1, decide_eq_false h3, decide_eq_false h11]
    rfl
theorem coN_w {f : Nat → Nat} {e : Nat} (hz : f (ne f e) = 0) : coN f e = cNw (nL f e) := coN_dec hz
theorem csG_0 {f : Nat → Nat} {c : Nat} (hz : f (ne f c) = 0) (h : coN f c = 0) : csG f c = 0 := by
  rw [coN_w hz] at h
  exact (sg_w (nL f c) _ _ true).2.1 h
theorem csG_n {f : Nat → Nat} {c : Nat} (hz : f (ne f c) = 0) (h : coN f c ≠ 0) : csG f c = sgX (coN f c) (decide (f c = 10)) (eS1 f (f c) (vo f c)) := by
  rw [coN_w hz] at h ⊢
  exact (sg_w (nL f c) _ _ true).1 h
theorem csG_ne {f : Nat → Nat} {c : Nat} (hz : f (ne f c) = 0) (h : coN f c ≠ 0) : csG f c ≠ 0 := by
  rw [csG_n hz h]
  unfold sgX eS1
  (repeat' split) <;> decide
theorem eS1_or (f : Nat → Nat) (k a : Nat) : eS1 f k a = 13 ∨ eS1 f k a = 14 := by
  unfold eS1
  split
  · exact Or.inl rfl
  · exact Or.inr rfl
theorem vS1_o {f : Nat → Nat} {S k a : Nat} (h : S ≠ 6 ∧ S ≠ 11 ∧ S ≠ 12 ∧ S ≠ 13 ∧ S ≠ 14 ∧ S ≠ 15) : vS1 f S k a = true := by
  unfold vS1
  rw [if_neg h.1, if_neg h.2.1, if_neg h.2.2.1, if_neg h.2.2.2.1, if_neg h.2.2.2.2.1, if_neg h.2.2.2.2.2]
theorem isR_o {f : Nat → Nat} {n k a : Nat} (h : n ≠ 3 ∧ n ≠ 4 ∧ n ≠ 9 ∧ n ≠ 10 ∧ n ≠ 11 ∧ n ≠ 12) : isR f n k a = true := by
  unfold isR
  rw [if_neg (by omega), if_neg h.2.2.1, if_neg h.2.2.2.1, if_neg h.2.2.2.2.1, if_neg h.2.2.2.2.2]
theorem isR_x34 {f : Nat → Nat} {n k a : Nat} (h : n = 3 ∨ n = 4) : isR f n k a = decide (k = 4) := by
  unfold isR; rw [if_pos h]
theorem isR_x9 {f : Nat → Nat} {k a : Nat} : isR f 9 k a = decide (k = 8) := by
  unfold isR; rw [if_neg (by decide), if_pos rfl]
theorem isR_x10 {f : Nat → Nat} {k a : Nat} : isR f 10 k a = (decide (k = 16 ∨ k = 18) && decide (0 ≤ nuM f k a)) := by
  unfold isR; rw [if_neg (by decide), if_neg (by decide), if_pos rfl]
theorem isR_x11 {f : Nat → Nat} {k a : Nat} : isR f 11 k a = decide (k = 3) := by
  unfold isR; rw [if_neg (by decide), if_neg (by decide), if_neg (by decide), if_pos rfl]
theorem isR_x12 {f : Nat → Nat} {k a : Nat} : isR f 12 k a = isC f k a := by
  unfold isR; rw [if_neg (by decide), if_neg (by decide), if_neg (by decide), if_neg (by decide), if_pos rfl]
theorem vS1_6 {f : Nat → Nat} {k a : Nat} : vS1 f 6 k a = decide (k = 4) := by unfold vS1; rw [if_pos rfl]
theorem vS1_11 {f : Nat → Nat} {k a : Nat} : vS1 f 11 k a = decide (k = 8) := by unfold vS1; rw [if_neg (by decide), if_pos rfl]
theorem vS1_12 {f : Nat → Nat} {k a : Nat} : vS1 f 12 k a = (decide (clO k = 2) && decide (0 ≤ numv f k a)) := by unfold vS1; rw [if_neg (by decide), if_neg (by decide), if_pos rfl]
theorem vS1_15 {f : Nat → Nat} {k a : Nat} : vS1 f 15 k a = isC f k a := by unfold vS1; rw [if_neg (by decide), if_neg (by decide), if_neg (by decide), if_neg (by decide), if_neg (by decide), if_pos rfl]
theorem clO_num {k : Nat} : clO k = 2 ↔ (k = 16 ∨ k = 18) := by
  constructor
  · intro h
    have := clO_2 h
    omega
  · intro h
    rcases h with h | h <;> subst h <;> rfl
theorem csG_R {f : Nat → Nat} {c : Nat} (hz : f (ne f c) = 0) (h : coN f c ≠ 0) : vS1 f (csG f c) (f c) (vo f c) = isR f (coN f c) (f c) (vo f c) := by
  rw [csG_n hz h]
  have hlt := coN_lt f c
  generalize coN f c = n at h hlt ⊢
  generalize hel : eS1 f (f c) (vo f c) = el
  have hel2 := eS1_or f (f c) (vo f c)
  rw [hel] at hel2
  generalize f c = k
  generalize vo f c = a
  generalize decide (k = 10) = b
  unfold sgX
  by_cases a1 : n < 3
  · rw [if_pos a1, vS1_o (by decide), isR_o (by omega)]
  rw [if_neg a1]
  by_cases a2 : n < 5
  · rw [if_pos a2, vS1_6, isR_x34 (by omega)]
  rw [if_neg a2]
  by_cases a3 : n = 5
  · rw [if_pos a3, vS1_o (by decide), isR_o (by omega)]
  rw [if_neg a3]
  by_cases a4 : n = 6
  · rw [if_pos a4, isR_o (by omega)]
    cases b
    · exact vS1_o (by decide)
    · exact vS1_o (by decide)
  rw [if_neg a4]
  by_cases a5 : n = 7
  · rw [if_pos a5, vS1_o (by decide), isR_o (by omega)]
  rw [if_neg a5]
  by_cases a6 : n = 8
  · rw [if_pos a6, isR_o (by omega)]
    cases b
    · exact vS1_o (by decide)
    · exact vS1_o (by decide)
  rw [if_neg a6]
  by_cases a7 : n = 9
  · rw [if_pos a7, a7, vS1_11, isR_x9]
  rw [if_neg a7]
  by_cases a8 : n = 10
  · rw [if_pos a8, a8, vS1_12, isR_x10]
    by_cases z : k = 16 ∨ k = 18
    · have e1 := clO_num.mpr z
      rw [decide_eq_true e1, decide_eq_true z, numv_n (Or.inl e1)]
    · rw [decide_eq_false (fun y => z (clO_num.mp y)), decide_eq_false z, Bool.false_and, Bool.false_and]
  rw [if_neg a8]
  by_cases a9 : n = 11
  · rw [if_pos a9, a9, isR_x11, vS1_e hel2]
  · rw [if_neg a9, show n = 12 by omega, vS1_15, isR_x12]
theorem csG_s {f : Nat → Nat} {c : Nat} (hz : f (ne f c) = 0) (h : coN f c ≠ 0) (hR : isR f (coN f c) (f c) (vo f c) = true) : csG f c = sgN f c := by
  rw [csG_n hz h]
  have hlt := coN_lt f c
  have h11 : coN f c = 11 → f c = 3 := fun q => isR_11 hR q
  unfold sgN sgX
  by_cases a1 : coN f c < 3
  · rw [if_pos a1, if_pos a1]
  rw [if_neg a1, if_neg a1]
  by_cases a2 : coN f c < 5
  · rw [if_pos a2, if_pos a2]
  rw [if_neg a2, if_neg a2]
  by_cases a3 : coN f c = 5
  · rw [if_pos a3, if_pos a3]
  rw [if_neg a3, if_neg a3]
  by_cases a4 : coN f c = 6
  · rw [if_pos a4, if_pos a4]
    by_cases y : f c = 10
    · rw [if_pos (decide_eq_true y), if_pos y]
    · rw [if_neg (by rw [decide_eq_false y]; decide), if_neg y]
  rw [if_neg a4, if_neg a4]
  by_cases a5 : coN f c = 7
  · rw [if_pos a5, if_pos a5]
  rw [if_neg a5, if_neg a5]
  by_cases a6 : coN f c = 8
  · rw [if_pos a6, if_pos a6]
    by_cases y : f c = 10
    · rw [if_pos (decide_eq_true y), if_pos y]
    · rw [if_neg (by rw [decide_eq_false y]; decide), if_neg y]
  rw [if_neg a6, if_neg a6]
  by_cases a7 : coN f c = 9
  · rw [if_pos a7, if_pos a7]
  rw [if_neg a7, if_neg a7]
  by_cases a8 : coN f c = 10
  · rw [if_pos a8, if_pos a8]
  rw [if_neg a8, if_neg a8]
  by_cases a9 : coN f c = 11
  · rw [if_pos a9, if_pos a9]
    unfold eS1
    rw [decide_eq_true (h11 a9), Bool.true_and]
  · rw [if_neg a9, if_neg a9]
theorem csG_ng {f : Nat → Nat} {c : Nat} (hz : f (ne f c) = 0) (h8 : ∀ i, f i < 256) (h : coN f c ≠ 0) (hR : isR f (coN f c) (f c) (vo f c) = true) : nS1 (nL f c) (decide (numv f (f c) (vo f c) = 0)) = ngN f c := by
  rw [(sg_w (nL f c) 0 true _).2.2, ← coN_w hz]
  unfold ngN
  by_cases a : coN f c = 9
  · have k8 := isR_9 hR a
    rw [if_pos a]
    have e : numv f (f c) (vo f c) = lN (f (vo f c)) := by
      unfold numv nuM
      rw [k8]; rfl
    rw [e]
    congr 1
    have hl := lN_eq0 (a := f (vo f c)) (Nat.lt_trans (h8 _) (by decide))
    apply propext
    constructor
    · intro q; exact Or.inr (Or.inr (Or.inr ⟨a, hl.mp q⟩))
    · intro q
      rcases q with q | q | q | q
      · omega
      · omega
      · omega
      · exact hl.mpr q.2
  · rw [if_neg a]
    congr 1
    apply propext
    constructor
    · intro q; omega
    · intro q; omega
