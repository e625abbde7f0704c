/-! ===== what the class's matcher asks of leaves ===== -/
def oS (sg : Nat) (o : Ordering) : Bool := if sg = 5 then decide (o = .eq) else if sg = 7 then decide (o = .lt) else if sg = 8 then decide (o ≠ .gt) else if sg = 9 then decide (o = .gt) else decide (o ≠ .lt)
noncomputable def cmS (f : Nat → Nat) (sg k a k2 b : Nat) : Bool := if clO k = clO k2 then oS sg (ord f 16 k a k2 b) else decide (sg = 5 ∧ k = 0 ∧ k2 = 10)
noncomputable def pwI (f : Nat → Nat) (sg k a k2 b : Nat) : Bool := cmS f sg k a k2 b || (decide (k = 4) && (els f a).any (fun x => cmS f sg (f x) (vo f x) k2 b))
theorem clO_ok {k : Nat} (h : okK k = true) : clO k ≠ 0 := by
  have := okK_8 h
  unfold clO
  (repeat' split) <;> omega
theorem ord_ne {f : Nat → Nat} {d k a k2 b : Nat} (h : clO k ≠ clO k2) : ord f d k a k2 b ≠ .eq := by
  rw [ord_n (fun z => h (cNa_eq.mp z))]
  exact fun z => h (cNa_eq.mp z)
theorem cmS_eq {f : Nat → Nat} {k a k2 b : Nat} (h : k ≠ 0) : cmS f 5 k a k2 b = decide (ord f 16 k a k2 b = .eq) := by
  unfold cmS
  by_cases z : clO k = clO k2
  · rw [if_pos z]; rfl
  · rw [if_neg z, decide_eq_false (fun q => h q.2.1), decide_eq_false (ord_ne z)]
theorem pwI_eq {f : Nat → Nat} {k a k2 b : Nat} (h2 : okK k2 = true) (hx : k = 4 → ∀ x ∈ els f a, f x ≠ 0) : pwI f 5 k a k2 b = isE f 16 k a k2 b := by
  unfold pwI isE
  by_cases z : k = 0
  · subst z
    rw [if_pos rfl, decide_eq_false (by decide : ¬ (0 : Nat) = 4), Bool.false_and, Bool.or_false]
    unfold cmS
    rw [if_neg (fun q => clO_ok h2 q.symm)]
    congr 1
    apply propext
    exact ⟨fun q => q.2.2, fun q => ⟨rfl, rfl, q⟩⟩
  · rw [if_neg z, cmS_eq z]
    by_cases y : k = 4
    · congr 2
      apply Bool.eq_iff_iff.mpr
      rw [List.any_eq_true, List.any_eq_true]
      constructor
      · rintro ⟨x, h3, h4⟩
        exact ⟨x, h3, by rw [← cmS_eq (hx y x h3)]; exact h4⟩
      · rintro ⟨x, h3, h4⟩
        exact ⟨x, h3, by rw [cmS_eq (hx y x h3)]; exact h4⟩
    · rw [decide_eq_false y, Bool.false_and, Bool.false_and]
/-- the sign of a condition that compares, by its number -/
theorem cmS_st {f : Nat → Nat} {c k a k2 b : Nat} (hc : 5 ≤ c) (hc2 : c ≤ 8) (h : c ≠ 5 ∨ c = 5) : cmS f (c + 2) k a k2 b = stD f 16 c k a k2 b := by
  unfold cmS stD
  by_cases z : clO k = clO k2
  · rw [if_pos z, decide_eq_true z, Bool.true_and]
    unfold oS stO
    have : c = 5 ∨ c = 6 ∨ c = 7 ∨ c = 8 := by omega
    rcases this with e | e | e | e <;> subst e <;> rfl
  · rw [if_neg z, decide_eq_false z, Bool.false_and, decide_eq_false (fun q => by omega)]
theorem pwI_st {f : Nat → Nat} {c k a k2 b : Nat} (hc : 5 ≤ c) (hc2 : c ≤ 8) (h2 : okK k2 = true) (hn : k2 = 10 → c ≠ 6 ∧ c ≠ 8) : pwI f (c + 2) k a k2 b = isO f 16 c k a k2 b := by
  unfold pwI isO
  rw [cmS_st hc hc2 (by omega)]
  by_cases z : k = 0
  · subst z
    rw [if_pos rfl, decide_eq_false (by decide : ¬ (0 : Nat) = 4), Bool.false_and, Bool.or_false]
    unfold stD
    rw [decide_eq_false (fun q => clO_ok h2 q.symm), Bool.false_and]
    by_cases y : k2 = 10
    · rw [decide_eq_false (fun q => by have := hn y; omega : ¬ (c = 6 ∨ c = 8)), Bool.and_false]
    · rw [decide_eq_false y, Bool.false_and]
  · rw [if_neg z]
    congr 2
    apply congrArg
    funext x
    exact cmS_st hc hc2 (by omega)
theorem isO_nothing {f : Nat → Nat} {c k a b : Nat} (hc : c = 6 ∨ c = 8) : isO f 16 c k a 10 b = isE f 16 k a 10 b := by
  have key : ∀ k a, stD f 16 c k a 10 b = decide (ord f 16 k a 10 b = .eq) := by
    intro k a
    unfold stD
    by_cases z : clO k = clO 10
    · have hk : clO k = 1 := z
      rw [decide_eq_true z, Bool.true_and, ord_eq z (by omega)]
      rcases hc with e | e <;> subst e <;> rfl
    · rw [decide_eq_false z, Bool.false_and, decide_eq_false (ord_ne z)]
  unfold isO isE
  by_cases z : k = 0
  · rw [if_pos z, if_pos z, decide_eq_true rfl, decide_eq_true hc]; rfl
  · rw [if_neg z, if_neg z, key]
    congr 2
    apply congrArg
    funext x
    exact key _ _
/-- TL's fuel: a value at most t deep needs no more -/
theorem rowF_ext {g h f : Nat → Nat} : ∀ (xs : List Nat) (r : Nat), (∀ x ∈ xs, f x = 3 → g x = h x) → rowF g f xs r = rowF h f xs r
  | [], r, _ => rfl
  | x :: xs, r, e => by
    unfold rowF
    by_cases z : r = 2
    · rw [if_pos z, if_pos z]
    · rw [if_neg z, if_neg z]
      by_cases y : f x = 3
      · rw [if_pos y, if_pos y, e x List.mem_cons_self y]
        exact rowF_ext xs _ (fun x' hx' => e x' (List.mem_cons_of_mem _ hx'))
      · rw [if_neg y, if_neg y]
        exact rowF_ext xs _ (fun x' hx' => e x' (List.mem_cons_of_mem _ hx'))
theorem TL_up {f : Nat → Nat} {LF : Nat → Nat → Bool} : ∀ {t q k a : Nat}, okV f t k a → TL f LF (t + 1) q k a = TL f LF t q k a
  | 0, q, k, a, h => by
    unfold TL
    rw [if_neg h.2.1, if_neg h.2.2]
  | t + 1, q, k, a, h => by
    conv => lhs; rw [TL]
    conv => rhs; rw [TL]
    by_cases z : q = 0
    · rw [if_pos z, if_pos z]
    · rw [if_neg z, if_neg z]
      by_cases k3 : k = 3
      · rw [if_pos k3, if_pos k3]
        by_cases y : fnd f q (els f a) = 0
        · rw [if_pos y, if_pos y]
        · rw [if_neg y, if_neg y]
          exact TL_up ((h.2 (Or.inl k3)).2 _ (fnd_in y))
      · rw [if_neg k3, if_neg k3]
        by_cases k4 : k = 4
        · rw [if_pos k4, if_pos k4]
          have e1 : (if fnd f q (els f a) = 0 then 0 else TL f LF (t + 1) (nS f q) (f (fnd f q (els f a))) (vo f (fnd f q (els f a)))) = (if fnd f q (els f a) = 0 then 0 else TL f LF t (nS f q) (f (fnd f q (els f a))) (vo f (fnd f q (els f a)))) := by
            by_cases y : fnd f q (els f a) = 0
            · rw [if_pos y, if_pos y]
            · rw [if_neg y, if_neg y]
              exact TL_up ((h.2 (Or.inr k4)).2 _ (fnd_in y))
          rw [e1]
          refine rowF_ext _ _ (fun x hx hx3 => ?_)
          have := (h.2 (Or.inr k4)).2 x hx
          rw [hx3] at this
          exact TL_up this
        · rw [if_neg k4, if_neg k4]
theorem TL_16 {f : Nat → Nat} {LF : Nat → Nat → Bool} {q k a : Nat} : ∀ {n t : Nat}, okV f t k a → t + n = 16 → TL f LF 16 q k a = TL f LF t q k a
  | 0, t, h, e => by have : t = 16 := by omega
                     subst this; rfl
  | n + 1, t, h, e => (TL_16 (n := n) h.up (by omega)).trans (TL_up h)
