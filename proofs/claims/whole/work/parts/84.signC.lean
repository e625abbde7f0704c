/-! ===== names of conditions and joins, as texts ===== -/
theorem isW_sg {f : Nat → Nat} : ∀ (w : List Nat) (q z : Nat), q ≤ z → f z = 0 → (∀ i, q ≤ i → i < z → f i ≠ 0) → (∀ c ∈ w, c ≠ 0) → isW f q w = decide (sg f q (z - q) = w)
  | [], q, z, h1, h2, h3, _ => by
    show decide (f q = 0) = _
    by_cases e : q = z
    · subst e
      rw [decide_eq_true h2, Nat.sub_self]
      rfl
    · rw [decide_eq_false (h3 q (Nat.le_refl _) (by omega)), decide_eq_false]
      rw [show z - q = (z - q - 1) + 1 by omega]
      exact fun z => nomatch z
  | x :: w, q, z, h1, h2, h3, h4 => by
    show (decide (f q = x) && isW f (q + 1) w) = _
    by_cases e : q = z
    · subst e
      rw [decide_eq_false (p := f q = x) (by rw [h2]; exact fun y => h4 x List.mem_cons_self y.symm), Bool.false_and, Nat.sub_self, decide_eq_false]
      exact fun z => nomatch z
    · rw [isW_sg w (q + 1) z (by omega) h2 (fun i g1 g2 => h3 i (by omega) g2) (fun c hc => h4 c (List.mem_cons_of_mem _ hc))]
      have e2 : sg f q (z - q) = f q :: sg f (q + 1) (z - (q + 1)) := by
        rw [show z - q = (z - (q + 1)) + 1 by omega]; rfl
      rw [e2]
      by_cases hx : f q = x
      · subst hx
        rw [decide_eq_true rfl, Bool.true_and]
        congr 1
        exact propext ⟨fun y => by rw [y], fun y => (List.cons.inj y).2⟩
      · rw [decide_eq_false hx, Bool.false_and, decide_eq_false (fun y => hx (List.cons.inj y).1)]
theorem isA_eq {f : Nat → Nat} {e : Nat} {w : List Nat} (hz : f (ne f e) = 0) (hw : ∀ c ∈ w, c ≠ 0) : isA f e w = decide (nL f e = w) := by
  unfold isA nL
  exact isW_sg w (e + 1) (ne f e) (by have := ne_gt f e; omega) hz (fun i g1 g2 => ne_nz g1 g2) hw
def jS (w : List Nat) : Nat := if decide (w = ltr "$and") = true then 2 else if (decide (w = ltr "$or") || decide (w = ltr "$nor")) = true then 3 else 0
def oS1 (w : List Nat) (k10 : Bool) : Nat := if decide (w = ltr "$lt") = true then 7 else if decide (w = ltr "$gt") = true then 9 else if decide (w = ltr "$lte") = true then (if k10 = true then 5 else 8) else if decide (w = ltr "$gte") = true then (if k10 = true then 5 else 10) else 0
def cS1 (w : List Nat) (el : Nat) (k10 : Bool) : Nat := if (decide (w = ltr "$eq") || decide (w = ltr "$ne")) = true then 5 else if (decide (w = ltr "$in") || decide (w = ltr "$nin")) = true then 6 else if decide (w = ltr "$exists") = true then 11 else if decide (w = ltr "$size") = true then 12 else if decide (w = ltr "$elem") = true then el else if decide (w = ltr "$not") = true then 15 else oS1 w k10
def nS1 (w : List Nat) (z : Bool) : Bool := if decide (w = ltr "$exists") = true then z else (decide (w = ltr "$ne") || (decide (w = ltr "$nin") || decide (w = ltr "$not")))
def vS1 (f : Nat → Nat) (S k a : Nat) : Bool := if S = 6 then decide (k = 4) else if S = 11 then decide (k = 8) else if S = 12 then decide (clO k = 2) && decide (0 ≤ numv f k a) else if S = 13 then decide (k = 3) else if S = 14 then decide (k = 3) else if S = 15 then isC f k a else true
def eS1 (f : Nat → Nat) (k a : Nat) : Nat := if (decide (k = 3) && asC f a) = true then 13 else 14
/-- the class's sign of a condition -/
def csG (f : Nat → Nat) (c : Nat) : Nat := cS1 (nL f c) (eS1 f (f c) (vo f c)) (decide (f c = 10))
theorem isJ_jS {f : Nat → Nat} {e : Nat} (hz : f (ne f e) = 0) : isJ f e = decide (jS (nL f e) ≠ 0) := by
  unfold isJ jS
  rw [isA_eq hz (by decide), isA_eq hz (by decide), isA_eq hz (by decide), show wAnd = ltr "$and" by decide, show wOr = ltr "$or" by decide, show wNor = ltr "$nor" by decide]
  cases decide (nL f e = ltr "$and") <;> cases decide (nL f e = ltr "$or") <;> cases decide (nL f e = ltr "$nor") <;> rfl
theorem coN_dec {f : Nat → Nat} {e : Nat} (hz : f (ne f e) = 0) : coN f e = if decide (nL f e = ltr "$eq") = true then 1 else if decide (nL f e = ltr "$ne") = true then 2 else if decide (nL f e = ltr "$in") = true then 3 else if decide (nL f e = ltr "$nin") = true then 4 else if decide (nL f e = ltr "$lt") = true then 5 else if decide (nL f e = ltr "$lte") = true then 6 else if decide (nL f e = ltr "$gt") = true then 7 else if decide (nL f e = ltr "$gte") = true then 8 else if decide (nL f e = ltr "$exists") = true then 9 else if decide (nL f e = ltr "$size") = true then 10 else if decide (nL f e = ltr "$elem") = true then 11 else if decide (nL f e = ltr "$not") = true then 12 else 0 := by
  unfold coN
  rw [isA_eq hz (by decide), isA_eq hz (by decide), isA_eq hz (by decide), isA_eq hz (by decide), isA_eq hz (by decide), isA_eq hz (by decide), isA_eq hz (by decide), isA_eq hz (by decide), isA_eq hz (by decide), isA_eq hz (by decide), isA_eq hz (by decide), isA_eq hz (by decide)]
  rfl
theorem vS1_e {f : Nat → Nat} {S k a : Nat} (h : S = 13 ∨ S = 14) : vS1 f S k a = decide (k = 3) := by
  rcases h with h | h <;> subst h <;> rfl
theorem eS1_c {f : Nat → Nat} {k a : Nat} (h : isC f k a = false) : 14 = eS1 f k a := by
  unfold eS1
  by_cases h3 : k = 3
  · subst h3
    unfold asC
    rw [h, Bool.false_and, Bool.and_false]; rfl
  · rw [decide_eq_false h3, Bool.false_and]; rfl
theorem isC_no0 {f : Nat → Nat} {d k a : Nat} (hv : okV f (d + 1) k a) (hx : (if k = 3 ∨ k = 4 then els f a else []) = []) : isC f k a = false := by
  by_cases h3 : k = 3
  · rw [if_pos (Or.inl h3)] at hx
    exact isC_nil (hv.2 (Or.inl h3)).1 hx
  · exact isC_no h3
theorem eS1_fi {f : Nat → Nat} {d k a x : Nat} {xs : List Nat} (hv : okV f (d + 1) k a) (hk3 : k = 3 → ∀ x ∈ els f a, f (ne f x) = 0) (hx : (if k = 3 ∨ k = 4 then els f a else []) = x :: xs) (hc : isC f k a = true) : asC f a = !(decide (jS (nL f x) ≠ 0)) := by
  have h3 := isC_3 hc
  rw [if_pos (Or.inl h3)] at hx
  obtain ⟨e1, -, -⟩ := els_cons (hv.2 (Or.inl h3)).1 hx
  rw [h3] at hc
  unfold asC
  rw [hc, Bool.true_and, e1, isJ_jS (hk3 h3 x (by rw [hx]; exact List.mem_cons_self))]
theorem eS1_y {f : Nat → Nat} {d k a x : Nat} {xs : List Nat} (hv : okV f (d + 1) k a) (hk3 : k = 3 → ∀ x ∈ els f a, f (ne f x) = 0) (hx : (if k = 3 ∨ k = 4 then els f a else []) = x :: xs) (hc : isC f k a = true) (hj : jS (nL f x) = 0) : 13 = eS1 f k a := by
  unfold eS1
  rw [eS1_fi hv hk3 hx hc, decide_eq_false (p := jS (nL f x) ≠ 0) (fun z => z hj), decide_eq_true (isC_3 hc)]; rfl
theorem eS1_n {f : Nat → Nat} {d k a x : Nat} {xs : List Nat} (hv : okV f (d + 1) k a) (hk3 : k = 3 → ∀ x ∈ els f a, f (ne f x) = 0) (hx : (if k = 3 ∨ k = 4 then els f a else []) = x :: xs) (hc : isC f k a = true) (hj : jS (nL f x) ≠ 0) : 14 = eS1 f k a := by
  unfold eS1
  rw [eS1_fi hv hk3 hx hc, decide_eq_true (p := jS (nL f x) ≠ 0) hj, decide_eq_true (isC_3 hc)]; rfl
