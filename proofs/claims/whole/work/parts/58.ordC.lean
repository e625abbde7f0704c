/-! ===== Order by levels: contracts' words ===== -/
theorem nL_0 {f : Nat → Nat} {x : Nat} (hz : f (ne f x) = 0) : (nL f x).getD 0 0 = f (x + 1) := by
  unfold nL
  have h := ne_gt f x
  by_cases e : ne f x = x + 1
  · rw [e] at hz ⊢
    rw [Nat.sub_self, hz]
    rfl
  · rw [show ne f x - (x + 1) = (ne f x - (x + 1 + 1)) + 1 by omega]
    rfl
theorem els_nil {f : Nat → Nat} {a : Nat} (h : Bx 18000 f a (els f a)) (he : els f a = []) : fi f a = 0 := by
  have h1 := h.2
  rw [he] at h1
  exact h1
theorem els_cons {f : Nat → Nat} {a x : Nat} {xs : List Nat} (h : Bx 18000 f a (els f a)) (he : els f a = x :: xs) : fi f a = x ∧ 0 < x ∧ okE 18000 f x := by
  have h1 := h.2
  rw [he] at h1
  exact ⟨h1.1, h1.2.1, h1.2.2.1⟩
theorem isC_no {f : Nat → Nat} {k a : Nat} (h : k ≠ 3) : isC f k a = false := by
  unfold isC
  rw [decide_eq_false h]
  rfl
theorem isC_nil {f : Nat → Nat} {k a : Nat} (h : Bx 18000 f a (els f a)) (he : els f a = []) : isC f k a = false := by
  unfold isC
  rw [els_nil h he, decide_eq_false (Nat.lt_irrefl 0), Bool.false_and, Bool.and_false]
theorem isC_cons {f : Nat → Nat} {a x : Nat} {xs : List Nat} (h : Bx 18000 f a (els f a)) (he : els f a = x :: xs) : isC f 3 a = decide ((nL f x).getD 0 0 = 36) := by
  obtain ⟨h1, h2, h3⟩ := els_cons h he
  unfold isC
  rw [h1, nL_0 h3.1.1, decide_eq_true rfl, decide_eq_true h2]
  rfl
abbrev rCe (d : Nat) : Room := { frames := 3 * d + 6, cells := 0, slots := 0, locals := 90 * d + 150 }
abbrev rCp (d : Nat) : Room := { frames := 3 * d + 7, cells := 0, slots := 0, locals := 90 * d + 175 }
abbrev rCm (d : Nat) : Room := { frames := 3 * d + 5, cells := 0, slots := 0, locals := 90 * d + 125 }
def C_cmp (l : Launch) (G : zG) (f : Nat → Nat) (d : Nat) : Prop := ∀ (pf pf2 : Nat → Int32) (v hi k a : Nat) (w : List Nat) (pl : Int32) (nxt : Option Nat) (v2 hi2 k2 b : Nat) (w2 : List Nat) (pl2 : Int32) (nxt2 : Option Nat) (dep : Nat), dep + d ≤ 17 → okV f d k a → okV f d k2 b → okW f d k a → okW f d k2 b →
  Met l yX5_compare wsX5_compare (rCm d) (zP G [.ref (v), .ref (v2), .int (nI (dep))] (fun H => Nod G H f pf d v hi k a w pl nxt ∧ Nod G H f pf2 d v2 hi2 k2 b w2 pl2 nxt2 ∧ CH G H)) (zR (.int (oI (ord f d k a k2 b)))) 0 0 (fun _ => False)
def C_cel (l : Launch) (G : zG) (f : Nat → Nat) (d : Nat) : Prop := ∀ (pf pf2 : Nat → Int32) (v hi x : Nat) (pl : Int32) (nxt : Option Nat) (v2 hi2 y : Nat) (pl2 : Int32) (nxt2 : Option Nat) (dep : Nat), dep + 1 + d ≤ 17 → okV f d (f x) (vo f x) → okV f d (f y) (vo f y) → okW f d (f x) (vo f x) → okW f d (f y) (vo f y) →
  Met l yX5_compareElements wsX5_compareElements (rCe d) (zP G [.ref (v), .ref (v2), .int (nI (dep))] (fun H => Nod G H f pf d v hi (f x) (vo f x) (nL f x) pl nxt ∧ Nod G H f pf2 d v2 hi2 (f y) (vo f y) (nL f y) pl2 nxt2 ∧ CH G H)) (zR (.int (oI (cEl f (fun x y => ord f d (f x) (vo f x) (f y) (vo f y)) true x y)))) 0 0 (fun _ => False)
def C_prt (l : Launch) (G : zG) (f : Nat → Nat) (d : Nat) : Prop := ∀ (pf pf2 : Nat → Int32) (v hi k a : Nat) (w : List Nat) (pl : Int32) (nxt : Option Nat) (v2 hi2 k2 b : Nat) (w2 : List Nat) (pl2 : Int32) (nxt2 : Option Nat) (dep : Nat), dep + 1 + d ≤ 17 → (k = 3 ∨ k = 4) → (k2 = 3 ∨ k2 = 4) → (∀ x ∈ els f a, okV f d (f x) (vo f x) ∧ okW f d (f x) (vo f x)) → (∀ x ∈ els f b, okV f d (f x) (vo f x) ∧ okW f d (f x) (vo f x)) →
  Met l yX5_compareParts wsX5_compareParts (rCp d) (zP G [.ref (v), .ref (v2), .int (nI (dep))] (fun H => Nod G H f pf (d + 1) v hi k a w pl nxt ∧ Nod G H f pf2 (d + 1) v2 hi2 k2 b w2 pl2 nxt2 ∧ CH G H)) (zR (.int (oI (obx (cEl f (fun x y => ord f d (f x) (vo f x) (f y) (vo f y)) true) (els f a) (els f b))))) 0 0 (fun _ => False)
theorem cNa_eq {a b : Nat} : cNa a b = .eq ↔ a = b := by
  unfold cNa
  constructor
  · intro h
    by_cases h1 : a < b
    · rw [if_pos h1] at h; cases h
    · rw [if_neg h1] at h
      by_cases h2 : b < a
      · rw [if_pos h2] at h; cases h
      · omega
  · intro h
    rw [if_neg (by omega), if_neg (by omega)]
theorem cEl_n {f : Nat → Nat} {v : Nat → Nat → Ordering} {x y : Nat} (h : cNa (clO (f x)) (clO (f y)) ≠ .eq) : cEl f v true x y = cNa (clO (f x)) (clO (f y)) := by
  unfold cEl
  rw [if_pos rfl]
  generalize cNa (clO (f x)) (clO (f y)) = o at h ⊢
  cases o
  · rfl
  · exact absurd rfl h
  · rfl
theorem ord_n {f : Nat → Nat} {d k a k2 b : Nat} (h : cNa (clO k) (clO k2) ≠ .eq) : ord f d k a k2 b = cNa (clO k) (clO k2) := by
  unfold cNa at h ⊢
  by_cases h1 : clO k < clO k2
  · rw [if_pos h1, ord_lt h1]
  · rw [if_neg h1] at h ⊢
    by_cases h2 : clO k2 < clO k
    · rw [if_pos h2, ord_gt h2]
    · rw [if_neg h2] at h; exact absurd rfl h
theorem numv_n {f : Nat → Nat} {k a : Nat} (h : clO k = 2 ∨ clO k = 6) : numv f k a = nuM f k a := by
  unfold numv
  rw [if_pos]
  rcases h with h | h
  · have := clO_2 h; omega
  · have := clO_6 h; omega
theorem txL_t {f : Nat → Nat} {k a : Nat} (h : clO k = 3) : txL f k a = sg f (a + 4) (wh f a - 1) := by
  unfold txL
  rw [if_pos (clO_3 h)]
theorem okW.items {f : Nat → Nat} {d k a : Nat} (h : okW f (d + 1) k a) (hv : okV f (d + 1) k a) (hk : k = 3 ∨ k = 4) : ∀ x ∈ els f a, okV f d (f x) (vo f x) ∧ okW f d (f x) (vo f x) := fun x hx => ⟨(hv.2 hk).2 x hx, h.2.2 hk x hx⟩
theorem ord_bx {f : Nat → Nat} {d k a k2 b : Nat} (h : clO k = clO k2) (hk : k = 3 ∨ k = 4) (hk2 : k2 = 3 ∨ k2 = 4) (w1 : okW f (d + 1) k a) (w2 : okW f (d + 1) k2 b) : ord f (d + 1) k a k2 b = obx (cEl f (fun x y => ord f d (f x) (vo f x) (f y) (vo f y)) true) (els f a) (els f b) := by
  rcases hk with q | q
  · subst q
    rw [ord_box h (Or.inl rfl)]
    rfl
  · subst q
    have q2 : k2 = 4 := by
      rcases hk2 with z | z
      · subst z; exact absurd h (by decide)
      · exact z
    subst q2
    rw [ord_box h (Or.inr rfl)]
    show obx (cEl f _ false) _ _ = _
    exact (obx_row _ _ 0 (fun j x hx => by rw [Nat.zero_add]; exact w1.2.1 rfl j x hx) (fun j x hx => by rw [Nat.zero_add]; exact w2.2.1 rfl j x hx)).symm
theorem oI_ne0 {o : Ordering} (h : oI o ≠ 0) : o ≠ .eq := fun z => h (by rw [z]; rfl)
theorem zo_cat (x : Option Nat) : (va_rf x).category = 1 := by cases x <;> rfl
