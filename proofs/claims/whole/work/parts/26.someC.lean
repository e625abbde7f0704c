/-! ===== contracts' words of 'some' ===== -/
def okLf (f : Nat → Nat) (d c9 e9 : Nat) : Prop := c9 < 18000 ∧ e9 < 18000 ∧ (0 < c9 → okE 18000 f c9 ∧ okV f 16 (f c9) (vo f c9) ∧ okCo f (okFl f d).1 (okFl f d).2 c9 ∧ coN f c9 ≠ 12 ∧ (coN f c9 = 11 → Bx 18000 f (vo f c9) (els f (vo f c9)))) ∧ (c9 = 0 → okE 18000 f e9 ∧ okV f 16 (f e9) (vo f e9))
noncomputable abbrev LFd (f : Nat → Nat) (d c9 e9 : Nat) : Nat → Nat → Bool := LFo f (evF f d).1 (evF f d).2 c9 e9
theorem okV.le {f : Nat → Nat} {k a : Nat} {t : Nat} (h : okV f t k a) : ∀ {n : Nat}, t ≤ n → okV f n k a
  | 0, hn => by have : t = 0 := by omega
                subst this; exact h
  | n + 1, hn => by
    rcases Nat.eq_or_lt_of_le hn with e | e
    · subst e; exact h
    · exact okV.up (h.le (by omega))
theorem MM.to {G : zG} {o qs : Nat} {fs : List Value} {f : Nat → Nat} {u v : Bool} {H : Heap} (e : u = v) (h : MM G o qs fs f u H) : MM G o qs fs f v H := e ▸ h
def C_leaf (l : Launch) (G : zG) (o qs : Nat) (fs : List Value) (f : Nat → Nat) (d c9 e9 : Nat) : Prop := ∀ (k a : Nat) (u : Bool), okV f 16 k a →
  Met l yX11_some wsX11_some (rTL d 0) (zP G [.ref (o), .int (nI (c9)), .int (nI (e9)), .int (nI (0)), .int (nI (k)), .int (nI (a))] (fun H => MM G o qs fs f u H)) (zQ (fun x => x = o) (some (.int (nI (nB (LFd f d c9 e9 k a))))) (fun H => MM G o qs fs f true H)) 0 0 (fun x => x = o)
def C_some (l : Launch) (G : zG) (o qs : Nat) (fs : List Value) (f : Nat → Nat) (d c9 e9 t : Nat) : Prop := ∀ (q k a : Nat) (u : Bool), okPa f q → okV f t k a →
  Met l yX11_some wsX11_some (rTL d (t + 1)) (zP G [.ref (o), .int (nI (c9)), .int (nI (e9)), .int (nI (q)), .int (nI (k)), .int (nI (a))] (fun H => MM G o qs fs f u H)) (zQ (fun x => x = o) (some (.int (nI (nB (decide (TL f (LFd f d c9 e9) t q k a = 2)))))) (fun H => MM G o qs fs f (u || decide (TL f (LFd f d c9 e9) t q k a ≠ 0)) H)) 0 0 (fun x => x = o)
theorem d1B (b : Bool) : decide (1 + nB b = 2) = b := by cases b <;> rfl
theorem d1N (u b : Bool) : (u || decide (1 + nB b ≠ 0)) = true := by cases u <;> cases b <;> rfl
theorem dmax (u : Bool) (r x : Nat) : (u || decide (r ≠ 0) || decide (x ≠ 0)) = (u || decide (max r x ≠ 0)) := by
  rw [Bool.or_assoc]
  congr 1
  rcases Nat.eq_zero_or_pos r with h | h
  · subst h
    simp
  · rw [decide_eq_true (show r ≠ 0 by omega), decide_eq_true (show max r x ≠ 0 by omega)]
    rfl
theorem dE (e : Nat) (u : Bool) (h : e = 0) : u = (u || decide (e ≠ 0)) := by
  subst h
  cases u <;> rfl
theorem zfit_b (b : Bool) : fits .boolean (.int (nI (nB b))) = true := by cases b <;> decide
theorem znar_b (b : Bool) : narrow .boolean (.int (nI (nB b))) = .int (nI (nB b)) := by cases b <;> decide
theorem okV_box {f : Nat → Nat} {t t1 k a : Nat} (h : okV f t k a) (ht : t = t1 + 1) (hk : k = 3 ∨ k = 4) : Bx 18000 f a (els f a) ∧ ∀ x ∈ els f a, okV f t1 (f x) (vo f x) := by
  subst ht
  exact h.2 hk
theorem TLx_3n {f : Nat → Nat} {LF : Nat → Nat → Bool} {t t1 q k a : Nat} (ht : t = t1 + 1) (hk : k = 3) (h0 : q ≠ 0) (h : fnd f q (els f a) = 0) : TL f LF t q k a = 1 + nB (LF 0 0) := by
  subst ht; subst hk
  exact TL_3n h0 h
theorem TLx_3 {f : Nat → Nat} {LF : Nat → Nat → Bool} {t t1 q k a y : Nat} (ht : t = t1 + 1) (hk : k = 3) (h0 : q ≠ 0) (hy : fnd f q (els f a) = y) (h : y ≠ 0) : TL f LF t q k a = TL f LF t1 (nS f q) (f y) (vo f y) := by
  subst ht; subst hk; subst hy
  exact TL_3 h0 h
theorem TLx_4 {f : Nat → Nat} {LF : Nat → Nat → Bool} {t t1 q k a y : Nat} (ht : t = t1 + 1) (hk : k = 4) (h0 : q ≠ 0) (hy : fnd f q (els f a) = y) : TL f LF t q k a = rowF (fun x => TL f LF t1 q 3 (vo f x)) f (els f a) (if y = 0 then 0 else TL f LF t1 (nS f q) (f y) (vo f y)) := by
  subst ht; subst hk; subst hy
  exact TL_4 h0
