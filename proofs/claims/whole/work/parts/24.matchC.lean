/-! ===== contracts' words of the matching group, and what their walks need ===== -/
abbrev rAF (d : Nat) : Room := { frames := 30 * d + 48, cells := 0, slots := 0, locals := 900 * d + 1200 }
abbrev rHI (d : Nat) : Room := { frames := 30 * d + 49, cells := 0, slots := 0, locals := 900 * d + 1230 }
abbrev rDO (d : Nat) : Room := { frames := 30 * d + 50, cells := 0, slots := 0, locals := 900 * d + 1260 }
abbrev rTL (d e : Nat) : Room := { frames := 30 * d + 51 + e, cells := 0, slots := 0, locals := 900 * d + 1290 + 27 * e }
abbrev rAN (d : Nat) : Room := { frames := 30 * d + 69, cells := 0, slots := 0, locals := 900 * d + 1776 }
abbrev rHO (d : Nat) : Room := { frames := 30 * d + 70, cells := 0, slots := 0, locals := 900 * d + 1803 }
def okPa (f : Nat → Nat) (q : Nat) : Prop := ∃ n, okP f n q
theorem okPa.s {f : Nat → Nat} {q : Nat} (h : okPa f q) (h0 : q ≠ 0) : okS 18000 f q ∧ okPa f (nS f q) := by
  obtain ⟨n, h⟩ := h
  cases n with
  | zero => exact absurd h h0
  | succ n =>
    rcases h with h | h
    · exact absurd h h0
    · exact ⟨h.1, n, h.2⟩
theorem okPa.lt {f : Nat → Nat} {q : Nat} (h : okPa f q) : q < 18000 := by
  rcases Nat.eq_zero_or_pos q with z | z
  · omega
  · have h1 := (h.s (by omega)).1.2
    have h2 := se_ge f q
    omega
theorem okPa.z (f : Nat → Nat) : okPa f 0 := ⟨0, rfl⟩
def C_all (l : Launch) (G : zG) (o qs : Nat) (fs : List Value) (f : Nat → Nat) (d : Nat) : Prop := ∀ (v q k a : Nat) (u : Bool), (okFl f d).1 v → okPa f q → okV f 16 k a →
  Met l yX11_all wsX11_all (rAF d) (zP G [.ref (o), .int (nI (v)), .int (nI (q)), .int (nI (k)), .int (nI (a))] (fun H => MM G o qs fs f u H)) (zQ (fun x => x = o) (some (.int (nI (nB ((evF f d).1 v q k a))))) (fun H => MM G o qs fs f u H)) 0 0 (fun x => x = o)
def C_fh (l : Launch) (G : zG) (o qs : Nat) (fs : List Value) (f : Nat → Nat) (d : Nat) : Prop := ∀ (v a : Nat) (u : Bool), (okFl f d).2 v → okV f 16 3 a →
  Met l yX11_filterHolds wsX11_filterHolds (rAF d) (zP G [.ref (o), .int (nI (v)), .int (nI (a))] (fun H => MM G o qs fs f u H)) (zQ (fun x => x = o) (some (.int (nI (nB ((evF f d).2 v a))))) (fun H => MM G o qs fs f u H)) 0 0 (fun x => x = o)
theorem bx_ok {f : Nat → Nat} {v x : Nat} (h : Bx 18000 f v (els f v)) (h0 : 0 < fi f v) : okE 18000 f (fi f v) := by
  obtain ⟨M, -, h2, -⟩ := h.2.cons h0
  exact h2
theorem okV_0 (f : Nat → Nat) : ∀ d, okV f d 0 0
  | 0 => ⟨⟨Or.inl rfl, by omega, by omega, by omega, by omega, by omega⟩, by omega, by omega⟩
  | d + 1 => ⟨⟨Or.inl rfl, by omega, by omega, by omega, by omega, by omega⟩, by omega⟩
theorem coN_lt (f : Nat → Nat) (c : Nat) : coN f c < 13 := by
  unfold coN
  (repeat' split) <;> omega
theorem isR_34 {f : Nat → Nat} {k kd v : Nat} (h : isR f k kd v = true) (hk : k = 3 ∨ k = 4) : kd = 4 := by
  unfold isR at h
  rw [if_pos hk] at h
  exact of_decide_eq_true h
theorem isR_9 {f : Nat → Nat} {k kd v : Nat} (h : isR f k kd v = true) (hk : k = 9) : kd = 8 := by
  subst hk
  exact of_decide_eq_true h
theorem isR_10 {f : Nat → Nat} {k kd v : Nat} (h : isR f k kd v = true) (hk : k = 10) : kd = 16 ∨ kd = 18 := by
  subst hk
  have h : (decide (kd = 16 ∨ kd = 18) && decide (0 ≤ nuM f kd v)) = true := h
  rw [Bool.and_eq_true] at h
  exact of_decide_eq_true h.1
theorem isR_11 {f : Nat → Nat} {k kd v : Nat} (h : isR f k kd v = true) (hk : k = 11) : kd = 3 := by
  subst hk
  exact of_decide_eq_true h
theorem any_f {P : Nat → Bool} {x : Nat} {X : List Nat} (h : P x = false) : (x :: X).any P = X.any P := by rw [List.any_cons, h]; rfl
theorem any_t {P : Nat → Bool} {x : Nat} {X : List Nat} (h : P x = true) : (x :: X).any P = true := by rw [List.any_cons, h]; rfl
theorem all_t {P : Nat → Bool} {x : Nat} {X : List Nat} (h : P x = true) : (x :: X).all P = X.all P := by rw [List.all_cons, h]; rfl
theorem all_f {P : Nat → Bool} {x : Nat} {X : List Nat} (h : P x = false) : (x :: X).all P = false := by rw [List.all_cons, h]; rfl
theorem TL_0 {f : Nat → Nat} {LF : Nat → Nat → Bool} {d k a : Nat} : TL f LF d 0 k a = 1 + nB (LF k a) := by
  cases d <;> (unfold TL; rw [if_pos rfl])
theorem TL_o {f : Nat → Nat} {LF : Nat → Nat → Bool} {d q k a : Nat} (h0 : q ≠ 0) (h3 : k ≠ 3) (h4 : k ≠ 4) : TL f LF d q k a = 1 + nB (LF 0 0) := by
  cases d
  · unfold TL
    rw [if_neg h0]
  · rw [TL, if_neg h0, if_neg h3, if_neg h4]
theorem TL_3n {f : Nat → Nat} {LF : Nat → Nat → Bool} {d q a : Nat} (h0 : q ≠ 0) (h : fnd f q (els f a) = 0) : TL f LF (d + 1) q 3 a = 1 + nB (LF 0 0) := by
  rw [TL, if_neg h0, if_pos rfl, if_pos h]
theorem TL_3 {f : Nat → Nat} {LF : Nat → Nat → Bool} {d q a : Nat} (h0 : q ≠ 0) (h : fnd f q (els f a) ≠ 0) : TL f LF (d + 1) q 3 a = TL f LF d (nS f q) (f (fnd f q (els f a))) (vo f (fnd f q (els f a))) := by
  rw [TL, if_neg h0, if_pos rfl, if_neg h]
theorem TL_4 {f : Nat → Nat} {LF : Nat → Nat → Bool} {d q a : Nat} (h0 : q ≠ 0) : TL f LF (d + 1) q 4 a = rowF (fun x => TL f LF d q 3 (vo f x)) f (els f a) (if fnd f q (els f a) = 0 then 0 else TL f LF d (nS f q) (f (fnd f q (els f a))) (vo f (fnd f q (els f a)))) := by
  rw [TL, if_neg h0, if_neg (by decide), if_pos rfl]
theorem rowF_2 {g f : Nat → Nat} {X : List Nat} : rowF g f X 2 = 2 := by
  cases X with
  | nil => rfl
  | cons x X => rw [rowF, if_pos rfl]
theorem rowF_n {g f : Nat → Nat} {x r : Nat} {X : List Nat} (hr : r ≠ 2) (h : f x ≠ 3) : rowF g f (x :: X) r = rowF g f X r := by
  rw [rowF, if_neg hr, if_neg h]
theorem rowF_y {g f : Nat → Nat} {x r : Nat} {X : List Nat} (hr : r ≠ 2) (h : f x = 3) : rowF g f (x :: X) r = rowF g f X (max r (g x)) := by
  rw [rowF, if_neg hr, if_pos h]
theorem fnd_in {f : Nat → Nat} {q : Nat} : ∀ {X : List Nat}, fnd f q X ≠ 0 → fnd f q X ∈ X
  | [], h => absurd rfl h
  | x :: X, h => by
    unfold fnd at h ⊢
    split
    · exact List.mem_cons_self
    · rename_i z
      rw [if_neg z] at h
      exact List.mem_cons_of_mem _ (fnd_in h)
theorem fnd_y {f : Nat → Nat} {q x : Nat} {X : List Nat} (h : nL f x = sL f q) : fnd f q (x :: X) = x := by rw [fnd, if_pos h]
theorem fnd_n {f : Nat → Nat} {q x : Nat} {X : List Nat} (h : ¬ nL f x = sL f q) : fnd f q (x :: X) = fnd f q X := by rw [fnd, if_neg h]
theorem ch_ok {f : Nat → Nat} {x : Nat} : ∀ {L : List Nat} {e : Nat}, Ch 18000 f e L → x ∈ L → okE 18000 f x ∧ 0 < x
  | [], _, _, h => by cases h
  | y :: L, e, hc, h => by
    rcases List.mem_cons.mp h with z | z
    · subst z
      exact ⟨hc.2.2.1, hc.2.1⟩
    · exact ch_ok hc.2.2.2 z
theorem TL_lt {f : Nat → Nat} {LF : Nat → Nat → Bool} : ∀ d q k a, TL f LF d q k a < 3 := by
  intro d
  induction d with
  | zero =>
    intro q k a
    have h1 := nB_lt (LF k a)
    have h2 := nB_lt (LF 0 0)
    unfold TL
    split <;> omega
  | succ d ih =>
    intro q k a
    have h1 := nB_lt (LF k a)
    have h2 := nB_lt (LF 0 0)
    have hr : ∀ (X : List Nat) (r : Nat), r < 3 → rowF (fun x => TL f LF d q 3 (vo f x)) f X r < 3 := by
      intro X
      induction X with
      | nil => exact fun r h => h
      | cons x X ih2 =>
        intro r h
        unfold rowF
        split
        · omega
        · apply ih2
          have := ih q 3 (vo f x)
          split <;> omega
    rw [TL]
    split
    · omega
    · split
      · split
        · omega
        · exact ih _ _ _
      · split
        · apply hr
          split
          · omega
          · exact ih _ _ _
        · omega
