/-! ===== SPECS 4: values in the store, and their order ===== -/
noncomputable def els (f : Nat → Nat) (a : Nat) : List Nat :=
  match Classical.propDecidable (∃ L, Ch 18000 f (fi f a) L) with
  | .isTrue h => Classical.choose h
  | .isFalse _ => []
theorem els_eq {f : Nat → Nat} {a : Nat} {L : List Nat} (h : Ch 18000 f (fi f a) L) : els f a = L := by
  unfold els
  split
  · rename_i h1 _
    exact Ch.fn (Classical.choose_spec h1) h
  · rename_i h1 _
    exact absurd ⟨L, h⟩ h1
/-- a value's bytes lie in the store -/
def okB (f : Nat → Nat) (k a : Nat) : Prop := (k = 0 ∨ k = 2 ∨ k = 3 ∨ k = 4 ∨ k = 8 ∨ k = 10 ∨ k = 16 ∨ k = 18) ∧ (k = 8 → a < 18000) ∧ (k = 16 → a + 4 ≤ 18000) ∧ (k = 18 → a + 8 ≤ 18000) ∧ (k = 2 → a + 4 + wh f a ≤ 18000 ∧ 1 ≤ wh f a) ∧ (k = 3 → a + 5 < 18000)
/-- a value of kind k at a, at most d deep -/
def okV (f : Nat → Nat) : Nat → Nat → Nat → Prop
  | 0, k, a => okB f k a ∧ k ≠ 3 ∧ k ≠ 4
  | d + 1, k, a => okB f k a ∧ (k = 3 ∨ k = 4 → Bx 18000 f a (els f a) ∧ ∀ x ∈ els f a, okV f d (f x) (vo f x))
theorem okV.b {f : Nat → Nat} {d k a : Nat} (h : okV f d k a) : okB f k a := by
  cases d with
  | zero => exact h.1
  | succ d => exact h.1
theorem okV.s {f : Nat → Nat} {d k a : Nat} (h : okV f d k a) (hk : k = 3 ∨ k = 4) : ∃ d', d = d' + 1 := by
  cases d with
  | zero => exact absurd hk (by have := h.2; omega)
  | succ d => exact ⟨d, rfl⟩
theorem okV.up {f : Nat → Nat} : ∀ {d k a : Nat}, okV f d k a → okV f (d + 1) k a
  | 0, k, a, h => ⟨h.1, fun q => absurd q (by have := h.2; omega)⟩
  | d + 1, k, a, h => ⟨h.1, fun q => ⟨(h.2 q).1, fun x hx => okV.up ((h.2 q).2 x hx)⟩⟩
theorem clO_2 {k : Nat} (h : clO k = 2) : k = 16 ∨ k = 18 := by
  unfold clO at h
  (repeat' split at h) <;> omega
theorem clO_3 {k : Nat} (h : clO k = 3) : k = 2 := by
  unfold clO at h
  (repeat' split at h) <;> omega
theorem clO_4 {k : Nat} (h : clO k = 4) : k = 3 := by
  unfold clO at h
  (repeat' split at h) <;> omega
theorem clO_5 {k : Nat} (h : clO k = 5) : k = 4 := by
  unfold clO at h
  (repeat' split at h) <;> omega
theorem clO_6 {k : Nat} (h : clO k = 6) : k = 8 := by
  unfold clO at h
  (repeat' split at h) <;> omega
theorem clO_lt (k : Nat) : clO k < 7 := by
  unfold clO
  (repeat' split) <;> omega
theorem okB.lt {f : Nat → Nat} {k a : Nat} (h : okB f k a) : k < 2 ^ 31 := by
  have := h.1
  omega
def c64 (x y : Int64) : Ordering := if x < y then .lt else if y < x then .gt else .eq
def cNa (x y : Nat) : Ordering := if x < y then .lt else if y < x then .gt else .eq
def obx (c : Nat → Nat → Ordering) : List Nat → List Nat → Ordering
  | [], [] => .eq
  | [], _ :: _ => .lt
  | _ :: _, [] => .gt
  | x :: xs, y :: ys => match c x y with
    | .eq => obx c xs ys
    | o => o
/-- two elements: by class, name and value; two items (names false): by value -/
def cEl (f : Nat → Nat) (v : Nat → Nat → Ordering) (names : Bool) (x y : Nat) : Ordering :=
  if names then (match cNa (clO (f x)) (clO (f y)) with
    | .eq => (match lx (nL f x) (nL f y) with
      | .eq => v x y
      | o => o)
    | o => o) else v x y
noncomputable def ord (f : Nat → Nat) : Nat → Nat → Nat → Nat → Nat → Ordering
  | 0, k, a, k2, b => if clO k < clO k2 then .lt else if clO k2 < clO k then .gt else if clO k = 2 ∨ clO k = 6 then c64 (nuM f k a) (nuM f k2 b) else if clO k = 3 then lx (sg f (a + 4) (wh f a - 1)) (sg f (b + 4) (wh f b - 1)) else .eq
  | d + 1, k, a, k2, b => if clO k < clO k2 then .lt else if clO k2 < clO k then .gt else if clO k = 2 ∨ clO k = 6 then c64 (nuM f k a) (nuM f k2 b) else if clO k = 3 then lx (sg f (a + 4) (wh f a - 1)) (sg f (b + 4) (wh f b - 1)) else if clO k = 4 ∨ clO k = 5 then obx (cEl f (fun x y => ord f d (f x) (vo f x) (f y) (vo f y)) (decide (clO k = 4))) (els f a) (els f b) else .eq
theorem ord_lt {f : Nat → Nat} {d k a k2 b : Nat} (h : clO k < clO k2) : ord f d k a k2 b = .lt := by
  cases d <;> (unfold ord; rw [if_pos h])
theorem ord_gt {f : Nat → Nat} {d k a k2 b : Nat} (h : clO k2 < clO k) : ord f d k a k2 b = .gt := by
  cases d <;> (unfold ord; rw [if_neg (by omega), if_pos h])
theorem ord_num {f : Nat → Nat} {d k a k2 b : Nat} (h : clO k = clO k2) (h2 : clO k = 2 ∨ clO k = 6) : ord f d k a k2 b = c64 (nuM f k a) (nuM f k2 b) := by
  cases d <;> (unfold ord; rw [if_neg (by omega), if_neg (by omega), if_pos h2])
theorem ord_txt {f : Nat → Nat} {d k a k2 b : Nat} (h : clO k = clO k2) (h2 : clO k = 3) : ord f d k a k2 b = lx (sg f (a + 4) (wh f a - 1)) (sg f (b + 4) (wh f b - 1)) := by
  cases d <;> (unfold ord; rw [if_neg (by omega), if_neg (by omega), if_neg (by omega), if_pos h2])
theorem ord_box {f : Nat → Nat} {d k a k2 b : Nat} (h : clO k = clO k2) (h2 : clO k = 4 ∨ clO k = 5) : ord f (d + 1) k a k2 b = obx (cEl f (fun x y => ord f d (f x) (vo f x) (f y) (vo f y)) (decide (clO k = 4))) (els f a) (els f b) := by
  rw [ord, if_neg (by omega), if_neg (by omega), if_neg (by omega), if_neg (by omega), if_pos h2]
theorem ord_eq {f : Nat → Nat} {d k a k2 b : Nat} (h : clO k = clO k2) (h2 : clO k ≠ 2 ∧ clO k ≠ 6 ∧ clO k ≠ 3 ∧ clO k ≠ 4 ∧ clO k ≠ 5) : ord f d k a k2 b = .eq := by
  cases d
  · unfold ord
    rw [if_neg (by omega), if_neg (by omega), if_neg (by omega), if_neg (by omega)]
  · unfold ord
    rw [if_neg (by omega), if_neg (by omega), if_neg (by omega), if_neg (by omega), if_neg (by omega)]
abbrev rOrd (d : Nat) : Room := { frames := 2 * d + 3, cells := 0, slots := 0, locals := 55 * d + 60 }
abbrev rBox (d : Nat) : Room := { frames := 2 * d + 4, cells := 0, slots := 0, locals := 55 * d + 89 }
def C_order (l : Launch) (G : zG) (o qs : Nat) (fs : List Value) (f : Nat → Nat) (d : Nat) : Prop := ∀ k a k2 b : Nat, okV f d k a → okV f d k2 b →
  Met l yX11_order wsX11_order (rOrd d) (zP G [.ref (o), .int (nI (k)), .int (nI (a)), .int (nI (k2)), .int (nI (b))] (fun H => MV G o qs fs f H)) (zR (.int (oI (ord f d k a k2 b)))) 0 0 (fun _ => False)
def C_boxes (l : Launch) (G : zG) (o qs : Nat) (fs : List Value) (f : Nat → Nat) (d : Nat) : Prop := ∀ (a b : Nat) (nm : Bool), Bx 18000 f a (els f a) → Bx 18000 f b (els f b) → (∀ x ∈ els f a, okV f d (f x) (vo f x)) → (∀ x ∈ els f b, okV f d (f x) (vo f x)) →
  Met l yX11_orderBoxes wsX11_orderBoxes (rBox d) (zP G [.ref (o), .int (nI (a)), .int (nI (b)), .int (nI (nB (nm)))] (fun H => MV G o qs fs f H)) (zR (.int (oI (obx (cEl f (fun x y => ord f d (f x) (vo f x) (f y) (vo f y)) nm) (els f a) (els f b))))) 0 0 (fun _ => False)
theorem oI_eq (o : Ordering) : oI o = 0 ↔ o = .eq := by cases o <;> decide
theorem oI_ge (o : Ordering) : (0 ≤ oI o) ↔ o ≠ .lt := by cases o <;> decide
theorem oI_lt (o : Ordering) : (oI o < 0) ↔ o = .lt := by cases o <;> decide
theorem oI_gt (o : Ordering) : (0 < oI o) ↔ o = .gt := by cases o <;> decide
theorem oI_le (o : Ordering) : (oI o ≤ 0) ↔ o ≠ .gt := by cases o <;> decide
theorem obx_ne {c : Nat → Nat → Ordering} {x y : Nat} {xs ys : List Nat} (h : c x y ≠ .eq) : obx c (x :: xs) (y :: ys) = c x y := by
  unfold obx
  cases hc : c x y with
  | eq => exact absurd hc h
  | lt => rfl
  | gt => rfl
theorem obx_eq {c : Nat → Nat → Ordering} {x y : Nat} {xs ys : List Nat} (h : c x y = .eq) : obx c (x :: xs) (y :: ys) = obx c xs ys := by
  rw [obx, h]
theorem z_dif0 {a b : Nat} (ha : a < 2 ^ 31) (hb : b < 2 ^ 31) : nI a - nI b = 0 ↔ a = b := by
  rw [← nI_eq ha hb]
  exact ⟨fun h => by
    have := congrArg (· + nI b) h
    simpa [Int32.sub_add_cancel] using this, fun h => by rw [h]; exact Int32.sub_self _⟩
theorem z_difge {a b : Nat} (ha : a < 2 ^ 30) (hb : b < 2 ^ 30) : 0 ≤ nI a - nI b ↔ b ≤ a := by
  rw [Int32.le_iff_toInt_le, pk_sub_toInt ha hb]
  show (0 : Int) ≤ _ ↔ _
  omega
theorem cEl_lt {f : Nat → Nat} {v : Nat → Nat → Ordering} {nm : Bool} {x y : Nat} (hn : nm = true) (h : clO (f x) < clO (f y)) : cEl f v nm x y = .lt := by
  subst hn
  unfold cEl cNa
  rw [if_pos rfl, if_pos h]
theorem cEl_gt {f : Nat → Nat} {v : Nat → Nat → Ordering} {nm : Bool} {x y : Nat} (hn : nm = true) (h : clO (f y) < clO (f x)) : cEl f v nm x y = .gt := by
  subst hn
  unfold cEl cNa
  rw [if_pos rfl, if_neg (by omega), if_pos h]
theorem cEl_nm {f : Nat → Nat} {v : Nat → Nat → Ordering} {nm : Bool} {x y : Nat} (hn : nm = true) (h : clO (f x) = clO (f y)) (hl : lx (nL f x) (nL f y) ≠ .eq) : cEl f v nm x y = lx (nL f x) (nL f y) := by
  subst hn
  unfold cEl cNa
  rw [if_pos rfl, if_neg (by omega), if_neg (by omega)]
  show (match lx (nL f x) (nL f y) with | .eq => v x y | o => o) = _
  cases hc : lx (nL f x) (nL f y) with
  | eq => exact absurd hc hl
  | lt => rfl
  | gt => rfl
theorem cEl_v {f : Nat → Nat} {v : Nat → Nat → Ordering} {nm : Bool} {x y : Nat} (h : nm = true → clO (f x) = clO (f y) ∧ lx (nL f x) (nL f y) = .eq) : cEl f v nm x y = v x y := by
  cases nm with
  | false => rfl
  | true =>
    obtain ⟨h1, h2⟩ := h rfl
    unfold cEl cNa
    rw [if_pos rfl, if_neg (by omega), if_neg (by omega)]
    show (match lx (nL f x) (nL f y) with | .eq => v x y | o => o) = _
    rw [h2]
theorem c64_lt {x y : Int64} (h : x < y) : c64 x y = .lt := if_pos h
theorem c64_gt {x y : Int64} (h : y < x) : c64 x y = .gt := by
  unfold c64
  rw [if_neg (fun q => by have h1 := Int64.lt_iff_toInt_lt.mp h; have h2 := Int64.lt_iff_toInt_lt.mp q; omega), if_pos h]
theorem c64_eq {x y : Int64} (h1 : ¬ x < y) (h2 : ¬ y < x) : c64 x y = .eq := by
  unfold c64
  rw [if_neg h1, if_neg h2]
/-- some item of the row at a is the same as the value of kind k2 at b; the value itself is -/
noncomputable def isE (f : Nat → Nat) (d k a k2 b : Nat) : Bool := if k = 0 then decide (k2 = 10) else decide (ord f d k a k2 b = .eq) || (decide (k = 4) && (els f a).any (fun x => decide (ord f d (f x) (vo f x) k2 b = .eq)))
/-- how a condition of number c stands to an order -/
def stO (c : Nat) (o : Ordering) : Bool := if c = 5 then decide (o = .lt) else if c = 6 then decide (o ≠ .gt) else if c = 7 then decide (o = .gt) else decide (o ≠ .lt)
noncomputable def stD (f : Nat → Nat) (d c k a k2 b : Nat) : Bool := decide (clO k = clO k2) && stO c (ord f d k a k2 b)
noncomputable def isO (f : Nat → Nat) (d c k a k2 b : Nat) : Bool := if k = 0 then decide (k2 = 10) && decide (c = 6 ∨ c = 8) else stD f d c k a k2 b || (decide (k = 4) && (els f a).any (fun x => stD f d c (f x) (vo f x) k2 b))
theorem z_olt {o : Ordering} (h : ¬ 0 ≤ oI o) : o = .lt := by
  cases o
  · rfl
  · exact absurd (by decide) h
  · exact absurd (by decide) h
theorem z_ogt {o : Ordering} (hn : o ≠ .eq) (h : 0 ≤ oI o) : o = .gt := by
  cases o
  · exact absurd h (by decide)
  · exact absurd rfl hn
  · rfl
