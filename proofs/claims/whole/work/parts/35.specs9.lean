/-! ===== SPECS 9: the public methods of the reference ===== -/
abbrev rPub : Room := { frames := 600, cells := 0, slots := 0, locals := 17000 }
theorem is4 {i : Nat} (h : i < 4) : decide (¬ nI i < 0 ∧ nI i < 4) = true := by
  have : ∀ i, i < 4 → decide (¬ nI i < 0 ∧ nI i < 4) = true := by decide
  exact this i h
def is4i (x : Int32) : Bool := decide (¬ x < 0 ∧ x < 4)
/-- the number of the first element that does not hold -/
def fI (P : Nat → Bool) : List Nat → Nat → Int32
  | [], _ => -1
  | x :: X, k => if P x = true then fI P X (k + 1) else nI k
theorem fI_t {P : Nat → Bool} {x k : Nat} {X : List Nat} (h : P x = true) : fI P (x :: X) k = fI P X (k + 1) := by rw [fI, if_pos h]
theorem fI_f {P : Nat → Bool} {x k : Nat} {X : List Nat} (h : P x = false) : fI P (x :: X) k = nI k := by rw [fI, if_neg (by rw [h]; decide)]
def wB (p : Nat → Bool) : Nat := nB (p 0) + 2 * nB (p 1) + 4 * nB (p 2) + 8 * nB (p 3)
/-- byte k of an int -/
def byB (v : Int32) (k : Nat) : Nat := v.toBitVec.toNat / 2 ^ k % 256
theorem byB_lt (v : Int32) (k : Nat) : byB v k < 256 := Nat.mod_lt _ (by decide)
theorem byB_u (v : Int32) (k : Nat) (hk : k < 32) : ((v.toUInt32 >>> ((nI k).toUInt32 &&& Int32.toUInt32 31)).toInt32 &&& 255) = nI (byB v k) := by
  rw [pk_and _ 8 (by decide), pk_ushr v (nI k) k (s_u k hk)]
  rfl
theorem byB_s (v : Int32) (k : Nat) (hk : k < 25) : ((v >>> (nI k &&& 31)) &&& 255) = nI (byB v k) := by
  rw [← byB_u v k (by omega)]
  apply b_ext
  intro i hi
  rw [b_and, b_and, b_255, b_sshr k (by omega) v hi, b_ushr k (by omega) v i]
  by_cases q : i < 8
  · rw [if_pos (by omega)]
  · rw [decide_eq_false q, Bool.and_false, Bool.and_false]
def put4 (f : Nat → Nat) (p : Nat) (v : Int32) : Nat → Nat := upN (upN (upN (upN f p (byB v 24)) (p + 1) (byB v 16)) (p + 2) (byB v 8)) (p + 3) (byB v 0)
/-- the model's object with its field taped, and its store -/
def tF (w : Nat → Value) (qs tp : Nat) : List Value := [w 0, .ref qs, .int (nI tp), w 3, w 4, w 5, w 6, w 7, w 8, w 9, w 10, w 11, w 12, w 13, w 14, w 15, w 16, w 17, w 18, w 19, w 20, w 21, w 22]
def MT (G : zG) (o qs : Nat) (w : Nat → Value) (f : Nat → Nat) (tp : Nat) (H : Heap) : Prop := zO G H o 10 (tF w qs tp) ∧ zA G H qs 18000 f ∧ qs ≠ o
theorem upN_b {f : Nat → Nat} {p x : Nat} (h : ∀ i, f i < 256) (hx : x < 256) : ∀ i, upN f p x i < 256 := by
  intro i
  unfold upN
  split
  · exact hx
  · exact h i
