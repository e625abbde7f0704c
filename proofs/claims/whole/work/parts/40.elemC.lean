/-! ===== element: one element of a document, its fault and what it leaves ===== -/
def tE (g : Nat → Nat) (a last : Nat) : Nat := nz g (last - (a + 1)) (a + 1)
def nmO (g pa be nm bx mn rw : Nat → Nat) (nd fr to op : Nat) : Bool := if rw (op - 1) = 1 then isNu g fr to (mn (op - 1)) else nmU (nmS g pa be nm bx fr to op) (nd - 1) 1
/-- the name is right: the element is taken as a node -/
def elG (g pa be nm bx mn rw : Nat → Nat) (nd a last op : Nat) : Prop := tE g a last < last ∧ bd g (a + 1) (tE g a last) < 0 ∧ nmO g pa be nm bx mn rw nd (a + 1) (tE g a last) op = true
theorem nz_last (g : Nat → Nat) {k last : Nat} (h : last ≤ k) : nz g (last - k) k = k := by
  rw [show last - k = 0 by omega]
  rfl
theorem nz_zero (g : Nat → Nat) {k last : Nat} (h : k < last) (h0 : g k = 0) : nz g (last - k) k = k := by
  rw [show last - k = (last - (k + 1)) + 1 by omega, nz, if_pos h0]
theorem nz_next (g : Nat → Nat) {k last : Nat} (h : k < last) (h0 : g k ≠ 0) : nz g (last - k) k = nz g (last - (k + 1)) (k + 1) := by
  rw [show last - k = (last - (k + 1)) + 1 by omega, nz, if_neg h0]
theorem bd_nn {g : Nat → Nat} {a to : Nat} (hat : a ≤ to) (hto : to < 2 ^ 31) : bd g a to = -1 ∨ 0 ≤ bd g a to := by
  unfold bd
  generalize to - a + 1 = n
  induction n generalizing a with
  | zero => exact Or.inl rfl
  | succ n ih =>
    unfold bdF
    split
    · rename_i h
      split
      · exact Or.inr (nI_pos' (by omega))
      · exact ih (chr_le h)
    · exact Or.inl rfl
