/-! ===== SPECS 8: numbers of rows, texts, low bytes ===== -/
/-- the model's view of its work -/
def MK (G : zG) (o qw : Nat) (fs : List Value) (f : Nat → Nat) (H : Heap) : Prop := zO G H o 10 fs ∧ zA G H qw 2000 f ∧ fs[12]? = some (.ref qw) ∧ ∀ i, f i < 256
theorem dgs_pos (v : Nat) : 1 ≤ dgs v ∧ dgs v ≤ 4 := by
  unfold dgs
  (repeat' split) <;> omega
theorem all_range {n : Nat} {p : Nat → Bool} (h : ∀ k, k < n → p k = true) : (List.range n).all p = true := by
  rw [List.all_eq_true]
  exact fun x hx => h x (List.mem_range.mp hx)
theorem nall_range {n : Nat} {p : Nat → Bool} {k : Nat} (hk : k < n) (h : p k = false) : (List.range n).all p = false := by
  cases hc : (List.range n).all p with
  | false => rfl
  | true =>
    have := (List.all_eq_true.mp hc) k (List.mem_range.mpr hk)
    rw [h] at this
    cases this
theorem chr_le {f : Nat → Nat} {a to : Nat} (h : a < to) : a + chr f a to ≤ to := by
  unfold chr
  (repeat' split) <;> omega
theorem sbN_step (f : Nat → Nat) (a j n : Nat) (hj : j < n) : lN (sb8 f a (j + 1) (n - (j + 1)) * 256 + f (a + j)) = lN (sb8 f a j (n - j)) := by
  rw [show n - j = (n - (j + 1)) + 1 by omega]
  congr 1
  show _ = f (a + j) + 256 * sb8 f a (j + 1) (n - (j + 1))
  omega
theorem dgt_lt (v k : Nat) : dgt v k < 2 ^ 31 := by
  unfold dgt
  have := Nat.mod_lt (v / 10 ^ (dgs v - 1 - k)) (show 0 < 10 by decide)
  omega
