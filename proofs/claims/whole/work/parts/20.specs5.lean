/-! ===== SPECS 5 ===== -/
abbrev rSo (d : Nat) : Room := { frames := 2 * d + 5, cells := 0, slots := 0, locals := 55 * d + 115 }
theorem okV_items {f : Nat → Nat} {d k a : Nat} (h : okV f d k a) (hk : k = 4) : Bx 18000 f a (els f a) ∧ ∀ x ∈ els f a, okV f d (f x) (vo f x) := by
  obtain ⟨d', rfl⟩ := h.s (Or.inr hk)
  exact ⟨(h.2 (Or.inr hk)).1, fun x hx => okV.up ((h.2 (Or.inr hk)).2 x hx)⟩
