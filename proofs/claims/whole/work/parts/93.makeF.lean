/-! ===== lists of conditions and clauses made: words ===== -/
theorem kCond_inv (f : Nat → Nat) (d c : Nat) (S : cS) (h : sInv S) (h0 : S.1 = 0) : sInv (kCond f (ckF f d).1 (ckF f d).2 c S) := by
  obtain ⟨i1, i2⟩ := ckF_inv f d
  have hq := h.qc (f := f) (c := c) h0
  unfold kCond
  split
  · exact hq
  · rename_i z
    have z0 := Classical.not_not.mp z
    split
    · exact i1 _ _ hq z0
    · split
      · unfold kElem
        split
        · exact i1 _ _ hq z0
        · exact i2 _ _ hq z0
      · exact hq
theorem kEl_inv (f : Nat → Nat) (d e : Nat) (T : cS) (hT : sInv T) (hT0 : T.1 = 0) : sInv (kEl f (ckF f d).1 (ckF f d).2 e T) := by
  obtain ⟨i1, i2⟩ := ckF_inv f d
  unfold kEl
  split
  · unfold kJoin
    split
    · have h2 := hT.c1 hT0 (why := 2) ⟨by decide, by decide⟩ e 1 e (by decide) (f e = 4 ∧ 0 < fi f (vo f e))
      generalize sCnt (if f e = 4 ∧ 0 < fi f (vo f e) then T else sSay T 2 e) 1 e = Q at h2 ⊢
      split
      · exact h2
      · refine foldS_inv (fun i T2 hT2 h20 => ?_) _ _ h2
        split
        · exact i2 _ _ hT2 h20
        · exact hT2.say ⟨by decide, by decide⟩ i
    · exact hT.say ⟨by decide, by decide⟩ e
  · have hp := hT.pp (f := f) (e := e) hT0
    unfold kPath
    split
    · have h2 := hp.1.cnt hp.2 (more := 1) (by decide) e
      split
      · rename_i z
        exact i1 _ _ h2 z
      · exact h2
    · exact hp.1.cnt hp.2 (by decide) e
theorem okV.nz {f : Nat → Nat} {d k a : Nat} (h : okV f d k a) (hk : k = 3 ∨ k = 4) : ∀ x ∈ els f a, f (ne f x) = 0 := by
  obtain ⟨d', rfl⟩ := h.s hk
  exact fun x hx => (ch_ok (h.2 hk).1.2 hx).1.1.1
theorem ac_end {f : Nat → Nat} {g : eS} {E : List Nat} {S T : cS} (h1 : T.1 = 0 → foldS g E S = foldS g [] T) (h2 : T.1 ≠ 0 → eqS T (foldS g E S)) : eqS T (foldS g E S) := by
  by_cases z : T.1 = 0
  · rw [h1 z]; exact eqS.rf T
  · exact h2 z
