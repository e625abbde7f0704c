/-! ===== what has been read as a document lies in the store as one ===== -/
/-- the items of every row are numbered, every truth is 0 or 1 -/
def okW (f : Nat → Nat) : Nat → Nat → Nat → Prop
  | 0, k, a => k = 8 → f a ≤ 1
  | d + 1, k, a => (k = 8 → f a ≤ 1) ∧ (k = 4 → ∀ i x, (els f a)[i]? = some x → isNu f (x + 1) (ne f x) i = true) ∧ (k = 3 ∨ k = 4 → ∀ x ∈ els f a, okW f d (f x) (vo f x))
theorem okK_8 {k : Nat} (h : okK k = true) : k = 2 ∨ k = 3 ∨ k = 4 ∨ k = 8 ∨ k = 10 ∨ k = 16 ∨ k = 18 := of_decide_eq_true h
theorem txF_0 {f : Nat → Nat} {v last : Nat} (h : txF f v last = 0) : v + 4 + wh f v ≤ last ∧ 1 ≤ wh f v ∧ bd f (v + 4) (v + 4 + wh f v - 1) < 0 ∧ f (v + 4 + wh f v - 1) = 0 := by
  unfold txF at h
  by_cases h3 : last - v < 4
  · rw [if_pos h3] at h; omega
  · rw [if_neg h3] at h
    by_cases h4 : wh f v < 1
    · rw [if_pos h4] at h; omega
    · rw [if_neg h4] at h
      by_cases h5 : last - v - 4 < wh f v
      · rw [if_pos h5] at h; omega
      · rw [if_neg h5] at h
        by_cases h6 : bd f (v + 4) (v + 4 + wh f v - 1) < 0
        · rw [if_pos h6] at h
          by_cases h7 : f (v + 4 + wh f v - 1) = 0
          · exact ⟨by omega, by omega, h6, h7⟩
          · rw [if_neg h7] at h; omega
        · rw [if_neg h6] at h
          by_cases h7 : f (v + 4 + wh f v - 1) = 0
          · rw [if_pos h7] at h; omega
          · rw [if_neg h7] at h; omega
theorem vaF_n {f : Nat → Nat} {k v last : Nat} (h : vaF f k v last = 0) (hk : k = 16 ∨ k = 18 ∨ k = 8) (hl : v ≤ last) : v + vaN k ≤ last ∧ (k = 8 → f v ≤ 1) := by
  unfold vaF at h
  rw [if_pos hk] at h
  by_cases h2 : last - v < vaN k
  · rw [if_pos h2] at h; omega
  · rw [if_neg h2] at h
    by_cases h3 : k = 8 ∧ 1 < f v
    · rw [if_pos h3] at h; omega
    · exact ⟨by omega, fun q => by omega⟩
theorem vaF_t {f : Nat → Nat} {v last : Nat} (h : vaF f 2 v last = 0) : txF f v last = 0 := by
  unfold vaF at h
  rw [if_neg (by omega), if_pos rfl] at h
  exact h
theorem vaR_ln {f : Nat → Nat} {k v last : Nat} (hk : okK k = true) (h3 : ¬ (k = 3 ∨ k = 4)) (h : vaF f k v last = 0) : vaR f k v last = v + ln f k v := by
  have h8 := okK_8 hk
  unfold vaR ln vaN
  by_cases z : k = 16 ∨ k = 18 ∨ k = 8
  · rw [if_pos z]
    rcases z with z | z | z <;> subst z <;> rfl
  · rw [if_neg z]
    by_cases y : k = 2
    · subst y
      have h9 := txF_0 (vaF_t h)
      rw [if_pos rfl, txR, if_neg (by omega), if_neg (by omega), if_neg (by omega)]
      show _ = v + (4 + wh f v)
      omega
    · have : k = 10 := by omega
      subst this
      rfl
theorem okB_v {f : Nat → Nat} {k v last : Nat} (hk : okK k = true) (h3 : ¬ (k = 3 ∨ k = 4)) (h : vaF f k v last = 0) (hv : v ≤ last) (hl : last < 18000) : okB f k v := by
  have h8 := okK_8 hk
  refine ⟨by omega, fun q => ?_, fun q => ?_, fun q => ?_, fun q => ?_, fun q => absurd (Or.inl q) h3⟩
  · omega
  · have := vaF_n h (Or.inl q) hv
    subst q
    have h9 : vaN 16 = 4 := rfl
    omega
  · have := vaF_n h (Or.inr (Or.inl q)) hv
    subst q
    have h9 : vaN 18 = 8 := rfl
    omega
  · subst q
    have := txF_0 (vaF_t h)
    omega
theorem okV_simple {f : Nat → Nat} {d k v : Nat} (hb : okB f k v) (h3 : ¬ (k = 3 ∨ k = 4)) : okV f d k v := by
  cases d with
  | zero => exact ⟨hb, fun q => h3 (Or.inl q), fun q => h3 (Or.inr q)⟩
  | succ d => exact ⟨hb, fun q => absurd q h3⟩
theorem okW.t {f : Nat → Nat} {d k a : Nat} (h : okW f d k a) : k = 8 → f a ≤ 1 := by
  cases d with
  | zero => exact h
  | succ d => exact h.1
theorem okW_simple {f : Nat → Nat} {d k v : Nat} (h3 : ¬ (k = 3 ∨ k = 4)) (h8 : k = 8 → f v ≤ 1) : okW f d k v := by
  cases d with
  | zero => exact h8
  | succ d => exact ⟨h8, fun q => absurd (Or.inr q) h3, fun q => absurd q h3⟩
theorem pE_ok {f : Nat → Nat} : ∀ F dep a last row cnt L e, pE f F dep a last row cnt L = some e → a ≤ last → last < 18000 → last ≤ a + 1999 → 0 < a → dep ≤ 16 →
    ∃ M, Ch 18000 f (if f a = 0 then 0 else a) M ∧ (∀ x ∈ M, okV f (16 - dep) (f x) (vo f x)) ∧ (∀ x ∈ M, okW f (16 - dep) (f x) (vo f x)) ∧ (row = true → ∀ i x, M[i]? = some x → isNu f (x + 1) (ne f x) (cnt + i) = true)
  | 0, _, _, _, _, _, _, _, h, _, _, _, _, _ => by cases h
  | F + 1, dep, a, last, row, cnt, L, e, h, ha, hl, hw, h0, hd => by
    by_cases h1 : a = last
    · by_cases h2 : f a = 0
      · refine ⟨[], by rw [if_pos h2]; rfl, fun x hx => (by cases hx), fun x hx => (by cases hx), fun _ i x hx => (by simp at hx)⟩
      · rw [pE_endN h1 h2] at h; cases h
    · cases h2 : gE f row cnt a last L with
      | false => rw [pE_no h1 h2] at h; cases h
      | true =>
        obtain ⟨hk, ht, -, hnm⟩ := gE_tE h2
        have hgt := tE_gt f a last
        have hne := tE_ne' ht (by omega)
        have hvo : vo f a = tE f a last + 1 := by unfold vo; rw [hne]
        have hk8 := okK_8 hk
        have hfa : f a ≠ 0 := by omega
        have hz : f (ne f a) = 0 := by rw [← hne]; exact tE_0 ht
        have fin : ∀ M, okE 18000 f a → Ch 18000 f (nx f a) M → (∀ x ∈ M, okV f (16 - dep) (f x) (vo f x)) → (∀ x ∈ M, okW f (16 - dep) (f x) (vo f x)) → (row = true → ∀ i x, M[i]? = some x → isNu f (x + 1) (ne f x) (cnt + 1 + i) = true) → okV f (16 - dep) (f a) (vo f a) → okW f (16 - dep) (f a) (vo f a) →
            ∃ M, Ch 18000 f (if f a = 0 then 0 else a) M ∧ (∀ x ∈ M, okV f (16 - dep) (f x) (vo f x)) ∧ (∀ x ∈ M, okW f (16 - dep) (f x) (vo f x)) ∧ (row = true → ∀ i x, M[i]? = some x → isNu f (x + 1) (ne f x) (cnt + i) = true) := by
          intro M e1 e2 e3 e4 e5 e6 e7
          refine ⟨a :: M, by rw [if_neg hfa]; exact ⟨rfl, h0, e1, e2⟩, fun x hx => ?_, fun x hx => ?_, fun hr i x hx => ?_⟩
          · rcases List.mem_cons.mp hx with q | q
            · subst q; exact e6
            · exact e3 x q
          · rcases List.mem_cons.mp hx with q | q
            · subst q; exact e7
            · exact e4 x q
          · cases i with
            | zero =>
              simp at hx
              subst hx
              subst hr
              rw [nmG, if_pos rfl, hne] at hnm
              exact hnm
            | succ i =>
              simp at hx
              have := e5 hr i x hx
              rwa [show cnt + 1 + i = cnt + (i + 1) by omega] at this
        by_cases h3 : f a = 3 ∨ f a = 4
        · by_cases h4 : opF f (tE f a last + 1) (last - (tE f a last + 1)) dep = 0
          · have h8 := opF_0 h4
            cases h5 : pE f F (dep + 1) (tE f a last + 1 + 4) (tE f a last + 1 + wh f (tE f a last + 1) - 1) (decide (f a = 4)) 0 [] with
            | none => rw [pE_bI h1 h2 h3 h4 h5] at h; cases h
            | some e2 =>
              rw [pE_b h1 h2 h3 h4 h5] at h
              have he := pE_e h5
              rw [← hvo] at h4 h5 h8 he
              have hth : th f a = e2 := by
                unfold th
                rw [he, show ln f (f a) (vo f a) = wh f (vo f a) by unfold ln; rcases h3 with q | q <;> rw [q] <;> rfl]
                omega
              obtain ⟨M2, m1, m2, m3, m4⟩ := pE_ok F (dep + 1) (vo f a + 4) (vo f a + wh f (vo f a) - 1) (decide (f a = 4)) 0 [] e2 h5 (by omega) (by omega) (by omega) (by omega) (by omega)
              obtain ⟨M, n1, n2, n3, n4⟩ := pE_ok F dep e2 last row (cnt + 1) (a :: L) e h (by omega) hl (by omega) (by omega) hd
              have hE : els f (vo f a) = M2 := els_eq m1
              have hds : 16 - dep = (16 - (dep + 1)) + 1 := by omega
              refine fin M ⟨⟨hz, by omega⟩, fun _ => by omega, by omega⟩ (by rw [nx, hth]; exact n1) n2 n3 n4 ?_ ?_
              · rw [hds]
                refine ⟨⟨by omega, fun q => by omega, fun q => by omega, fun q => by omega, fun q => by omega, fun q => by omega⟩, fun _ => ?_⟩
                rw [hE]
                exact ⟨⟨by omega, m1⟩, m2⟩
              · rw [hds]
                refine ⟨fun q => by omega, fun q => ?_, fun _ => ?_⟩
                · rw [hE]
                  intro i x hx
                  have := m4 (decide_eq_true q) i x hx
                  rwa [Nat.zero_add] at this
                · rw [hE]; exact m3
          · rw [pE_bN h1 h2 h3 h4] at h; cases h
        · by_cases h4 : vaF f (f a) (tE f a last + 1) last = 0
          · rw [pE_v h1 h2 h3 h4] at h
            have hr := vaR_le (by omega) h4
            have hln := vaR_ln hk h3 h4
            rw [← hvo] at h4 h hr hln
            have hth : th f a = vaR f (f a) (vo f a) last := by unfold th; rw [hln]
            obtain ⟨M, n1, n2, n3, n4⟩ := pE_ok F dep _ last row (cnt + 1) (a :: L) e h (by omega) hl (by omega) (by omega) hd
            have hB := okB_v hk h3 h4 (by omega) hl
            refine fin M ⟨⟨hz, by omega⟩, fun q => ?_, by omega⟩ (by rw [nx, hth]; exact n1) n2 n3 n4 (okV_simple hB h3) (okW_simple h3 (fun q => (vaF_n h4 (Or.inr (Or.inr q)) (by omega)).2 q))
            rcases q with q | q | q
            · have := hB.2.2.2.2.1 q; omega
            · exact absurd (Or.inl q) h3
            · exact absurd (Or.inr q) h3
          · rw [pE_vN h1 h2 h3 h4] at h; cases h
theorem dcB_ok {f : Nat → Nat} {c n : Nat} (h : dcB f c n = true) (hn : n ≤ 2000) (hc : c ≤ 16000) : okV f 16 3 c ∧ okW f 16 3 c ∧ wh f c = n ∧ 5 ≤ n := by
  unfold dcB at h
  have h1 := (Bool.and_eq_true _ _).mp h
  have h2 := opF_0 (of_decide_eq_true h1.1)
  cases hp : pE f n 1 (c + 4) (c + n - 1) false 0 [] with
  | none => rw [hp] at h1; exact absurd h1.2 (by decide)
  | some e =>
    have hw := h2.2.2.2.2 rfl
    obtain ⟨M, m1, m2, m3, -⟩ := pE_ok n 1 (c + 4) (c + n - 1) false 0 [] e hp (by omega) (by omega) (by omega) (by omega) (by omega)
    have hE : els f c = M := els_eq m1
    refine ⟨⟨⟨by omega, fun q => by omega, fun q => by omega, fun q => by omega, fun q => by omega, fun q => by omega⟩, fun _ => ?_⟩, ⟨fun q => absurd q (by decide), fun q => absurd q (by decide), fun _ => ?_⟩, hw, by omega⟩
    · rw [hE]; exact ⟨⟨by omega, m1⟩, m2⟩
    · rw [hE]; exact m3
theorem okW.up {f : Nat → Nat} : ∀ {d k a : Nat}, okV f d k a → okW f d k a → okW f (d + 1) k a
  | 0, k, a, hv, h => ⟨h, fun q => absurd q hv.2.2, fun q => absurd q (by have := hv.2; omega)⟩
  | d + 1, k, a, hv, h => ⟨h.1, h.2.1, fun q x hx => okW.up ((hv.2 q).2 x hx) (h.2.2 q x hx)⟩
theorem okW.to16 {f : Nat → Nat} {k a : Nat} : ∀ {n d : Nat}, okV f d k a → okW f d k a → d + n = 16 → okW f 16 k a
  | 0, d, _, h, e => by have : d = 16 := by omega
                        subst this; exact h
  | n + 1, d, hv, h, e => okW.to16 (n := n) hv.up (okW.up hv h) (by omega)
