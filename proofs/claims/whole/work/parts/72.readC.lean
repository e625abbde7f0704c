/-! ===== reading a document: what the class's reader answers ===== -/
theorem opF_pos {g : Nat → Nat} {a left op : Nat} (h1 : 5 ≤ wh g a) (h2 : wh g a ≤ left) (h3 : op ≠ 16) (h0 : op ≠ 0) : opF g a left op = 0 := by
  unfold opF
  rw [if_neg (by omega), if_neg (by omega), if_neg (by omega), if_neg h3]
theorem pE_more {g : Nat → Nat} : ∀ (F dep a last : Nat) (row : Bool) (cnt : Nat) (L : List Nat), last < a + F → a ≤ last → ∀ F2, last < a + F2 → pE g F dep a last row cnt L = pE g F2 dep a last row cnt L
  | 0, dep, a, last, row, cnt, L, h, ha, F2, h2 => by omega
  | F + 1, dep, a, last, row, cnt, L, h, ha, 0, h2 => by omega
  | F + 1, dep, a, last, row, cnt, L, h, ha, F2 + 1, h2 => by
    by_cases e : a = last
    · by_cases e0 : g a = 0
      · rw [pE_end0 e e0, pE_end0 e e0]
      · rw [pE_endN e e0, pE_endN e e0]
    · cases hg : gE g row cnt a last L with
      | false => rw [pE_no e hg, pE_no e hg]
      | true =>
        have htE : tE g a last < last := by
          unfold gE at hg
          simp only [Bool.and_eq_true, decide_eq_true_eq] at hg
          exact hg.2.1
        have hgt := tE_gt g a last
        by_cases h3 : g a = 3 ∨ g a = 4
        · by_cases hv : opF g (tE g a last + 1) (last - (tE g a last + 1)) dep = 0
          · have ho := opF_0 hv
            have e1 := pE_more (g := g) F (dep + 1) (tE g a last + 1 + 4) (tE g a last + 1 + wh g (tE g a last + 1) - 1) (decide (g a = 4)) 0 [] (by omega) (by omega) F2 (by omega)
            cases hi : pE g F (dep + 1) (tE g a last + 1 + 4) (tE g a last + 1 + wh g (tE g a last + 1) - 1) (decide (g a = 4)) 0 [] with
            | none => rw [pE_bI e hg h3 hv hi, pE_bI e hg h3 hv (e1.symm.trans hi)]
            | some x =>
              have ex := pE_e hi
              rw [pE_b e hg h3 hv hi, pE_b e hg h3 hv (e1.symm.trans hi)]
              exact pE_more F dep x last row (cnt + 1) (a :: L) (by omega) (by omega) F2 (by omega)
          · rw [pE_bN e hg h3 hv, pE_bN e hg h3 hv]
        · by_cases hv : vaF g (g a) (tE g a last + 1) last = 0
          · have hr := vaR_le (by omega) hv
            rw [pE_v e hg h3 hv, pE_v e hg h3 hv]
            exact pE_more F dep _ last row (cnt + 1) (a :: L) (by omega) (by omega) F2 (by omega)
          · rw [pE_vN e hg h3 hv, pE_vN e hg h3 hv]
def PE (f : Nat → Nat) (dep a last : Nat) (row : Bool) (cnt : Nat) (L : List Nat) : Option Nat := pE f (last - a + 1) dep a last row cnt L
def opn (f : Nat → Nat) (a left dep : Nat) : Bool := decide (5 ≤ wh f a ∧ wh f a ≤ left ∧ dep < 16)
/-- the box at a lies ahead of last, and is right within -/
def bOK (f : Nat → Nat) (dep k a last : Nat) : Bool := opn f a (last - a) dep && (PE f (dep + 1) (a + 4) (a + wh f a - 1) (decide (k = 4)) 0 []).isSome
def vOK (f : Nat → Nat) (dep k a last : Nat) : Bool := if k = 3 ∨ k = 4 then bOK f dep k a last else okK k && decide (vaF f k a last = 0)
def eOK (f : Nat → Nat) (dep a last : Nat) : Bool := decide (tE f a last < last) && (decide (bd f (a + 1) (tE f a last) < 0) && vOK f dep (f a) (tE f a last + 1) last)
theorem eOK_t {f : Nat → Nat} {dep a last : Nat} (h : eOK f dep a last = true) : tE f a last < last ∧ bd f (a + 1) (tE f a last) < 0 ∧ vOK f dep (f a) (tE f a last + 1) last = true := by
  unfold eOK at h
  simp only [Bool.and_eq_true, decide_eq_true_eq] at h
  exact h
theorem vOK_k {f : Nat → Nat} {dep k a last : Nat} (h : vOK f dep k a last = true) : okK k = true := by
  unfold vOK at h
  by_cases z : k = 3 ∨ k = 4
  · exact decide_eq_true (by omega)
  · rw [if_neg z] at h
    exact (Bool.and_eq_true _ _).mp h |>.1
theorem bOK_t {f : Nat → Nat} {dep k a last : Nat} (h : bOK f dep k a last = true) : 5 ≤ wh f a ∧ wh f a ≤ last - a ∧ dep < 16 ∧ (PE f (dep + 1) (a + 4) (a + wh f a - 1) (decide (k = 4)) 0 []).isSome = true := by
  unfold bOK opn at h
  simp only [Bool.and_eq_true, decide_eq_true_eq] at h
  exact ⟨h.1.1, h.1.2.1, h.1.2.2, h.2⟩
/-- where a right value ends -/
theorem vOK_end {f : Nat → Nat} {dep k a last : Nat} (h : vOK f dep k a last = true) (ha : a ≤ last) : a ≤ a + ln f k a ∧ a + ln f k a ≤ last := by
  have hk := vOK_k h
  unfold vOK at h
  by_cases z : k = 3 ∨ k = 4
  · rw [if_pos z] at h
    obtain ⟨h1, h2, -⟩ := bOK_t h
    have e : ln f k a = wh f a := by
      unfold ln
      rcases z with z | z <;> subst z <;> rfl
    omega
  · rw [if_neg z] at h
    have hv := of_decide_eq_true ((Bool.and_eq_true _ _).mp h).2
    rw [← vaR_ln hk z hv]
    exact vaR_le ha hv
theorem eOK_th {f : Nat → Nat} {dep a last : Nat} (h : eOK f dep a last = true) (ha : a < last) (hl : last ≤ 2000) : th f a ≤ last ∧ a + 2 ≤ th f a ∧ tE f a last = ne f a ∧ vo f a = tE f a last + 1 := by
  obtain ⟨h1, h2, h3⟩ := eOK_t h
  have e := tE_ne h1 hl
  have h4 := vOK_end h3 (by omega)
  have h5 := tE_gt f a last
  have e2 : vo f a = tE f a last + 1 := by unfold vo; rw [e]
  unfold th
  rw [e2]
  exact ⟨h4.2, by omega, e, rfl⟩
theorem PE_step {f : Nat → Nat} {dep a last cnt : Nat} {row : Bool} {L : List Nat} (ha : a < last) (hl : last ≤ 2000) (hd : 1 ≤ dep) (hd2 : dep ≤ 16) : PE f dep a last row cnt L = if (eOK f dep a last && nmG f row cnt (a + 1) (tE f a last) L) = true then PE f dep (th f a) last row (cnt + 1) (a :: L) else none := by
  have hne : a ≠ last := by omega
  unfold PE
  have hg0 : gE f row cnt a last L = (okK (f a) && (decide (tE f a last < last) && (decide (bd f (a + 1) (tE f a last) < 0) && nmG f row cnt (a + 1) (tE f a last) L))) := rfl
  cases ht : decide (tE f a last < last) with
  | false =>
    rw [pE_no hne (by rw [hg0, ht, Bool.false_and, Bool.and_false])]
    rw [if_neg]
    unfold eOK
    rw [ht]
    simp
  | true =>
  cases hb : decide (bd f (a + 1) (tE f a last) < 0) with
  | false =>
    rw [pE_no hne (by rw [hg0, hb, Bool.false_and, Bool.and_false, Bool.and_false])]
    rw [if_neg]
    unfold eOK
    rw [hb]
    simp
  | true =>
  cases hn : nmG f row cnt (a + 1) (tE f a last) L with
  | false =>
    rw [pE_no hne (by rw [hg0, hn]; simp)]
    rw [if_neg (by simp)]
  | true =>
  cases hk : okK (f a) with
  | false =>
    rw [pE_no hne (by rw [hg0, hk]; rfl)]
    rw [if_neg]
    intro z
    have := vOK_k (eOK_t ((Bool.and_eq_true _ _).mp z).1).2.2
    rw [hk] at this
    cases this
  | true =>
    have hg : gE f row cnt a last L = true := by rw [hg0, hk, ht, hb, hn]; rfl
    have htl := of_decide_eq_true ht
    have hgt := tE_gt f a last
    have e2 : vo f a = tE f a last + 1 := by unfold vo; rw [tE_ne htl hl]
    have ee : eOK f dep a last = vOK f dep (f a) (tE f a last + 1) last := by unfold eOK; rw [ht, hb]; rfl
    rw [Bool.and_true, ee]
    by_cases z : f a = 3 ∨ f a = 4
    · have ev : vOK f dep (f a) (tE f a last + 1) last = bOK f dep (f a) (tE f a last + 1) last := by unfold vOK; rw [if_pos z]
      have elen : ln f (f a) (vo f a) = wh f (tE f a last + 1) := by
        rw [e2]; unfold ln
        rcases z with z | z <;> rw [z] <;> rfl
      rw [ev]
      by_cases ho : 5 ≤ wh f (tE f a last + 1) ∧ wh f (tE f a last + 1) ≤ last - (tE f a last + 1) ∧ dep < 16
      · have hop := opF_pos (op := dep) ho.1 ho.2.1 (by omega) (by omega)
        have em := pE_more (g := f) (last - a) (dep + 1) (tE f a last + 1 + 4) (tE f a last + 1 + wh f (tE f a last + 1) - 1) (decide (f a = 4)) 0 [] (by omega) (by omega) (tE f a last + 1 + wh f (tE f a last + 1) - 1 - (tE f a last + 1 + 4) + 1) (by omega)
        cases hi : pE f (last - a) (dep + 1) (tE f a last + 1 + 4) (tE f a last + 1 + wh f (tE f a last + 1) - 1) (decide (f a = 4)) 0 [] with
        | none =>
          rw [pE_bI hne hg z hop hi, if_neg]
          intro q
          have := (bOK_t q).2.2.2
          unfold PE at this
          rw [← em, hi] at this
          cases this
        | some x =>
          have ex := pE_e hi
          have eb : bOK f dep (f a) (tE f a last + 1) last = true := by
            unfold bOK opn PE
            rw [decide_eq_true ho, ← em, hi]
            rfl
          have eth : th f a = x := by unfold th; rw [elen, e2]; omega
          rw [pE_b hne hg z hop hi, if_pos eb, eth]
          exact pE_more _ _ _ _ _ _ _ (by omega) (by omega) _ (by omega)
      · have hop : opF f (tE f a last + 1) (last - (tE f a last + 1)) dep ≠ 0 := by
          intro q
          have := opF_0 q
          exact ho ⟨this.2.1, this.2.2.1, by omega⟩
        rw [pE_bN hne hg z hop, if_neg]
        intro q
        have := bOK_t q
        exact ho ⟨this.1, this.2.1, this.2.2.1⟩
    · have ev : vOK f dep (f a) (tE f a last + 1) last = decide (vaF f (f a) (tE f a last + 1) last = 0) := by unfold vOK; rw [if_neg z, hk, Bool.true_and]
      rw [ev]
      by_cases hv : vaF f (f a) (tE f a last + 1) last = 0
      · have hr := vaR_le (g := f) (k := f a) (a := tE f a last + 1) (last := last) (by omega) hv
        rw [pE_v hne hg z hv, if_pos (decide_eq_true hv)]
        have eth : th f a = vaR f (f a) (tE f a last + 1) last := by rw [vaR_ln hk z hv]; unfold th; rw [e2]
        rw [eth]
        exact pE_more _ _ _ _ _ _ _ (by omega) (by omega) _ (by omega)
      · rw [pE_vN hne hg z hv, if_neg (by rw [decide_eq_false hv]; decide)]
theorem PE_end {f : Nat → Nat} {dep last cnt : Nat} {row : Bool} {L : List Nat} : PE f dep last last row cnt L = if f last = 0 then some (last + 1) else none := by
  unfold PE
  by_cases h : f last = 0
  · rw [if_pos h, pE_end0 rfl h]
  · rw [if_neg h, pE_endN rfl h]
/-- the elements xs one behind the other, from e on up to a -/
def chP (f : Nat → Nat) : Nat → List Nat → Nat → Prop
  | e, [], a => e = a
  | e, x :: xs, a => e = x ∧ 0 < x ∧ okE 18000 f x ∧ f x ≠ 0 ∧ chP f (th f x) xs a
theorem chP_app {f : Nat → Nat} {a : Nat} (h0 : 0 < a) (h1 : okE 18000 f a) (h2 : f a ≠ 0) : ∀ {xs : List Nat} {e : Nat}, chP f e xs a → chP f e (xs ++ [a]) (th f a)
  | [], e, h => ⟨h, h0, h1, h2, rfl⟩
  | x :: xs, e, h => ⟨h.1, h.2.1, h.2.2.1, h.2.2.2.1, chP_app h0 h1 h2 h.2.2.2.2⟩
theorem chP_ch {f : Nat → Nat} {last : Nat} (hl : f last = 0) : ∀ {xs : List Nat} {e : Nat}, chP f e xs last → Ch 18000 f (if f e = 0 then 0 else e) xs
  | [], e, h => by
    have h : e = last := h
    subst h
    rw [if_pos hl]
    rfl
  | x :: xs, e, h => by
    obtain ⟨h1, h2, h3, h4, h5⟩ := h
    subst h1
    rw [if_neg h4]
    exact ⟨rfl, h2, h3, chP_ch hl h5⟩
theorem chP_els {f : Nat → Nat} {at0 last : Nat} {xs : List Nat} (hl : f last = 0) (h : chP f (at0 + 4) xs last) : els f at0 = xs := els_eq (chP_ch hl h)
theorem eOK_okE {f : Nat → Nat} {dep a last : Nat} (h : eOK f dep a last = true) (ha : a < last) (hl : last ≤ 2000) : okE 18000 f a ∧ f a ≠ 0 := by
  obtain ⟨h1, h2, h3, h4⟩ := eOK_th h ha hl
  obtain ⟨g1, g2, g3⟩ := eOK_t h
  have hk := okK_8 (vOK_k g3)
  have h9 := tE_0 g1
  refine ⟨⟨⟨by rw [← h3]; exact h9, by rw [← h3]; omega⟩, fun q => ?_, by omega⟩, by omega⟩
  rw [h4]
  omega
/-- what reading an element costs, in bytes -/
def useE (f : Nat → Nat) (dep a last : Nat) : Nat := if eOK f dep a last = true then th f a - a else last - a
def useV (f : Nat → Nat) (dep k a last : Nat) : Nat := if vOK f dep k a last = true then ln f k a else last - a
theorem useV_le {f : Nat → Nat} {dep k a last : Nat} (ha : a ≤ last) : useV f dep k a last ≤ last - a := by
  unfold useV
  by_cases h : vOK f dep k a last = true
  · rw [if_pos h]
    have := vOK_end h ha
    omega
  · rw [if_neg h]; exact Nat.le_refl _
theorem useE_le {f : Nat → Nat} {dep a last : Nat} (ha : a < last) (hl : last ≤ 2000) : useE f dep a last ≤ last - a := by
  unfold useE
  by_cases h : eOK f dep a last = true
  · rw [if_pos h]
    have := eOK_th h ha hl
    omega
  · rw [if_neg h]; exact Nat.le_refl _
theorem useE_V {f : Nat → Nat} {dep a last : Nat} (hl : last ≤ 2000) (ht : tE f a last < last) : tE f a last + 1 - a + useV f dep (f a) (tE f a last + 1) last ≤ useE f dep a last ∨ (eOK f dep a last = false ∧ useE f dep a last = last - a) := by
  have hgt := tE_gt f a last
  unfold useE useV
  by_cases h : eOK f dep a last = true
  · have h3 := eOK_th h (by omega) hl
    rw [if_pos h, if_pos (eOK_t h).2.2]
    left
    have e : th f a = tE f a last + 1 + ln f (f a) (tE f a last + 1) := by unfold th; rw [h3.2.2.2]
    omega
  · right
    rw [if_neg h]
    exact ⟨Bool.eq_false_iff.mpr h, rfl⟩
theorem vOK_box {f : Nat → Nat} {dep k a last : Nat} (h : k = 3 ∨ k = 4) : vOK f dep k a last = bOK f dep k a last := by unfold vOK; rw [if_pos h]
theorem vOK_val {f : Nat → Nat} {dep k a last : Nat} (hk : okK k = true) (h : ¬ (k = 3 ∨ k = 4)) : vOK f dep k a last = decide (vaF f k a last = 0) := by unfold vOK; rw [if_neg h, hk, Bool.true_and]
theorem vOK_no {f : Nat → Nat} {dep k a last : Nat} (hk : okK k = false) : vOK f dep k a last = false := by
  have h : ¬ (k = 3 ∨ k = 4) := fun z => by
    have : okK k = true := decide_eq_true (by omega)
    rw [hk] at this; cases this
  unfold vOK; rw [if_neg h, hk]; rfl
/-! numbers with the lowest byte first -/
theorem or8 {x y k : Nat} (hx : x < 2 ^ k) (hy : y * 2 ^ k < 2 ^ 64) : lN x ||| lN (y * 2 ^ k) = lN (x + y * 2 ^ k) := by
  have hx64 : x < 2 ^ 64 ∨ y = 0 := by
    by_cases z : y = 0
    · exact Or.inr z
    · left
      have : 1 * 2 ^ k ≤ y * 2 ^ k := Nat.mul_le_mul_right _ (by omega)
      omega
  rcases hx64 with h | h
  · apply Int64.toBitVec_inj.mp
    apply BitVec.eq_of_toNat_eq
    have e1 : (lN x).toBitVec.toNat = x := by
      show x % 2 ^ 64 = _
      omega
    have e2 : (lN (y * 2 ^ k)).toBitVec.toNat = y * 2 ^ k := by
      show (y * 2 ^ k) % 2 ^ 64 = _
      omega
    have eor : y * 2 ^ k ||| x = y * 2 ^ k + x := by rw [Nat.mul_comm, ← Nat.two_pow_add_eq_or_of_lt hx]
    have hlt : x + y * 2 ^ k < 2 ^ 64 := by
      have h1 : x ||| y * 2 ^ k < 2 ^ 64 := Nat.or_lt_two_pow h hy
      rw [Nat.or_comm, eor] at h1
      omega
    have e3 : (lN (x + y * 2 ^ k)).toBitVec.toNat = x + y * 2 ^ k := by
      show (x + y * 2 ^ k) % 2 ^ 64 = _
      omega
    rw [e3]
    show (lN x).toBitVec.toNat ||| (lN (y * 2 ^ k)).toBitVec.toNat = _
    rw [e1, e2, Nat.or_comm, eor, Nat.add_comm]
  · subst h
    rw [Nat.zero_mul, Nat.add_zero]
    show lN x ||| 0 = lN x
    exact Int64.or_zero
theorem shlN8 {y i : Nat} (hy : y < 256) (hi : i < 8) : lN y <<< ((nI (8 * i)).toInt64 &&& 63) = lN (y * 2 ^ (8 * i)) := by
  have h : ∀ i, i < 8 → ∀ y, y < 256 → lN y <<< ((nI (8 * i)).toInt64 &&& 63) = lN (y * 2 ^ (8 * i)) := by decide +kernel
  exact h i hi y hy
theorem sb8_end (f : Nat → Nat) (a : Nat) : ∀ k z, sb8 f a z (k + 1) = sb8 f a z k + f (a + z + k) * 2 ^ (8 * k)
  | 0, z => by
    show f (a + z) + 256 * 0 = 0 + f (a + z + 0) * 2 ^ (8 * 0)
    simp
  | k + 1, z => by
    show f (a + z) + 256 * sb8 f a (z + 1) (k + 1) = f (a + z) + 256 * sb8 f a (z + 1) k + _
    have e := sb8_end f a k (z + 1)
    rw [e, show a + (z + 1) + k = a + z + (k + 1) by omega, show 8 * (k + 1) = 8 * k + 8 by omega, Nat.pow_add]
    generalize sb8 f a (z + 1) k = X
    generalize f (a + z + (k + 1)) = Y
    generalize 2 ^ (8 * k) = P
    rw [Nat.mul_add, ← Nat.add_assoc, show (2 : Nat) ^ 8 = 256 by decide, ← Nat.mul_assoc Y P 256, Nat.mul_comm 256 (Y * P)]
theorem sb8_lt2 (f : Nat → Nat) (h8 : ∀ i, f i < 256) (a k z : Nat) : sb8 f a z k < 2 ^ (8 * k) := by
  have h := sb8_lt' f h8 a k z
  rw [show (256 : Nat) = 2 ^ 8 by decide, ← Nat.pow_mul] at h
  exact h
theorem rn_step {f : Nat → Nat} (h8 : ∀ i, f i < 256) {a k : Nat} (hk : k < 8) : lN (sb8 f a 0 k) ||| lN (f (a + k) * 2 ^ (8 * k)) = lN (sb8 f a 0 (k + 1)) := by
  rw [or8 (sb8_lt2 f h8 a k 0) ?_, sb8_end, Nat.add_zero]
  have h1 : f (a + k) * 2 ^ (8 * k) < 256 * 2 ^ (8 * k) := Nat.mul_lt_mul_of_pos_right (h8 _) (Nat.two_pow_pos _)
  have h2 : 256 * 2 ^ (8 * k) = 2 ^ (8 * k + 8) := by rw [Nat.pow_add, Nat.mul_comm]
  have h3 : 2 ^ (8 * k + 8) ≤ 2 ^ 64 := Nat.pow_le_pow_right (by decide) (by omega)
  omega
