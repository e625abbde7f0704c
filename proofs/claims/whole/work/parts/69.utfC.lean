/-! ===== texts of UTF-8 as the class tries them; decimal digits ===== -/
def uS (f : Nat → Nat) : Nat → Nat → Nat → Nat → Nat → Nat → Bool
  | 0, _, _, _, _, _ => true
  | n + 1, i, to, c, l, w =>
    if i < to then
      (if w = 0 then (if f i < 128 then uS f n (i + 1) to (f i) 0 0 else if f i < 192 ∨ 247 < f i then false else if f i < 224 then uS f n (i + 1) to (f i - 192) 128 1 else if f i < 240 then uS f n (i + 1) to (f i - 224) 2048 2 else uS f n (i + 1) to (f i - 240) 65536 3)
      else if ctB (f i) then (if w = 1 then (if okc (64 * c + (f i - 128)) l then uS f n (i + 1) to (64 * c + (f i - 128)) l 0 else false) else uS f n (i + 1) to (64 * c + (f i - 128)) l (w - 1)) else false)
    else decide (w = 0)
theorem uS_w {f : Nat → Nat} {n i to c l w : Nat} (h : ¬ i < to) : uS f (n + 1) i to c l w = decide (w = 0) := by
  unfold uS; rw [if_neg h]
theorem uS_ct {f : Nat → Nat} {n i to c l w : Nat} (h : i < to) (hw : w ≠ 0) (hc : ctB (f i)) (h1 : w ≠ 1) : uS f (n + 1) i to c l w = uS f n (i + 1) to (64 * c + (f i - 128)) l (w - 1) := by
  rw [uS, if_pos h, if_neg hw, if_pos hc, if_neg h1]
theorem uS_c1 {f : Nat → Nat} {n i to c l w : Nat} (h : i < to) (hc : ctB (f i)) (h1 : w = 1) : uS f (n + 1) i to c l w = if okc (64 * c + (f i - 128)) l then uS f n (i + 1) to (64 * c + (f i - 128)) l 0 else false := by
  rw [uS, if_pos h, if_neg (by omega), if_pos hc, if_pos h1]
theorem uS_no {f : Nat → Nat} {n i to c l w : Nat} (h : i < to) (hw : w ≠ 0) (hc : ¬ ctB (f i)) : uS f (n + 1) i to c l w = false := by
  rw [uS, if_pos h, if_neg hw, if_neg hc]
theorem uS_a {f : Nat → Nat} {n i to c l : Nat} (h : i < to) (h1 : f i < 128) : uS f (n + 1) i to c l 0 = uS f n (i + 1) to (f i) 0 0 := by
  rw [uS, if_pos h, if_pos rfl, if_pos h1]
theorem uS_b {f : Nat → Nat} {n i to c l : Nat} (h : i < to) (h1 : 128 ≤ f i) (h2 : f i < 192 ∨ 247 < f i) : uS f (n + 1) i to c l 0 = false := by
  rw [uS, if_pos h, if_pos rfl, if_neg (by omega), if_pos h2]
theorem uS_2 {f : Nat → Nat} {n i to c l : Nat} (h : i < to) (h1 : 192 ≤ f i) (h2 : f i < 224) : uS f (n + 1) i to c l 0 = uS f n (i + 1) to (f i - 192) 128 1 := by
  rw [uS, if_pos h, if_pos rfl, if_neg (by omega), if_neg (by omega), if_pos h2]
theorem uS_3 {f : Nat → Nat} {n i to c l : Nat} (h : i < to) (h1 : 224 ≤ f i) (h2 : f i < 240) : uS f (n + 1) i to c l 0 = uS f n (i + 1) to (f i - 224) 2048 2 := by
  rw [uS, if_pos h, if_pos rfl, if_neg (by omega), if_neg (by omega), if_neg (by omega), if_pos h2]
theorem uS_4 {f : Nat → Nat} {n i to c l : Nat} (h : i < to) (h1 : 240 ≤ f i) (h2 : f i ≤ 247) : uS f (n + 1) i to c l 0 = uS f n (i + 1) to (f i - 240) 65536 3 := by
  rw [uS, if_pos h, if_pos rfl, if_neg (by omega), if_neg (by omega), if_neg (by omega), if_neg (by omega)]
theorem nI_lt0 {k : Nat} (h : k < 2 ^ 31) : decide (nI k < 0) = false := decide_eq_false (nI_pos h)
theorem bdY {f : Nat → Nat} {n i to k : Nat} (h : i < to) (e : chr f i to = k) (hk : k ≠ 0) : bdF f (n + 1) i to = bdF f n (i + k) to := by
  rw [bdF, if_pos h, e, if_neg hk]
theorem bdN {f : Nat → Nat} {n i to : Nat} (h : i < to) (e : chr f i to = 0) (hi : i < 2 ^ 31) : decide (bdF f (n + 1) i to < 0) = false := by
  rw [bdF, if_pos h, if_pos e]
  exact nI_lt0 hi
theorem uS_bd {f : Nat → Nat} {to : Nat} (ht : to < 2 ^ 31) : ∀ (n i c l : Nat), to < i + n → uS f n i to c l 0 = decide (bdF f n i to < 0) := by
  intro n
  induction n using Nat.strongRecOn with
  | ind n ih =>
    intro i c l hn
    cases n with
    | zero =>
      show true = decide ((-1 : Int32) < 0)
      decide
    | succ n =>
      by_cases h : i < to
      · by_cases b1 : f i < 128
        · have e : chr f i to = 1 := by unfold chr; rw [if_pos b1]
          rw [uS_a h b1, ih n (by omega) (i + 1) _ _ (by omega), bdF, if_pos h, e, if_neg (by decide)]
        · by_cases b2 : f i < 192 ∨ 247 < f i
          · have e : chr f i to = 0 := by unfold chr; rw [if_neg b1, if_neg (by omega), if_neg (by omega), if_neg (by omega)]
            rw [uS_b h (by omega) b2, bdF, if_pos h, if_pos e, nI_lt0 (by omega)]
          · have hz : ∀ m, m < n + 1 → ∀ i2, to < i2 + m → ∀ c l, uS f m i2 to c l 0 = decide (bdF f n i2 to < 0) := fun m hm i2 h2 c l => by
              rw [ih m hm i2 c l h2, bdF_more f m i2 to h2 n (by omega)]
            by_cases b3 : f i < 224
            · rw [uS_2 h (by omega) b3]
              have e : chr f i to = if i + 2 ≤ to ∧ ctB (f (i + 1)) ∧ okc (64 * (f i - 192) + f (i + 1) - 128) 128 then 2 else 0 := by unfold chr; rw [if_neg b1, if_pos (by omega)]
              cases n with
              | zero => omega
              | succ n =>
                by_cases q1 : i + 1 < to
                · by_cases q2 : ctB (f (i + 1))
                  · rw [uS_c1 q1 q2 rfl]
                    by_cases q3 : okc (64 * (f i - 192) + (f (i + 1) - 128)) 128
                    · rw [if_pos q3, bdY h (e.trans (if_pos ⟨by omega, q2, by rw [Nat.add_sub_assoc q2.1]; exact q3⟩)) (by decide)]
                      exact hz n (by omega) (i + 2) (by omega) _ _
                    · rw [if_neg q3, bdN h (e.trans (if_neg (fun z => q3 (by have := z.2.2; rw [Nat.add_sub_assoc q2.1] at this; exact this)))) (by omega)]
                  · rw [uS_no q1 (by decide) q2, bdN h (e.trans (if_neg (fun z => q2 z.2.1))) (by omega)]
                · rw [uS_w q1, bdN h (e.trans (if_neg (by omega))) (by omega)]; rfl
            · by_cases b4 : f i < 240
              · rw [uS_3 h (by omega) b4]
                have e : chr f i to = if i + 3 ≤ to ∧ ctB (f (i + 1)) ∧ ctB (f (i + 2)) ∧ okc (64 * (64 * (f i - 224) + f (i + 1) - 128) + f (i + 2) - 128) 2048 then 3 else 0 := by unfold chr; rw [if_neg b1, if_neg (by omega), if_pos (by omega)]
                cases n with
                | zero => omega
                | succ n =>
                  by_cases q1 : i + 1 < to
                  · by_cases q2 : ctB (f (i + 1))
                    · rw [uS_ct q1 (by decide) q2 (by decide)]
                      cases n with
                      | zero => omega
                      | succ n =>
                        by_cases p1 : i + 2 < to
                        · by_cases p2 : ctB (f (i + 2))
                          · rw [uS_c1 p1 p2 rfl]
                            by_cases q3 : okc (64 * (64 * (f i - 224) + (f (i + 1) - 128)) + (f (i + 2) - 128)) 2048
                            · rw [if_pos q3, bdY h (e.trans (if_pos ⟨by omega, q2, p2, by rw [Nat.add_sub_assoc p2.1, Nat.add_sub_assoc q2.1]; exact q3⟩)) (by decide)]
                              exact hz n (by omega) (i + 3) (by omega) _ _
                            · rw [if_neg q3, bdN h (e.trans (if_neg (fun z => q3 (by have := z.2.2.2; rw [Nat.add_sub_assoc p2.1, Nat.add_sub_assoc q2.1] at this; exact this)))) (by omega)]
                          · rw [uS_no p1 (by decide) p2, bdN h (e.trans (if_neg (fun z => p2 z.2.2.1))) (by omega)]
                        · rw [uS_w p1, bdN h (e.trans (if_neg (by omega))) (by omega)]; rfl
                    · rw [uS_no q1 (by decide) q2, bdN h (e.trans (if_neg (fun z => q2 z.2.1))) (by omega)]
                  · rw [uS_w q1, bdN h (e.trans (if_neg (by omega))) (by omega)]; rfl
              · rw [uS_4 h (by omega) (by omega)]
                have e : chr f i to = if i + 4 ≤ to ∧ ctB (f (i + 1)) ∧ ctB (f (i + 2)) ∧ ctB (f (i + 3)) ∧ okc (64 * (64 * (64 * (f i - 240) + f (i + 1) - 128) + f (i + 2) - 128) + f (i + 3) - 128) 65536 then 4 else 0 := by unfold chr; rw [if_neg b1, if_neg (by omega), if_neg (by omega), if_pos (by omega)]
                cases n with
                | zero => omega
                | succ n =>
                  by_cases q1 : i + 1 < to
                  · by_cases q2 : ctB (f (i + 1))
                    · rw [uS_ct q1 (by decide) q2 (by decide)]
                      cases n with
                      | zero => omega
                      | succ n =>
                        by_cases p1 : i + 2 < to
                        · by_cases p2 : ctB (f (i + 2))
                          · rw [uS_ct p1 (by decide) p2 (by decide)]
                            cases n with
                            | zero => omega
                            | succ n =>
                              by_cases r1 : i + 3 < to
                              · by_cases r2 : ctB (f (i + 3))
                                · rw [uS_c1 r1 r2 rfl]
                                  by_cases q3 : okc (64 * (64 * (64 * (f i - 240) + (f (i + 1) - 128)) + (f (i + 2) - 128)) + (f (i + 3) - 128)) 65536
                                  · rw [if_pos q3, bdY h (e.trans (if_pos ⟨by omega, q2, p2, r2, by rw [Nat.add_sub_assoc r2.1, Nat.add_sub_assoc p2.1, Nat.add_sub_assoc q2.1]; exact q3⟩)) (by decide)]
                                    exact hz n (by omega) (i + 4) (by omega) _ _
                                  · rw [if_neg q3, bdN h (e.trans (if_neg (fun z => q3 (by have := z.2.2.2.2; rw [Nat.add_sub_assoc r2.1, Nat.add_sub_assoc p2.1, Nat.add_sub_assoc q2.1] at this; exact this)))) (by omega)]
                                · rw [uS_no r1 (by decide) r2, bdN h (e.trans (if_neg (fun z => r2 z.2.2.2.1))) (by omega)]
                              · rw [uS_w r1, bdN h (e.trans (if_neg (by omega))) (by omega)]; rfl
                          · rw [uS_no p1 (by decide) p2, bdN h (e.trans (if_neg (fun z => p2 z.2.2.1))) (by omega)]
                        · rw [uS_w p1, bdN h (e.trans (if_neg (by omega))) (by omega)]; rfl
                    · rw [uS_no q1 (by decide) q2, bdN h (e.trans (if_neg (fun z => q2 z.2.1))) (by omega)]
                  · rw [uS_w q1, bdN h (e.trans (if_neg (by omega))) (by omega)]; rfl
      · rw [uS_w h, bdF, if_neg h]; decide
theorem flw5 {b : Nat} (h : b < 256) : (b < 128 ∧ flw b = nI 0) ∨ ((128 ≤ b ∧ (b < 192 ∨ 247 < b)) ∧ flw b = -1) ∨ ((192 ≤ b ∧ b < 224) ∧ flw b = nI 1) ∨ ((224 ≤ b ∧ b < 240) ∧ flw b = nI 2) ∨ ((240 ≤ b ∧ b ≤ 247) ∧ flw b = nI 3) := by
  unfold flw
  by_cases h1 : b < 128
  · rw [if_pos h1]; exact Or.inl ⟨h1, rfl⟩
  · rw [if_neg h1]
    by_cases h2 : b < 192 ∨ 247 < b
    · rw [if_pos h2]; exact Or.inr (Or.inl ⟨⟨by omega, h2⟩, rfl⟩)
    · rw [if_neg h2]
      by_cases h3 : b < 224
      · rw [if_pos h3]; exact Or.inr (Or.inr (Or.inl ⟨⟨by omega, h3⟩, rfl⟩))
      · rw [if_neg h3]
        by_cases h4 : b < 240
        · rw [if_pos h4]; exact Or.inr (Or.inr (Or.inr (Or.inl ⟨⟨by omega, h4⟩, rfl⟩)))
        · rw [if_neg h4]; exact Or.inr (Or.inr (Or.inr (Or.inr ⟨⟨by omega, by omega⟩, rfl⟩)))
theorem lead1 : ∀ b, b < 256 → 192 ≤ b → b < 224 → nI b &&& nI 31 = nI (b - 192) := by decide +kernel
theorem lead2 : ∀ b, b < 256 → 224 ≤ b → b < 240 → nI b &&& nI 15 = nI (b - 224) := by decide +kernel
theorem lead3 : ∀ b, b < 256 → 240 ≤ b → b ≤ 247 → nI b &&& nI 7 = nI (b - 240) := by decide +kernel
theorem and192 : ∀ b, b < 256 → nI b &&& nI 192 = nI (64 * (b / 64)) := by decide +kernel
theorem and63 : ∀ b, b < 256 → nI b &&& nI 63 = nI (b % 64) := by decide +kernel
theorem shl6 {c : Nat} (h : c < 2 ^ 20) : nI c <<< (nI 6 &&& 31) = nI (c * 64) := pk_shlN _ 6 (by decide) (by omega)
theorem or6 {c y : Nat} (h : c < 2 ^ 20) (hy : y < 64) : nI (c * 64) ||| nI y = nI (c * 64 + y) := by
  apply Int32.toBitVec_inj.mp
  apply BitVec.eq_of_toNat_eq
  show (BitVec.toNat (BitVec.or _ _)) = _
  have e1 : (nI (c * 64)).toBitVec.toNat = c * 64 := by
    show (c * 64) % 2 ^ 32 = _
    omega
  have e2 : (nI y).toBitVec.toNat = y := by
    show y % 2 ^ 32 = _
    omega
  have e3 : (nI (c * 64 + y)).toBitVec.toNat = c * 64 + y := by
    show (c * 64 + y) % 2 ^ 32 = _
    omega
  rw [e3]
  show (nI (c * 64)).toBitVec.toNat ||| (nI y).toBitVec.toNat = _
  rw [e1, e2, Nat.mul_comm, ← Nat.two_pow_add_eq_or_of_lt (i := 6) hy]
def dgl (v : Nat) : List Nat := (List.range (dgs v)).map (dgt v)
theorem dgl_len (v : Nat) : (dgl v).length = dgs v := by unfold dgl; rw [List.length_map, List.length_range]
theorem dgl_get {v i : Nat} (h : i < dgs v) : (dgl v).getD i 0 = dgt v i := by
  unfold dgl
  rw [List.getD_eq_getElem?_getD, List.getElem?_map, List.getElem?_range h]
  rfl
theorem isNu_dgl {f : Nat → Nat} {a to v : Nat} : isNu f a to v = decide (sg f a (to - a) = dgl v) := by
  unfold isNu
  by_cases h : to - a = dgs v
  · rw [decide_eq_true h, Bool.true_and]
    apply Bool.eq_iff_iff.mpr
    rw [List.all_eq_true, decide_eq_true_iff]
    constructor
    · intro z
      apply getD_ext
      · rw [sg_len, dgl_len, h]
      · intro i hi
        rw [sg_len] at hi
        rw [sg_get _ _ _ hi, dgl_get (by omega)]
        exact of_decide_eq_true (z i (List.mem_range.mpr (by omega)))
    · intro z i hi
      have hi := List.mem_range.mp hi
      apply decide_eq_true
      rw [← dgl_get hi, ← z, sg_get _ _ _ (by omega)]
  · rw [decide_eq_false h, Bool.false_and, decide_eq_false]
    intro z
    exact h (by rw [← dgl_len, ← z, sg_len])
theorem dgs_of {v j : Nat} (hv : v < 10000) (h1 : v / 10 ^ j < 10) (h2 : j = 0 ∨ 1 ≤ v / 10 ^ j) : dgs v = j + 1 := by
  unfold dgs
  match j, h1, h2 with
  | 0, h1, h2 => simp at h1 h2; (repeat' split) <;> omega
  | 1, h1, h2 => simp at h1 h2; (repeat' split) <;> omega
  | 2, h1, h2 => simp at h1 h2; (repeat' split) <;> omega
  | 3, h1, h2 => simp at h1 h2; (repeat' split) <;> omega
  | j + 4, h1, h2 =>
    have h3 : 10 ^ 4 ≤ 10 ^ (j + 4) := Nat.pow_le_pow_right (by decide) (by omega)
    have h4 : v / 10 ^ (j + 4) = 0 := Nat.div_eq_of_lt (by omega)
    omega
theorem dgs_gt {v j : Nat} (hv : v < 10000) (h2 : j = 0 ∨ 1 ≤ v / 10 ^ j) : j < dgs v := by
  unfold dgs
  match j, h2 with
  | 0, h2 => (repeat' split) <;> omega
  | 1, h2 => simp at h2; (repeat' split) <;> omega
  | 2, h2 => simp at h2; (repeat' split) <;> omega
  | 3, h2 => simp at h2; (repeat' split) <;> omega
  | j + 4, h2 =>
    have h3 : 10 ^ 4 ≤ 10 ^ (j + 4) := Nat.pow_le_pow_right (by decide) (by omega)
    have h4 : v / 10 ^ (j + 4) = 0 := Nat.div_eq_of_lt (by omega)
    omega
theorem dc_f1 {w : List Nat} {v i j : Nat} (hl : i + 1 + j = w.length) (hm : w.getD i 0 ≠ 48 + v / 10 ^ j % 10) : ¬ w = dgl v := by
  intro z
  apply hm
  have e : w.length = dgs v := by rw [z, dgl_len]
  rw [z, dgl_get (by omega)]
  unfold dgt
  rw [show dgs v - 1 - i = j by omega]
theorem dc_f2 {w : List Nat} {v i j : Nat} (hv : v < 10000) (hl : i + 1 + j = w.length) (h1 : v / 10 ^ j < 10) (h2 : j = 0 ∨ 1 ≤ v / 10 ^ j) (h0 : i ≠ 0) : ¬ w = dgl v := by
  intro z
  have e : w.length = dgs v := by rw [z, dgl_len]
  rw [dgs_of hv h1 h2] at e
  omega
theorem dc_f3 {w : List Nat} {v j : Nat} (hv : v < 10000) (hl : j = w.length) (h2 : j = 0 ∨ 1 ≤ v / 10 ^ j) : ¬ w = dgl v := by
  intro z
  have e : w.length = dgs v := by rw [z, dgl_len]
  have := dgs_gt hv h2
  omega
theorem dc_t {w : List Nat} {v j : Nat} (hv : v < 10000) (hl : 0 + 1 + j = w.length) (h1 : v / 10 ^ j < 10) (h2 : j = 0 ∨ 1 ≤ v / 10 ^ j) (hm : ∀ m, m < j + 1 → w.getD (w.length - 1 - m) 0 = 48 + v / 10 ^ m % 10) : w = dgl v := by
  have e := dgs_of hv h1 h2
  apply getD_ext
  · rw [dgl_len, e]; omega
  · intro i hi
    rw [dgl_get (by omega)]
    unfold dgt
    have h3 := hm (w.length - 1 - i) (by omega)
    rw [show w.length - 1 - (w.length - 1 - i) = i by omega] at h3
    rw [h3, show dgs v - 1 - i = w.length - 1 - i by omega]
theorem dec_lt {x : Nat} (h : x < 2 ^ 30) : nI x - nI 1 < 0 ↔ x = 0 := by
  constructor
  · intro z
    by_cases q : x = 0
    · exact q
    · rw [pk_sub (by omega)] at z
      exact absurd z (nI_pos (by omega))
  · intro z
    subst z
    decide
theorem dec_m1 (x : Nat) : nI x + Int32.ofInt (-1) = nI x - nI 1 := z_m1 _
theorem fnV_iff {f : Nat → Nat} {u : List Nat} {Nd : Nat → Nat → Nat → Option Nat → Prop} : ∀ {vs xs : List Nat} {lo hi : Nat}, kidL Nd lo hi vs xs → (fnV f u vs xs).isNone = xs.all (fun x => decide (nL f x ≠ u))
  | [], xs, lo, hi, h => by rw [kidL_nil h]; rfl
  | v :: vs, xs, lo, hi, h => by
    obtain ⟨x, xs1, rfl, -, mid, -, -, h1⟩ := kidL_cons h
    rw [fnV, List.all_cons]
    by_cases z : nL f x = u
    · rw [if_pos z, decide_eq_false (fun q => q z)]; rfl
    · rw [if_neg z, decide_eq_true z, fnV_iff h1, Bool.true_and]
