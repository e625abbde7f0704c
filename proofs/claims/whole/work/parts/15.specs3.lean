/-! ===== SPECS 3: order of bytes, steps, digits, characters ===== -/
theorem lx_end {f g : Nat → Nat} {a b k n m : Nat} (h1 : k ≤ n) (h2 : k ≤ m) (h : k = n ∨ k = m) : lx (sg f a (n - k)) (sg g b (m - k)) = if n < m then .lt else if m < n then .gt else .eq := by
  rcases Nat.lt_trichotomy n m with q | q | q
  · have hk : n - k = 0 := by omega
    obtain ⟨j, hj⟩ : ∃ j, m - k = j + 1 := ⟨m - k - 1, by omega⟩
    rw [hk, hj, if_pos q]
    rfl
  · have hk : n - k = 0 := by omega
    have hj : m - k = 0 := by omega
    rw [hk, hj, if_neg (by omega), if_neg (by omega)]
    rfl
  · have hk : m - k = 0 := by omega
    obtain ⟨j, hj⟩ : ∃ j, n - k = j + 1 := ⟨n - k - 1, by omega⟩
    rw [hk, hj, if_neg (by omega), if_pos q]
    rfl
theorem lx_ne {f g : Nat → Nat} {a b k n m : Nat} (h1 : k < n) (h2 : k < m) (h : f a ≠ g b) : lx (sg f a (n - k)) (sg g b (m - k)) = if f a < g b then .lt else .gt := by
  obtain ⟨i, hi⟩ : ∃ i, n - k = i + 1 := ⟨n - k - 1, by omega⟩
  obtain ⟨j, hj⟩ : ∃ j, m - k = j + 1 := ⟨m - k - 1, by omega⟩
  rw [hi, hj]
  show (if f a < g b then Ordering.lt else if g b < f a then .gt else _) = _
  by_cases q : f a < g b
  · rw [if_pos q, if_pos q]
  · rw [if_neg q, if_neg q, if_pos (by omega)]
theorem lx_step {f g : Nat → Nat} {a b k n m : Nat} (h1 : k < n) (h2 : k < m) (h : f a = g b) : lx (sg f a (n - k)) (sg g b (m - k)) = lx (sg f (a + 1) (n - (k + 1))) (sg g (b + 1) (m - (k + 1))) := by
  rw [show n - k = (n - (k + 1)) + 1 by omega, show m - k = (m - (k + 1)) + 1 by omega]
  show (if f a < g b then Ordering.lt else if g b < f a then .gt else _) = _
  rw [if_neg (by omega), if_neg (by omega)]
/-- the end of the step that begins at q: the first 0 or point -/
def sz (f : Nat → Nat) : Nat → Nat → Nat
  | 0, q => q
  | k + 1, q => if f q = 0 ∨ f q = 46 then q else sz f k (q + 1)
def se (f : Nat → Nat) (q : Nat) : Nat := sz f 2000 q
def okS (N : Nat) (f : Nat → Nat) (q : Nat) : Prop := (f (se f q) = 0 ∨ f (se f q) = 46) ∧ se f q < N
theorem sz_ge (f : Nat → Nat) : ∀ k q, q ≤ sz f k q
  | 0, q => Nat.le_refl _
  | k + 1, q => by
    unfold sz
    split
    · exact Nat.le_refl _
    · exact Nat.le_trans (Nat.le_succ q) (sz_ge f k (q + 1))
theorem sz_nz (f : Nat → Nat) : ∀ k q i, q ≤ i → i < sz f k q → f i ≠ 0 ∧ f i ≠ 46
  | 0, q, i, h1, h2 => absurd h2 (Nat.not_lt.mpr h1)
  | k + 1, q, i, h1, h2 => by
    unfold sz at h2
    split at h2
    · exact absurd h2 (Nat.not_lt.mpr h1)
    · rename_i h
      rcases Nat.eq_or_lt_of_le h1 with e | e
      · rw [← e]; exact not_or.mp h
      · exact sz_nz f k (q + 1) i e h2
theorem se_ge (f : Nat → Nat) (q : Nat) : q ≤ se f q := sz_ge f 2000 q
theorem se_nz {f : Nat → Nat} {q i : Nat} (h1 : q ≤ i) (h2 : i < se f q) : f i ≠ 0 ∧ f i ≠ 46 := sz_nz f 2000 q i h1 h2
theorem ne_nz {f : Nat → Nat} {e i : Nat} (h1 : e + 1 ≤ i) (h2 : i < ne f e) : f i ≠ 0 := nz_nz f 2000 (e + 1) i h1 h2
/-- the letters of the name of the element at e, and of the step at q -/
def nL (f : Nat → Nat) (e : Nat) : List Nat := sg f (e + 1) (ne f e - (e + 1))
def sL (f : Nat → Nat) (q : Nat) : List Nat := sg f q (se f q - q)
def nS (f : Nat → Nat) (q : Nat) : Nat := if f (se f q) = 0 then 0 else se f q + 1
theorem sg_step {f g : Nat → Nat} {a b n m k : Nat} (h1 : a + k < n) (h2 : b + k < m) (h : f (a + k) = g (b + k)) : (sg f (a + k) (n - (a + k)) = sg g (b + k) (m - (b + k))) ↔ (sg f (a + (k + 1)) (n - (a + (k + 1))) = sg g (b + (k + 1)) (m - (b + (k + 1)))) := by
  rw [show n - (a + k) = (n - (a + (k + 1))) + 1 by omega, show m - (b + k) = (m - (b + (k + 1))) + 1 by omega]
  show (f (a + k) :: sg f (a + k + 1) _ = g (b + k) :: sg g (b + k + 1) _) ↔ _
  rw [h]
  exact ⟨fun q => (List.cons.inj q).2, fun q => congrArg _ q⟩
theorem sg_len (f : Nat → Nat) : ∀ k a, (sg f a k).length = k
  | 0, _ => rfl
  | k + 1, a => by show (sg f (a + 1) k).length + 1 = k + 1; rw [sg_len f k]
theorem sg_nil {f g : Nat → Nat} {a b n m : Nat} (h1 : n = 0) (h2 : m = 0) : sg f a n = sg g b m := by rw [h1, h2]; rfl
theorem sg_ne {f g : Nat → Nat} {a b n m : Nat} (h : n ≠ m) : sg f a n ≠ sg g b m := fun q => h (by rw [← sg_len f n a, q, sg_len])
theorem sg_ne1 {f g : Nat → Nat} {a b n m : Nat} (h1 : 0 < n) (h2 : 0 < m) (h : f a ≠ g b) : sg f a n ≠ sg g b m := by
  obtain ⟨i, rfl⟩ : ∃ i, n = i + 1 := ⟨n - 1, by omega⟩
  obtain ⟨j, rfl⟩ : ∃ j, m = j + 1 := ⟨m - 1, by omega⟩
  exact fun q => h (List.cons.inj q).1
/-- how many decimal digits v has, and the k-th of them, as a letter -/
def dgs (v : Nat) : Nat := if 999 < v then 4 else if 99 < v then 3 else if 9 < v then 2 else 1
def dgt (v k : Nat) : Nat := 48 + v / 10 ^ (dgs v - 1 - k) % 10
def isNu (f : Nat → Nat) (a to v : Nat) : Bool := decide (to - a = dgs v) && (List.range (dgs v)).all (fun k => decide (f (a + k) = dgt v k))
/-- one character of UTF-8 at a, ahead of to: how many bytes it has, 0 when it is none -/
abbrev ctB (x : Nat) : Prop := 128 ≤ x ∧ x ≤ 191
abbrev okc (v least : Nat) : Prop := least ≤ v ∧ v ≤ 1114111 ∧ ¬ (55295 < v ∧ v < 57344)
def chr (f : Nat → Nat) (a to : Nat) : Nat :=
  if f a < 128 then 1
  else if 192 ≤ f a ∧ f a < 224 then (if a + 2 ≤ to ∧ ctB (f (a + 1)) ∧ okc (64 * (f a - 192) + f (a + 1) - 128) 128 then 2 else 0)
  else if 224 ≤ f a ∧ f a < 240 then (if a + 3 ≤ to ∧ ctB (f (a + 1)) ∧ ctB (f (a + 2)) ∧ okc (64 * (64 * (f a - 224) + f (a + 1) - 128) + f (a + 2) - 128) 2048 then 3 else 0)
  else if 240 ≤ f a ∧ f a < 248 then (if a + 4 ≤ to ∧ ctB (f (a + 1)) ∧ ctB (f (a + 2)) ∧ ctB (f (a + 3)) ∧ okc (64 * (64 * (64 * (f a - 240) + f (a + 1) - 128) + f (a + 2) - 128) + f (a + 3) - 128) 65536 then 4 else 0)
  else 0
/-- where the first wrong character of the bytes from a to to stands; -1 when there is none -/
def bdF (f : Nat → Nat) : Nat → Nat → Nat → Int32
  | 0, _, _ => -1
  | n + 1, k, to => if k < to then (if chr f k to = 0 then nI k else bdF f n (k + chr f k to) to) else -1
def bd (f : Nat → Nat) (a to : Nat) : Int32 := bdF f (to - a + 1) a to
theorem chr_lt (f : Nat → Nat) (a to : Nat) : chr f a to < 5 := by
  unfold chr
  repeat' split
  all_goals omega
theorem bdF_more (f : Nat → Nat) : ∀ n k to, to < k + n → ∀ m, to < k + m → bdF f n k to = bdF f m k to
  | 0, k, to, h, m, hm => by
    cases m with
    | zero => rfl
    | succ m => unfold bdF; rw [if_neg (by omega)]
  | n + 1, k, to, h, m, hm => by
    cases m with
    | zero => unfold bdF; rw [if_neg (by omega)]
    | succ m =>
      unfold bdF
      by_cases q : k < to
      · rw [if_pos q, if_pos q]
        by_cases z : chr f k to = 0
        · rw [if_pos z, if_pos z]
        · rw [if_neg z, if_neg z]
          exact bdF_more f n _ to (by omega) m (by omega)
      · rw [if_neg q, if_neg q]
