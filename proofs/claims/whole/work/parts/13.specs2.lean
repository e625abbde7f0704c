/-! ===== SPECS 2: words in bytes, characters, digits, texts, numbers, classes ===== -/
def sg (f : Nat → Nat) : Nat → Nat → List Nat
  | _, 0 => []
  | a, k + 1 => f a :: sg f (a + 1) k
def lx : List Nat → List Nat → Ordering
  | [], [] => .eq
  | [], _ :: _ => .lt
  | _ :: _, [] => .gt
  | x :: xs, y :: ys => if x < y then .lt else if y < x then .gt else lx xs ys
def oI (o : Ordering) : Int32 := match o with
  | .lt => -1
  | .eq => 0
  | .gt => 1
/-- the letters w and then a 0 stand at q -/
def isW (f : Nat → Nat) : Nat → List Nat → Bool
  | q, [] => decide (f q = 0)
  | q, x :: w => decide (f q = x) && isW f (q + 1) w
def pkW : List Nat → Nat
  | [] => 0
  | x :: w => x + 256 * pkW w
def okL (w : List Nat) : Prop := ∀ x ∈ w, 0 < x ∧ x < 256
theorem pkW_lt : ∀ {w : List Nat} (n : Nat), okL w → w.length ≤ n → pkW w < 256 ^ n
  | [], n, _, _ => Nat.pos_of_ne_zero (by simp)
  | x :: w, 0, _, h => absurd h (by simp)
  | x :: w, n + 1, h, hl => by
    have h1 := pkW_lt n (fun y hy => h y (List.mem_cons_of_mem _ hy)) (Nat.le_of_succ_le_succ hl)
    have h2 := (h x List.mem_cons_self).2
    show x + 256 * pkW w < 256 ^ (n + 1)
    rw [Nat.pow_succ]
    omega
theorem pkW_lt7 {w : List Nat} (h : okL w) (hl : w.length ≤ 7) : pkW w < 2 ^ 62 := Nat.lt_trans (pkW_lt 7 h hl) (by decide)
theorem pkW_0 {w : List Nat} (h : okL w) (h0 : pkW w = 0) : w = [] := by
  cases w with
  | nil => rfl
  | cons x w =>
    have h1 := (h x List.mem_cons_self).1
    have h2 : x + 256 * pkW w = 0 := h0
    omega
def clO (k : Nat) : Nat := if k = 10 then 1 else if k = 16 ∨ k = 18 then 2 else if k = 2 then 3 else if k = 3 then 4 else if k = 4 then 5 else if k = 8 then 6 else 0
/-- the number of kind k at a -/
def nuM (f : Nat → Nat) (k a : Nat) : Int64 := if k = 8 then lN (f a) else if k = 16 then (nI (wh f a)).toInt64 else lN (wh f a + 4294967296 * wh f (a + 4))
def isC (f : Nat → Nat) (k a : Nat) : Bool := decide (k = 3) && (decide (0 < fi f a) && decide (f (fi f a + 1) = 36))
def wAnd : List Nat := [36, 97, 110, 100]
def wOr : List Nat := [36, 111, 114]
def wNor : List Nat := [36, 110, 111, 114]
def isA (f : Nat → Nat) (e : Nat) (w : List Nat) : Bool := isW f (e + 1) w
def isJ (f : Nat → Nat) (e : Nat) : Bool := isA f e wAnd || (isA f e wOr || isA f e wNor)
def wEq : List Nat := [36, 101, 113]
def wNe : List Nat := [36, 110, 101]
def wIn : List Nat := [36, 105, 110]
def wNin : List Nat := [36, 110, 105, 110]
def wLt : List Nat := [36, 108, 116]
def wLte : List Nat := [36, 108, 116, 101]
def wGt : List Nat := [36, 103, 116]
def wGte : List Nat := [36, 103, 116, 101]
def wExists : List Nat := [36, 101, 120, 105, 115, 116, 115]
def wSize : List Nat := [36, 115, 105, 122, 101]
def wElem : List Nat := [36, 101, 108, 101, 109]
def wNot : List Nat := [36, 110, 111, 116]
def coN (f : Nat → Nat) (e : Nat) : Nat := if isA f e wEq = true then 1 else if isA f e wNe = true then 2 else if isA f e wIn = true then 3 else if isA f e wNin = true then 4 else if isA f e wLt = true then 5 else if isA f e wLte = true then 6 else if isA f e wGt = true then 7 else if isA f e wGte = true then 8 else if isA f e wExists = true then 9 else if isA f e wSize = true then 10 else if isA f e wElem = true then 11 else if isA f e wNot = true then 12 else 0
def asC (f : Nat → Nat) (v : Nat) : Bool := isC f 3 v && !isJ f (fi f v)
def isR (f : Nat → Nat) (k kd v : Nat) : Bool := if k = 3 ∨ k = 4 then decide (kd = 4) else if k = 9 then decide (kd = 8) else if k = 10 then decide (kd = 16 ∨ kd = 18) && decide (0 ≤ nuM f kd v) else if k = 11 then decide (kd = 3) else if k = 12 then isC f kd v else true
theorem z_lowI {x y : Nat} (hx : x < 256) (hb : x + 256 * y < 2 ^ 62) : (lN (x + 256 * y) &&& 255).toInt32 = nI x := by
  have h : lN (x + 256 * y) &&& lN (2 ^ 8 - 1) = lN ((x + 256 * y) % 2 ^ 8) := wb_mask (by omega) (by decide)
  have h2 : (x + 256 * y) % 2 ^ 8 = x := by omega
  rw [h2] at h
  rw [show (255 : Int64) = lN (2 ^ 8 - 1) by decide, h, lN_i]
theorem z_shr8 {x y : Nat} (hx : x < 256) (hb : x + 256 * y < 2 ^ 62) : lN (x + 256 * y) >>> ((nI 8).toInt64 &&& 63) = lN y := by
  rw [pf_shr (d := 8) (by decide) hb]
  congr 1
  omega
theorem lN_le0 {a : Nat} (h : a < 2 ^ 62) : lN a ≤ 0 ↔ a = 0 := by
  have h1 := pk_lLE (a := a) (b := 0) (Nat.lt_trans h (by decide)) (by decide)
  have h2 : lN 0 = 0 := by decide
  rw [h2] at h1
  rw [h1]
  exact Nat.le_zero
theorem lN_eq0 {a : Nat} (h : a < 2 ^ 62) : lN a = 0 ↔ a = 0 := by
  have h1 := pk_lEQ (a := a) (b := 0) (Nat.lt_trans h (by decide)) (by decide)
  have h2 : lN 0 = 0 := by decide
  rwa [h2] at h1
theorem z_shl8or {x y : Nat} (hx : x < 2 ^ 56) (hy : y < 256) : (lN x <<< ((nI 8).toInt64 &&& 63)) ||| lN y = lN (x * 256 + y) := by
  rw [g_shl (k := 8) (p := 256) (by decide) (by decide) (by decide) (by omega)]
  exact g_or (k := 8) (by decide) hy (by omega)
theorem fi_le (f : Nat → Nat) (a : Nat) : fi f a ≤ a + 4 := by
  unfold fi
  split <;> omega
theorem isC_pos {f : Nat → Nat} {k a : Nat} (h : isC f k a = true) : 0 < fi f a := by
  unfold isC at h
  simp at h
  exact h.2.1
/-- the k bytes from a + z on, lowest first -/
def sb8 (f : Nat → Nat) (a : Nat) : Nat → Nat → Nat
  | _, 0 => 0
  | z, k + 1 => f (a + z) + 256 * sb8 f a (z + 1) k
theorem sb8_lt' (f : Nat → Nat) (h8 : ∀ i, f i < 256) (a : Nat) : ∀ k z, sb8 f a z k < 256 ^ k
  | 0, z => by simp [sb8]
  | k + 1, z => by
    have h1 := sb8_lt' f h8 a k (z + 1)
    have h2 := h8 (a + z)
    unfold sb8
    rw [Nat.pow_succ]
    omega
theorem sb8_lt (f : Nat → Nat) (h8 : ∀ i, f i < 256) (a k : Nat) {z : Nat} (hk : k ≤ 7 := by omega) : sb8 f a z k < 2 ^ 56 :=
  Nat.lt_of_lt_of_le (sb8_lt' f h8 a k z) (by rw [show (2 : Nat) ^ 56 = 256 ^ 7 by decide]; exact Nat.pow_le_pow_right (by decide) hk)
theorem sb8_step (f : Nat → Nat) (a j : Nat) (hj : j < 8) : lN (sb8 f a (j + 1) (8 - (j + 1)) * 256 + f (a + j)) = lN (sb8 f a j (8 - j)) := by
  rw [show 8 - j = (8 - (j + 1)) + 1 by omega]
  congr 1
  show _ = f (a + j) + 256 * sb8 f a (j + 1) (8 - (j + 1))
  omega
theorem sb8_all (f : Nat → Nat) (a : Nat) : lN (sb8 f a 0 8) = lN (wh f a + 4294967296 * wh f (a + 4)) := by
  congr 1
  simp only [sb8, wh, Nat.add_assoc, Nat.reduceAdd, Nat.add_zero]
  omega
theorem z_m1 (x : Int32) : x + Int32.ofInt (-1) = x - 1 := by
  rw [Int32.sub_eq_add_neg]
  congr 1
