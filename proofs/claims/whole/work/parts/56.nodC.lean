/-! ===== NODES: a value of a document as a tree of objects ===== -/
def numv (f : Nat → Nat) (k a : Nat) : Int64 := if k = 8 ∨ k = 16 ∨ k = 18 then nuM f k a else 0
def txL (f : Nat → Nat) (k a : Nat) : List Nat := if k = 2 then sg f (a + 4) (wh f a - 1) else []
def Zr (G : zG) (v hi : Nat) : Nat → Prop := fun q => (v < q ∧ q < hi) ∨ q < cB G
def vF (k : Nat) (pl : Int32) (nm tx : Nat) (num : Int64) (fst lst nxt : Option Nat) (cnt : Nat) : List Value := [.int (nI k), .int pl, .ref nm, .ref tx, .long num, va_rf fst, va_rf lst, va_rf nxt, .int (nI cnt)]
/-- the objects vs for the elements xs, one behind the other, in the cells from lo to hi -/
def kidL (Nd : Nat → Nat → Nat → Option Nat → Prop) : Nat → Nat → List Nat → List Nat → Prop
  | lo, hi, [], [] => lo ≤ hi
  | lo, hi, v :: vs, x :: xs => lo ≤ v ∧ ∃ mid, mid ≤ hi ∧ Nd v mid x vs.head? ∧ kidL Nd mid hi vs xs
  | _, _, _, _ => False
theorem kidL_nil {Nd : Nat → Nat → Nat → Option Nat → Prop} {lo hi : Nat} {xs : List Nat} (h : kidL Nd lo hi [] xs) : xs = [] := by
  cases xs with
  | nil => rfl
  | cons x xs => exact h.elim
theorem kidL_cons {Nd : Nat → Nat → Nat → Option Nat → Prop} {lo hi v : Nat} {vs xs : List Nat} (h : kidL Nd lo hi (v :: vs) xs) : ∃ x xs1, xs = x :: xs1 ∧ lo ≤ v ∧ ∃ mid, mid ≤ hi ∧ Nd v mid x vs.head? ∧ kidL Nd mid hi vs xs1 := by
  cases xs with
  | nil => exact h.elim
  | cons x xs => exact ⟨x, xs, rfl, h⟩
theorem kidL_len {Nd : Nat → Nat → Nat → Option Nat → Prop} : ∀ {vs xs : List Nat} {lo hi : Nat}, kidL Nd lo hi vs xs → vs.length = xs.length
  | [], xs, lo, hi, h => by rw [kidL_nil h]
  | v :: vs, xs, lo, hi, h => by
    obtain ⟨x, xs1, rfl, -, mid, -, -, h1⟩ := kidL_cons h
    simp [kidL_len h1]
theorem kidL_mono {Nd Nd1 : Nat → Nat → Nat → Option Nat → Prop} : ∀ {vs xs : List Nat} {lo hi : Nat}, (∀ v mid x n, lo ≤ v → mid ≤ hi → x ∈ xs → Nd v mid x n → Nd1 v mid x n) → (∀ v mid x n, Nd v mid x n → v < mid) → kidL Nd lo hi vs xs → kidL Nd1 lo hi vs xs
  | [], xs, lo, hi, _, _, h => by
    have e := kidL_nil h
    subst e
    exact h
  | v :: vs, xs, lo, hi, hm, hl, h => by
    obtain ⟨x, xs1, rfl, h0, mid, h1, h2, h3⟩ := kidL_cons h
    have h4 := hl _ _ _ _ h2
    exact ⟨h0, mid, h1, hm _ _ _ _ h0 h1 List.mem_cons_self h2, kidL_mono (fun v1 m1 x1 n1 a1 a2 a3 a4 => hm v1 m1 x1 n1 (by omega) a2 (List.mem_cons_of_mem _ a3) a4) hl h3⟩
/-- the value of kind k at a as an object at v, all below it in the cells from v to hi: w its name, pl its place, nxt what follows it -/
def Nod (G : zG) (H : Heap) (f : Nat → Nat) (pf : Nat → Int32) : Nat → Nat → Nat → Nat → Nat → List Nat → Int32 → Option Nat → Prop
  | 0, v, hi, k, a, w, pl, nxt => ∃ nm tx, zO G H v 8 (vF k pl nm tx (numv f k a) none none nxt 0) ∧ StrZ G H (Zr G v hi) nm w ∧ StrZ G H (Zr G v hi) tx (txL f k a) ∧ v < hi ∧ k ≠ 3 ∧ k ≠ 4
  | d + 1, v, hi, k, a, w, pl, nxt => ∃ nm tx vs, zO G H v 8 (vF k pl nm tx (numv f k a) vs.head? vs.getLast? nxt vs.length) ∧ StrZ G H (Zr G v hi) nm w ∧ StrZ G H (Zr G v hi) tx (txL f k a) ∧ v < hi ∧ kidL (fun v1 mid x n1 => Nod G H f pf d v1 mid (f x) (vo f x) (nL f x) (pf x) n1) (v + 1) hi vs (if k = 3 ∨ k = 4 then els f a else [])
/-- .. with its cells named -/
def NodX (G : zG) (H : Heap) (f : Nat → Nat) (pf : Nat → Int32) (d v hi k a : Nat) (w : List Nat) (pl : Int32) (nxt : Option Nat) (nm tx : Nat) (vs : List Nat) : Prop := zO G H v 8 (vF k pl nm tx (numv f k a) vs.head? vs.getLast? nxt vs.length) ∧ StrZ G H (Zr G v hi) nm w ∧ StrZ G H (Zr G v hi) tx (txL f k a) ∧ v < hi ∧ kidL (fun v1 mid x n1 => Nod G H f pf d v1 mid (f x) (vo f x) (nL f x) (pf x) n1) (v + 1) hi vs (if k = 3 ∨ k = 4 then els f a else [])
theorem Nod.o {G : zG} {H : Heap} {f : Nat → Nat} {pf : Nat → Int32} {d v hi k a : Nat} {w : List Nat} {pl : Int32} {nxt : Option Nat} (h : Nod G H f pf d v hi k a w pl nxt) : ∃ nm tx f1 l1 n1, zO G H v 8 (vF k pl nm tx (numv f k a) f1 l1 nxt n1) ∧ StrZ G H (Zr G v hi) nm w ∧ StrZ G H (Zr G v hi) tx (txL f k a) ∧ v < hi := by
  cases d with
  | zero =>
    obtain ⟨nm, tx, h1, h2, h3, h4, -⟩ := h
    exact ⟨nm, tx, none, none, 0, h1, h2, h3, h4⟩
  | succ d =>
    obtain ⟨nm, tx, vs, h1, h2, h3, h4, -⟩ := h
    exact ⟨nm, tx, vs.head?, vs.getLast?, vs.length, h1, h2, h3, h4⟩
theorem Nod.lt {G : zG} {H : Heap} {f : Nat → Nat} {pf : Nat → Int32} {d v hi k a : Nat} {w : List Nat} {pl : Int32} {nxt : Option Nat} (h : Nod G H f pf d v hi k a w pl nxt) : v < hi := by
  obtain ⟨nm, tx, f1, l1, n1, -, -, -, h1⟩ := h.o
  exact h1
theorem Nod.x {G : zG} {H : Heap} {f : Nat → Nat} {pf : Nat → Int32} {d v hi k a : Nat} {w : List Nat} {pl : Int32} {nxt : Option Nat} (h : Nod G H f pf (d + 1) v hi k a w pl nxt) : ∃ nm tx vs, NodX G H f pf d v hi k a w pl nxt nm tx vs := h
theorem NodX.n {G : zG} {H : Heap} {f : Nat → Nat} {pf : Nat → Int32} {d v hi k a : Nat} {w : List Nat} {pl : Int32} {nxt : Option Nat} {nm tx : Nat} {vs : List Nat} (h : NodX G H f pf d v hi k a w pl nxt nm tx vs) : Nod G H f pf (d + 1) v hi k a w pl nxt := ⟨nm, tx, vs, h⟩
theorem Nod.up {G : zG} {H : Heap} {f : Nat → Nat} {pf : Nat → Int32} : ∀ {d v hi k a : Nat} {w : List Nat} {pl : Int32} {nxt : Option Nat}, Nod G H f pf d v hi k a w pl nxt → Nod G H f pf (d + 1) v hi k a w pl nxt
  | 0, v, hi, k, a, w, pl, nxt, h => by
    obtain ⟨nm, tx, h1, h2, h3, h4, h5, h6⟩ := h
    refine ⟨nm, tx, [], h1, h2, h3, h4, ?_⟩
    rw [if_neg (by omega)]
    exact h4
  | d + 1, v, hi, k, a, w, pl, nxt, h => by
    obtain ⟨nm, tx, vs, h1, h2, h3, h4, h5⟩ := h
    exact ⟨nm, tx, vs, h1, h2, h3, h4, kidL_mono (fun _ _ _ _ _ _ _ q => Nod.up q) (fun _ _ _ _ q => Nod.lt q) h5⟩
theorem Nod.to {G : zG} {H : Heap} {f : Nat → Nat} {pf : Nat → Int32} {v hi k a : Nat} {w : List Nat} {pl : Int32} {nxt : Option Nat} : ∀ {n d : Nat}, Nod G H f pf d v hi k a w pl nxt → Nod G H f pf (d + n) v hi k a w pl nxt
  | 0, d, h => h
  | n + 1, d, h => Nod.to (n := n) h |>.up
theorem Nod.kept {G : zG} {H H1 : Heap} {f : Nat → Nat} {pf : Nat → Int32} : ∀ {d v hi k a : Nat} {w : List Nat} {pl : Int32} {nxt : Option Nat}, Nod G H f pf d v hi k a w pl nxt → (∀ q, v ≤ q → q < hi → q < H.size → H1[q]? = H[q]?) → (∀ q, q < cB G → q < H.size → H1[q]? = H[q]?) → Nod G H1 f pf d v hi k a w pl nxt
  | 0, v, hi, k, a, w, pl, nxt, h, k1, k2 => by
    obtain ⟨nm, tx, h1, h2, h3, h4, h5⟩ := h
    have hz : ∀ q, Zr G v hi q → q < H.size → H1[q]? = H[q]? := fun q z y => z.elim (fun z => k1 q (by omega) z.2 y) (fun z => k2 q z y)
    exact ⟨nm, tx, h1.kept (k1 v (Nat.le_refl _) h4 h1.lt), h2.kept hz, h3.kept hz, h4, h5⟩
  | d + 1, v, hi, k, a, w, pl, nxt, h, k1, k2 => by
    obtain ⟨nm, tx, vs, h1, h2, h3, h4, h5⟩ := h
    have hz : ∀ q, Zr G v hi q → q < H.size → H1[q]? = H[q]? := fun q z y => z.elim (fun z => k1 q (by omega) z.2 y) (fun z => k2 q z y)
    exact ⟨nm, tx, vs, h1.kept (k1 v (Nat.le_refl _) h4 h1.lt), h2.kept hz, h3.kept hz, h4, kidL_mono (fun v1 m1 x n a1 a2 _ q => Nod.kept q (fun y y1 y2 y3 => k1 y (by omega) (by omega) y3) k2) (fun _ _ _ _ q => Nod.lt q) h5⟩
theorem Nod.hi {G : zG} {H : Heap} {f : Nat → Nat} {pf : Nat → Int32} : ∀ {d v hi hi2 k a : Nat} {w : List Nat} {pl : Int32} {nxt : Option Nat}, Nod G H f pf d v hi k a w pl nxt → hi ≤ hi2 → Nod G H f pf d v hi2 k a w pl nxt := by
  have hk : ∀ {Nd : Nat → Nat → Nat → Option Nat → Prop} {vs xs : List Nat} {lo hi hi2 : Nat}, kidL Nd lo hi vs xs → hi ≤ hi2 → kidL Nd lo hi2 vs xs := by
    intro Nd vs
    induction vs with
    | nil =>
      intro xs lo hi hi2 h h1
      have e := kidL_nil h
      subst e
      exact Nat.le_trans (show lo ≤ hi from h) h1
    | cons v vs ih =>
      intro xs lo hi hi2 h h1
      obtain ⟨x, xs1, rfl, h0, mid, h2, h3, h4⟩ := kidL_cons h
      exact ⟨h0, mid, Nat.le_trans h2 h1, h3, ih h4 h1⟩
  intro d v hi hi2 k a w pl nxt h h1
  have hz : ∀ q, Zr G v hi q → Zr G v hi2 q := fun q z => z.elim (fun z => Or.inl ⟨z.1, by omega⟩) Or.inr
  cases d with
  | zero =>
    obtain ⟨nm, tx, g1, g2, g3, g4, g5⟩ := h
    exact ⟨nm, tx, g1, g2.mono hz, g3.mono hz, by omega, g5⟩
  | succ d =>
    obtain ⟨nm, tx, vs, g1, g2, g3, g4, g5⟩ := h
    exact ⟨nm, tx, vs, g1, g2.mono hz, g3.mono hz, by omega, hk g5 h1⟩
/-- the first object whose name is u -/
def fnV (f : Nat → Nat) (u : List Nat) : List Nat → List Nat → Option Nat
  | v :: vs, x :: xs => if nL f x = u then some v else fnV f u vs xs
  | _, _ => none
theorem min_nI {a b : Nat} (ha : a < 2 ^ 31) (hb : b < 2 ^ 31) : (if nI b < nI a then nI b else nI a) = nI (min a b) := by
  by_cases h : b < a
  · rw [if_pos ((nI_ltI hb ha).mpr h), Nat.min_eq_right (by omega)]
  · rw [if_neg (fun z => h ((nI_ltI hb ha).mp z)), Nat.min_eq_left (by omega)]
theorem max_nI {a b : Nat} (ha : a < 2 ^ 31) (hb : b < 2 ^ 31) : (if nI a < nI b then nI b else nI a) = nI (max a b) := by
  by_cases h : a < b
  · rw [if_pos ((nI_ltI ha hb).mpr h), Nat.max_eq_right (by omega)]
  · rw [if_neg (fun z => h ((nI_ltI ha hb).mp z)), Nat.max_eq_left (by omega)]
theorem wc_min : Cond.code Lib.Math.min.name Lib.Math.min.code 2 (some .int) ∈ zW := wc_J9_min_7cf53
theorem wc_max : Cond.code Lib.Math.max.name Lib.Math.max.code 2 (some .int) ∈ zW := wc_J9_max_7cf53
/-- lists of letters by their order, from the k-th letter on -/
theorem lx_k {w u : List Nat} {k : Nat} (h1 : k < w.length) (h2 : k < u.length) : lx (w.drop k) (u.drop k) = if w.getD k 0 < u.getD k 0 then .lt else if u.getD k 0 < w.getD k 0 then .gt else lx (w.drop (k + 1)) (u.drop (k + 1)) := by
  rw [List.drop_eq_getElem_cons h1, List.drop_eq_getElem_cons h2, lx, List.getD_eq_getElem?_getD, List.getD_eq_getElem?_getD, List.getElem?_eq_getElem h1, List.getElem?_eq_getElem h2]
  rfl
theorem lx_e {w u : List Nat} {k : Nat} (h : k = min w.length u.length) : lx (w.drop k) (u.drop k) = cNa w.length u.length := by
  unfold cNa
  rcases Nat.lt_trichotomy w.length u.length with q | q | q
  · rw [if_pos q, List.drop_eq_nil_of_le (by omega), List.drop_eq_getElem_cons (by omega : k < u.length)]
    rfl
  · rw [if_neg (by omega), if_neg (by omega), List.drop_eq_nil_of_le (by omega), List.drop_eq_nil_of_le (by omega)]
    rfl
  · rw [if_neg (by omega), if_pos q, List.drop_eq_nil_of_le (by omega : u.length ≤ k), List.drop_eq_getElem_cons (by omega : k < w.length)]
    rfl
/-- items of rows at one place have one name: names may be compared -/
theorem isNu_eq {f : Nat → Nat} {a t b u i : Nat} (h1 : isNu f a t i = true) (h2 : isNu f b u i = true) : sg f a (t - a) = sg f b (u - b) := by
  unfold isNu at h1 h2
  have a1 := (Bool.and_eq_true _ _).mp h1
  have a2 := (Bool.and_eq_true _ _).mp h2
  have e1 := of_decide_eq_true a1.1
  have e2 := of_decide_eq_true a2.1
  have c1 := List.all_eq_true.mp a1.2
  have c2 := List.all_eq_true.mp a2.2
  rw [e1, e2]
  have key : ∀ n a b, (∀ k, k < n → f (a + k) = f (b + k)) → sg f a n = sg f b n := by
    intro n
    induction n with
    | zero => intro a b _; rfl
    | succ n ih =>
      intro a b h
      show f a :: sg f (a + 1) n = f b :: sg f (b + 1) n
      have h0 := h 0 (by omega)
      rw [Nat.add_zero, Nat.add_zero] at h0
      rw [h0, ih (a + 1) (b + 1) (fun k hk => by have := h (k + 1) (by omega); rwa [show a + (k + 1) = a + 1 + k by omega, show b + (k + 1) = b + 1 + k by omega] at this)]
  refine key _ a b (fun k hk => ?_)
  have m := List.mem_range.mpr hk
  exact (of_decide_eq_true (c1 k m)).trans (of_decide_eq_true (c2 k m)).symm
theorem lx_self : ∀ w : List Nat, lx w w = .eq
  | [] => rfl
  | x :: w => by
    rw [lx, if_neg (Nat.lt_irrefl _), if_neg (Nat.lt_irrefl _)]
    exact lx_self w
theorem obx_row {f : Nat → Nat} {d : Nat} : ∀ (L M : List Nat) (i : Nat), (∀ j x, L[j]? = some x → isNu f (x + 1) (ne f x) (i + j) = true) → (∀ j x, M[j]? = some x → isNu f (x + 1) (ne f x) (i + j) = true) → obx (cEl f (fun x y => ord f d (f x) (vo f x) (f y) (vo f y)) true) L M = obx (cEl f (fun x y => ord f d (f x) (vo f x) (f y) (vo f y)) false) L M
  | [], [], _, _, _ => rfl
  | [], _ :: _, _, _, _ => rfl
  | _ :: _, [], _, _, _ => rfl
  | x :: L, y :: M, i, h1, h2 => by
    have e : nL f x = nL f y := isNu_eq (h1 0 x rfl) (h2 0 y rfl)
    have c : cEl f (fun x y => ord f d (f x) (vo f x) (f y) (vo f y)) true x y = cEl f (fun x y => ord f d (f x) (vo f x) (f y) (vo f y)) false x y := by
      show _ = ord f d (f x) (vo f x) (f y) (vo f y)
      rcases Nat.lt_trichotomy (clO (f x)) (clO (f y)) with q | q | q
      · rw [cEl_lt rfl q, ord_lt q]
      · exact cEl_v (fun _ => ⟨q, by rw [e]; exact lx_self _⟩)
      · rw [cEl_gt rfl q, ord_gt q]
    have r := obx_row (d := d) L M (i + 1) (fun j z hz => by have := h1 (j + 1) z hz; rwa [show i + (j + 1) = i + 1 + j by omega] at this) (fun j z hz => by have := h2 (j + 1) z hz; rwa [show i + (j + 1) = i + 1 + j by omega] at this)
    unfold obx
    rw [c, r]
theorem lx_kn {w u : List Nat} {k : Nat} (h1 : k < w.length) (h2 : k < u.length) (hn : w.getD k 0 ≠ u.getD k 0) : lx (w.drop k) (u.drop k) = cNa (w.getD k 0) (u.getD k 0) := by
  rw [lx_k h1 h2, cNa]
  rcases Nat.lt_trichotomy (w.getD k 0) (u.getD k 0) with z | z | z
  · rw [if_pos z, if_pos z]
  · exact absurd z hn
  · rw [if_neg (by omega), if_pos z, if_neg (by omega), if_pos z]
