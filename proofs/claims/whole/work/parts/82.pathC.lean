/-! ===== a path's steps, cut from its end ===== -/
theorem gd_f {seg rest : List Nat} : (∀ c ∈ seg, c ≠ 46) → gdP false (seg ++ 46 :: rest) = gdP true rest := by
  induction seg with
  | nil => intro _; rfl
  | cons x seg ih =>
    intro h
    show ((!false || _) && gdP (decide (x = 46)) (seg ++ 46 :: rest)) = _
    rw [decide_eq_false (h x List.mem_cons_self), ih (fun c hc => h c (List.mem_cons_of_mem _ hc))]
    rfl
theorem gd_fe {seg : List Nat} : (∀ c ∈ seg, c ≠ 46) → gdP false seg = true := by
  induction seg with
  | nil => intro _; rfl
  | cons x seg ih =>
    intro h
    show ((!false || _) && gdP (decide (x = 46)) seg) = _
    rw [decide_eq_false (h x List.mem_cons_self), ih (fun c hc => h c (List.mem_cons_of_mem _ hc))]
    rfl
/-- a step is right: it has a letter, and its first is no dollar -/
def sOK (seg : List Nat) : Bool := decide (seg.length ≠ 0) && decide (seg.getD 0 0 ≠ 36)
theorem gd_seg {seg rest : List Nat} (h : ∀ c ∈ seg, c ≠ 46) : gdP true (seg ++ 46 :: rest) = (sOK seg && gdP true rest) := by
  cases seg with
  | nil => rfl
  | cons x seg =>
    show ((!true || (decide (x ≠ 46) && decide (x ≠ 36))) && gdP (decide (x = 46)) (seg ++ 46 :: rest)) = _
    rw [decide_eq_false (h x List.mem_cons_self), gd_f (fun c hc => h c (List.mem_cons_of_mem _ hc)), decide_eq_true (h x List.mem_cons_self)]
    rfl
theorem gd_sege {seg : List Nat} (h : ∀ c ∈ seg, c ≠ 46) : gdP true seg = sOK seg := by
  cases seg with
  | nil => rfl
  | cons x seg =>
    show ((!true || (decide (x ≠ 46) && decide (x ≠ 36))) && gdP (decide (x = 46)) seg) = _
    rw [decide_eq_false (h x List.mem_cons_self), gd_fe (fun c hc => h c (List.mem_cons_of_mem _ hc)), decide_eq_true (h x List.mem_cons_self), Bool.and_true]
    rfl
theorem gd_suf {u : List Nat} : ∀ {p : List Nat} {b : Bool}, gdP b (p ++ 46 :: u) = true → gdP true u = true
  | [], b, h => ((Bool.and_eq_true _ _).mp (show ((!b || _) && gdP (decide (46 = 46)) u) = true from h)).2
  | x :: p, b, h => gd_suf (p := p) ((Bool.and_eq_true _ _).mp (show ((!b || _) && gdP (decide (x = 46)) (p ++ 46 :: u)) = true from h)).2
theorem cnP_app : ∀ (p q : List Nat), cnP (p ++ q) = cnP p + cnP q
  | [], q => by show cnP q = 0 + cnP q; omega
  | x :: p, q => by
    show (if x = 46 then 1 else 0) + cnP (p ++ q) = (if x = 46 then 1 else 0) + cnP p + cnP q
    rw [cnP_app p q]; omega
theorem cnP_0 {seg : List Nat} : (∀ c ∈ seg, c ≠ 46) → cnP seg = 0 := by
  induction seg with
  | nil => intro _; rfl
  | cons x seg ih =>
    intro h
    show (if x = 46 then 1 else 0) + cnP seg = 0
    rw [if_neg (h x List.mem_cons_self), ih (fun c hc => h c (List.mem_cons_of_mem _ hc))]
theorem drop_cut {w : List Nat} {x en : Nat} (h1 : x ≤ en) (h2 : en < w.length) (h3 : w.getD en 0 = 46) : w.drop x = subL w x en ++ 46 :: w.drop (en + 1) := by
  have e : w.drop en = 46 :: w.drop (en + 1) := by
    rw [List.drop_eq_getElem_cons h2]
    congr 1
    rw [List.getD_eq_getElem?_getD, List.getElem?_eq_getElem h2] at h3
    exact h3
  unfold subL
  rw [← e, show w.drop en = (w.drop x).drop (en - x) by rw [List.drop_drop]; congr 1; omega, List.take_append_drop]
theorem drop_end {w : List Nat} {x : Nat} : w.drop x = subL w x w.length := by
  unfold subL
  rw [List.take_of_length_le (by rw [List.length_drop]; exact Nat.le_refl _)]
theorem take_cut {w : List Nat} {x : Nat} (h2 : x < w.length) (h3 : w.getD x 0 = 46) : w = w.take x ++ 46 :: w.drop (x + 1) := by
  have e : w.drop x = 46 :: w.drop (x + 1) := by
    rw [List.drop_eq_getElem_cons h2]
    congr 1
    rw [List.getD_eq_getElem?_getD, List.getElem?_eq_getElem h2] at h3
    exact h3
  rw [← e, List.take_append_drop]
theorem subL_mem {w : List Nat} {x en : Nat} (h : ∀ k, x ≤ k → k < en → w.getD k 0 ≠ 46) (hl : en ≤ w.length) : ∀ c ∈ subL w x en, c ≠ 46 := by
  intro c hc
  obtain ⟨i, hi, e⟩ := List.getElem_of_mem hc
  have hlen : i < en - x := by
    unfold subL at hi
    rw [List.length_take] at hi
    omega
  have h2 := subL_get (w := w) (i := x) (j := en) hlen
  rw [List.getD_eq_getElem?_getD, List.getElem?_eq_getElem hi, e] at h2
  have h2 : c = w.getD (x + i) 0 := h2
  rw [h2]
  exact h _ (by omega) (by omega)
/-- what stands behind the place en: steps that are right, and how many -/
def pRest (w : List Nat) (en cnt : Nat) : Prop := (en = w.length ∧ cnt = 0) ∨ (en < w.length ∧ w.getD en 0 = 46 ∧ gdP true (w.drop (en + 1)) = true ∧ cnt = cnP (w.drop (en + 1)) + 1)
theorem pRest.seg {w : List Nat} {x en cnt : Nat} (h : pRest w en cnt) (hx : x ≤ en) (hd : ∀ k, x ≤ k → k < en → w.getD k 0 ≠ 46) : gdP true (w.drop x) = sOK (subL w x en) ∧ cnP (w.drop x) = cnt := by
  rcases h with ⟨h1, h2⟩ | ⟨h1, h2, h3, h4⟩
  · have hm := subL_mem hd (by omega)
    rw [h1] at hm ⊢
    rw [drop_end, gd_sege hm, cnP_0 hm]
    exact ⟨rfl, h2.symm⟩
  · have hm := subL_mem hd (by omega)
    rw [drop_cut hx h1 h2, gd_seg hm, h3, Bool.and_true, cnP_app, cnP_0 hm]
    refine ⟨rfl, ?_⟩
    show 0 + (1 + cnP (w.drop (en + 1))) = cnt
    omega
/-- from a bad or too long end of the path -/
theorem path_bad {w : List Nat} {x : Nat} (hx : x = 0 ∨ (x ≤ w.length ∧ w.getD (x - 1) 0 = 46)) (h : gdP true (w.drop x) = false ∨ 8 < cnP (w.drop x) + 1) : ¬ (gdP true w = true ∧ cnP w + 1 < 9) := by
  rintro ⟨h1, h2⟩
  rcases hx with e | ⟨e1, e2⟩
  · subst e
    rw [List.drop_zero] at h
    rcases h with h | h
    · rw [h1] at h; cases h
    · omega
  · by_cases e : x = 0
    · subst e
      rw [List.drop_zero] at h
      rcases h with h | h
      · rw [h1] at h; cases h
      · omega
    · have ew := take_cut (w := w) (x := x - 1) (by omega) e2
      rw [show x - 1 + 1 = x by omega] at ew
      rw [ew] at h1 h2
      rcases h with h | h
      · rw [gd_suf h1] at h; cases h
      · rw [cnP_app] at h2
        have h2 : cnP (w.take (x - 1)) + (1 + cnP (w.drop x)) + 1 < 9 := h2
        omega
theorem stN_no {f : Nat → Nat} {e x : Nat} (hx : x = 0 ∨ (x ≤ (nL f e).length ∧ (nL f e).getD (x - 1) 0 = 46)) (h : gdP true ((nL f e).drop x) = false ∨ 8 < cnP ((nL f e).drop x) + 1) : stN f e = 0 := by
  unfold stN
  rw [if_neg (path_bad hx h)]
theorem sz_at {f : Nat → Nat} : ∀ (k q p : Nat), q ≤ p → p ≤ q + k → (∀ i, q ≤ i → i < p → f i ≠ 0 ∧ f i ≠ 46) → (f p = 0 ∨ f p = 46) → sz f k q = p
  | 0, q, p, h1, h2, _, _ => by show q = p; omega
  | k + 1, q, p, h1, h2, h3, h4 => by
    unfold sz
    by_cases e : q = p
    · subst e; rw [if_pos h4]
    · have := h3 q (Nat.le_refl _) (by omega)
      rw [if_neg (by omega)]
      exact sz_at k (q + 1) p (by omega) (by omega) (fun i g1 g2 => h3 i (by omega) g2) h4
theorem nL_get {f : Nat → Nat} {e i : Nat} (h : i < ne f e - (e + 1)) : (nL f e).getD i 0 = f (e + 1 + i) := by
  unfold nL
  exact sg_get _ _ _ h
theorem nL_len (f : Nat → Nat) (e : Nat) : (nL f e).length = ne f e - (e + 1) := by
  unfold nL; rw [sg_len]
/-- the step from the letter x on up to en -/
theorem step_at {f : Nat → Nat} {e x en cnt : Nat} (hz : f (ne f e) = 0) (hlen : ne f e ≤ e + 2001) (hr : pRest (nL f e) en cnt) (hx : x ≤ en) (hd : ∀ k, x ≤ k → k < en → (nL f e).getD k 0 ≠ 46) : sL f (e + 1 + x) = subL (nL f e) x en ∧ nS f (e + 1 + x) = if en = (nL f e).length then 0 else e + 1 + en + 1 := by
  have hl := nL_len f e
  have hgt := ne_gt f e
  have hen : en ≤ (nL f e).length := by rcases hr with h | h <;> omega
  have hse : se f (e + 1 + x) = e + 1 + en := by
    refine sz_at 2000 (e + 1 + x) (e + 1 + en) (by omega) (by omega) (fun i g1 g2 => ⟨ne_nz (e := e) (by omega) (by omega), ?_⟩) ?_
    · have := hd (i - (e + 1)) (by omega) (by omega)
      rw [nL_get (by omega), show e + 1 + (i - (e + 1)) = i by omega] at this
      exact this
    · rcases hr with h | h
      · left
        rw [show e + 1 + en = ne f e by omega]; exact hz
      · right
        have := h.2.1
        rw [nL_get (by omega)] at this
        exact this
  refine ⟨?_, ?_⟩
  · apply getD_ext
    · unfold sL
      rw [sg_len, hse, subL_len hx hen]; omega
    · intro i hi
      unfold sL at hi ⊢
      rw [sg_len, hse] at hi
      rw [hse, sg_get _ _ _ hi, subL_get (by omega), nL_get (by omega)]
      congr 1
      omega
  · unfold nS
    rw [hse]
    rcases hr with h | h
    · rw [if_pos h.1, if_pos (by rw [show e + 1 + en = ne f e by omega]; exact hz)]
    · have h9 := h.2.1
      rw [nL_get (by omega)] at h9
      have h8 : ¬ f (e + 1 + en) = 0 := by omega
      have h7 : ¬ en = (nL f e).length := by have := h.1; omega
      rw [if_neg h8, if_neg h7]
theorem Spt.mono {G : zG} {H : Heap} {Z Z1 : Nat → Prop} {f : Nat → Nat} (hz : ∀ q, Z q → Z1 q) : ∀ {n : Nat} {st : Option Nat} {q : Nat}, Spt G H Z f n st q → Spt G H Z1 f n st q
  | 0, none, q, h => h
  | n + 1, none, q, h => h
  | 0, some _, _, h => h.elim
  | n + 1, some sa, q, h => by
    obtain ⟨h0, nm, nx, cn, h1, h2, h3, h4⟩ := h
    exact ⟨h0, nm, nx, cn, h1, hz _ h2, h3.mono hz, Spt.mono hz h4⟩
theorem Spt.keep {G : zG} {B : Nat → Prop} {H H1 : Heap} {Z : Nat → Prop} {f : Nat → Nat} (k : zKp B H H1) (hb : ∀ q, Z q → ¬ B q) : ∀ {n : Nat} {st : Option Nat} {q : Nat}, Spt G H Z f n st q → Spt G H1 Z f n st q
  | 0, none, q, h => h
  | n + 1, none, q, h => h
  | 0, some _, _, h => h.elim
  | n + 1, some sa, q, h => by
    obtain ⟨h0, nm, nx, cn, h1, h2, h3, h4⟩ := h
    exact ⟨h0, nm, nx, cn, h1.keep k (hb _ h2), h2, h3.keep k hb, Spt.keep k hb h4⟩
theorem Spt.up {G : zG} {H : Heap} {Z : Nat → Prop} {f : Nat → Nat} : ∀ {n : Nat} {st : Option Nat} {q : Nat}, Spt G H Z f n st q → Spt G H Z f (n + 1) st q
  | 0, none, q, h => h
  | n + 1, none, q, h => h
  | 0, some _, _, h => h.elim
  | n + 1, some sa, q, h => by
    obtain ⟨h0, nm, nx, cn, h1, h2, h3, h4⟩ := h
    exact ⟨h0, nm, nx, cn, h1, h2, h3, Spt.up h4⟩
theorem Spt.le {G : zG} {H : Heap} {Z : Nat → Prop} {f : Nat → Nat} {n m : Nat} {st : Option Nat} {q : Nat} (h : Spt G H Z f n st q) (hm : n ≤ m) : Spt G H Z f m st q := by
  obtain ⟨k, rfl⟩ : ∃ k, m = n + k := ⟨m - n, by omega⟩
  clear hm
  induction k with
  | zero => exact h
  | succ k ih => exact Spt.up ih
theorem y_lt1 {y : Nat} (h : y < 2 ^ 30) : nI y - nI 2 < (-1) ↔ y = 0 := by
  constructor
  · intro z
    by_cases q : 2 ≤ y
    · rw [pk_sub q] at z
      exact absurd (Int32.lt_trans z (by decide)) (nI_pos (by omega))
    · by_cases q1 : y = 1
      · subst q1; exact absurd z (by decide)
      · omega
  · intro z; subst z; decide
theorem y_lt0 {y : Nat} (h : y < 2 ^ 30) : nI y - nI 2 < 0 ↔ y ≤ 1 := by
  constructor
  · intro z
    by_cases q : 2 ≤ y
    · rw [pk_sub q] at z
      exact absurd z (nI_pos (by omega))
    · omega
  · intro z
    by_cases q1 : y = 1
    · subst q1; decide
    · have : y = 0 := by omega
      subst this; decide
def ZPp (G : zG) (Z : Nat → Prop) (n0 h : Nat) : Nat → Prop := fun q => Z q ∨ (n0 ≤ q ∧ q < h) ∨ q < cB G
/-- the first step made so far, and how many there are -/
def StC (G : zG) (H : Heap) (lo hi : Nat) (st : Option Nat) (cnt : Nat) : Prop := (st = none → cnt = 0) ∧ ∀ s1, st = some s1 → (lo ≤ s1 ∧ s1 < hi) ∧ ∃ (nm : Nat) (nx : Option Nat), zO G H s1 6 [.ref nm, va_rf nx, .int (nI cnt)]
theorem StC.keep {G : zG} {B : Nat → Prop} {H H1 : Heap} {lo hi cnt : Nat} {st : Option Nat} (h : StC G H lo hi st cnt) (k : zKp B H H1) (hb : ∀ q, lo ≤ q ∧ q < hi → ¬ B q) : StC G H1 lo hi st cnt :=
  ⟨h.1, fun s1 e => by
    obtain ⟨h1, nm, nx, h2⟩ := h.2 s1 e
    exact ⟨h1, nm, nx, h2.keep k (hb _ h1)⟩⟩
theorem dec_12 (x : Nat) : nI x - nI 1 = nI (x + 1) - nI 2 := by
  rw [nI_succ x, Int32.sub_eq_add_neg, Int32.sub_eq_add_neg, Int32.add_assoc]
  congr 1
theorem dec_12b (x : Nat) : nI x + Int32.ofInt (-1) = nI (x + 1) - nI 2 := by rw [dec_m1, dec_12]
theorem stN_y {f : Nat → Nat} {e : Nat} (h1 : gdP true (nL f e) = true) (h2 : cnP (nL f e) + 1 ≤ 8) : stN f e = cnP (nL f e) + 1 := by
  unfold stN
  rw [if_pos ⟨h1, by omega⟩]
theorem sOK_no1 {u : List Nat} (h : decide (u.length = 0) = true) : sOK u = false := by
  unfold sOK
  rw [decide_eq_false (fun z => z (of_decide_eq_true h))]; rfl
theorem sOK_no2 {u : List Nat} (h : decide (u.getD 0 0 = 36) = true) : sOK u = false := by
  unfold sOK
  rw [decide_eq_false (p := u.getD 0 0 ≠ 36) (fun z => z (of_decide_eq_true h)), Bool.and_false]
theorem sOK_y {u : List Nat} (h1 : decide (u.length = 0) = false) (h2 : decide (u.getD 0 0 = 36) = false) : sOK u = true := by
  unfold sOK
  rw [decide_eq_true (of_decide_eq_false h1), decide_eq_true (p := u.getD 0 0 ≠ 36) (of_decide_eq_false h2)]; rfl
/-- where the cutting of a path stands: y - 2 is the letter that is looked at -/
def pInv (f : Nat → Nat) (e y en cnt qn : Nat) (st : Option Nat) (z2 : Int32) : Prop :=
  (1 ≤ y → y - 1 ≤ en ∧ en ≤ (nL f e).length ∧ pRest (nL f e) en cnt ∧ (∀ k, y - 1 ≤ k → k < en → (nL f e).getD k 0 ≠ 46) ∧ z2 = nI en ∧ qn = if en = (nL f e).length then 0 else e + 1 + en + 1) ∧ (y = 0 → gdP true (nL f e) = true ∧ cnt = cnP (nL f e) + 1 ∧ qn = e + 1 ∧ st ≠ none)
theorem pInv_0 {f : Nat → Nat} {e : Nat} : pInv f e ((nL f e).length + 1) (nL f e).length 0 0 none (nI (nL f e).length) :=
  ⟨fun _ => ⟨by omega, Nat.le_refl _, Or.inl ⟨rfl, rfl⟩, fun k h1 h2 => by omega, rfl, by rw [if_pos rfl]⟩, fun h => by omega⟩
/-- a letter that is no dot -/
theorem pInv_n {f : Nat → Nat} {e x1 en cnt qn : Nat} {st : Option Nat} {z2 : Int32} (h : pInv f e (x1 + 2) en cnt qn st z2) (hn : (nL f e).getD x1 0 ≠ 46) : pInv f e (x1 + 1) en cnt qn st z2 := by
  obtain ⟨h1, h2, h3, h4, h5, h6⟩ := h.1 (by omega)
  exact ⟨fun _ => ⟨by omega, h2, h3, fun k g1 g2 => by
    by_cases z : k = x1
    · subst z; exact hn
    · exact h4 k (by omega) g2, h5, h6⟩, fun h => by omega⟩
/-- a dot: the step behind it is made -/
theorem pInv_d {f : Nat → Nat} {e x1 en cnt qn : Nat} {st : Option Nat} {z2 : Int32} (h : pInv f e (x1 + 2) en cnt qn st z2) (hd : (nL f e).getD x1 0 = 46) (hs : sOK (subL (nL f e) (x1 + 1) en) = true) (sa : Nat) : pInv f e (x1 + 1) x1 (cnt + 1) (e + 1 + (x1 + 1)) (some sa) (nI x1) := by
  obtain ⟨h1, h2, h3, h4, h5, h6⟩ := h.1 (by omega)
  obtain ⟨g1, g2⟩ := h3.seg (x := x1 + 1) (by omega) (fun k q1 q2 => h4 k (by omega) q2)
  exact ⟨fun _ => ⟨by omega, by omega, Or.inr ⟨by omega, hd, by rw [g1]; exact hs, by omega⟩, fun k q1 q2 => by omega, rfl, by rw [if_neg (by omega)]; omega⟩, fun h => by omega⟩
/-- the first step -/
theorem pInv_e {f : Nat → Nat} {e en cnt qn : Nat} {st : Option Nat} {z2 z3 : Int32} (h : pInv f e 1 en cnt qn st z2) (hs : sOK (subL (nL f e) 0 en) = true) (sa : Nat) : pInv f e 0 0 (cnt + 1) (e + 1) (some sa) z3 := by
  obtain ⟨h1, h2, h3, h4, h5, h6⟩ := h.1 (by omega)
  obtain ⟨g1, g2⟩ := h3.seg (x := 0) (by omega) (fun k q1 q2 => h4 k (by omega) q2)
  rw [List.drop_zero] at g1 g2
  exact ⟨fun h => by omega, fun _ => ⟨by rw [g1]; exact hs, by omega, rfl, fun z => nomatch z⟩⟩
theorem ZPp.up {G : zG} {Z : Nat → Prop} {n0 h h2 q : Nat} (hq : ZPp G Z n0 h q) (hh : h ≤ h2) : ZPp G Z n0 h2 q := hq.elim Or.inl (fun z => Or.inr (by omega))
theorem ZPp.sub {G : zG} {Z : Nat → Prop} {n0 h1 h2 q : Nat} (hq : Z q ∨ zRg G h1 h2 q) (hh : n0 ≤ h1) {h3 : Nat} (h9 : h2 ≤ h3) : ZPp G Z n0 h3 q := hq.elim Or.inl (fun z => Or.inr (by unfold zRg at z; omega))
