/-! ===== rules: kept, and lengthened by one ===== -/
theorem VN.keep {G : zG} {B : Nat → Prop} {H H1 : Heap} {f : Nat → Nat} {pf : Nat → Int32} {Z : Nat → Prop} {vl x : Nat} (h : VN G H f pf Z vl x) (k : zKp B H H1) (hb : ∀ q, Z q ∨ q < cB G → ¬ B q) : VN G H1 f pf Z vl x := by
  obtain ⟨hv, pl, nx, h1, h2, h3⟩ := h
  exact ⟨hv, pl, nx, h1.keep k (fun q hq => hq.elim (fun z => hb q (Or.inl (h2 q z.1 z.2))) (fun z => hb q (Or.inr z))), h2, h3⟩
theorem kidR_mono {α : Type} {Nd Nd1 : Nat → Nat → Nat → α → Option Nat → Prop} : ∀ {vs : List Nat} {xs : List α} {lo hi : Nat}, (∀ l2 v mid x n, lo ≤ l2 → mid ≤ hi → Nd l2 v mid x n → Nd1 l2 v mid x n) → (∀ l2 v mid x n, Nd l2 v mid x n → l2 ≤ v ∧ v < mid) → kidR Nd lo hi vs xs → kidR Nd1 lo hi vs xs
  | [], xs, lo, hi, _, _, h => by
    have e := kidR_nil h
    subst e
    exact h
  | v :: vs, xs, lo, hi, hm, hl, h => by
    obtain ⟨x, xs1, rfl, mid, h1, h2, h3⟩ := kidR_cons h
    have h4 := hl _ _ _ _ _ h2
    exact ⟨mid, h1, hm _ _ _ _ _ (Nat.le_refl _) h1 h2, kidR_mono (fun l2 v1 m1 x1 n1 a1 a2 a3 => hm l2 v1 m1 x1 n1 (by omega) a2 a3) hl h3⟩
theorem RCn.b {G : zG} {H : Heap} {f : Nat → Nat} {pf : Nat → Int32} {Z : Nat → Prop} {PC : rLc} {PF : rLf} {lo r hi : Nat} {t : cT} {nx : Option Nat} (h : RCn G H f pf Z PC PF lo r hi t nx) : lo ≤ r ∧ r < hi := by
  obtain ⟨vl, rs, -, h1, h2, -⟩ := h
  exact ⟨h1, h2⟩
theorem RPn.b {G : zG} {H : Heap} {f : Nat → Nat} {pf : Nat → Int32} {Z : Nat → Prop} {PF : rLf} {lo r hi i : Nat} {nx : Option Nat} (h : RPn G H f pf Z PF lo r hi i nx) : lo ≤ r ∧ r < hi := by
  obtain ⟨vl, rs, -, h1, h2, -⟩ := h
  exact ⟨h1, h2⟩
theorem RFn.b {G : zG} {H : Heap} {f : Nat → Nat} {pf : Nat → Int32} {Z : Nat → Prop} {d lo r hi e : Nat} {nx : Option Nat} (h : RFn G H f pf Z d lo r hi e nx) : lo ≤ r ∧ r < hi := by
  by_cases hj : f (e + 1) = 36
  · obtain ⟨vl, rs, -, h1, h2, -⟩ := RFn_j hj h
    exact ⟨h1, h2⟩
  · obtain ⟨vl, rs, sa, -, h1, h2, -⟩ := RFn_w hj h
    exact ⟨h1, h2⟩
/-- the cells that rules between lo and hi may lie in -/
def zRu (G : zG) (Z : Nat → Prop) (lo hi : Nat) : Nat → Prop := fun q => (lo ≤ q ∧ q < hi) ∨ Z q ∨ q < cB G
/-- what is asked of the cells that change: none of them belongs to the rules from lo to hi, their values and texts, but the rule r itself; Z and the constants lie apart from the rules -/
theorem RCn.keep0 {G : zG} {B : Nat → Prop} {H H1 : Heap} {f : Nat → Nat} {pf : Nat → Int32} {Z : Nat → Prop} {PC PC1 : rLc} {PF PF1 : rLf} {lo r hi : Nat} {t : cT} {nx nx1 : Option Nat} (h : RCn G H f pf Z PC PF lo r hi t nx) (k : zKp B H H1) (hO : ∀ sg ng vl pa fs ls, zO G H r 5 (rlF sg ng vl pa fs ls nx) → zO G H1 r 5 (rlF sg ng vl pa fs ls nx1)) (hZ : ∀ q, Z q ∨ q < cB G → ¬ B q) (hc : ∀ rs ts, PC (r + 1) hi rs ts → PC1 (r + 1) hi rs ts) (hf : ∀ rs ts, PF (r + 1) hi rs ts → PF1 (r + 1) hi rs ts) : RCn G H1 f pf Z PC1 PF1 lo r hi t nx1 := by
  obtain ⟨vl, rs, h1, h2, h3, h4, h5, h6, h7⟩ := h
  exact ⟨vl, rs, hO _ _ _ _ _ _ h1, h2, h3, h4.keep k hZ, h5, fun q => hc _ _ (h6 q), fun q => hf _ _ (h7 q)⟩
theorem RPn.keep0 {G : zG} {B : Nat → Prop} {H H1 : Heap} {f : Nat → Nat} {pf : Nat → Int32} {Z : Nat → Prop} {PF PF1 : rLf} {lo r hi i : Nat} {nx nx1 : Option Nat} (h : RPn G H f pf Z PF lo r hi i nx) (k : zKp B H H1) (hO : ∀ sg ng vl pa fs ls, zO G H r 5 (rlF sg ng vl pa fs ls nx) → zO G H1 r 5 (rlF sg ng vl pa fs ls nx1)) (hZ : ∀ q, Z q ∨ q < cB G → ¬ B q) (hf : ∀ rs ts, PF (r + 1) hi rs ts → PF1 (r + 1) hi rs ts) : RPn G H1 f pf Z PF1 lo r hi i nx1 := by
  obtain ⟨vl, rs, h1, h2, h3, h4, h7⟩ := h
  exact ⟨vl, rs, hO _ _ _ _ _ _ h1, h2, h3, h4.keep k hZ, hf _ _ h7⟩
theorem RJn.keep0 {G : zG} {B : Nat → Prop} {H H1 : Heap} {f : Nat → Nat} {pf : Nat → Int32} {Z : Nat → Prop} {PF PF1 : rLf} {lo r hi e : Nat} {nx nx1 : Option Nat} (h : RJn G H f pf Z PF lo r hi e nx) (k : zKp B H H1) (hO : ∀ sg ng vl pa fs ls, zO G H r 5 (rlF sg ng vl pa fs ls nx) → zO G H1 r 5 (rlF sg ng vl pa fs ls nx1)) (hZ : ∀ q, Z q ∨ q < cB G → ¬ B q) (hr : ∀ q, r < q ∧ q < hi → ¬ B q) (hf : ∀ l2 h2 rs ts, r + 1 ≤ l2 → h2 ≤ hi → PF l2 h2 rs ts → PF1 l2 h2 rs ts) : RJn G H1 f pf Z PF1 lo r hi e nx1 := by
  obtain ⟨vl, rs, h1, h2, h3, h4, h7⟩ := h
  refine ⟨vl, rs, hO _ _ _ _ _ _ h1, h2, h3, h4.keep k hZ, kidR_mono (fun l2 v mid x n a1 a2 a3 => ?_) (fun _ _ _ _ _ a => a.b) h7⟩
  have a4 := a3.b
  exact a3.keep0 k (fun _ _ _ _ _ _ z => z.keep k (hr v (by omega))) hZ (fun rs ts z => hf _ _ _ _ (by omega) a2 z)
theorem RWn.keep0 {G : zG} {B : Nat → Prop} {H H1 : Heap} {f : Nat → Nat} {pf : Nat → Int32} {Z : Nat → Prop} {PC PA PC1 PA1 : rLc} {lo r hi e : Nat} {nx nx1 : Option Nat} (h : RWn G H f pf Z PC PA lo r hi e nx) (k : zKp B H H1) (hO : ∀ sg ng vl pa fs ls, zO G H r 5 (rlF sg ng vl pa fs ls nx) → zO G H1 r 5 (rlF sg ng vl pa fs ls nx1)) (hZ : ∀ q, Z q ∨ q < cB G → ¬ B q) (hl : ∀ q, lo ≤ q ∧ q < r → ¬ B q) (hc : ∀ rs ts, PC (r + 1) hi rs ts → PC1 (r + 1) hi rs ts) (ha : ∀ rs ts, PA (r + 1) hi rs ts → PA1 (r + 1) hi rs ts) : RWn G H1 f pf Z PC1 PA1 lo r hi e nx1 := by
  obtain ⟨vl, rs, sa, h1, h2, h3, h4, h5, h6, h7⟩ := h
  exact ⟨vl, rs, sa, hO _ _ _ _ _ _ h1, h2, h3, h4.keep k hZ, h5.keep k (fun q hq => hq.elim (fun z => hZ q (Or.inl z)) (fun z => z.elim (hl q) (fun y => hZ q (Or.inr y)))), fun q => hc _ _ (h6 q), fun q => ha _ _ (h7 q)⟩
theorem RuL_keep {G : zG} {B : Nat → Prop} {H H1 : Heap} {f : Nat → Nat} {pf : Nat → Int32} {Z : Nat → Prop} (k : zKp B H H1) (hZ : ∀ q, Z q ∨ q < cB G → ¬ B q) : ∀ d, (∀ lo hi rs ts, (∀ q, lo ≤ q ∧ q < hi → ¬ B q) → (RuL G H f pf Z d).1 lo hi rs ts → (RuL G H1 f pf Z d).1 lo hi rs ts) ∧ (∀ lo hi rs xs, (∀ q, lo ≤ q ∧ q < hi → ¬ B q) → (RuL G H f pf Z d).2 lo hi rs xs → (RuL G H1 f pf Z d).2 lo hi rs xs)
  | 0 => ⟨fun _ _ _ _ _ h => h, fun _ _ _ _ _ h => h⟩
  | d + 1 => by
    obtain ⟨i1, i2⟩ := RuL_keep k hZ (f := f) (pf := pf) d
    have hC : ∀ lo hi rs ts, (∀ q, lo ≤ q ∧ q < hi → ¬ B q) → kidR (RCn G H f pf Z (RuL G H f pf Z d).1 (RuL G H f pf Z d).2) lo hi rs ts → kidR (RCn G H1 f pf Z (RuL G H1 f pf Z d).1 (RuL G H1 f pf Z d).2) lo hi rs ts := by
      intro lo hi rs ts hb h
      refine kidR_mono (fun l2 v mid x n a1 a2 a3 => ?_) (fun _ _ _ _ _ a => a.b) h
      have a4 := a3.b
      exact a3.keep0 k (fun _ _ _ _ _ _ z => z.keep k (hb v (by omega))) hZ (fun rs ts z => i1 _ _ _ _ (fun q hq => hb q (by omega)) z) (fun rs ts z => i2 _ _ _ _ (fun q hq => hb q (by omega)) z)
    refine ⟨hC, fun lo hi rs xs hb h => ?_⟩
    refine kidR_mono (Nd := RFn G H f pf Z d) (Nd1 := RFn G H1 f pf Z d) (fun l2 v mid x n a1 a2 a3 => ?_) (fun _ _ _ _ _ a => RFn.b a) h
    have a4 := RFn.b a3
    unfold RFn at a3 ⊢
    by_cases hj : f (x + 1) = 36
    · rw [if_pos hj] at a3 ⊢
      exact a3.keep0 k (fun _ _ _ _ _ _ z => z.keep k (hb v (by omega))) hZ (fun q hq => hb q (by omega)) (fun l3 h3 rs ts g1 g2 z => i2 _ _ _ _ (fun q hq => hb q (by omega)) z)
    · rw [if_neg hj] at a3 ⊢
      exact a3.keep0 k (fun _ _ _ _ _ _ z => z.keep k (hb v (by omega))) hZ (fun q hq => hb q (by omega)) (fun rs ts z => i1 _ _ _ _ (fun q hq => hb q (by omega)) z) (fun rs ts z => hC _ _ _ _ (fun q hq => hb q (by omega)) z)
/-- a list of rules whose last one has nt behind it -/
def kidT {α : Type} (Nd : Nat → Nat → Nat → α → Option Nat → Prop) (nt : Option Nat) : Nat → Nat → List Nat → List α → Prop
  | lo, hi, [], [] => lo ≤ hi
  | lo, hi, v :: vs, x :: xs => ∃ mid, mid ≤ hi ∧ Nd lo v mid x (vs.head?.or nt) ∧ kidT Nd nt mid hi vs xs
  | _, _, _, _ => False
theorem kidT_nil {α : Type} {Nd : Nat → Nat → Nat → α → Option Nat → Prop} {nt : Option Nat} {lo hi : Nat} {xs : List α} (h : kidT Nd nt lo hi [] xs) : xs = [] := by
  cases xs with
  | nil => rfl
  | cons x xs => exact h.elim
theorem kidT_cons {α : Type} {Nd : Nat → Nat → Nat → α → Option Nat → Prop} {nt : Option Nat} {lo hi v : Nat} {vs : List Nat} {xs : List α} (h : kidT Nd nt lo hi (v :: vs) xs) : ∃ x xs1, xs = x :: xs1 ∧ ∃ mid, mid ≤ hi ∧ Nd lo v mid x (vs.head?.or nt) ∧ kidT Nd nt mid hi vs xs1 := by
  cases xs with
  | nil => exact h.elim
  | cons x xs => exact ⟨x, xs, rfl, h⟩
theorem kidR_T {α : Type} {Nd Nd1 : Nat → Nat → Nat → α → Option Nat → Prop} {lq p : Nat} : ∀ {vs : List Nat} {xs : List α} {lo hi : Nat}, vs.getLast? = some lq → (∀ l2 v mid x n, lo ≤ l2 → mid ≤ lq → Nd l2 v mid x n → Nd1 l2 v mid x n) → (∀ l2 mid x, lo ≤ l2 → mid ≤ hi → Nd l2 lq mid x none → Nd1 l2 lq mid x (some p)) → (∀ l2 v mid x n, Nd l2 v mid x n → l2 ≤ v ∧ v < mid) → kidR Nd lo hi vs xs → kidT Nd1 (some p) lo hi vs xs ∧ lo ≤ lq ∧ lq < hi
  | [], _, _, _, e, _, _, _, _ => by cases e
  | [v], xs, lo, hi, e, hm, hn, hl, h => by
    obtain ⟨x, xs1, rfl, mid, h1, h2, h3⟩ := kidR_cons h
    have e : v = lq := Option.some.inj e
    subst e
    have e2 := kidR_nil h3
    subst e2
    have h4 := hl _ _ _ _ _ h2
    have h5 : mid ≤ hi := h1
    exact ⟨⟨mid, h1, hn _ _ _ (Nat.le_refl _) h1 h2, h3⟩, h4.1, by omega⟩
  | v :: u :: vs, xs, lo, hi, e, hm, hn, hl, h => by
    obtain ⟨x, xs1, rfl, mid, h1, h2, h3⟩ := kidR_cons h
    rw [List.getLast?_cons_cons] at e
    have h4 := hl _ _ _ _ _ h2
    obtain ⟨g1, g2, g3⟩ := kidR_T (lo := mid) e (fun l2 v1 m1 x1 n1 a1 a2 a3 => hm l2 v1 m1 x1 n1 (by omega) a2 a3) (fun l2 m1 x1 a1 a2 a3 => hn l2 m1 x1 (by omega) a2 a3) hl h3
    exact ⟨⟨mid, h1, hm _ _ _ _ _ (Nat.le_refl _) g2 h2, g1⟩, by omega, g3⟩
theorem kidT_mono {α : Type} {Nd Nd1 : Nat → Nat → Nat → α → Option Nat → Prop} {nt : Option Nat} : ∀ {vs : List Nat} {xs : List α} {lo hi : Nat}, (∀ l2 v mid x n, lo ≤ l2 → mid ≤ hi → Nd l2 v mid x n → Nd1 l2 v mid x n) → (∀ l2 v mid x n, Nd l2 v mid x n → l2 ≤ v ∧ v < mid) → kidT Nd nt lo hi vs xs → kidT Nd1 nt lo hi vs xs
  | [], xs, lo, hi, _, _, h => by
    have e := kidT_nil h
    subst e
    exact h
  | v :: vs, xs, lo, hi, hm, hl, h => by
    obtain ⟨x, xs1, rfl, mid, h1, h2, h3⟩ := kidT_cons h
    have h4 := hl _ _ _ _ _ h2
    exact ⟨mid, h1, hm _ _ _ _ _ (Nat.le_refl _) h1 h2, kidT_mono (fun l2 v1 m1 x1 n1 a1 a2 a3 => hm l2 v1 m1 x1 n1 (by omega) a2 a3) hl h3⟩
/-- the new rule p behind the list -/
theorem kidT_app {α : Type} {Nd : Nat → Nat → Nat → α → Option Nat → Prop} {p hi2 : Nat} {x : α} : ∀ {vs : List Nat} {xs : List α} {lo hi : Nat}, kidT Nd (some p) lo hi vs xs → hi ≤ hi2 → (∀ l2, l2 ≤ hi → Nd hi p hi2 x none → Nd l2 p hi2 x none) → (∀ l2 v mid x n, Nd l2 v mid x n → l2 ≤ v ∧ v < mid) → Nd hi p hi2 x none → kidR Nd lo hi2 (vs ++ [p]) (xs ++ [x])
  | [], xs, lo, hi, h, h1, hw, hl, hn => by
    have e := kidT_nil h
    subst e
    exact ⟨hi2, Nat.le_refl _, hw lo h hn, Nat.le_refl _⟩
  | v :: vs, xs, lo, hi, h, h1, hw, hl, hn => by
    obtain ⟨x1, xs1, rfl, mid, g1, g2, g3⟩ := kidT_cons h
    have e : vs.head?.or (some p) = (vs ++ [p]).head? := by cases vs <;> rfl
    rw [e] at g2
    exact ⟨mid, by omega, g2, kidT_app g3 h1 hw hl hn⟩
theorem kidR_T0 {α : Type} {Nd : Nat → Nat → Nat → α → Option Nat → Prop} {p lo hi : Nat} (h : lo ≤ hi) : kidT Nd (some p) lo hi [] ([] : List α) := h
theorem kidR_hi {α : Type} {Nd : Nat → Nat → Nat → α → Option Nat → Prop} {hi2 : Nat} : ∀ {vs : List Nat} {xs : List α} {lo hi : Nat}, kidR Nd lo hi vs xs → hi ≤ hi2 → kidR Nd lo hi2 vs xs
  | [], xs, lo, hi, h, h1 => by
    have e := kidR_nil h
    subst e
    exact Nat.le_trans (show lo ≤ hi from h) h1
  | v :: vs, xs, lo, hi, h, h1 => by
    obtain ⟨x, xs1, rfl, mid, g1, g2, g3⟩ := kidR_cons h
    exact ⟨mid, by omega, g2, kidR_hi g3 h1⟩
/-- one field of a rule set -/
theorem zO.ext7 {G : zG} {H : Heap} {a : Nat} {fs gs : List Value} (h : zO G H a 5 fs) (e : ∀ j, j < 7 → vp_V fs j = vp_V gs j) : zO G H a 5 gs := by
  obtain ⟨r, h1, h2⟩ := h
  have hr : r = (RX6, TX6, 7) := Option.some.inj (h1.symm.trans rfl)
  subst hr
  exact ⟨_, h1, h2.to e⟩
theorem rl_nxt {G : zG} {H H1 : Heap} {r p : Nat} {fsL : List Value} (hO : zO G H r 5 fsL) (hO1 : zO G H1 r 5 (fsL.set 6 (.ref p))) (hlen : fsL.length = 7) : ∀ sg ng vl pa fs ls, zO G H r 5 (rlF sg ng vl pa fs ls none) → zO G H1 r 5 (rlF sg ng vl pa fs ls (some p)) := by
  intro sg ng vl pa fs ls h1
  refine hO1.ext7 (gs := (rlF sg ng vl pa fs ls none).set 6 (.ref p)) (fun j hj => ?_)
  rw [← vp_updV_set (by omega) (.ref p) j, ← vp_updV_set (by show 6 < 7; decide) (.ref p) j]
  have e := zO_fn (r := (RX6, TX6, 7)) rfl hO h1 j hj
  unfold updV
  rw [e]
