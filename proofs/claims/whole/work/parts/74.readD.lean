/-! ===== values read: words ===== -/
theorem va8_0 {f : Nat → Nat} {a last : Nat} : vaF f 8 a last = 0 ↔ (1 ≤ last - a ∧ f a ≤ 1) := by
  unfold vaF vaN
  rw [if_pos (by omega)]
  by_cases h : last - a < 1
  · rw [if_pos (by simpa using h)]
    constructor
    · intro z; cases z
    · intro z; omega
  · rw [if_neg (by simpa using h)]
    by_cases h2 : 1 < f a
    · rw [if_pos ⟨rfl, h2⟩]
      constructor
      · intro z; cases z
      · intro z; omega
    · rw [if_neg (fun z => h2 z.2)]
      exact ⟨fun _ => ⟨by omega, by omega⟩, fun _ => rfl⟩
theorem va16_0 {f : Nat → Nat} {a last : Nat} : vaF f 16 a last = 0 ↔ 4 ≤ last - a := by
  unfold vaF vaN
  rw [if_pos (by omega)]
  by_cases h : last - a < 4
  · rw [if_pos (by simpa using h)]
    exact ⟨(fun z => nomatch z), fun z => by omega⟩
  · rw [if_neg (by simpa using h), if_neg (fun z => by have := z.1; omega)]
    exact ⟨fun _ => by omega, fun _ => rfl⟩
theorem va18_0 {f : Nat → Nat} {a last : Nat} : vaF f 18 a last = 0 ↔ 8 ≤ last - a := by
  unfold vaF vaN
  rw [if_pos (by omega)]
  by_cases h : last - a < 8
  · rw [if_pos (by simpa using h)]
    exact ⟨(fun z => nomatch z), fun z => by omega⟩
  · rw [if_neg (by simpa using h), if_neg (fun z => by have := z.1; omega)]
    exact ⟨fun _ => by omega, fun _ => rfl⟩
theorem va10_0 {f : Nat → Nat} {a last : Nat} : vaF f 10 a last = 0 := rfl
theorem va2_0 {f : Nat → Nat} {a last : Nat} : vaF f 2 a last = 0 ↔ (4 ≤ last - a ∧ 1 ≤ wh f a ∧ wh f a ≤ last - (a + 4) ∧ f (a + 4 + wh f a - 1) = 0 ∧ bd f (a + 4) (a + 4 + wh f a - 1) < 0) := by
  constructor
  · intro h
    obtain ⟨h1, h2, h3, h4⟩ := txF_0 (vaF_t h)
    have h5 : 4 ≤ last - a := by omega
    exact ⟨h5, h2, by omega, h4, h3⟩
  · rintro ⟨h1, h2, h3, h4, h5⟩
    show txF f a last = 0
    unfold txF
    rw [if_neg (by omega), if_neg (by omega), if_neg (by omega), if_pos h5, if_pos h4]
theorem big_neg {w : Nat} (h : 2 ^ 31 ≤ w) (h2 : w < 2 ^ 32) : nI w < 0 := by
  apply Int32.lt_iff_toInt_lt.mpr
  show (BitVec.ofNat 32 w).toInt < 0
  rw [BitVec.toInt_eq_toNat_cond, BitVec.toNat_ofNat, Nat.mod_eq_of_lt h2, if_neg (by omega)]
  omega
theorem big_lt {w k : Nat} (h : ¬ w < 2 ^ 31) (h2 : w < 2 ^ 32) (hk : k < 2 ^ 31) : nI w < nI k := Int32.lt_of_lt_of_le (big_neg (by omega) h2) (nI_pos' hk)
def uT (f : Nat → Nat) (a last : Nat) : Nat := if vaF f 2 a last = 0 then wh f a else 0
theorem sb8_1 (f : Nat → Nat) (a : Nat) : sb8 f a 0 1 = f a := by
  show f (a + 0) + 256 * 0 = f a
  simp
/-! lists of nodes: one more at the end -/
theorem zO.ext9 {G : zG} {H : Heap} {a : Nat} {fs gs : List Value} (h : zO G H a 8 fs) (e : ∀ j, j < 9 → vp_V fs j = vp_V gs j) : zO G H a 8 gs := by
  obtain ⟨r, h1, h2⟩ := h
  have hr : r = (RX9, TX9, 9) := Option.some.inj (h1.symm.trans rfl)
  subst hr
  exact ⟨_, h1, h2.to e⟩
theorem Nod.nxt {G : zG} {H H1 : Heap} {f : Nat → Nat} {pf : Nat → Int32} {d l hi k a p : Nat} {w : List Nat} {pl : Int32} {fsL : List Value} (h : Nod G H f pf d l hi k a w pl none) {u : Nat} (hk : zKp (fun q => q = u ∨ q = l) H H1) (hul : u < l) (hcb : cB G ≤ u) (hO : zO G H l 8 fsL) (hO1 : zO G H1 l 8 (fsL.set 7 (.ref p))) (hlen : fsL.length = 9) : Nod G H1 f pf d l hi k a w pl (some p) := by
  have up : ∀ {nm tx fst lst cn}, zO G H l 8 (vF k pl nm tx (numv f k a) fst lst none cn) → zO G H1 l 8 (vF k pl nm tx (numv f k a) fst lst (some p) cn) := by
    intro nm tx fst lst cn h1
    refine hO1.ext9 (gs := (vF k pl nm tx (numv f k a) fst lst none cn).set 7 (.ref p)) (fun j hj => ?_)
    rw [← vp_updV_set (by omega) (.ref p) j, ← vp_updV_set (by show 7 < 9; decide) (.ref p) j]
    have e := zO_fn (r := (RX9, TX9, 9)) rfl hO h1 j hj
    unfold updV
    rw [e]
  have hz : ∀ q, Zr G l hi q → ¬ (q = u ∨ q = l) := fun q z => by
    unfold Zr at z
    omega
  cases d with
  | zero =>
    obtain ⟨nm, tx, g1, g2, g3, g4, g5⟩ := h
    exact ⟨nm, tx, up g1, g2.keep hk hz, g3.keep hk hz, g4, g5⟩
  | succ d =>
    obtain ⟨nm, tx, vs, g1, g2, g3, g4, g5⟩ := h
    exact ⟨nm, tx, vs, up g1, g2.keep hk hz, g3.keep hk hz, g4, KL.keep (lo := l + 1) g5 hk (fun q hq => by omega)⟩
theorem KL.last {G : zG} {H : Heap} {f : Nat → Nat} {pf : Nat → Int32} {d : Nat} : ∀ {vs xs : List Nat} {lo hi l : Nat}, KL G H f pf d lo hi vs xs → vs.getLast? = some l → ∃ fsL : List Value, fsL.length = 9 ∧ zO G H l 8 fsL ∧ lo ≤ l ∧ l < hi
  | [], xs, lo, hi, l, _, e => by cases e
  | [v], xs, lo, hi, l, h, e => by
    obtain ⟨x, xs1, rfl, h1, mid, h2, h3, h4⟩ := kidL_cons h
    have e : v = l := Option.some.inj e
    subst e
    obtain ⟨nm, tx, f1, l1, n1, g1, g2, g3, g4⟩ := h3.o
    exact ⟨_, rfl, g1, h1, by omega⟩
  | v :: u :: vs, xs, lo, hi, l, h, e => by
    obtain ⟨x, xs1, rfl, h1, mid, h2, h3, h4⟩ := kidL_cons h
    rw [List.getLast?_cons_cons] at e
    obtain ⟨fsL, g1, g2, g3, g4⟩ := KL.last (lo := mid) h4 e
    have := h3.lt
    exact ⟨fsL, g1, g2, by omega, g4⟩
theorem KL.app {G : zG} {H H1 : Heap} {f : Nat → Nat} {pf : Nat → Int32} {d p hi2 x l : Nat} {fsL : List Value} (hO : zO G H l 8 fsL) (hO1 : zO G H1 l 8 (fsL.set 7 (.ref p))) (hlen : fsL.length = 9) {u : Nat} (hk : zKp (fun q => q = u ∨ q = l) H H1) (hcb : cB G ≤ u) : ∀ {vs xs : List Nat} {lo hi : Nat}, KL G H f pf d lo hi vs xs → vs.getLast? = some l → u < lo → hi ≤ p → Nod G H1 f pf d p hi2 (f x) (vo f x) (nL f x) (pf x) none → KL G H1 f pf d lo hi2 (vs ++ [p]) (xs ++ [x])
  | [], xs, lo, hi, _, e, _, _, _ => by cases e
  | [v], xs, lo, hi, h, e, hul, hp, hn => by
    obtain ⟨x1, xs1, rfl, h1, mid, h2, h3, h4⟩ := kidL_cons h
    have e : v = l := Option.some.inj e
    subst e
    have e2 := kidL_nil h4
    subst e2
    have h5 := h3.lt
    have h6 := hn.lt
    exact ⟨h1, mid, by omega, Nod.nxt h3 hk (by omega) hcb hO hO1 hlen, by omega, hi2, Nat.le_refl _, hn, Nat.le_refl _⟩
  | v :: u2 :: vs, xs, lo, hi, h, e, hul, hp, hn => by
    obtain ⟨x1, xs1, rfl, h1, mid, h2, h3, h4⟩ := kidL_cons h
    rw [List.getLast?_cons_cons] at e
    have h5 := h3.lt
    have h6 := hn.lt
    obtain ⟨fs9, g1, g2, g3, g4⟩ := KL.last (lo := mid) h4 e
    exact ⟨h1, mid, by omega, h3.keep hk (fun q hq => by omega), KL.app hO hO1 hlen hk hcb (lo := mid) h4 e (by omega) hp hn⟩
theorem KL.one {G : zG} {H : Heap} {f : Nat → Nat} {pf : Nat → Int32} {d p lo hi2 x : Nat} (hp : lo ≤ p) (hn : Nod G H f pf d p hi2 (f x) (vo f x) (nL f x) (pf x) none) : KL G H f pf d lo hi2 [p] [x] := ⟨hp, hi2, Nat.le_refl _, hn, Nat.le_refl _⟩
theorem KL.nil {G : zG} {H : Heap} {f : Nat → Nat} {pf : Nat → Int32} {d lo hi : Nat} (h : lo ≤ hi) : KL G H f pf d lo hi [] [] := h
theorem KL.hi {G : zG} {H : Heap} {f : Nat → Nat} {pf : Nat → Int32} {d : Nat} : ∀ {vs xs : List Nat} {lo hi hi2 : Nat}, KL G H f pf d lo hi vs xs → hi ≤ hi2 → KL G H f pf d lo hi2 vs xs
  | [], xs, lo, hi, hi2, h, h1 => by
    have e := kidL_nil h
    subst e
    exact Nat.le_trans (show lo ≤ hi from h) h1
  | v :: vs, xs, lo, hi, hi2, h, h1 => by
    obtain ⟨x, xs1, rfl, h0, mid, h2, h3, h4⟩ := kidL_cons h
    exact ⟨h0, mid, by omega, h3, KL.hi (lo := mid) h4 h1⟩
theorem getLast_some {vs : List Nat} (h : vs ≠ []) : ∃ l, vs.getLast? = some l := by
  cases vs with
  | nil => exact absurd rfl h
  | cons v vs => exact ⟨_, List.getLast?_eq_some_getLast (by simp)⟩
theorem head_app {vs : List Nat} {p : Nat} (h : vs ≠ []) : (vs ++ [p]).head? = vs.head? := by
  cases vs with
  | nil => exact absurd rfl h
  | cons v vs => rfl
theorem last_app (vs : List Nat) (p : Nat) : (vs ++ [p]).getLast? = some p := by simp
theorem len_app (vs : List Nat) (p : Nat) : (vs ++ [p]).length = vs.length + 1 := by simp
theorem KL.lo {G : zG} {H : Heap} {f : Nat → Nat} {pf : Nat → Int32} {d : Nat} {vs xs : List Nat} {lo lo2 hi : Nat} (h : KL G H f pf d lo hi vs xs) (h1 : lo2 ≤ lo) : KL G H f pf d lo2 hi vs xs := by
  cases vs with
  | nil =>
    have e := kidL_nil h
    subst e
    exact Nat.le_trans h1 (show lo ≤ hi from h)
  | cons v vs =>
    obtain ⟨x, xs1, rfl, h0, mid, h2, h3, h4⟩ := kidL_cons h
    exact ⟨by omega, mid, h2, h3, h4⟩
theorem va_F.mono {A A2 : Nat → Prop} {s t : State} (h : va_F A s t) (hA : ∀ q, A q → A2 q) : va_F A2 s t := ⟨h.1, fun q h1 h2 => h.2 q h1 (fun z => h2 (hA q z))⟩
/-- a contract with weaker words behind, and more cells named -/
theorem Met.toX {l : Launch} {y : MethodName} {ws : List Cond} {rm : Room} {G : zG} {As : List Value} {P P1 : Heap → Prop} {A A2 : Nat → Prop} {Post Post2 : Option Value → Heap → Prop} {mc ms : Nat} (h : Met l y ws rm (zP G As P1) (zX A Post) mc ms A) (hp : ∀ H, P H → P1 H) (hA : ∀ q, A q → A2 q) (hq : ∀ r H H1, P H → H.size ≤ H1.size → zKp A H H1 → Post r H1 → Post2 r H1) : Met l y ws rm (zP G As P) (zX A2 Post2) mc ms A2 :=
  MetFree.mono h (fun _ _ h9 => ⟨h9.1, hp _ h9.2.1, h9.2.2⟩) (fun _ _ _ _ _ h9 => h9) (fun a s o t h9 hx => by
    obtain ⟨⟨r, e, h1, h2⟩, L, hF, hL⟩ := hx
    exact ⟨⟨r, e, hq r s.heap t.heap h9.2.1 h2.1 h2.2 h1, h2.mono hA⟩, L, hF, fun q hq => hA _ (hL q hq)⟩)
theorem Met.exX {l : Launch} {y : MethodName} {ws : List Cond} {rm : Room} {G : zG} {As : List Value} {I : Type} {P : I → Heap → Prop} {A : Nat → Prop} {Post : I → Option Value → Heap → Prop} {mc ms : Nat} (h : ∀ i, Met l y ws rm (zP G As (P i)) (zX A (Post i)) mc ms A) : Met l y ws rm (zP G As (fun H => ∃ i, P i H)) (fun a st oc t => ∃ i, P i st.heap ∧ zX A (Post i) a st oc t) mc ms A := by
  have h1 := MetFree.ex h
  exact MetFree.mono h1 (fun a s h9 => by
    obtain ⟨e, ⟨i, hi⟩, hk⟩ := h9
    exact ⟨i, e, hi, hk⟩) (fun _ _ _ _ _ h9 => h9) (fun _ _ _ _ _ h9 => by
    obtain ⟨i, hp, h, L⟩ := h9
    exact ⟨⟨i, hp.2.1, h⟩, L⟩)
