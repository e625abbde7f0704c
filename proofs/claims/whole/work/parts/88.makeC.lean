/-! ===== the maker of filters: its state, what it may cost, lists of rules in a changing heap ===== -/
def cA4 (c0 : Nat) (S : cS) : Nat → Nat := fun j => if j = 0 then c0 else if j = 1 then S.2.2.1 else if j = 2 then S.2.2.2.1 else S.2.2.2.2
def fpS (pf : Nat → Int32) (S : cS) : Int32 := if S.1 = 0 then -1 else pf S.2.1
def MKs (G : zG) (H : Heap) (mk fl rt ca c0 : Nat) (pf : Nat → Int32) (S : cS) : Prop := zO G H mk 3 [.ref fl, .int (nI S.1), .int (fpS pf S)] ∧ zO G H fl 2 [.ref rt, .ref ca] ∧ zA G H ca 4 (cA4 c0 S)
theorem MKs.keep {G : zG} {B : Nat → Prop} {H H1 : Heap} {mk fl rt ca c0 : Nat} {pf : Nat → Int32} {S : cS} (h : MKs G H mk fl rt ca c0 pf S) (k : zKp B H H1) (hb : ¬ B mk ∧ ¬ B fl ∧ ¬ B ca) : MKs G H1 mk fl rt ca c0 pf S := ⟨h.1.keep k hb.1, h.2.1.keep k hb.2.1, h.2.2.keep k hb.2.2⟩
/-- the class's state against the reference's -/
def eqS (T S : cS) : Prop := T.1 = S.1 ∧ (T.1 ≠ 0 → T.2.1 = S.2.1) ∧ (T.1 = 0 → T = S)
theorem eqS.rf (S : cS) : eqS S S := ⟨rfl, fun _ => rfl, fun _ => rfl⟩
def cstL (K : Nat) (f : Nat → Nat) (sub : Nat → Nat) : List Nat → Nat
  | [] => 0
  | x :: xs => K + (ne f x - (x + 1)) + (if f x = 3 ∨ f x = 4 then sub (vo f x) else 0) + cstL K f sub xs
noncomputable def cst (K : Nat) (f : Nat → Nat) : Nat → Nat → Nat
  | 0, _ => 0
  | d + 1, v => cstL K f (cst K f d) (els f v)
/-- a kind of lists of rules -/
def rKind (G : zG) (Z : Nat → Prop) (α : Type) (Nd : Heap → Nat → Nat → Nat → α → Option Nat → Prop) : Prop :=
  (∀ H l2 v mid x n, Nd H l2 v mid x n → l2 ≤ v ∧ v < mid) ∧
  (∀ H l2 v mid x n, Nd H l2 v mid x n → ∃ fsL : List Value, fsL.length = 7 ∧ zO G H v 5 fsL) ∧
  (∀ (B : Nat → Prop) H H1 l2 v mid x n, zKp B H H1 → (∀ q, (l2 ≤ q ∧ q < mid) ∨ Z q ∨ q < cB G → ¬ B q) → Nd H l2 v mid x n → Nd H1 l2 v mid x n) ∧
  (∀ H H1 lq u p (fsL : List Value) l2 mid x, zKp (fun q => q = u ∨ q = lq) H H1 → u < l2 → (∀ q, Z q ∨ q < cB G → q < u) → zO G H lq 5 fsL → zO G H1 lq 5 (fsL.set 6 (.ref p)) → fsL.length = 7 → Nd H l2 lq mid x none → Nd H1 l2 lq mid x (some p)) ∧
  (∀ H l2 l3 v mid x n, l3 ≤ l2 → Nd H l2 v mid x n → Nd H l3 v mid x n)
theorem Spt.wid {G : zG} {H : Heap} {Z : Nat → Prop} {f : Nat → Nat} {n lo l3 r : Nat} {st : Option Nat} {q : Nat} (h : Spt G H (fun q => Z q ∨ (lo ≤ q ∧ q < r) ∨ q < cB G) f n st q) (hl : l3 ≤ lo) : Spt G H (fun q => Z q ∨ (l3 ≤ q ∧ q < r) ∨ q < cB G) f n st q := h.mono (fun q hq => hq.elim Or.inl (fun z => Or.inr (z.elim (fun y => Or.inl (by omega)) Or.inr)))
theorem rK_C (G : zG) (f : Nat → Nat) (pf : Nat → Int32) (Z : Nat → Prop) (d : Nat) : rKind G Z cT (fun H => RCn G H f pf Z (RuL G H f pf Z d).1 (RuL G H f pf Z d).2) := by
  refine ⟨fun H l2 v mid x n h => h.b, fun H l2 v mid x n h => ?_, fun B H H1 l2 v mid x n k hb h => ?_, fun H H1 lq u p fsL l2 mid x k hu hZ hO hO1 hlen h => ?_, fun H l2 l3 v mid x n hl h => ?_⟩
  · obtain ⟨vl, rs, h1, -⟩ := h
    exact ⟨_, rfl, h1⟩
  · have hB := h.b
    have hz : ∀ q, Z q ∨ q < cB G → ¬ B q := fun q z => hb q (Or.inr z)
    exact h.keep0 k (fun _ _ _ _ _ _ z => z.keep k (hb v (Or.inl (by omega)))) hz (fun rs ts z => (RuL_keep k hz d).1 _ _ _ _ (fun q hq => hb q (Or.inl (by omega))) z) (fun rs ts z => (RuL_keep k hz d).2 _ _ _ _ (fun q hq => hb q (Or.inl (by omega))) z)
  · have hB := h.b
    have hz : ∀ q, Z q ∨ q < cB G → ¬ (q = u ∨ q = lq) := fun q z => by have := hZ q z; omega
    exact h.keep0 k (rl_nxt hO hO1 hlen) hz (fun rs ts z => (RuL_keep k hz d).1 _ _ _ _ (fun q hq => by omega) z) (fun rs ts z => (RuL_keep k hz d).2 _ _ _ _ (fun q hq => by omega) z)
  · obtain ⟨vl, rs, h1, h2, h3⟩ := h
    exact ⟨vl, rs, h1, by omega, h3⟩
theorem rK_P (G : zG) (f : Nat → Nat) (pf : Nat → Int32) (Z : Nat → Prop) (d : Nat) : rKind G Z Nat (fun H => RPn G H f pf Z (RuL G H f pf Z d).2) := by
  refine ⟨fun H l2 v mid x n h => h.b, fun H l2 v mid x n h => ?_, fun B H H1 l2 v mid x n k hb h => ?_, fun H H1 lq u p fsL l2 mid x k hu hZ hO hO1 hlen h => ?_, fun H l2 l3 v mid x n hl h => ?_⟩
  · obtain ⟨vl, rs, h1, -⟩ := h
    exact ⟨_, rfl, h1⟩
  · have hB := h.b
    have hz : ∀ q, Z q ∨ q < cB G → ¬ B q := fun q z => hb q (Or.inr z)
    exact h.keep0 k (fun _ _ _ _ _ _ z => z.keep k (hb v (Or.inl (by omega)))) hz (fun rs ts z => (RuL_keep k hz d).2 _ _ _ _ (fun q hq => hb q (Or.inl (by omega))) z)
  · have hB := h.b
    have hz : ∀ q, Z q ∨ q < cB G → ¬ (q = u ∨ q = lq) := fun q z => by have := hZ q z; omega
    exact h.keep0 k (rl_nxt hO hO1 hlen) hz (fun rs ts z => (RuL_keep k hz d).2 _ _ _ _ (fun q hq => by omega) z)
  · obtain ⟨vl, rs, h1, h2, h3⟩ := h
    exact ⟨vl, rs, h1, by omega, h3⟩
theorem rK_F (G : zG) (f : Nat → Nat) (pf : Nat → Int32) (Z : Nat → Prop) (d : Nat) : rKind G Z Nat (fun H => RFn G H f pf Z d) := by
  refine ⟨fun H l2 v mid x n h => h.b, fun H l2 v mid x n h => ?_, fun B H H1 l2 v mid x n k hb h => ?_, fun H H1 lq u p fsL l2 mid x k hu hZ hO hO1 hlen h => ?_, fun H l2 l3 v mid x n hl h => ?_⟩
  · obtain ⟨sg, ng, vl, pa, fs, ls, h1⟩ := RFn_o h
    exact ⟨_, rfl, h1⟩
  · have hB := RFn.b h
    have hz : ∀ q, Z q ∨ q < cB G → ¬ B q := fun q z => hb q (Or.inr z)
    have h : RFn G H f pf Z d l2 v mid x n := h
    show RFn G H1 f pf Z d l2 v mid x n
    unfold RFn at h ⊢
    by_cases hj : f (x + 1) = 36
    · rw [if_pos hj] at h ⊢
      exact h.keep0 k (fun _ _ _ _ _ _ z => z.keep k (hb v (Or.inl (by omega)))) hz (fun q hq => hb q (Or.inl (by omega))) (fun l3 h3 rs ts g1 g2 z => (RuL_keep k hz d).2 _ _ _ _ (fun q hq => hb q (Or.inl (by omega))) z)
    · rw [if_neg hj] at h ⊢
      exact h.keep0 k (fun _ _ _ _ _ _ z => z.keep k (hb v (Or.inl (by omega)))) hz (fun q hq => hb q (Or.inl (by omega))) (fun rs ts z => (RuL_keep k hz d).1 _ _ _ _ (fun q hq => hb q (Or.inl (by omega))) z) (fun rs ts z => (RuL_keep k hz (d + 1)).1 _ _ _ _ (fun q hq => hb q (Or.inl (by omega))) z)
  · have hB := RFn.b h
    have hz : ∀ q, Z q ∨ q < cB G → ¬ (q = u ∨ q = lq) := fun q z => by have := hZ q z; omega
    have h : RFn G H f pf Z d l2 lq mid x none := h
    show RFn G H1 f pf Z d l2 lq mid x (some p)
    unfold RFn at h ⊢
    by_cases hj : f (x + 1) = 36
    · rw [if_pos hj] at h ⊢
      exact h.keep0 k (rl_nxt hO hO1 hlen) hz (fun q hq => by omega) (fun l3 h3 rs ts g1 g2 z => (RuL_keep k hz d).2 _ _ _ _ (fun q hq => by omega) z)
    · rw [if_neg hj] at h ⊢
      exact h.keep0 k (rl_nxt hO hO1 hlen) hz (fun q hq => by omega) (fun rs ts z => (RuL_keep k hz d).1 _ _ _ _ (fun q hq => by omega) z) (fun rs ts z => (RuL_keep k hz (d + 1)).1 _ _ _ _ (fun q hq => by omega) z)
  · have h : RFn G H f pf Z d l2 v mid x n := h
    show RFn G H f pf Z d l3 v mid x n
    unfold RFn at h ⊢
    by_cases hj : f (x + 1) = 36
    · rw [if_pos hj] at h ⊢
      obtain ⟨vl, rs, h1, h2, h3⟩ := h
      exact ⟨vl, rs, h1, by omega, h3⟩
    · rw [if_neg hj] at h ⊢
      obtain ⟨vl, rs, sa, h1, h2, h3, h4, h5, h6⟩ := h
      exact ⟨vl, rs, sa, h1, by omega, h3, h4, h5.wid hl, h6⟩
/-- a list whose last rule waits for p -/
def zT9 {α : Type} (Nd : Heap → Nat → Nat → Nat → α → Option Nat → Prop) (H : Heap) (nt : Option Nat) (lo hi : Nat) (rs : List Nat) (xs : List α) : Prop := kidT (Nd H) nt lo hi rs xs
theorem zT9.keep {α : Type} {G : zG} {Z : Nat → Prop} {Nd : Heap → Nat → Nat → Nat → α → Option Nat → Prop} (hK : rKind G Z α Nd) {B : Nat → Prop} {H H1 : Heap} {nt : Option Nat} {lo hi : Nat} {rs : List Nat} {xs : List α} (h : zT9 Nd H nt lo hi rs xs) (k : zKp B H H1) (hb : ∀ q, (lo ≤ q ∧ q < hi) ∨ Z q ∨ q < cB G → ¬ B q) : zT9 Nd H1 nt lo hi rs xs :=
  kidT_mono (fun l2 v mid x n a1 a2 a3 => hK.2.2.1 B H H1 l2 v mid x n k (fun q hq => hb q (hq.elim (fun z => Or.inl (by omega)) Or.inr)) a3) (hK.1 H) h
def zR9 {α : Type} (Nd : Heap → Nat → Nat → Nat → α → Option Nat → Prop) (H : Heap) (lo hi : Nat) (rs : List Nat) (xs : List α) : Prop := kidR (Nd H) lo hi rs xs
theorem zR9.keep {α : Type} {G : zG} {Z : Nat → Prop} {Nd : Heap → Nat → Nat → Nat → α → Option Nat → Prop} (hK : rKind G Z α Nd) {B : Nat → Prop} {H H1 : Heap} {lo hi : Nat} {rs : List Nat} {xs : List α} (h : zR9 Nd H lo hi rs xs) (k : zKp B H H1) (hb : ∀ q, (lo ≤ q ∧ q < hi) ∨ Z q ∨ q < cB G → ¬ B q) : zR9 Nd H1 lo hi rs xs :=
  kidR_mono (fun l2 v mid x n a1 a2 a3 => hK.2.2.1 B H H1 l2 v mid x n k (fun q hq => hb q (hq.elim (fun z => Or.inl (by omega)) Or.inr)) a3) (hK.1 H) h
theorem zR9.last {α : Type} {G : zG} {Z : Nat → Prop} {Nd : Heap → Nat → Nat → Nat → α → Option Nat → Prop} (hK : rKind G Z α Nd) {H : Heap} : ∀ {rs : List Nat} {xs : List α} {lo hi lq : Nat}, zR9 Nd H lo hi rs xs → rs.getLast? = some lq → ∃ fsL : List Value, fsL.length = 7 ∧ zO G H lq 5 fsL ∧ lo ≤ lq ∧ lq < hi
  | [], xs, lo, hi, lq, _, e => by cases e
  | [v], xs, lo, hi, lq, h, e => by
    obtain ⟨x, xs1, rfl, mid, h1, h2, h3⟩ := kidR_cons h
    have e : v = lq := Option.some.inj e
    subst e
    obtain ⟨fsL, g1, g2⟩ := hK.2.1 _ _ _ _ _ _ h2
    have g3 := hK.1 _ _ _ _ _ _ h2
    exact ⟨fsL, g1, g2, g3.1, by omega⟩
  | v :: u :: vs, xs, lo, hi, lq, h, e => by
    obtain ⟨x, xs1, rfl, mid, h1, h2, h3⟩ := kidR_cons h
    rw [List.getLast?_cons_cons] at e
    obtain ⟨fsL, g1, g2, g3, g4⟩ := zR9.last hK (lo := mid) h3 e
    have g5 := hK.1 _ _ _ _ _ _ h2
    exact ⟨fsL, g1, g2, by omega, g4⟩
theorem kidR_lq {α : Type} {G : zG} {Z : Nat → Prop} {Nd : Heap → Nat → Nat → Nat → α → Option Nat → Prop} (hK : rKind G Z α Nd) {H : Heap} {rs : List Nat} {xs : List α} {lo hi lq : Nat} (h : zR9 Nd H lo hi rs xs) (e : rs.getLast? = some lq) : lo ≤ lq ∧ lq < hi := by
  obtain ⟨fsL, g1, g2, g3⟩ := zR9.last hK h e
  exact g3
theorem zR9.add {α : Type} {G : zG} {Z : Nat → Prop} {Nd : Heap → Nat → Nat → Nat → α → Option Nat → Prop} (hK : rKind G Z α Nd) {H H1 : Heap} {rs : List Nat} {xs : List α} {lo hi lq u p : Nat} {fsL : List Value} (h : zR9 Nd H lo hi rs xs) (e : rs.getLast? = some lq) (k : zKp (fun q => q = u ∨ q = lq) H H1) (hu : u < lo) (hZ : ∀ q, Z q ∨ q < cB G → q < u) (hO : zO G H lq 5 fsL) (hO1 : zO G H1 lq 5 (fsL.set 6 (.ref p))) (hlen : fsL.length = 7) : zT9 Nd H1 (some p) lo hi rs xs :=
  (kidR_T e (fun l2 v mid x n a1 a2 a3 => hK.2.2.1 _ H H1 l2 v mid x n k (fun q hq => hq.elim (fun z => by omega) (fun z => by have := hZ q z; have := (kidR_lq hK h e); omega)) a3) (fun l2 mid x a1 a2 a3 => hK.2.2.2.1 H H1 lq u p fsL l2 mid x k (by omega) hZ hO hO1 hlen a3) (hK.1 H) h).1
/-- the value of the element x, with its place -/
def VNp (G : zG) (H : Heap) (f : Nat → Nat) (pf : Nat → Int32) (Z : Nat → Prop) (vl x : Nat) : Prop := ∃ hv nx, Nod G H f pf 16 vl hv (f x) (vo f x) (nL f x) (pf x) nx ∧ (∀ q, vl ≤ q → q < hv → Z q) ∧ okV f 16 (f x) (vo f x) ∧ okW f 16 (f x) (vo f x)
theorem VNp.v {G : zG} {H : Heap} {f : Nat → Nat} {pf : Nat → Int32} {Z : Nat → Prop} {vl x : Nat} (h : VNp G H f pf Z vl x) : VN G H f pf Z vl x := by
  obtain ⟨hv, nx, h1, h2⟩ := h
  exact ⟨hv, pf x, nx, h1, h2⟩
theorem VNp.keep {G : zG} {B : Nat → Prop} {H H1 : Heap} {f : Nat → Nat} {pf : Nat → Int32} {Z : Nat → Prop} {vl x : Nat} (h : VNp G H f pf Z vl x) (k : zKp B H H1) (hb : ∀ q, Z q ∨ q < cB G → ¬ B q) : VNp G H1 f pf Z vl x := by
  obtain ⟨hv, nx, h1, h2, h3⟩ := h
  exact ⟨hv, nx, h1.keep k (fun q hq => hq.elim (fun z => hb q (Or.inl (h2 q z.1 z.2))) (fun z => hb q (Or.inr z))), h2, h3⟩
theorem VNp.z {G : zG} {H : Heap} {f : Nat → Nat} {pf : Nat → Int32} {Z : Nat → Prop} {vl x : Nat} (h : VNp G H f pf Z vl x) : Z vl := by
  obtain ⟨hv, nx, h1, h2, h3⟩ := h
  exact h2 vl (Nat.le_refl _) h1.lt
theorem mks_say {G : zG} {H : Heap} {mk fl rt ca c0 why x : Nat} {pf : Nat → Int32} {S : cS} (h0 : S.1 = 0) (hw : why ≠ 0) (h1 : zO G H mk 3 [.ref fl, .int (nI why), .int (pf x)]) (h2 : zO G H fl 2 [.ref rt, .ref ca]) (h3 : zA G H ca 4 (cA4 c0 S)) : MKs G H mk fl rt ca c0 pf (sSay S why x) := by
  have e : sSay S why x = (why, x, S.2.2) := by unfold sSay; rw [if_neg (fun z => z h0)]
  rw [e]
  refine ⟨?_, h2, h3⟩
  unfold fpS
  rw [if_neg hw]
  exact h1
theorem cA4_1 {c0 more : Nat} {S : cS} : ∀ j, j < 4 → upN (cA4 c0 S) 1 (cA4 c0 S 1 + more) j = cA4 c0 (S.1, S.2.1, S.2.2.1 + more, S.2.2.2) j := by
  intro j hj
  have : j = 0 ∨ j = 1 ∨ j = 2 ∨ j = 3 := by omega
  rcases this with e | e | e | e <;> subst e <;> rfl
theorem cA4_2 {c0 more : Nat} {S : cS} : ∀ j, j < 4 → upN (cA4 c0 S) 2 (cA4 c0 S 2 + more) j = cA4 c0 (S.1, S.2.1, S.2.2.1, S.2.2.2.1 + more, S.2.2.2.2) j := by
  intro j hj
  have : j = 0 ∨ j = 1 ∨ j = 2 ∨ j = 3 := by omega
  rcases this with e | e | e | e <;> subst e <;> rfl
theorem cA4_3 {c0 more : Nat} {S : cS} : ∀ j, j < 4 → upN (cA4 c0 S) 3 (cA4 c0 S 3 + more) j = cA4 c0 (S.1, S.2.1, S.2.2.1, S.2.2.2.1, S.2.2.2.2 + more) j := by
  intro j hj
  have : j = 0 ∨ j = 1 ∨ j = 2 ∨ j = 3 := by omega
  rcases this with e | e | e | e <;> subst e <;> rfl
theorem sCnt_y {S : cS} {more x : Nat} (h : S.2.2.1 + more ≤ 100) : sCnt S more x = (S.1, S.2.1, S.2.2.1 + more, S.2.2.2) := by unfold sCnt; rw [if_pos h]
theorem sCnt_n {S : cS} {more x : Nat} (h : ¬ S.2.2.1 + more ≤ 100) : sCnt S more x = sSay (S.1, S.2.1, S.2.2.1 + more, S.2.2.2) 5 x := by unfold sCnt; rw [if_neg h]
