/-! ===== the maker's recursion: words ===== -/
def VNq (G : zG) (H : Heap) (f : Nat → Nat) (pf : Nat → Int32) (Z : Nat → Prop) (v x : Nat) (nxt : Option Nat) : Prop := ∃ hv, Nod G H f pf 16 v hv (f x) (vo f x) (nL f x) (pf x) nxt ∧ (∀ q, v ≤ q → q < hv → Z q) ∧ okV f 16 (f x) (vo f x) ∧ okW f 16 (f x) (vo f x)
theorem VNq.p {G : zG} {H : Heap} {f : Nat → Nat} {pf : Nat → Int32} {Z : Nat → Prop} {v x : Nat} {nxt : Option Nat} (h : VNq G H f pf Z v x nxt) : VNp G H f pf Z v x := by
  obtain ⟨hv, h1⟩ := h
  exact ⟨hv, nxt, h1⟩
theorem VNq.keep {G : zG} {B : Nat → Prop} {H H1 : Heap} {f : Nat → Nat} {pf : Nat → Int32} {Z : Nat → Prop} {v x : Nat} {nxt : Option Nat} (h : VNq G H f pf Z v x nxt) (k : zKp B H H1) (hb : ∀ q, Z q ∨ q < cB G → ¬ B q) : VNq G H1 f pf Z v x nxt := by
  obtain ⟨hv, h1, h2, h3⟩ := h
  exact ⟨hv, h1.keep k (fun q hq => hq.elim (fun z => hb q (Or.inl (h2 q z.1 z.2))) (fun z => hb q (Or.inr z))), h2, h3⟩
def kidV (G : zG) (H : Heap) (f : Nat → Nat) (pf : Nat → Int32) (Z : Nat → Prop) : List Nat → List Nat → Prop
  | [], [] => True
  | v :: vs, x :: xs => VNq G H f pf Z v x vs.head? ∧ kidV G H f pf Z vs xs
  | _, _ => False
theorem kidV_nil {G : zG} {H : Heap} {f : Nat → Nat} {pf : Nat → Int32} {Z : Nat → Prop} {xs : List Nat} (h : kidV G H f pf Z [] xs) : xs = [] := by
  cases xs with
  | nil => rfl
  | cons x xs => exact h.elim
theorem kidV_cons {G : zG} {H : Heap} {f : Nat → Nat} {pf : Nat → Int32} {Z : Nat → Prop} {v : Nat} {vs xs : List Nat} (h : kidV G H f pf Z (v :: vs) xs) : ∃ x xs1, xs = x :: xs1 ∧ VNq G H f pf Z v x vs.head? ∧ kidV G H f pf Z vs xs1 := by
  cases xs with
  | nil => exact h.elim
  | cons x xs => exact ⟨x, xs, rfl, h⟩
theorem kidV.keep {G : zG} {B : Nat → Prop} {H H1 : Heap} {f : Nat → Nat} {pf : Nat → Int32} {Z : Nat → Prop} : ∀ {vs xs : List Nat}, kidV G H f pf Z vs xs → zKp B H H1 → (∀ q, Z q ∨ q < cB G → ¬ B q) → kidV G H1 f pf Z vs xs
  | [], [], h, _, _ => trivial
  | [], _ :: _, h, _, _ => h.elim
  | _ :: _, [], h, _, _ => h.elim
  | v :: vs, x :: xs, h, k, hb => ⟨h.1.keep k hb, kidV.keep h.2 k hb⟩
theorem VNp.kids {G : zG} {H : Heap} {f : Nat → Nat} {pf : Nat → Int32} {Z : Nat → Prop} {vl x : Nat} (h : VNp G H f pf Z vl x) (hk : f x = 3 ∨ f x = 4) : ∃ (nm tx : Nat) (vs : List Nat) (nxt : Option Nat), zO G H vl 8 (vF (f x) (pf x) nm tx (numv f (f x) (vo f x)) vs.head? vs.getLast? nxt vs.length) ∧ kidV G H f pf Z vs (els f (vo f x)) ∧ vs.length = (els f (vo f x)).length := by
  obtain ⟨hv, nxt, h1, h2, h3, h4⟩ := h
  obtain ⟨nm, tx, vs, g1, g2, g3, g4, g5⟩ := h1
  rw [if_pos hk] at g5
  refine ⟨nm, tx, vs, nxt, g1, ?_, kidL_len g5⟩
  have key : ∀ (vs xs : List Nat) (lo : Nat), vl ≤ lo → (∀ z ∈ xs, z ∈ els f (vo f x)) → kidL (fun v1 mid x n1 => Nod G H f pf 15 v1 mid (f x) (vo f x) (nL f x) (pf x) n1) lo hv vs xs → kidV G H f pf Z vs xs := by
    intro vs
    induction vs with
    | nil =>
      intro xs lo _ _ h
      have e := kidL_nil h
      subst e
      trivial
    | cons v vs ih =>
      intro xs lo hlo hm h
      obtain ⟨x1, xs1, rfl, a0, mid, a1, a2, a3⟩ := kidL_cons h
      have a4 := a2.lt
      have a5 := (h3.2 hk).2 x1 (hm x1 List.mem_cons_self)
      exact ⟨⟨mid, a2.up, fun q q1 q2 => h2 q (by omega) (by omega), a5.up, okW.up a5 (h4.2.2 hk x1 (hm x1 List.mem_cons_self))⟩, ih xs1 mid (by omega) (fun z hz => hm z (List.mem_cons_of_mem _ hz)) a3⟩
  exact key vs _ (vl + 1) (by omega) (fun _ z => z) g5
/-- one step of a check, in the class's states -/
theorem foldS_st {g : eS} {E us : List Nat} {x : Nat} {S T T1 : cS} (h0 : T.1 = 0) (hf : foldS g E S = foldS g (x :: us) T) (he : eqS T1 (g x T)) : (T1.1 = 0 → foldS g E S = foldS g us T1) ∧ (T1.1 ≠ 0 → eqS T1 (foldS g E S)) := by
  rw [foldS_s h0] at hf
  refine ⟨fun q => ?_, fun q => ?_⟩
  · rw [hf, he.2.2 q]
  · rw [hf, foldS_w (by rw [← he.1]; exact q)]
    exact he
abbrev rMk (F L d mc ms : Nat) : Room := { frames := 5 * d + F, cells := mc, slots := ms, locals := 140 * d + L }
abbrev rCk9 (G : zG) (f : Nat → Nat) (pf : Nat → Int32) (Z : Nat → Prop) (d : Nat) : Heap → Nat → Nat → Nat → cT → Option Nat → Prop := fun H => RCn G H f pf Z (RuL G H f pf Z d).1 (RuL G H f pf Z d).2
abbrev rFk9 (G : zG) (f : Nat → Nat) (pf : Nat → Int32) (Z : Nat → Prop) (d : Nat) : Heap → Nat → Nat → Nat → Nat → Option Nat → Prop := fun H => RFn G H f pf Z d
abbrev rPk9 (G : zG) (f : Nat → Nat) (pf : Nat → Int32) (Z : Nat → Prop) (d : Nat) : Heap → Nat → Nat → Nat → Nat → Option Nat → Prop := fun H => RPn G H f pf Z (RuL G H f pf Z d).2
def C_aC (l : Launch) (G : zG) (f : Nat → Nat) (pf : Nat → Int32) (Z : Nat → Prop) (d : Nat) : Prop := ∀ (n0 mk fl rt ca c0 h sg : Nat) (ng : Bool) (vl : Nat) (pa nx : Option Nat) (x : Nat) (S : cS) (dp tv : Nat), tv ≤ d → f x = 3 → okV f tv 3 (vo f x) → okW f tv 3 (vo f x) → S.1 = 0 → sInv S → (∀ q, Z q ∨ q < cB G → q < mk) → mk < fl → fl < ca → mk < h → h ≠ fl → h ≠ ca → h < n0 → ca < n0 → dp + tv = 17 →
  Met l yX2_addConditions wsX2_addConditions (rMk 20 400 d (cst 30 f tv (vo f x)) (cst 80 f tv (vo f x))) (zP G [.ref (mk), .ref (h), .int (nI (dp))] (fun H => MKs G H mk fl rt ca c0 pf S ∧ zO G H h 5 (rlF sg ng vl pa none none nx) ∧ VNp G H f pf Z vl x ∧ CH G H ∧ H.size = n0)) (zX (fun q => q = mk ∨ q = ca ∨ q = h ∨ n0 ≤ q) (fun r9 H => r9 = none ∧ ∃ T : cS, MKs G H mk fl rt ca c0 pf T ∧ eqS T ((ckF f d).1 (vo f x) S) ∧ (T.1 = 0 → ∃ rs : List Nat, zO G H h 5 (rlF sg ng vl pa rs.head? rs.getLast? nx) ∧ (RuL G H f pf Z d).1 n0 H.size rs (conds f x)))) (cst 30 f tv (vo f x)) (cst 80 f tv (vo f x)) (fun q => q = mk ∨ q = ca ∨ q = h ∨ n0 ≤ q)
def C_aF (l : Launch) (G : zG) (f : Nat → Nat) (pf : Nat → Int32) (Z : Nat → Prop) (d : Nat) : Prop := ∀ (n0 mk fl rt ca c0 h sg : Nat) (ng : Bool) (vl : Nat) (pa nx : Option Nat) (x : Nat) (S : cS) (dp tv : Nat), tv ≤ d → f x = 3 → okV f tv 3 (vo f x) → okW f tv 3 (vo f x) → S.1 = 0 → sInv S → (∀ q, Z q ∨ q < cB G → q < mk) → mk < fl → fl < ca → mk < h → h ≠ fl → h ≠ ca → h < n0 → ca < n0 → dp + tv = 17 →
  Met l yX2_addClauses wsX2_addClauses (rMk 20 400 d (cst 30 f tv (vo f x)) (cst 80 f tv (vo f x))) (zP G [.ref (mk), .ref (h), .int (nI (dp))] (fun H => MKs G H mk fl rt ca c0 pf S ∧ zO G H h 5 (rlF sg ng vl pa none none nx) ∧ VNp G H f pf Z vl x ∧ CH G H ∧ H.size = n0)) (zX (fun q => q = mk ∨ q = ca ∨ q = h ∨ n0 ≤ q) (fun r9 H => r9 = none ∧ ∃ T : cS, MKs G H mk fl rt ca c0 pf T ∧ eqS T ((ckF f d).2 (vo f x) S) ∧ (T.1 = 0 → ∃ rs : List Nat, zO G H h 5 (rlF sg ng vl pa rs.head? rs.getLast? nx) ∧ (RuL G H f pf Z d).2 n0 H.size rs (els f (vo f x))))) (cst 30 f tv (vo f x)) (cst 80 f tv (vo f x)) (fun q => q = mk ∨ q = ca ∨ q = h ∨ n0 ≤ q)
/-- the cost of one element, level d below it -/
def cE1 (K : Nat) (f : Nat → Nat) (sub : Nat → Nat) (x : Nat) : Nat := K + (ne f x - (x + 1)) + (if f x = 3 ∨ f x = 4 then sub (vo f x) else 0)
theorem cstL_c {K : Nat} {f sub : Nat → Nat} {x : Nat} {xs : List Nat} : cstL K f sub (x :: xs) = cE1 K f sub x + cstL K f sub xs := rfl
