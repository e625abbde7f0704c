/-! ===== a filter made of a whole document, for every way to lay its bytes ===== -/
theorem kidL_map {Nd Nd1 : Nat → Nat → Nat → Option Nat → Prop} {c : Nat} : ∀ {vs xs : List Nat} {lo hi : Nat}, (∀ v mid x n, x ∈ xs → Nd v mid x n → Nd1 v mid (c + x) n) → kidL Nd lo hi vs xs → kidL Nd1 lo hi vs (xs.map (c + ·))
  | [], xs, lo, hi, _, h => by
    have e := kidL_nil h
    subst e
    exact h
  | v :: vs, xs, lo, hi, hm, h => by
    obtain ⟨x, xs1, rfl, h0, mid, h1, h2, h3⟩ := kidL_cons h
    exact ⟨h0, mid, h1, hm _ _ _ _ List.mem_cons_self h2, kidL_map (fun v1 m1 x1 n1 a1 a2 => hm v1 m1 x1 n1 (List.mem_cons_of_mem _ a1) a2) h3⟩
def pfc (c : Nat) : Nat → Int32 := fun x => nI x - nI c
theorem pfc_at (c x : Nat) : pfc c (c + x) = nI x := by
  have h : nI (c + x) - nI c = nI (c + x - c) := pk_sub (Nat.le_add_right _ _)
  rw [Nat.add_sub_cancel_left] at h
  exact h
theorem Nod_sh {G : zG} {H : Heap} {f f2 : Nat → Nat} {c : Nat} : ∀ {d v hi k a : Nat} {w : List Nat} {pl : Int32} {nxt : Option Nat}, TrV f f2 c d k a → Nod G H f nI d v hi k a w pl nxt → Nod G H f2 (pfc c) d v hi k (c + a) w pl nxt
  | 0, v, hi, k, a, w, pl, nxt, t, h => by
    obtain ⟨nm, tx, h1, h2, h3, h4⟩ := h
    exact ⟨nm, tx, by rw [t.1]; exact h1, h2, by rw [t.2]; exact h3, h4⟩
  | d + 1, v, hi, k, a, w, pl, nxt, t, h => by
    obtain ⟨nm, tx, vs, h1, h2, h3, h4, h5⟩ := h
    obtain ⟨t1, t2⟩ := t
    refine ⟨nm, tx, vs, by rw [t1.1]; exact h1, h2, by rw [t1.2]; exact h3, h4, ?_⟩
    by_cases hk : k = 3 ∨ k = 4
    · rw [if_pos hk] at h5 ⊢
      obtain ⟨e1, e2⟩ := t2 hk
      rw [e1]
      refine kidL_map (fun v1 mid x n1 hx hN => ?_) h5
      obtain ⟨g1, g2⟩ := e2 x hx
      rw [g1.1, g1.vo, g1.2.2.1, pfc_at]
      exact Nod_sh g2 hN
    · rw [if_neg hk] at h5 ⊢
      have e := kidL_len h5
      have e : vs = [] := by cases vs with
        | nil => rfl
        | cons v vs => simp at e
      subst e
      exact h5
theorem cstL_map {K : Nat} {f f2 s1 s2 : Nat → Nat} {c : Nat} : ∀ {xs : List Nat}, (∀ x ∈ xs, EFt f f2 c x ∧ (f x = 3 ∨ f x = 4 → s2 (c + vo f x) = s1 (vo f x))) → cstL K f2 s2 (xs.map (c + ·)) = cstL K f s1 xs
  | [], _ => rfl
  | x :: xs, h => by
    obtain ⟨g1, g2⟩ := h x List.mem_cons_self
    have ih := cstL_map (K := K) (f := f) (s1 := s1) (fun y hy => h y (List.mem_cons_of_mem _ hy))
    show K + (ne f2 (c + x) - (c + x + 1)) + (if f2 (c + x) = 3 ∨ f2 (c + x) = 4 then s2 (vo f2 (c + x)) else 0) + cstL K f2 s2 (xs.map (c + ·)) = K + (ne f x - (x + 1)) + (if f x = 3 ∨ f x = 4 then s1 (vo f x) else 0) + cstL K f s1 xs
    rw [ih, g1.1, g1.vo, g1.2.1, show c + ne f x - (c + x + 1) = ne f x - (x + 1) by omega]
    by_cases z : f x = 3 ∨ f x = 4
    · rw [if_pos z, if_pos z, g2 z]
    · rw [if_neg z, if_neg z]
theorem cst_tr {K : Nat} {f f2 : Nat → Nat} {c : Nat} : ∀ {d k a : Nat}, TrV f f2 c d k a → k = 3 ∨ k = 4 → cst K f2 d (c + a) = cst K f d a
  | 0, k, a, _, _ => rfl
  | d + 1, k, a, t, hk => by
    obtain ⟨e1, e2⟩ := t.2 hk
    show cstL K f2 (cst K f2 d) (els f2 (c + a)) = cstL K f (cst K f d) (els f a)
    rw [e1]
    exact cstL_map (fun x hx => ⟨(e2 x hx).1, fun z => cst_tr (e2 x hx).2 z⟩)
/-- what is to be known of the bytes f2 from c on: a document of n bytes -/
theorem doc_at {f2 : Nat → Nat} {c n : Nat} (h : dcB f2 c n = true) (hn : n ≤ 2000) (hc : c ≤ 16000) : okV f2 16 3 c ∧ okW f2 16 3 c ∧ cst 30 f2 16 c ≤ 40 * n ∧ cst 80 f2 16 c ≤ 40 * n := by
  have hs : shB (fun j => f2 (c + j)) f2 c n := fun j _ => rfl
  have h0 : dcB (fun j => f2 (c + j)) 0 n = true := by rw [← dcB_sh hs hn (by omega)]; exact h
  obtain ⟨t, g⟩ := dcB_tr h0 hs hn hc
  obtain ⟨o1, o2, -⟩ := dcB_ok h hn hc
  have e30 := cst_tr (K := 30) t (Or.inl rfl)
  have e80 := cst_tr (K := 80) t (Or.inl rfl)
  rw [Nat.add_zero] at e30 e80
  exact ⟨o1, o2, by rw [e30]; exact g 30 (by decide), by rw [e80]; exact g 80 (by decide)⟩
/-- the tree of a whole document at vl -/
def VNr (G : zG) (H : Heap) (f : Nat → Nat) (pf : Nat → Int32) (Z : Nat → Prop) (vl a : Nat) : Prop := ∃ hv, Nod G H f pf 16 vl hv 3 a [] (-1) none ∧ (∀ q, vl ≤ q → q < hv → Z q) ∧ okV f 16 3 a ∧ okW f 16 3 a
theorem VNr.keep {G : zG} {B : Nat → Prop} {H H1 : Heap} {f : Nat → Nat} {pf : Nat → Int32} {Z : Nat → Prop} {vl a : Nat} (h : VNr G H f pf Z vl a) (k : zKp B H H1) (hb : ∀ q, Z q ∨ q < cB G → ¬ B q) : VNr G H1 f pf Z vl a := by
  obtain ⟨hv, h1, h2, h3⟩ := h
  exact ⟨hv, h1.keep k (fun q hq => hq.elim (fun z => hb q (Or.inl (h2 q z.1 z.2))) (fun z => hb q (Or.inr z))), h2, h3⟩
theorem VNr.z {G : zG} {H : Heap} {f : Nat → Nat} {pf : Nat → Int32} {Z : Nat → Prop} {vl a : Nat} (h : VNr G H f pf Z vl a) : Z vl := by
  obtain ⟨hv, h1, h2, h3⟩ := h
  exact h2 vl (Nat.le_refl _) h1.lt
theorem VNr.kids {G : zG} {H : Heap} {f : Nat → Nat} {pf : Nat → Int32} {Z : Nat → Prop} {vl a : Nat} (h : VNr G H f pf Z vl a) : ∃ (nm tx : Nat) (vs : List Nat), zO G H vl 8 (vF 3 (-1) nm tx (numv f 3 a) vs.head? vs.getLast? none vs.length) ∧ kidV G H f pf Z vs (els f a) ∧ vs.length = (els f a).length := by
  obtain ⟨hv, h1, h2, h3, h4⟩ := h
  obtain ⟨nm, tx, vs, g1, g2, g3, g4, g5⟩ := h1
  have hk : 3 = 3 ∨ 3 = 4 := Or.inl rfl
  rw [if_pos hk] at g5
  refine ⟨nm, tx, vs, g1, ?_, kidL_len g5⟩
  have key : ∀ (vs xs : List Nat) (lo : Nat), vl ≤ lo → (∀ z ∈ xs, z ∈ els f a) → kidL (fun v1 mid x n1 => Nod G H f pf 15 v1 mid (f x) (vo f x) (nL f x) (pf x) n1) lo hv vs xs → kidV G H f pf Z vs xs := by
    intro vs
    induction vs with
    | nil =>
      intro xs lo _ _ h
      have e := kidL_nil h
      subst e
      trivial
    | cons v vs ih =>
      intro xs lo hlo hm h
      obtain ⟨x1, xs1, rfl, a0, mid, a1, a2, a3⟩ := kidL_cons h
      have a4 := a2.lt
      have a5 := (h3.2 hk).2 x1 (hm x1 List.mem_cons_self)
      exact ⟨⟨mid, a2.up, fun q q1 q2 => h2 q (by omega) (by omega), a5.up, okW.up a5 (h4.2.2 hk x1 (hm x1 List.mem_cons_self))⟩, ih xs1 mid (by omega) (fun z hz => hm z (List.mem_cons_of_mem _ hz)) a3⟩
  exact key vs _ (vl + 1) (by omega) (fun _ z => z) g5
theorem ended_out {s : State} {below : List Frame} {o : Outcome} (h : Ended s below o) : ¬ Within s below := by
  rintro ⟨above, h1, h2, h3⟩
  have key : s.frames.length = below.length → False := fun hl => by
    rw [h1, List.length_append] at hl
    exact h2 (List.length_eq_zero_iff.mp (by omega))
  cases o with
  | threw a =>
    have h : s.frames = .throwing a :: below := h
    have e : above ++ below = [.throwing a] ++ below := h1.symm.trans h
    exact h3 a (List.append_cancel_right e)
  | returned v =>
    unfold Ended at h
    split at h
    · rename_i e; cases e
    · rename_i v' e
      split at h
      · obtain ⟨c, i, len, -, -, e2⟩ := h
        exact key (by rw [e2]; rfl)
      · exact key (by rw [h]; rfl)
      · exact key (by rw [h]; rfl)
      · exact key (by rw [h.2])
/-- one run, told of in many ways -/
theorem Met.allV {l : Launch} {y : MethodName} {ws : List Cond} {rm : Room} {G : zG} {As : List Value} {I : Type} {P Q : I → Heap → Prop} {A : Nat → Prop} {mc ms : Nat} (i0 : I) (h : ∀ i, Met l y ws rm (zP G As (P i)) (zX A (fun r H => r = none ∧ Q i H)) mc ms A) : Met l y ws rm (zP G As (fun H => ∀ i, P i H)) (zX A (fun r H => r = none ∧ ∀ i, Q i H)) mc ms A := by
  intro p e ha hc hk s m args below hf happ hP hK
  obtain ⟨p1, p2, p3⟩ := hP
  obtain ⟨n, o, h1, h2, h3, ⟨r, er, ⟨er2, h4⟩, h5⟩, h6⟩ := h i0 p e ha hc hk s m args below hf happ ⟨p1, p2 i0, p3⟩ hK
  refine ⟨n, o, h1, h2, h3, ⟨r, er, ⟨er2, fun i => ?_⟩, h5⟩, h6⟩
  obtain ⟨n', o', g1, g2, g3, ⟨r', er', ⟨er2', g4⟩, g5⟩, g6⟩ := h i p e ha hc hk s m args below hf happ ⟨p1, p2 i, p3⟩ hK
  have hn : n' = n := by
    rcases Nat.lt_trichotomy n' n with z | z | z
    · exact absurd (h1 n' z) (ended_out g3)
    · exact z
    · exact absurd (g1 n z) (ended_out h3)
  subst hn
  exact g4
theorem cA4_0 {cnt wa : Nat} : ∀ j, j < 4 → upN (upN (upN (upN (fun _ => 0) 0 cnt) 1 0) 2 0) 3 0 j = cA4 cnt (0, wa, 0, 0, 0) j := by
  intro j hj
  have : j = 0 ∨ j = 1 ∨ j = 2 ∨ j = 3 := by omega
  rcases this with e | e | e | e <;> subst e <;> rfl
