/-! ===== RULES: a filter as a tree of objects, and what the class's matcher answers ===== -/
theorem els_ne0 {f : Nat → Nat} {x : Nat} : ∀ {L : List Nat} {e : Nat}, (e ≠ 0 → f e ≠ 0) → Ch 18000 f e L → x ∈ L → f x ≠ 0
  | [], _, _, _, h => by cases h
  | y :: L, e, h0, hc, h => by
    obtain ⟨h1, h2, h3, h4⟩ := hc
    rcases List.mem_cons.mp h with z | z
    · subst z; subst h1
      exact h0 (by omega)
    · refine els_ne0 (fun q => ?_) h4 z
      unfold nx at q ⊢
      by_cases y : f (th f y) = 0
      · rw [if_pos y] at q; exact absurd rfl q
      · rw [if_neg y]; exact y
theorem fi_ne0 {f : Nat → Nat} {a : Nat} : fi f a ≠ 0 → f (fi f a) ≠ 0 := by
  intro q
  unfold fi at q ⊢
  by_cases y : f (a + 4) = 0
  · rw [if_pos y] at q; exact absurd rfl q
  · rw [if_neg y]; exact y
theorem okV.ne0 {f : Nat → Nat} {d k a : Nat} (h : okV f d k a) (hk : k = 3 ∨ k = 4) : ∀ x ∈ els f a, f x ≠ 0 := by
  obtain ⟨d', rfl⟩ := h.s hk
  exact fun x hx => els_ne0 fi_ne0 (h.2 hk).1.2 hx
theorem okV.kk {f : Nat → Nat} {d k a : Nat} (h : okV f d k a) (h0 : k ≠ 0) : okK k = true := by
  have := h.b.1
  exact decide_eq_true (by omega)
theorem okV.len {f : Nat → Nat} {d k a : Nat} (h : okV f d k a) (hk : k = 3 ∨ k = 4) : (els f a).length ≤ 18000 := by
  obtain ⟨d', rfl⟩ := h.s hk
  exact ((h.2 hk).1.2).len' (by decide)
def sgN (f : Nat → Nat) (c : Nat) : Nat := if coN f c < 3 then 5 else if coN f c < 5 then 6 else if coN f c = 5 then 7 else if coN f c = 6 then (if f c = 10 then 5 else 8) else if coN f c = 7 then 9 else if coN f c = 8 then (if f c = 10 then 5 else 10) else if coN f c = 9 then 11 else if coN f c = 10 then 12 else if coN f c = 11 then (if asC f (vo f c) = true then 13 else 14) else 15
def ngN (f : Nat → Nat) (c : Nat) : Bool := decide (coN f c = 2 ∨ coN f c = 4 ∨ coN f c = 12 ∨ (coN f c = 9 ∧ f (vo f c) = 0))
/-- a condition: its sign, whether it is negated, the element that it is made of -/
abbrev cT : Type := Nat × Bool × Nat
abbrev cAL : Type := List cT → Nat → Nat → Nat → Bool
def cnd (f : Nat → Nat) (c : Nat) : cT := (sgN f c, ngN f c, c)
noncomputable def conds (f : Nat → Nat) (x : Nat) : List cT := (els f (vo f x)).map (cnd f)
/-- what a rule of sign S made of the element x says of a leaf -/
noncomputable def lfS (f : Nat → Nat) (al : cAL) (fh : eFH) (S x k a : Nat) : Bool :=
  if S = 6 then (if f x = 3 ∨ f x = 4 then els f (vo f x) else []).any (fun i => pwI f 5 k a (f i) (vo f i)) else if S = 11 then decide (k ≠ 0) else if S = 12 then decide (k = 4) && decide (lN (els f a).length = numv f (f x) (vo f x)) else if S = 13 then decide (k = 4) && (els f a).any (fun i => al (conds f x) 0 (f i) (vo f i)) else if S = 14 then decide (k = 4) && (els f a).any (fun i => decide (f i = 3) && fh (vo f x) (vo f i)) else pwI f S k a (f x) (vo f x)
noncomputable def anS (f : Nat → Nat) (LF : Nat → Nat → Bool) (q k a : Nat) : Bool := if TL f LF 16 q k a = 0 then LF 0 0 else decide (TL f LF 16 q k a = 2)
noncomputable def cdS (f : Nat → Nat) (al : cAL) (fh : eFH) (t : cT) (q k a : Nat) : Bool := (if t.1 = 15 then al (conds f t.2.2) q k a else anS f (lfS f al fh t.1 t.2.2) q k a) != t.2.1
noncomputable def clS (f : Nat → Nat) (al : cAL) (fh : eFH) (e a : Nat) : Bool :=
  if f (e + 1) = 36 then (if isA f e wAnd = true then !(els f (vo f e)).any (fun i => fh (vo f i) a == false) else (els f (vo f e)).any (fun i => fh (vo f i) a == true) != isA f e wNor) else if isC f (f e) (vo f e) = true then al (conds f e) (e + 1) 3 a else cdS f al fh (5, false, e) (e + 1) 3 a
noncomputable def ecF (f : Nat → Nat) : Nat → cAL × eFH
  | 0 => (fun _ _ _ _ => true, fun _ _ => true)
  | d + 1 => (fun ts q k a => ts.all (fun t => cdS f (ecF f d).1 (ecF f d).2 t q k a), fun v a => (els f v).all (fun e => clS f (ecF f d).1 (ecF f d).2 e a))
/-! the same as the reference's -/
theorem TL_ext {f : Nat → Nat} {LF LG : Nat → Nat → Bool} (h : ∀ k a, okV f 16 k a → LF k a = LG k a) : ∀ {t q k a : Nat}, t ≤ 16 → okV f t k a → TL f LF t q k a = TL f LG t q k a
  | 0, q, k, a, ht, hv => by
    unfold TL
    rw [h _ _ (hv.le ht), h _ _ (okV_0 f 16)]
  | t + 1, q, k, a, ht, hv => by
    rw [TL, TL, h _ _ (hv.le ht), h _ _ (okV_0 f 16)]
    by_cases q0 : q = 0
    · rw [if_pos q0, if_pos q0]
    · rw [if_neg q0, if_neg q0]
      have e1 : k = 3 ∨ k = 4 → fnd f q (els f a) ≠ 0 → TL f LF t (nS f q) (f (fnd f q (els f a))) (vo f (fnd f q (els f a))) = TL f LG t (nS f q) (f (fnd f q (els f a))) (vo f (fnd f q (els f a))) := fun hk hy => TL_ext h (by omega) ((hv.2 hk).2 _ (fnd_in hy))
      by_cases k3 : k = 3
      · rw [if_pos k3, if_pos k3]
        by_cases y : fnd f q (els f a) = 0
        · rw [if_pos y, if_pos y]
        · rw [if_neg y, if_neg y, e1 (Or.inl k3) y]
      · rw [if_neg k3, if_neg k3]
        by_cases k4 : k = 4
        · rw [if_pos k4, if_pos k4]
          have e2 : (if fnd f q (els f a) = 0 then 0 else TL f LF t (nS f q) (f (fnd f q (els f a))) (vo f (fnd f q (els f a)))) = (if fnd f q (els f a) = 0 then 0 else TL f LG t (nS f q) (f (fnd f q (els f a))) (vo f (fnd f q (els f a)))) := by
            by_cases y : fnd f q (els f a) = 0
            · rw [if_pos y, if_pos y]
            · rw [if_neg y, if_neg y, e1 (Or.inr k4) y]
          rw [e2]
          refine rowF_ext _ _ (fun x hx hx3 => ?_)
          have hq := (hv.2 (Or.inr k4)).2 x hx
          rw [hx3] at hq
          exact TL_ext h (by omega) hq
        · rw [if_neg k4, if_neg k4]
theorem any_cg {P Q : Nat → Bool} {L : List Nat} (h : ∀ x ∈ L, P x = Q x) : L.any P = L.any Q := by
  induction L with
  | nil => rfl
  | cons x L ih =>
    rw [List.any_cons, List.any_cons, h x List.mem_cons_self, ih (fun y hy => h y (List.mem_cons_of_mem _ hy))]
theorem all_cg {α : Type} {P Q : α → Bool} {L : List α} (h : ∀ x ∈ L, P x = Q x) : L.all P = L.all Q := by
  induction L with
  | nil => rfl
  | cons x L ih =>
    rw [List.all_cons, List.all_cons, h x List.mem_cons_self, ih (fun y hy => h y (List.mem_cons_of_mem _ hy))]
/-- class and reference say the same of conditions and filters without a fault -/
def alOK (f : Nat → Nat) (pc : eC) (al : eAL) (ac : cAL) : Prop := ∀ x q k a, pc (vo f x) → okV f 16 k a → ac (conds f x) q k a = al (vo f x) q k a
def fhOK (f : Nat → Nat) (pf : eC) (fh fc : eFH) : Prop := ∀ v a, pf v → okV f 16 3 a → fc v a = fh v a
theorem lfS_c {f : Nat → Nat} {pc pf : eC} {al : eAL} {ac : cAL} {fh fc : eFH} (h1 : alOK f pc al ac) (h2 : fhOK f pf fh fc) {c : Nat} (hc : okCo f pc pf c) (hc0 : 0 < c) (h12 : coN f c ≠ 12) (hv : okV f 16 (f c) (vo f c)) (hf : f c ≠ 0) {k a : Nat} (hka : okV f 16 k a) : lfS f ac fc (sgN f c) c k a = LFo f al fh c 0 k a := by
  obtain ⟨n0, hR, h3, h4⟩ := hc
  have hlt := coN_lt f c
  have hx : k = 4 → ∀ x ∈ els f a, f x ≠ 0 := fun q => hka.ne0 (Or.inr q)
  unfold LFo
  rw [if_pos hc0]
  unfold DO
  by_cases a1 : coN f c < 3
  · rw [if_pos a1, show sgN f c = 5 by unfold sgN; rw [if_pos a1]]
    exact pwI_eq (hv.kk hf) hx
  rw [if_neg a1]
  by_cases a2 : coN f c < 5
  · rw [if_pos a2, show sgN f c = 6 by unfold sgN; rw [if_neg a1, if_pos a2]]
    have k4 := isR_34 hR (by omega)
    show (if f c = 3 ∨ f c = 4 then els f (vo f c) else []).any _ = _
    rw [if_pos (Or.inr k4)]
    exact any_cg (fun i hi => pwI_eq (((hv.2 (Or.inr k4)).2 i hi).kk (hv.ne0 (Or.inr k4) i hi)) hx)
  rw [if_neg a2]
  by_cases a3 : coN f c < 9
  · rw [if_pos a3]
    have hor : coN f c = 5 ∨ coN f c = 6 ∨ coN f c = 7 ∨ coN f c = 8 := by omega
    rcases hor with e | e | e | e
    · rw [show sgN f c = 7 by unfold sgN; rw [e]; rfl, e]
      exact pwI_st (c := 5) (by omega) (by omega) (hv.kk hf) (fun _ => by omega)
    · have hs : sgN f c = (if f c = 10 then 5 else 8) := by unfold sgN; rw [e]; rfl
      rw [hs, e]
      by_cases y : f c = 10
      · rw [if_pos y, show isO f 16 6 k a (f c) (vo f c) = isE f 16 k a (f c) (vo f c) by rw [y]; exact isO_nothing (Or.inl rfl)]
        exact pwI_eq (hv.kk hf) hx
      · rw [if_neg y]
        exact pwI_st (c := 6) (by omega) (by omega) (hv.kk hf) (fun q => absurd q y)
    · rw [show sgN f c = 9 by unfold sgN; rw [e]; rfl, e]
      exact pwI_st (c := 7) (by omega) (by omega) (hv.kk hf) (fun _ => by omega)
    · have hs : sgN f c = (if f c = 10 then 5 else 10) := by unfold sgN; rw [e]; rfl
      rw [hs, e]
      by_cases y : f c = 10
      · rw [if_pos y, show isO f 16 8 k a (f c) (vo f c) = isE f 16 k a (f c) (vo f c) by rw [y]; exact isO_nothing (Or.inr rfl)]
        exact pwI_eq (hv.kk hf) hx
      · rw [if_neg y]
        exact pwI_st (c := 8) (by omega) (by omega) (hv.kk hf) (fun q => absurd q y)
  rw [if_neg a3]
  by_cases a4 : coN f c = 9
  · rw [if_pos a4, show sgN f c = 11 by unfold sgN; rw [a4]; rfl]; rfl
  rw [if_neg a4]
  by_cases a5 : coN f c = 10
  · rw [if_pos a5, show sgN f c = 12 by unfold sgN; rw [a5]; rfl]
    show (decide (k = 4) && decide (lN (els f a).length = numv f (f c) (vo f c))) = _
    have hn : numv f (f c) (vo f c) = nuM f (f c) (vo f c) := by
      unfold numv
      rw [if_pos]
      have := isR_10 hR a5
      omega
    rw [hn]
  rw [if_neg a5]
  have e11 : coN f c = 11 := by omega
  have hs : sgN f c = (if asC f (vo f c) = true then 13 else 14) := by unfold sgN; rw [e11]; rfl
  unfold HI
  by_cases y : asC f (vo f c) = true
  · rw [hs, if_pos y]
    show (decide (k = 4) && (els f a).any (fun i => ac (conds f c) 0 (f i) (vo f i))) = _
    by_cases k4 : k = 4
    · congr 1
      refine any_cg (fun i hi => ?_)
      rw [if_pos y]
      exact h1 c 0 _ _ ((h4 e11).1 y) (((hka.2 (Or.inr k4)).2 i hi).up)
    · rw [decide_eq_false k4, Bool.false_and, Bool.false_and]
  · rw [hs, if_neg y]
    show (decide (k = 4) && (els f a).any (fun i => decide (f i = 3) && fc (vo f c) (vo f i))) = _
    by_cases k4 : k = 4
    · congr 1
      refine any_cg (fun i hi => ?_)
      rw [if_neg y]
      by_cases i3 : f i = 3
      · have hi9 := ((hka.2 (Or.inr k4)).2 i hi).up
        rw [i3] at hi9
        rw [h2 (vo f c) (vo f i) ((h4 e11).2 y) hi9]
      · rw [decide_eq_false i3, Bool.false_and, Bool.false_and]
    · rw [decide_eq_false k4, Bool.false_and, Bool.false_and]
theorem anS_eq {f : Nat → Nat} {LF LG : Nat → Nat → Bool} (h : ∀ k a, okV f 16 k a → LF k a = LG k a) {q k a : Nat} (hv : okV f 16 k a) : anS f LF q k a = anS f LG q k a := by
  unfold anS
  rw [TL_ext h (Nat.le_refl _) hv, h _ _ (okV_0 f 16)]
theorem bne_dec (a b : Bool) : (a != b) = decide (a ≠ b) := by cases a <;> cases b <;> rfl
theorem sgN_15 {f : Nat → Nat} {c : Nat} (h : coN f c ≠ 12) (h0 : coN f c ≠ 0) : sgN f c ≠ 15 := by
  have := coN_lt f c
  unfold sgN
  (repeat' split) <;> omega
theorem cdS_c {f : Nat → Nat} {pc pf : eC} {al : eAL} {ac : cAL} {fh fc : eFH} (h1 : alOK f pc al ac) (h2 : fhOK f pf fh fc) {c : Nat} (hc : okCo f pc pf c) (hc0 : 0 < c) (hv : okV f 16 (f c) (vo f c)) (hw : okW f 16 (f c) (vo f c)) (hf : f c ≠ 0) {q k a : Nat} (hka : okV f 16 k a) : cdS f ac fc (cnd f c) q k a = HO f al fh c q k a := by
  unfold cdS HO cnd
  by_cases e : coN f c = 12
  · have s15 : sgN f c = 15 := by unfold sgN; rw [e]; rfl
    have n1 : ngN f c = true := decide_eq_true (Or.inr (Or.inr (Or.inl e)))
    rw [if_pos e]
    show ((if sgN f c = 15 then ac (conds f c) q k a else _) != ngN f c) = _
    rw [if_pos s15, n1, h1 c q k a (hc.2.2.1 e) hka]
    cases al (vo f c) q k a <;> rfl
  · rw [if_neg e]
    show ((if sgN f c = 15 then ac (conds f c) q k a else anS f (lfS f ac fc (sgN f c) c) q k a) != ngN f c) = _
    rw [if_neg (sgN_15 e hc.1), anS_eq (LG := LFo f al fh c 0) (fun k a hk => lfS_c h1 h2 hc hc0 e hv hf hk) hka]
    show (AN f al fh c 0 q k a != ngN f c) = _
    by_cases y : coN f c = 9
    · rw [if_pos y]
      have k8 := isR_9 hc.2.1 y
      have hle := hw.t k8
      by_cases z : f (vo f c) = 0
      · rw [show ngN f c = true from decide_eq_true (Or.inr (Or.inr (Or.inr ⟨y, z⟩))), decide_eq_false (by omega : ¬ f (vo f c) = 1)]
        cases AN f al fh c 0 q k a <;> rfl
      · rw [show ngN f c = false from decide_eq_false (by omega), decide_eq_true (by omega : f (vo f c) = 1)]
        cases AN f al fh c 0 q k a <;> rfl
    · rw [if_neg y, bne_dec, show ngN f c = decide (coN f c = 2 ∨ coN f c = 4) from by unfold ngN; congr 1; exact propext (by omega)]
theorem cdS_al {f : Nat → Nat} {al : eAL} {ac : cAL} {fh fc : eFH} {e : Nat} (hv : okV f 16 (f e) (vo f e)) (hf : f e ≠ 0) {q k a : Nat} (hka : okV f 16 k a) : cdS f ac fc (5, false, e) q k a = AN f al fh 0 e q k a := by
  unfold cdS AN
  show ((if (5 : Nat) = 15 then _ else anS f (lfS f ac fc 5 e) q k a) != false) = _
  rw [if_neg (by decide), anS_eq (LG := LFo f al fh 0 e) (fun k a hk => ?_) hka]
  · show (anS f _ q k a != false) = _
    unfold anS
    cases (if TL f (LFo f al fh 0 e) 16 q k a = 0 then LFo f al fh 0 e 0 0 else decide (TL f (LFo f al fh 0 e) 16 q k a = 2)) <;> rfl
  · exact pwI_eq (hv.kk hf) (fun q => hk.ne0 (Or.inr q))
theorem isA_1 {f : Nat → Nat} {e x y : Nat} {w : List Nat} (h : isA f e (x :: y :: w) = true) : f (e + 2) = y := by
  unfold isA isW isW at h
  exact of_decide_eq_true ((Bool.and_eq_true _ _).mp ((Bool.and_eq_true _ _).mp h).2).1
theorem isA_ne {f : Nat → Nat} {e x y x2 y2 : Nat} {w w2 : List Nat} (hn : y ≠ y2) (h : isA f e (x :: y :: w) = true) : isA f e (x2 :: y2 :: w2) = false := by
  apply Bool.eq_false_iff.mpr
  intro h2
  exact hn ((isA_1 h).symm.trans (isA_1 h2))
theorem any_eqb {P : Nat → Bool} {L : List Nat} {b : Bool} : L.any (fun i => P i == b) = L.any (fun i => decide (P i = b)) := any_cg (fun i _ => by cases P i <;> cases b <;> rfl)
theorem clS_c {f : Nat → Nat} {pc pf : eC} {al : eAL} {ac : cAL} {fh fc : eFH} (h1 : alOK f pc al ac) (h2 : fhOK f pf fh fc) {e : Nat} (hc : okEl f pc pf e) (hv : okV f 16 (f e) (vo f e)) (hf : f e ≠ 0) {a : Nat} (ha : okV f 16 3 a) : clS f ac fc e a = EH f al fh e a := by
  unfold clS EH
  by_cases j : f (e + 1) = 36
  · rw [if_pos j, if_pos j]
    obtain ⟨hJ, k4, hI⟩ := hc.1 j
    have hfi : ∀ b, (els f (vo f e)).any (fun i => fc (vo f i) a == b) = (els f (vo f e)).any (fun i => decide (fh (vo f i) a = b)) := by
      intro b
      rw [any_eqb (P := fun i => fc (vo f i) a)]
      exact any_cg (fun i hi => by rw [h2 (vo f i) a (hI i hi).2 ha])
    by_cases a1 : isA f e wAnd = true
    · rw [if_pos a1, hfi, a1, show isA f e wOr = false from isA_ne (by decide) a1]
      show (!(els f (vo f e)).any (fun i => decide (fh (vo f i) a = false))) = if (els f (vo f e)).any (fun i => decide (fh (vo f i) a = false)) = true then false else true
      cases (els f (vo f e)).any (fun i => decide (fh (vo f i) a = false)) <;> rfl
    · have a0 : isA f e wAnd = false := by
        cases h : isA f e wAnd with
        | false => rfl
        | true => exact absurd h a1
      rw [if_neg a1, hfi, a0]
      show ((els f (vo f e)).any (fun i => decide (fh (vo f i) a = true)) != isA f e wNor) = if (els f (vo f e)).any (fun i => decide (fh (vo f i) a = true)) = true then isA f e wOr else !isA f e wOr
      by_cases o1 : isA f e wOr = true
      · rw [o1, show isA f e wNor = false from isA_ne (by decide) o1]
        cases (els f (vo f e)).any (fun i => decide (fh (vo f i) a = true)) <;> rfl
      · have o0 : isA f e wOr = false := by
          cases h : isA f e wOr with
          | false => rfl
          | true => exact absurd h o1
        have n1 : isA f e wNor = true := by
          unfold isJ at hJ
          rw [a0, o0, Bool.false_or, Bool.false_or] at hJ
          exact hJ
        rw [o0, n1]
        cases (els f (vo f e)).any (fun i => decide (fh (vo f i) a = true)) <;> rfl
  · rw [if_neg j, if_neg j]
    by_cases y : isC f (f e) (vo f e) = true
    · rw [if_pos y, if_pos y]
      exact h1 e _ _ _ ((hc.2 j).2 y) ha
    · rw [if_neg y, if_neg y]
      exact cdS_al hv hf ha
/-- the box at v with all that lies in it -/
def bxW (f : Nat → Nat) (v : Nat) : Prop := ∃ n k, n ≤ 16 ∧ (k = 3 ∨ k = 4) ∧ okV f n k v ∧ okW f n k v
theorem bxW.el {f : Nat → Nat} {v : Nat} (h : bxW f v) : ∀ c ∈ els f v, okV f 16 (f c) (vo f c) ∧ okW f 16 (f c) (vo f c) ∧ f c ≠ 0 ∧ 0 < c ∧ (f c = 3 ∨ f c = 4 → bxW f (vo f c)) := by
  obtain ⟨n, k, hn, hk, hv, hw⟩ := h
  obtain ⟨n', rfl⟩ := hv.s hk
  intro c hc
  have hv' := (hv.2 hk).2 c hc
  have hw' := hw.2.2 hk c hc
  exact ⟨hv'.le (by omega), okW.to16 (n := 16 - n') hv' hw' (by omega), hv.ne0 hk c hc, (ch_ok (hv.2 hk).1.2 hc).2, fun q => ⟨n', f c, by omega, q, hv', hw'⟩⟩
theorem okCo.w {f : Nat → Nat} {pc pf : eC} {c : Nat} (h : okCo f pc pf c) (hb : f c = 3 ∨ f c = 4 → bxW f (vo f c)) : okCo f (fun v => pc v ∧ bxW f v) (fun v => pf v ∧ bxW f v) c :=
  ⟨h.1, h.2.1, fun q => ⟨h.2.2.1 q, hb (Or.inl (isC_3 (isR_12 h.2.1 q)))⟩, fun q => ⟨fun y => ⟨(h.2.2.2 q).1 y, hb (Or.inl (isR_11 h.2.1 q))⟩, fun y => ⟨(h.2.2.2 q).2 y, hb (Or.inl (isR_11 h.2.1 q))⟩⟩⟩
theorem okEl.w {f : Nat → Nat} {pc pf : eC} {e : Nat} (h : okEl f pc pf e) (hb : f e = 3 ∨ f e = 4 → bxW f (vo f e)) : okEl f (fun v => pc v ∧ bxW f v) (fun v => pf v ∧ bxW f v) e :=
  ⟨fun q => ⟨(h.1 q).1, (h.1 q).2.1, fun i hi => ⟨((h.1 q).2.2 i hi).1, ((h.1 q).2.2 i hi).2, ((hb (Or.inr (h.1 q).2.1)).el i hi).2.2.2.2 (Or.inl ((h.1 q).2.2 i hi).1)⟩⟩, fun q => ⟨(h.2 q).1, fun y => ⟨(h.2 q).2 y, hb (Or.inl (isC_3 y))⟩⟩⟩
theorem ec_ev {f : Nat → Nat} : ∀ d, alOK f (fun v => (okFl f d).1 v ∧ bxW f v) (evF f d).1 (ecF f d).1 ∧ fhOK f (fun v => (okFl f d).2 v ∧ bxW f v) (evF f d).2 (ecF f d).2
  | 0 => ⟨fun _ _ _ _ h => h.1.elim, fun _ _ h => h.1.elim⟩
  | d + 1 => by
    obtain ⟨h1, h2⟩ := ec_ev (f := f) d
    constructor
    · intro x q k a hp hka
      show (conds f x).all _ = (els f (vo f x)).all _
      unfold conds
      rw [List.all_map]
      refine all_cg (fun c hc => ?_)
      obtain ⟨e1, e2, e3, e4, e5⟩ := hp.2.el c hc
      exact cdS_c h1 h2 (okCo.w (hp.1.2 c hc).2 e5) e4 e1 e2 e3 hka
    · intro v a hp hka
      refine all_cg (fun e he => ?_)
      obtain ⟨e1, e2, e3, e4, e5⟩ := hp.2.el e he
      exact clS_c h1 h2 (okEl.w (hp.1.2 e he).2 e5) e1 e3 hka
/-! ===== rules in the heap ===== -/
def rlF (sg : Nat) (ng : Bool) (vl : Nat) (pa fs ls nx : Option Nat) : List Value := [.int (nI sg), .int (nI (nB ng)), .ref vl, va_rf pa, va_rf fs, va_rf ls, va_rf nx]
/-- the objects vs for xs one behind the other, each with its cells, in the cells from lo to hi -/
def kidR {α : Type} (Nd : Nat → Nat → Nat → α → Option Nat → Prop) : Nat → Nat → List Nat → List α → Prop
  | lo, hi, [], [] => lo ≤ hi
  | lo, hi, v :: vs, x :: xs => ∃ mid, mid ≤ hi ∧ Nd lo v mid x vs.head? ∧ kidR Nd mid hi vs xs
  | _, _, _, _ => False
theorem kidR_nil {α : Type} {Nd : Nat → Nat → Nat → α → Option Nat → Prop} {lo hi : Nat} {xs : List α} (h : kidR Nd lo hi [] xs) : xs = [] := by
  cases xs with
  | nil => rfl
  | cons x xs => exact h.elim
theorem kidR_cons {α : Type} {Nd : Nat → Nat → Nat → α → Option Nat → Prop} {lo hi v : Nat} {vs : List Nat} {xs : List α} (h : kidR Nd lo hi (v :: vs) xs) : ∃ x xs1, xs = x :: xs1 ∧ ∃ mid, mid ≤ hi ∧ Nd lo v mid x vs.head? ∧ kidR Nd mid hi vs xs1 := by
  cases xs with
  | nil => exact h.elim
  | cons x xs => exact ⟨x, xs, rfl, h⟩
/-- the steps of the path from q on: objects in the cells that Z says -/
def Spt (G : zG) (H : Heap) (Z : Nat → Prop) (f : Nat → Nat) : Nat → Option Nat → Nat → Prop
  | _, none, q => q = 0
  | 0, some _, _ => False
  | n + 1, some sa, q => q ≠ 0 ∧ ∃ nm nx cn, zO G H sa 6 [.ref nm, va_rf nx, .int (nI cn)] ∧ Z sa ∧ StrZ G H Z nm (sL f q) ∧ Spt G H Z f n nx (nS f q)
theorem Spt.n {G : zG} {H : Heap} {Z : Nat → Prop} {f : Nat → Nat} {n q : Nat} (h : Spt G H Z f n none q) : q = 0 := by
  cases n <;> exact h
theorem Spt.s {G : zG} {H : Heap} {Z : Nat → Prop} {f : Nat → Nat} {n sa q : Nat} (h : Spt G H Z f n (some sa) q) : ∃ n1, n = n1 + 1 ∧ q ≠ 0 ∧ ∃ nm nx cn, zO G H sa 6 [.ref nm, va_rf nx, .int (nI cn)] ∧ Z sa ∧ StrZ G H Z nm (sL f q) ∧ Spt G H Z f n1 nx (nS f q) := by
  cases n with
  | zero => exact h.elim
  | succ n => exact ⟨n, rfl, h⟩
/-- the value of the element x -/
def VN (G : zG) (H : Heap) (f : Nat → Nat) (pf : Nat → Int32) (Z : Nat → Prop) (vl x : Nat) : Prop := ∃ hv pl nx, Nod G H f pf 16 vl hv (f x) (vo f x) (nL f x) pl nx ∧ (∀ q, vl ≤ q → q < hv → Z q) ∧ okV f 16 (f x) (vo f x) ∧ okW f 16 (f x) (vo f x)
abbrev rLc : Type := Nat → Nat → List Nat → List cT → Prop
abbrev rLf : Type := Nat → Nat → List Nat → List Nat → Prop
def RCn (G : zG) (H : Heap) (f : Nat → Nat) (pf : Nat → Int32) (Z : Nat → Prop) (PC : rLc) (PF : rLf) (lo r hi : Nat) (t : cT) (nx : Option Nat) : Prop := ∃ vl rs, zO G H r 5 (rlF t.1 t.2.1 vl none rs.head? rs.getLast? nx) ∧ lo ≤ r ∧ r < hi ∧ VN G H f pf Z vl t.2.2 ∧ t.1 < 16 ∧ (t.1 = 15 ∨ t.1 = 13 → PC (r + 1) hi rs (conds f t.2.2)) ∧ (t.1 = 14 → PF (r + 1) hi rs (els f (vo f t.2.2)))
def RPn (G : zG) (H : Heap) (f : Nat → Nat) (pf : Nat → Int32) (Z : Nat → Prop) (PF : rLf) (lo r hi i : Nat) (nx : Option Nat) : Prop := ∃ vl rs, zO G H r 5 (rlF 1 false vl none rs.head? rs.getLast? nx) ∧ lo ≤ r ∧ r < hi ∧ VN G H f pf Z vl i ∧ PF (r + 1) hi rs (els f (vo f i))
def RJn (G : zG) (H : Heap) (f : Nat → Nat) (pf : Nat → Int32) (Z : Nat → Prop) (PF : rLf) (lo r hi e : Nat) (nx : Option Nat) : Prop := ∃ vl rs, zO G H r 5 (rlF (if isA f e wAnd = true then 2 else 3) (isA f e wNor) vl none rs.head? rs.getLast? nx) ∧ lo ≤ r ∧ r < hi ∧ VN G H f pf Z vl e ∧ kidR (RPn G H f pf Z PF) (r + 1) hi rs (els f (vo f e))
def RWn (G : zG) (H : Heap) (f : Nat → Nat) (pf : Nat → Int32) (Z : Nat → Prop) (PC PA : rLc) (lo r hi e : Nat) (nx : Option Nat) : Prop := ∃ vl rs sa, zO G H r 5 (rlF 4 false vl (some sa) rs.head? rs.getLast? nx) ∧ lo ≤ r ∧ r < hi ∧ VN G H f pf Z vl e ∧ Spt G H (fun q => Z q ∨ (lo ≤ q ∧ q < r) ∨ q < cB G) f 9 (some sa) (e + 1) ∧ (isC f (f e) (vo f e) = true → PC (r + 1) hi rs (conds f e)) ∧ (isC f (f e) (vo f e) = false → PA (r + 1) hi rs [(5, false, e)])
/-- the rules of conditions, and those of filters, at most d deep -/
def RuL (G : zG) (H : Heap) (f : Nat → Nat) (pf : Nat → Int32) (Z : Nat → Prop) : Nat → rLc × rLf
  | 0 => (fun _ _ _ _ => False, fun _ _ _ _ => False)
  | d + 1 => (kidR (RCn G H f pf Z (RuL G H f pf Z d).1 (RuL G H f pf Z d).2), kidR (fun lo r hi e nx => if f (e + 1) = 36 then RJn G H f pf Z (RuL G H f pf Z d).2 lo r hi e nx else RWn G H f pf Z (RuL G H f pf Z d).1 (kidR (RCn G H f pf Z (RuL G H f pf Z d).1 (RuL G H f pf Z d).2)) lo r hi e nx))
/-- the matcher, and the value that stands for none -/
def MA (G : zG) (H : Heap) (f : Nat → Nat) (pf : Nat → Int32) (mt ms hm : Nat) : Prop := zO G H mt 4 [.ref ms] ∧ Nod G H f pf 0 ms hm 0 0 [] (-1) none ∧ CH G H
abbrev rmK (F L d : Nat) : Room := { frames := 50 * d + F, cells := 0, slots := 0, locals := 1250 * d + L }
def C_cH (l : Launch) (G : zG) (f : Nat → Nat) (pf pf2 : Nat → Int32) (Z : Nat → Prop) (mt ms hm : Nat) (d : Nat) : Prop := ∀ (Zs : Nat → Prop) (h sg : Nat) (ng : Bool) (vl : Nat) (pa lst nx : Option Nat) (lo hi : Nat) (rs : List Nat) (ts : List cT) (n : Nat) (st : Option Nat) (q t v hv k a : Nat) (w : List Nat) (pl : Int32) (nxt : Option Nat) (lev : Nat), lev + d + t ≤ 40 → t ≤ 16 → okV f t k a → okW f t k a →
  Met l yX4_conditionsHold wsX4_conditionsHold (rmK 60 1700 d) (zP G [.ref (mt), .ref (h), va_rf (st), .ref (v), .int (nI (lev))] (fun H => MA G H f pf mt ms hm ∧ zO G H h 5 (rlF sg ng vl pa rs.head? lst nx) ∧ (RuL G H f pf2 Z d).1 lo hi rs ts ∧ Spt G H Zs f n st q ∧ Nod G H f pf t v hv k a w pl nxt)) (zR (.int (nI (nB ((ecF f d).1 ts q k a))))) 0 0 (fun _ => False)
def C_fF (l : Launch) (G : zG) (f : Nat → Nat) (pf pf2 : Nat → Int32) (Z : Nat → Prop) (mt ms hm : Nat) (d : Nat) : Prop := ∀ (h sg : Nat) (ng : Bool) (vl : Nat) (pa lst nx : Option Nat) (lo hi : Nat) (rs : List Nat) (x : Nat) (t v hv a : Nat) (w : List Nat) (pl : Int32) (nxt : Option Nat) (lev : Nat), lev + d + t ≤ 40 → t ≤ 16 → okV f t 3 a → okW f t 3 a →
  Met l yX4_firstFailing wsX4_firstFailing (rmK 63 1760 d) (zP G [.ref (mt), .ref (h), .ref (v), .int (nI (lev))] (fun H => MA G H f pf mt ms hm ∧ zO G H h 5 (rlF sg ng vl pa rs.head? lst nx) ∧ (RuL G H f pf2 Z d).2 lo hi rs (els f x) ∧ Nod G H f pf t v hv 3 a w pl nxt)) (zR (.int (fI (fun e => clS f (ecF f (d - 1)).1 (ecF f (d - 1)).2 e a) (els f x) 0))) 0 0 (fun _ => False)
theorem fI_lt {P : Nat → Bool} : ∀ {X : List Nat} {k : Nat}, X.length + k < 2 ^ 31 → (fI P X k < 0 ↔ X.all P = true)
  | [], k, _ => by
    show ((-1 : Int32) < 0 ↔ true = true)
    exact ⟨fun _ => rfl, fun _ => by decide⟩
  | x :: X, k, h => by
    rw [List.length_cons] at h
    by_cases z : P x = true
    · rw [fI_t z, fI_lt (by omega), all_t z]
    · have z0 : P x = false := by
        cases e : P x with
        | false => rfl
        | true => exact absurd e z
      rw [fI_f z0, all_f z0]
      exact ⟨fun q => absurd q (nI_pos (by omega)), fun q => by cases q⟩
theorem fnV_none {f : Nat → Nat} {q : Nat} {Nd : Nat → Nat → Nat → Option Nat → Prop} : ∀ {vs xs : List Nat} {lo hi : Nat}, kidL Nd lo hi vs xs → fnV f (sL f q) vs xs = none → fnd f q xs = 0
  | [], xs, lo, hi, h, _ => by rw [kidL_nil h]; rfl
  | v :: vs, xs, lo, hi, h, e => by
    obtain ⟨x, xs1, rfl, -, mid, -, -, h1⟩ := kidL_cons h
    rw [fnV] at e
    by_cases z : nL f x = sL f q
    · rw [if_pos z] at e; cases e
    · rw [if_neg z] at e
      rw [fnd_n z]
      exact fnV_none h1 e
theorem fnV_some {f : Nat → Nat} {q : Nat} {Nd : Nat → Nat → Nat → Option Nat → Prop} : ∀ {vs xs : List Nat} {lo hi v1 : Nat}, kidL Nd lo hi vs xs → fnV f (sL f q) vs xs = some v1 → ∃ x mid n1, x ∈ xs ∧ fnd f q xs = x ∧ Nd v1 mid x n1
  | [], xs, lo, hi, v1, h, e => by
    rw [kidL_nil h] at e
    cases e
  | v :: vs, xs, lo, hi, v1, h, e => by
    obtain ⟨x, xs1, rfl, -, mid, -, h2, h1⟩ := kidL_cons h
    rw [fnV] at e
    by_cases z : nL f x = sL f q
    · rw [if_pos z] at e
      cases e
      exact ⟨x, mid, _, List.mem_cons_self, fnd_y z, h2⟩
    · rw [if_neg z] at e
      obtain ⟨x2, mid2, n2, g1, g2, g3⟩ := fnV_some h1 e
      exact ⟨x2, mid2, n2, List.mem_cons_of_mem _ g1, (fnd_n z).trans g2, g3⟩
theorem RC_15 {G : zG} {H : Heap} {f : Nat → Nat} {pf : Nat → Int32} {Z : Nat → Prop} {PC : rLc} {PF : rLf} {lo r hi : Nat} {t : cT} {nx : Option Nat} (h : RCn G H f pf Z PC PF lo r hi t nx) : t.1 < 16 := by
  obtain ⟨vl, rs, -, -, -, -, h1, -⟩ := h
  exact h1
theorem els_len (f : Nat → Nat) (v : Nat) : (els f v).length ≤ 18000 := by
  unfold els
  split
  · rename_i h _
    exact (Classical.choose_spec h).len' (by decide)
  · exact Nat.zero_le _
theorem fh_ge {f : Nat → Nat} {d v a : Nat} (hd : d ≠ 0) (h : 0 ≤ fI (fun e => clS f (ecF f (d - 1)).1 (ecF f (d - 1)).2 e a) (els f v) 0) : (ecF f d).2 v a = false := by
  cases d with
  | zero => exact absurd rfl hd
  | succ d =>
    have h2 := fI_lt (P := fun e => clS f (ecF f d).1 (ecF f d).2 e a) (X := els f v) (k := 0) (by have := els_len f v; omega)
    apply Bool.eq_false_iff.mpr
    intro z
    exact absurd (h2.mpr z) (Int32.not_lt.mpr h)
theorem fh_lt {f : Nat → Nat} {d v a : Nat} (hd : d ≠ 0) (h : ¬ 0 ≤ fI (fun e => clS f (ecF f (d - 1)).1 (ecF f (d - 1)).2 e a) (els f v) 0) : (ecF f d).2 v a = true := by
  cases d with
  | zero => exact absurd rfl hd
  | succ d => exact (fI_lt (by have := els_len f v; omega)).mp (Int32.not_le.mp h)
theorem RuF_d {G : zG} {H : Heap} {f : Nat → Nat} {pf : Nat → Int32} {Z : Nat → Prop} {d lo hi : Nat} {rs xs : List Nat} (h : (RuL G H f pf Z d).2 lo hi rs xs) : d ≠ 0 := by
  intro z
  subst z
  exact h
theorem kidsVW {f : Nat → Nat} {d k a : Nat} (hv : okV f (d + 1) k a) (hw : okW f (d + 1) k a) : ∀ z ∈ (if k = 3 ∨ k = 4 then els f a else []), okV f (d + 1) (f z) (vo f z) ∧ okW f (d + 1) (f z) (vo f z) := by
  intro z hz
  by_cases hk : k = 3 ∨ k = 4
  · rw [if_pos hk] at hz
    have h1 := (hv.2 hk).2 z hz
    exact ⟨h1.up, okW.up h1 (hw.2.2 hk z hz)⟩
  · rw [if_neg hk] at hz
    cases hz
theorem Nod.kx {G : zG} {H : Heap} {f : Nat → Nat} {pf : Nat → Int32} {t v hv k a : Nat} {w : List Nat} {pl : Int32} {nxt : Option Nat} (h : Nod G H f pf t v hv k a w pl nxt) : ∃ nm tx vs t1, NodX G H f pf t1 v hv k a w pl nxt nm tx vs ∧ (t = t1 + 1 ∨ ¬ (k = 3 ∨ k = 4)) := by
  cases t with
  | zero =>
    have h1 := h
    obtain ⟨_, _, -, -, -, -, h2, h3⟩ := h1
    obtain ⟨nm, tx, vs, h4⟩ := h.up.x
    exact ⟨nm, tx, vs, 0, h4, Or.inr (by omega)⟩
  | succ t =>
    obtain ⟨nm, tx, vs, h4⟩ := h.x
    exact ⟨nm, tx, vs, t, h4, Or.inl rfl⟩
theorem bneB_t {a b : Bool} (h : nB a ≠ nB b) : (a != b) = true := by
  cases a <;> cases b <;> first | rfl | exact absurd rfl h
theorem bneB_f {a b : Bool} (h : nB a = nB b) : (a != b) = false := by
  cases a <;> cases b <;> first | rfl | exact absurd h (by decide)
theorem cdS_n {f : Nat → Nat} {al : cAL} {fh : eFH} {S x q k a : Nat} {ng : Bool} (h : S ≠ 15) : cdS f al fh (S, ng, x) q k a = (anS f (lfS f al fh S x) q k a != ng) := by
  unfold cdS
  rw [if_neg h]
theorem cdS_y {f : Nat → Nat} {al : cAL} {fh : eFH} {S x q k a : Nat} {ng : Bool} (h : S = 15) : cdS f al fh (S, ng, x) q k a = (al (conds f x) q k a != ng) := by
  unfold cdS
  rw [if_pos h]
theorem anS_0 {f : Nat → Nat} {LF : Nat → Nat → Bool} {q k a : Nat} (h : TL f LF 16 q k a = 0) : anS f LF q k a = LF 0 0 := by
  unfold anS
  rw [if_pos h]
theorem anS_n {f : Nat → Nat} {LF : Nat → Nat → Bool} {q k a : Nat} (h : TL f LF 16 q k a ≠ 0) : anS f LF q k a = decide (TL f LF 16 q k a = 2) := by
  unfold anS
  rw [if_neg h]
noncomputable def hiS (f : Nat → Nat) (al : cAL) (fh : eFH) (S x a : Nat) : Bool := (els f a).any (fun i => if S = 13 then al (conds f x) 0 (f i) (vo f i) else decide (f i = 3) && fh (vo f x) (vo f i))
abbrev rTl (d t : Nat) : Room := { frames := 50 * d + 67 + 2 * t, cells := 0, slots := 0, locals := 1250 * d + 1880 + 60 * t }
abbrev rTr (d t : Nat) : Room := { frames := 50 * d + 68 + 2 * t, cells := 0, slots := 0, locals := 1250 * d + 1910 + 60 * t }
def C_tl (l : Launch) (G : zG) (f : Nat → Nat) (pf pf2 : Nat → Int32) (Z Zs : Nat → Prop) (mt ms hm d lo r hi S : Nat) (ng : Bool) (x : Nat) (nx : Option Nat) (t : Nat) : Prop := ∀ (n : Nat) (st : Option Nat) (q v hv k a : Nat) (w : List Nat) (pl : Int32) (nxt : Option Nat) (lev : Nat), lev + d + t ≤ 40 → t ≤ 16 → okV f t k a → okW f t k a →
  Met l yX4_tryLeaves wsX4_tryLeaves (rTl d t) (zP G [.ref (mt), .ref (r), va_rf (st), .ref (v), .int (nI (lev))] (fun H => MA G H f pf mt ms hm ∧ RCn G H f pf2 Z (RuL G H f pf2 Z d).1 (RuL G H f pf2 Z d).2 lo r hi (S, ng, x) nx ∧ Spt G H Zs f n st q ∧ Nod G H f pf t v hv k a w pl nxt)) (zR (.int (nI (TL f (lfS f (ecF f d).1 (ecF f d).2 S x) t q k a)))) 0 0 (fun _ => False)
def C_tr (l : Launch) (G : zG) (f : Nat → Nat) (pf pf2 : Nat → Int32) (Z Zs : Nat → Prop) (mt ms hm d lo r hi S : Nat) (ng : Bool) (x : Nat) (nx : Option Nat) (t : Nat) : Prop := ∀ (n : Nat) (sa q v hv a : Nat) (w : List Nat) (pl : Int32) (nxt : Option Nat) (lev : Nat), lev + d + (t + 1) ≤ 40 → t + 1 ≤ 16 → okV f (t + 1) 4 a → okW f (t + 1) 4 a →
  Met l yX4_tryLeavesOfRow wsX4_tryLeavesOfRow (rTr d t) (zP G [.ref (mt), .ref (r), .ref (sa), .ref (v), .int (nI (lev))] (fun H => MA G H f pf mt ms hm ∧ RCn G H f pf2 Z (RuL G H f pf2 Z d).1 (RuL G H f pf2 Z d).2 lo r hi (S, ng, x) nx ∧ Spt G H Zs f n (some sa) q ∧ Nod G H f pf (t + 1) v hv 4 a w pl nxt)) (zR (.int (nI (TL f (lfS f (ecF f d).1 (ecF f d).2 S x) (t + 1) q 4 a)))) 0 0 (fun _ => False)
def C_cd (l : Launch) (G : zG) (f : Nat → Nat) (pf pf2 : Nat → Int32) (Z : Nat → Prop) (mt ms hm d : Nat) : Prop := ∀ (Zs : Nat → Prop) (lo r hi S : Nat) (ng : Bool) (x : Nat) (nx : Option Nat) (n : Nat) (st : Option Nat) (q t v hv k a : Nat) (w : List Nat) (pl : Int32) (nxt : Option Nat) (lev : Nat), lev + (d + 1) + t ≤ 40 → t ≤ 16 → okV f t k a → okW f t k a →
  Met l yX4_conditionHolds wsX4_conditionHolds (rmK 100 2870 d) (zP G [.ref (mt), .ref (r), va_rf (st), .ref (v), .int (nI (lev))] (fun H => MA G H f pf mt ms hm ∧ RCn G H f pf2 Z (RuL G H f pf2 Z d).1 (RuL G H f pf2 Z d).2 lo r hi (S, ng, x) nx ∧ Spt G H Zs f n st q ∧ Nod G H f pf t v hv k a w pl nxt)) (zR (.int (nI (nB (cdS f (ecF f d).1 (ecF f d).2 (S, ng, x) q k a))))) 0 0 (fun _ => False)
def RFn (G : zG) (H : Heap) (f : Nat → Nat) (pf : Nat → Int32) (Z : Nat → Prop) (d lo r hi e : Nat) (nx : Option Nat) : Prop := if f (e + 1) = 36 then RJn G H f pf Z (RuL G H f pf Z d).2 lo r hi e nx else RWn G H f pf Z (RuL G H f pf Z d).1 (kidR (RCn G H f pf Z (RuL G H f pf Z d).1 (RuL G H f pf Z d).2)) lo r hi e nx
def C_cl (l : Launch) (G : zG) (f : Nat → Nat) (pf pf2 : Nat → Int32) (Z : Nat → Prop) (mt ms hm d : Nat) : Prop := ∀ (lo r hi e : Nat) (nx : Option Nat) (t v hv a : Nat) (w : List Nat) (pl : Int32) (nxt : Option Nat) (lev : Nat), lev + (d + 1) + t ≤ 40 → t ≤ 16 → okV f t 3 a → okW f t 3 a →
  Met l yX4_clauseHolds wsX4_clauseHolds (rmK 112 2980 d) (zP G [.ref (mt), .ref (r), .ref (v), .int (nI (lev))] (fun H => MA G H f pf mt ms hm ∧ RFn G H f pf2 Z d lo r hi e nx ∧ Nod G H f pf t v hv 3 a w pl nxt)) (zR (.int (nI (nB (clS f (ecF f d).1 (ecF f d).2 e a))))) 0 0 (fun _ => False)
theorem RuL_f {G : zG} {H : Heap} {f : Nat → Nat} {pf : Nat → Int32} {Z : Nat → Prop} {d : Nat} : (RuL G H f pf Z (d + 1)).2 = kidR (RFn G H f pf Z d) := rfl
theorem lfS_h {f : Nat → Nat} {al : cAL} {fh : eFH} {S x k a : Nat} (h : S = 13 ∨ S = 14) : lfS f al fh S x k a = (decide (k = 4) && hiS f al fh S x a) := by
  rcases h with h | h <;> subst h <;> rfl
theorem TL_no {f : Nat → Nat} {LF : Nat → Nat → Bool} {t t1 q k a : Nat} (hq : q ≠ 0) (h4 : k ≠ 4) (ht : t = t1 + 1 ∨ ¬ (k = 3 ∨ k = 4)) (hf : fnd f q (if k = 3 ∨ k = 4 then els f a else []) = 0) : 1 + nB (LF 0 0) = TL f LF t q k a := by
  by_cases k3 : k = 3
  · rcases ht with ht | ht
    · subst ht; subst k3
      rw [if_pos (Or.inl rfl)] at hf
      rw [TL_3n hq hf]
    · exact absurd (Or.inl k3) ht
  · rw [TL_o hq k3 h4]
