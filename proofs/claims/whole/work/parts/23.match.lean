/-! ===== SPECS 6: what a filter says of a document ===== -/
/-- the leaves of a path, tried one by one: 0: no leaf, 1: none passes, 2: some passes -/
def rowF (g : Nat → Nat) (f : Nat → Nat) : List Nat → Nat → Nat
  | [], r => r
  | x :: xs, r => if r = 2 then 2 else rowF g f xs (if f x = 3 then max r (g x) else r)
def fnd (f : Nat → Nat) (q : Nat) : List Nat → Nat
  | [] => 0
  | x :: xs => if nL f x = sL f q then x else fnd f q xs
noncomputable def TL (f : Nat → Nat) (LF : Nat → Nat → Bool) : Nat → Nat → Nat → Nat → Nat
  | 0, q, k, a => if q = 0 then 1 + nB (LF k a) else 1 + nB (LF 0 0)
  | d + 1, q, k, a => if q = 0 then 1 + nB (LF k a) else if k = 3 then (if fnd f q (els f a) = 0 then 1 + nB (LF 0 0) else TL f LF d (nS f q) (f (fnd f q (els f a))) (vo f (fnd f q (els f a)))) else if k = 4 then rowF (fun x => TL f LF d q 3 (vo f x)) f (els f a) (if fnd f q (els f a) = 0 then 0 else TL f LF d (nS f q) (f (fnd f q (els f a))) (vo f (fnd f q (els f a)))) else 1 + nB (LF 0 0)
abbrev eAL : Type := Nat → Nat → Nat → Nat → Bool
abbrev eFH : Type := Nat → Nat → Bool
noncomputable def HI (f : Nat → Nat) (al : eAL) (fh : eFH) (a v : Nat) : Bool := (els f a).any (fun i => if asC f v = true then al v 0 (f i) (vo f i) else decide (f i = 3) && fh v (vo f i))
noncomputable def DO (f : Nat → Nat) (al : eAL) (fh : eFH) (c k a : Nat) : Bool :=
  if coN f c < 3 then isE f 16 k a (f c) (vo f c) else if coN f c < 5 then (els f (vo f c)).any (fun i => isE f 16 k a (f i) (vo f i)) else if coN f c < 9 then isO f 16 (coN f c) k a (f c) (vo f c) else if coN f c = 9 then decide (k ≠ 0) else decide (k = 4) && (if coN f c = 10 then decide (lN (els f a).length = nuM f (f c) (vo f c)) else HI f al fh a (vo f c))
noncomputable def LFo (f : Nat → Nat) (al : eAL) (fh : eFH) (c e k a : Nat) : Bool := if 0 < c then DO f al fh c k a else isE f 16 k a (f e) (vo f e)
noncomputable def AN (f : Nat → Nat) (al : eAL) (fh : eFH) (c e q k a : Nat) : Bool := if TL f (LFo f al fh c e) 16 q k a = 0 then LFo f al fh c e 0 0 else decide (TL f (LFo f al fh c e) 16 q k a = 2)
noncomputable def HO (f : Nat → Nat) (al : eAL) (fh : eFH) (c q k a : Nat) : Bool := if coN f c = 12 then !al (vo f c) q k a else if coN f c = 9 then decide (AN f al fh c 0 q k a = decide (f (vo f c) = 1)) else decide (AN f al fh c 0 q k a ≠ decide (coN f c = 2 ∨ coN f c = 4))
noncomputable def EH (f : Nat → Nat) (al : eAL) (fh : eFH) (e a : Nat) : Bool :=
  if f (e + 1) = 36 then (if (els f (vo f e)).any (fun i => decide (fh (vo f i) a = !isA f e wAnd)) = true then isA f e wOr else !isA f e wOr) else if isC f (f e) (vo f e) = true then al (vo f e) (e + 1) 3 a else AN f al fh 0 e (e + 1) 3 a
noncomputable def evF (f : Nat → Nat) : Nat → eAL × eFH
  | 0 => (fun _ _ _ _ => true, fun _ _ => true)
  | d + 1 => (fun v q k a => (els f v).all (fun c => HO f (evF f d).1 (evF f d).2 c q k a), fun v a => (els f v).all (fun e => EH f (evF f d).1 (evF f d).2 e a))
/-- a path's steps from q on lie in the store -/
def okP (f : Nat → Nat) : Nat → Nat → Prop
  | 0, q => q = 0
  | n + 1, q => q = 0 ∨ (okS 18000 f q ∧ okP f n (nS f q))
/-- conditions and filters without a fault, at most d deep -/
abbrev eC : Type := Nat → Prop
def okCo (f : Nat → Nat) (pc pf : eC) (c : Nat) : Prop := coN f c ≠ 0 ∧ isR f (coN f c) (f c) (vo f c) = true ∧ (coN f c = 12 → pc (vo f c)) ∧ (coN f c = 11 → (asC f (vo f c) = true → pc (vo f c)) ∧ (¬ asC f (vo f c) = true → pf (vo f c)))
def okEl (f : Nat → Nat) (pc pf : eC) (e : Nat) : Prop := (f (e + 1) = 36 → isJ f e = true ∧ f e = 4 ∧ ∀ i ∈ els f (vo f e), f i = 3 ∧ pf (vo f i)) ∧ (f (e + 1) ≠ 36 → okP f 9 (e + 1) ∧ (isC f (f e) (vo f e) = true → pc (vo f e)))
def okFl (f : Nat → Nat) : Nat → eC × eC
  | 0 => (fun _ => False, fun _ => False)
  | d + 1 => (fun v => Bx 18000 f v (els f v) ∧ ∀ c ∈ els f v, okV f 16 (f c) (vo f c) ∧ okCo f (okFl f d).1 (okFl f d).2 c, fun v => Bx 18000 f v (els f v) ∧ ∀ e ∈ els f v, okV f 16 (f e) (vo f e) ∧ okEl f (okFl f d).1 (okFl f d).2 e)
