/-! ===== SPECS 7: the faults of a filter, and what is counted of it ===== -/
/-- the state of a check: wrong, wrongAt, nowCounted, nowPaths, nowSteps -/
abbrev cS : Type := Nat × Nat × Nat × Nat × Nat
def sSay (S : cS) (why e : Nat) : cS := if S.1 ≠ 0 then S else (why, e, S.2.2)
def sCnt (S : cS) (more e : Nat) : cS := if S.2.2.1 + more ≤ 100 then (S.1, S.2.1, S.2.2.1 + more, S.2.2.2) else sSay (S.1, S.2.1, S.2.2.1 + more, S.2.2.2) 5 e
def sInv (S : cS) : Prop := S.1 < 6 ∧ S.2.2.1 ≤ 102 ∧ (S.1 = 0 → S.2.2.1 ≤ 100)
theorem sInv.say {S : cS} (h : sInv S) {why : Nat} (hw : 0 < why ∧ why < 6) (e : Nat) : sInv (sSay S why e) := by
  unfold sSay
  split
  · exact h
  · exact ⟨hw.2, h.2.1, fun q => absurd q (by show why ≠ 0; omega)⟩
theorem sInv.cnt {S : cS} (h : sInv S) (hn : S.2.2.1 ≤ 100) {more : Nat} (hm : more ≤ 2) (e : Nat) : sInv (sCnt S more e) := by
  unfold sCnt
  split
  · rename_i q
    exact ⟨h.1, by show S.2.2.1 + more ≤ 102; omega, fun _ => q⟩
  · rename_i q
    unfold sSay
    split
    · rename_i z
      exact ⟨h.1, by show S.2.2.1 + more ≤ 102; omega, fun y => absurd y z⟩
    · exact ⟨by show 5 < 6; decide, by show S.2.2.1 + more ≤ 102; omega, fun y => absurd y (by show (5 : Nat) ≠ 0; decide)⟩
theorem sSay_nc (S : cS) (why e : Nat) : (sSay S why e).2.2 = S.2.2 := by
  unfold sSay
  split <;> rfl
/-- a path: how many steps, 0 when it is none -/
def gdP : Bool → List Nat → Bool
  | b, [] => !b
  | b, x :: w => (!b || (decide (x ≠ 46) && decide (x ≠ 36))) && gdP (decide (x = 46)) w
def cnP : List Nat → Nat
  | [] => 0
  | x :: w => (if x = 46 then 1 else 0) + cnP w
def stN (f : Nat → Nat) (e : Nat) : Nat := if gdP true (nL f e) = true ∧ cnP (nL f e) + 1 < 9 then cnP (nL f e) + 1 else 0
abbrev eS : Type := Nat → cS → cS
def foldS (g : eS) : List Nat → cS → cS
  | [], S => S
  | x :: X, S => if S.1 ≠ 0 then S else foldS g X (g x S)
noncomputable def kJoin (f : Nat → Nat) (kf : eS) (e : Nat) (S : cS) : cS :=
  if isJ f e = true then (if (sCnt (if f e = 4 ∧ 0 < fi f (vo f e) then S else sSay S 2 e) 1 e).1 ≠ 0 then sCnt (if f e = 4 ∧ 0 < fi f (vo f e) then S else sSay S 2 e) 1 e else foldS (fun i T => if f i = 3 then kf (vo f i) T else sSay T 2 i) (els f (vo f e)) (sCnt (if f e = 4 ∧ 0 < fi f (vo f e) then S else sSay S 2 e) 1 e)) else sSay S 1 e
def pPath (f : Nat → Nat) (e : Nat) (S : cS) : cS := ((if stN f e = 0 then sSay S 3 e else S).1, (if stN f e = 0 then sSay S 3 e else S).2.1, S.2.2.1, S.2.2.2.1 + 1, S.2.2.2.2 + stN f e)
def kPath (f : Nat → Nat) (kc : eS) (e : Nat) (S : cS) : cS :=
  if isC f (f e) (vo f e) = true then (if (sCnt (pPath f e S) 1 e).1 = 0 then kc (vo f e) (sCnt (pPath f e S) 1 e) else sCnt (pPath f e S) 1 e) else sCnt (pPath f e S) 2 e
def kElem (f : Nat → Nat) (kc kf : eS) (e : Nat) (S : cS) : cS := if asC f (vo f e) = true then kc (vo f e) S else kf (vo f e) S
def qCond (f : Nat → Nat) (c : Nat) (S : cS) : cS := sCnt (if coN f c = 0 then sSay S 1 c else if isR f (coN f c) (f c) (vo f c) = true then S else sSay S 4 c) 1 c
def kCond (f : Nat → Nat) (kc kf : eS) (c : Nat) (S : cS) : cS := if (qCond f c S).1 ≠ 0 then qCond f c S else if coN f c = 12 then kc (vo f c) (qCond f c S) else if coN f c = 11 then kElem f kc kf c (qCond f c S) else qCond f c S
noncomputable def kEl (f : Nat → Nat) (kc kf : eS) (e : Nat) (S : cS) : cS := if f (e + 1) = 36 then kJoin f kf e S else kPath f kc e S
noncomputable def ckF (f : Nat → Nat) : Nat → eS × eS
  | 0 => (fun _ S => S, fun _ S => S)
  | d + 1 => (fun v S => foldS (kCond f (ckF f d).1 (ckF f d).2) (els f v) S, fun v S => foldS (kEl f (ckF f d).1 (ckF f d).2) (els f v) S)
/-- the model's object with the fields of a check, and its store -/
def cF5 (w : Nat → Value) (qs : Nat) (S : cS) : List Value := [w 0, .ref qs, w 2, w 3, w 4, w 5, w 6, .int (nI S.2.2.1), .int (nI S.2.2.2.1), .int (nI S.2.2.2.2), .int (nI S.1), .int (nI S.2.1), w 12, w 13, w 14, w 15, w 16, w 17, w 18, w 19, w 20, w 21, w 22]
def MC (G : zG) (o qs : Nat) (w : Nat → Value) (f : Nat → Nat) (S : cS) (H : Heap) : Prop := zO G H o 10 (cF5 w qs S) ∧ zA G H qs 18000 f ∧ (∀ i, f i < 256) ∧ qs ≠ o
theorem MC.mv {G : zG} {o qs : Nat} {w : Nat → Value} {f : Nat → Nat} {S : cS} {H : Heap} (h : MC G o qs w f S H) : MV G o qs (cF5 w qs S) f H := ⟨h.1, h.2.1, rfl, h.2.2.1⟩
def stI (f : Nat → Nat) (e k x : Nat) (gd : Bool) : Prop := (k ≤ ne f e → (gd && gdP (decide (k = e + 1 ∨ f (k - 1) = 46)) (sg f k (ne f e - k))) = gdP true (nL f e) ∧ x + cnP (sg f k (ne f e - k)) = 1 + cnP (nL f e)) ∧ (k = ne f e + 1 → gd = gdP true (nL f e) ∧ x = 1 + cnP (nL f e))
theorem stI_0 (f : Nat → Nat) (e : Nat) : stI f e (e + 1) 1 true :=
  ⟨fun _ => ⟨by rw [decide_eq_true (Or.inl rfl)]; rfl, rfl⟩, fun q => by have := ne_gt f e; omega⟩
theorem stI_s {f : Nat → Nat} {e k x x' : Nat} {gd gd' : Bool} (h : stI f e k x gd) (hk : k ≤ ne f e) (h1 : e + 1 ≤ k) (hz : f (ne f e) = 0) (hx : x' = x + if f k = 46 then 1 else 0)
    (hg : gd' = (gd && !(decide (k = e + 1 ∨ f (k - 1) = 46) && decide (f k = 0 ∨ f k = 46 ∨ f k = 36)))) : stI f e (k + 1) x' gd' := by
  obtain ⟨g1, g2⟩ := h.1 hk
  refine ⟨fun hk2 => ?_, fun hk2 => ?_⟩
  · have hs : sg f k (ne f e - k) = f k :: sg f (k + 1) (ne f e - (k + 1)) := by
      rw [show ne f e - k = (ne f e - (k + 1)) + 1 by omega]
      rfl
    have h0 : f k ≠ 0 := ne_nz h1 (by omega)
    rw [hs] at g1 g2
    have hb : decide (k + 1 = e + 1 ∨ f (k + 1 - 1) = 46) = decide (f k = 46) := by
      congr 1
      rw [Nat.add_sub_cancel]
      apply propext
      constructor
      · rintro (q | q)
        · omega
        · exact q
      · exact Or.inr
    rw [hb]
    refine ⟨?_, ?_⟩
    · rw [← g1, hg]
      show _ = (gd && ((!decide (k = e + 1 ∨ f (k - 1) = 46) || (decide (f k ≠ 46) && decide (f k ≠ 36))) && gdP (decide (f k = 46)) _))
      by_cases b : k = e + 1 ∨ f (k - 1) = 46
      · by_cases q : f k = 46
        · simp [b, q]
        · by_cases r : f k = 36
          · simp [b, r]
          · simp [b, q, r, h0]
      · simp [b]
    · have g2 : x + ((if f k = 46 then 1 else 0) + cnP (sg f (k + 1) (ne f e - (k + 1)))) = 1 + cnP (nL f e) := g2
      rw [hx]
      omega
  · have hke : k = ne f e := by omega
    have hs : sg f k (ne f e - k) = [] := by rw [show ne f e - k = 0 by omega]; rfl
    rw [hs] at g1 g2
    have h0 : f k = 0 := by rw [hke]; exact hz
    refine ⟨?_, ?_⟩
    · rw [← g1, hg, decide_eq_true (Or.inl h0 : f k = 0 ∨ f k = 46 ∨ f k = 36), Bool.and_true]
      rfl
    · have g2 : x + 0 = 1 + cnP (nL f e) := g2
      rw [hx, if_neg (by omega)]
      omega
theorem stI_k {f : Nat → Nat} {e k x x' : Nat} {gd : Bool} (h : stI f e k x gd) (hk : k ≤ ne f e) (h1 : e + 1 ≤ k) (hz : f (ne f e) = 0) (hx : x' = x + if f k = 46 then 1 else 0)
    (hb : ¬ (k = e + 1 ∨ f (k - 1) = 46) ∨ ¬ (f k = 0 ∨ f k = 46 ∨ f k = 36)) : stI f e (k + 1) x' gd := by
  refine stI_s h hk h1 hz hx ?_
  rcases hb with q | q
  · rw [decide_eq_false q]; cases gd <;> rfl
  · rw [decide_eq_false q]; simp
theorem stI_b {f : Nat → Nat} {e k x x' : Nat} {gd : Bool} (h : stI f e k x gd) (hk : k ≤ ne f e) (h1 : e + 1 ≤ k) (hz : f (ne f e) = 0) (hx : x' = x + if f k = 46 then 1 else 0)
    (hb : k = e + 1 ∨ f (k - 1) = 46) (hc : f k = 0 ∨ f k = 46 ∨ f k = 36) : stI f e (k + 1) x' false := by
  refine stI_s h hk h1 hz hx ?_
  rw [decide_eq_true hb, decide_eq_true hc]
  cases gd <;> rfl
