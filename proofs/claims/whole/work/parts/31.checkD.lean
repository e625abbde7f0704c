/-! ===== the checks by levels: their contracts' words, and what the walks need ===== -/
abbrev rCk (d : Nat) : Room := { frames := 3 * d + 8, cells := 0, slots := 0, locals := 80 * d + 150 }
abbrev rCj (d : Nat) : Room := { frames := 3 * d + 9, cells := 0, slots := 0, locals := 80 * d + 176 }
def C_ckF (l : Launch) (G : zG) (o qs : Nat) (w : Nat → Value) (f : Nat → Nat) (d : Nat) : Prop := ∀ (S : cS) (v : Nat), okV f d 3 v → S.1 = 0 → sInv S →
  Met l yX11_checkFilter wsX11_checkFilter (rCk d) (zP G [.ref (o), .int (nI (v))] (fun H => MC G o qs w f S H)) (zQ (fun x => x = o) none (fun H => MC G o qs w f ((ckF f d).2 v S) H)) 0 0 (fun x => x = o)
def C_ckC (l : Launch) (G : zG) (o qs : Nat) (w : Nat → Value) (f : Nat → Nat) (d : Nat) : Prop := ∀ (S : cS) (v : Nat), okV f d 3 v → S.1 = 0 → sInv S →
  Met l yX11_checkConditions wsX11_checkConditions (rCk d) (zP G [.ref (o), .int (nI (v))] (fun H => MC G o qs w f S H)) (zQ (fun x => x = o) none (fun H => MC G o qs w f ((ckF f d).1 v S) H)) 0 0 (fun x => x = o)
theorem MC.to {G : zG} {o qs : Nat} {w : Nat → Value} {f : Nat → Nat} {S T : cS} {H : Heap} (e : S = T) (h : MC G o qs w f S H) : MC G o qs w f T H := e ▸ h
theorem foldS_w {g : eS} {X : List Nat} {T : cS} (h : T.1 ≠ 0) : foldS g X T = T := by
  cases X with
  | nil => rfl
  | cons x X => rw [foldS, if_pos h]
theorem foldS_s {g : eS} {x : Nat} {X : List Nat} {T : cS} (h : T.1 = 0) : foldS g (x :: X) T = foldS g X (g x T) := by rw [foldS, if_neg (fun q => q h)]
theorem sSay_w {S : cS} {y e : Nat} (hy : y ≠ 0) : (sSay S y e).1 ≠ 0 := by
  unfold sSay
  split
  · assumption
  · exact hy
theorem sCnt_w {S : cS} {y e : Nat} (h : S.1 ≠ 0) : (sCnt S y e).1 ≠ 0 := by
  unfold sCnt
  split
  · exact h
  · exact sSay_w (by decide)
theorem foldS_inv {g : eS} (hg : ∀ x T, sInv T → T.1 = 0 → sInv (g x T)) : ∀ (X : List Nat) (T : cS), sInv T → sInv (foldS g X T)
  | [], T, h => h
  | x :: X, T, h => by
    by_cases q : T.1 ≠ 0
    · rw [foldS_w q]; exact h
    · rw [foldS_s (Classical.not_not.mp q)]
      exact foldS_inv hg X _ (hg x T h (Classical.not_not.mp q))
theorem sInv.c1 {S : cS} (h : sInv S) (h0 : S.1 = 0) {why : Nat} (hw : 0 < why ∧ why < 6) (e m e2 : Nat) (hm : m ≤ 2) (c : Prop) [Decidable c] : sInv (sCnt (if c then S else sSay S why e) m e2) := by
  split
  · exact h.cnt (h.2.2 h0) hm e2
  · exact (h.say hw e).cnt (by rw [sSay_nc]; exact h.2.2 h0) hm e2
theorem sInv.pp {f : Nat → Nat} {e : Nat} {S : cS} (h : sInv S) (h0 : S.1 = 0) : sInv (pPath f e S) ∧ (pPath f e S).2.2.1 ≤ 100 := by
  refine ⟨⟨?_, h.2.1, fun _ => h.2.2 h0⟩, h.2.2 h0⟩
  show (if stN f e = 0 then sSay S 3 e else S).1 < 6
  split
  · exact (h.say ⟨by decide, by decide⟩ e).1
  · exact h.1
theorem sInv.qc {f : Nat → Nat} {c : Nat} {S : cS} (h : sInv S) (h0 : S.1 = 0) : sInv (qCond f c S) := by
  unfold qCond
  split
  · exact (h.say ⟨by decide, by decide⟩ c).cnt (by rw [sSay_nc]; exact h.2.2 h0) (by decide) c
  · split
    · exact h.cnt (h.2.2 h0) (by decide) c
    · exact (h.say ⟨by decide, by decide⟩ c).cnt (by rw [sSay_nc]; exact h.2.2 h0) (by decide) c
theorem ckF_inv (f : Nat → Nat) : ∀ d, (∀ v S, sInv S → S.1 = 0 → sInv ((ckF f d).1 v S)) ∧ (∀ v S, sInv S → S.1 = 0 → sInv ((ckF f d).2 v S))
  | 0 => ⟨fun _ _ h _ => h, fun _ _ h _ => h⟩
  | d + 1 => by
    obtain ⟨i1, i2⟩ := ckF_inv f d
    refine ⟨fun v S h _ => foldS_inv (fun c T hT hT0 => ?_) _ _ h, fun v S h _ => foldS_inv (fun e T hT hT0 => ?_) _ _ h⟩
    · have hq := hT.qc (f := f) (c := c) hT0
      unfold kCond
      split
      · exact hq
      · rename_i z
        have z0 := Classical.not_not.mp z
        split
        · exact i1 _ _ hq z0
        · split
          · unfold kElem
            split
            · exact i1 _ _ hq z0
            · exact i2 _ _ hq z0
          · exact hq
    · unfold kEl
      split
      · unfold kJoin
        split
        · have h2 := hT.c1 hT0 (why := 2) ⟨by decide, by decide⟩ e 1 e (by decide) (f e = 4 ∧ 0 < fi f (vo f e))
          generalize sCnt (if f e = 4 ∧ 0 < fi f (vo f e) then T else sSay T 2 e) 1 e = Q at h2 ⊢
          split
          · exact h2
          · refine foldS_inv (fun i T2 hT2 h20 => ?_) _ _ h2
            split
            · exact i2 _ _ hT2 h20
            · exact hT2.say ⟨by decide, by decide⟩ i
        · exact hT.say ⟨by decide, by decide⟩ e
      · have hp := hT.pp (f := f) (e := e) hT0
        unfold kPath
        split
        · have h2 := hp.1.cnt hp.2 (more := 1) (by decide) e
          split
          · rename_i z
            exact i1 _ _ h2 z
          · exact h2
        · exact hp.1.cnt hp.2 (by decide) e
theorem isC_3 {f : Nat → Nat} {k a : Nat} (h : isC f k a = true) : k = 3 := by
  unfold isC at h
  rw [Bool.and_eq_true] at h
  exact of_decide_eq_true h.1
theorem stN_lt (f : Nat → Nat) (e : Nat) : stN f e < 9 := by
  unfold stN
  split
  · rename_i h; exact h.2
  · decide
theorem isR_12 {f : Nat → Nat} {k kd v : Nat} (h : isR f k kd v = true) (hk : k = 12) : isC f kd v = true := by
  subst hk
  exact h
theorem okV_bx {f : Nat → Nat} {d a : Nat} (h : okV f d 3 a) : Bx 18000 f a (els f a) := by
  obtain ⟨d', rfl⟩ := h.s (Or.inl rfl)
  exact (h.2 (Or.inl rfl)).1
theorem kJoin_inv {f : Nat → Nat} {d x : Nat} {T : cS} (h : sInv T) (h0 : T.1 = 0) : sInv (kJoin f (ckF f d).2 x T) := by
  unfold kJoin
  split
  · have h2 := h.c1 h0 (why := 2) ⟨by decide, by decide⟩ x 1 x (by decide) (f x = 4 ∧ 0 < fi f (vo f x))
    generalize sCnt (if f x = 4 ∧ 0 < fi f (vo f x) then T else sSay T 2 x) 1 x = Q at h2 ⊢
    split
    · exact h2
    · refine foldS_inv (fun i T2 hT2 h20 => ?_) _ _ h2
      split
      · exact (ckF_inv f d).2 _ _ hT2 h20
      · exact hT2.say ⟨by decide, by decide⟩ i
  · exact h.say ⟨by decide, by decide⟩ x
theorem kPath_inv {f : Nat → Nat} {d x : Nat} {T : cS} (h : sInv T) (h0 : T.1 = 0) : sInv (kPath f (ckF f d).1 x T) := by
  have hp := h.pp (f := f) (e := x) h0
  unfold kPath
  split
  · have h2 := hp.1.cnt hp.2 (more := 1) (by decide) x
    split
    · rename_i z
      exact (ckF_inv f d).1 _ _ h2 z
    · exact h2
  · exact hp.1.cnt hp.2 (by decide) x
