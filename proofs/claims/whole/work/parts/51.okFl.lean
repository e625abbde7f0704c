/-! ===== a filter that has been checked and found without fault ===== -/
theorem foldS_0 {g : eS} : ∀ {X : List Nat} {S : cS}, (foldS g X S).1 = 0 → ∀ x ∈ X, ∃ T : cS, T.1 = 0 ∧ (g x T).1 = 0
  | [], _, _, x, hx => by cases hx
  | y :: X, S, h, x, hx => by
    by_cases q : S.1 = 0
    · rw [foldS_s q] at h
      have hg : (g y S).1 = 0 := by
        by_cases z : (g y S).1 = 0
        · exact z
        · rw [foldS_w z] at h; exact absurd h z
      rcases List.mem_cons.mp hx with e | e
      · subst e; exact ⟨S, q, hg⟩
      · exact foldS_0 h x e
    · rw [foldS_w q] at h; exact absurd h q
theorem sCnt_0 {S : cS} {y e : Nat} (h : (sCnt S y e).1 = 0) : S.1 = 0 := by
  by_cases z : S.1 = 0
  · exact z
  · exact absurd h (sCnt_w z)
theorem okV.to16 {f : Nat → Nat} {k a : Nat} : ∀ {n d : Nat}, okV f d k a → d + n = 16 → okV f 16 k a
  | 0, d, h, e => by have : d = 16 := by omega
                     subst this; exact h
  | n + 1, d, h, e => okV.to16 (n := n) h.up (by omega)
theorem okP_n {f : Nat → Nat} {e : Nat} (hz : f (ne f e) = 0) (hN : ne f e < 18000) (hF : ne f e ≤ e + 1 + 2000) : ∀ n q, e + 1 ≤ q → q ≤ ne f e → cnP (sg f q (ne f e - q)) < n → okP f n q
  | 0, q, _, _, h => absurd h (Nat.not_lt_zero _)
  | n + 1, q, h1, h2, h3 => by
    right
    have key : ∀ k q, q ≤ ne f e → e + 1 ≤ q → ne f e ≤ q + k → (f (sz f k q) = 0 ∨ f (sz f k q) = 46) ∧ sz f k q ≤ ne f e ∧ (f (sz f k q) = 0 → sz f k q = ne f e) ∧ (f (sz f k q) = 46 → cnP (sg f (sz f k q + 1) (ne f e - (sz f k q + 1))) + 1 = cnP (sg f q (ne f e - q)) ∧ sz f k q < ne f e) := by
      intro k
      induction k with
      | zero =>
        intro q a1 a2 a3
        have e1 : q = ne f e := by omega
        have e2 : sz f 0 q = ne f e := e1
        rw [e2]
        exact ⟨Or.inl hz, Nat.le_refl _, fun _ => rfl, fun w => by rw [hz] at w; omega⟩
      | succ k ih =>
        intro q a1 a2 a3
        unfold sz
        by_cases z : f q = 0 ∨ f q = 46
        · rw [if_pos z]
          refine ⟨z, a1, fun w => ?_, fun w => ?_⟩
          · rcases Nat.lt_or_ge q (ne f e) with y | y
            · exact absurd w (ne_nz a2 y)
            · omega
          · have y : q < ne f e := by
              rcases Nat.lt_or_ge q (ne f e) with y | y
              · exact y
              · have : q = ne f e := by omega
                rw [this, hz] at w; omega
            refine ⟨?_, y⟩
            rw [show ne f e - q = (ne f e - (q + 1)) + 1 by omega]
            show _ = (if f q = 46 then 1 else 0) + cnP (sg f (q + 1) (ne f e - (q + 1)))
            rw [if_pos w]; omega
        · rw [if_neg z]
          have y : q < ne f e := by
            rcases Nat.lt_or_ge q (ne f e) with y | y
            · exact y
            · have : q = ne f e := by omega
              exact absurd (Or.inl (by rw [this]; exact hz)) z
          obtain ⟨b1, b2, b3, b4⟩ := ih (q + 1) (by omega) (by omega) (by omega)
          refine ⟨b1, b2, b3, fun w => ?_⟩
          obtain ⟨c1, c2⟩ := b4 w
          refine ⟨?_, c2⟩
          rw [c1, show ne f e - q = (ne f e - (q + 1)) + 1 by omega]
          show _ = (if f q = 46 then 1 else 0) + cnP (sg f (q + 1) (ne f e - (q + 1)))
          rw [if_neg (fun w => z (Or.inr w))]; omega
    obtain ⟨b1, b2, b3, b4⟩ := key 2000 q h2 h1 (by omega)
    have hge := se_ge f q
    refine ⟨⟨b1, Nat.lt_of_le_of_lt b2 hN⟩, ?_⟩
    unfold nS
    by_cases w : f (se f q) = 0
    · rw [if_pos w]
      cases n with
      | zero => rfl
      | succ n => exact Or.inl rfl
    · rw [if_neg w]
      obtain ⟨c1, c2⟩ := b4 (b1.resolve_left w)
      have c2' : se f q < ne f e := c2
      have c1' : cnP (sg f (se f q + 1) (ne f e - (se f q + 1))) + 1 = cnP (sg f q (ne f e - q)) := c1
      exact okP_n hz hN hF n (se f q + 1) (by omega) (by omega) (by omega)
theorem ckF_ok (f : Nat → Nat) : ∀ d, d ≤ 16 → (∀ v S, okV f d 3 v → S.1 = 0 → ((ckF f d).1 v S).1 = 0 → (okFl f d).1 v) ∧ (∀ v S, okV f d 3 v → S.1 = 0 → ((ckF f d).2 v S).1 = 0 → (okFl f d).2 v)
  | 0, _ => ⟨fun v S h => absurd rfl h.2.1, fun v S h => absurd rfl h.2.1⟩
  | d + 1, hd => by
    obtain ⟨i1, i2⟩ := ckF_ok f d (by omega)
    refine ⟨fun v S hv h0 hw => ?_, fun v S hv h0 hw => ?_⟩
    · obtain ⟨hB, hE⟩ := hv.2 (Or.inl rfl)
      refine ⟨hB, fun c hc => ⟨okV.to16 (n := 16 - d) (hE c hc) (by omega), ?_⟩⟩
      obtain ⟨T, t0, t1⟩ := foldS_0 (show (foldS (kCond f (ckF f d).1 (ckF f d).2) (els f v) S).1 = 0 from hw) c hc
      have hcv := hE c hc
      unfold kCond at t1
      by_cases q : (qCond f c T).1 = 0
      · rw [if_neg (fun z => z q)] at t1
        have q1 := sCnt_0 q
        have c0 : coN f c ≠ 0 := by
          intro z
          rw [if_pos z] at q1
          exact absurd q1 (sSay_w (by decide))
        rw [if_neg c0] at q1
        have cr : isR f (coN f c) (f c) (vo f c) = true := by
          cases hr : isR f (coN f c) (f c) (vo f c) with
          | true => rfl
          | false =>
            rw [hr, if_neg (by decide)] at q1
            exact absurd q1 (sSay_w (by decide))
        refine ⟨c0, cr, fun z => ?_, fun z => ?_⟩
        · rw [if_pos z] at t1
          have hk := isC_3 (isR_12 cr z)
          rw [hk] at hcv
          exact i1 _ _ hcv q t1
        · rw [if_neg (by omega), if_pos z] at t1
          have hk : f c = 3 := by
            rw [z] at cr
            exact of_decide_eq_true cr
          rw [hk] at hcv
          unfold kElem at t1
          refine ⟨fun y => ?_, fun y => ?_⟩
          · rw [if_pos y] at t1
            exact i1 _ _ hcv q t1
          · rw [if_neg y] at t1
            exact i2 _ _ hcv q t1
      · rw [if_pos q] at t1; exact absurd t1 q
    · obtain ⟨hB, hE⟩ := hv.2 (Or.inl rfl)
      refine ⟨hB, fun e he => ⟨okV.to16 (n := 16 - d) (hE e he) (by omega), ?_⟩⟩
      obtain ⟨T, t0, t1⟩ := foldS_0 (show (foldS (kEl f (ckF f d).1 (ckF f d).2) (els f v) S).1 = 0 from hw) e he
      have hev := hE e he
      have hok := (ch_ok hB.2 he).1
      unfold kEl at t1
      refine ⟨fun z => ?_, fun z => ?_⟩
      · rw [if_pos z] at t1
        unfold kJoin at t1
        cases hj : isJ f e with
        | false =>
          rw [hj, if_neg (by decide)] at t1
          exact absurd t1 (sSay_w (by decide))
        | true =>
          rw [hj, if_pos rfl] at t1
          by_cases q : (sCnt (if f e = 4 ∧ 0 < fi f (vo f e) then T else sSay T 2 e) 1 e).1 = 0
          · rw [if_neg (fun z => z q)] at t1
            have q1 := sCnt_0 q
            have h4 : f e = 4 := by
              by_cases y : f e = 4 ∧ 0 < fi f (vo f e)
              · exact y.1
              · rw [if_neg y] at q1
                exact absurd q1 (sSay_w (by decide))
            refine ⟨rfl, h4, fun i hi => ?_⟩
            obtain ⟨T2, u0, u1⟩ := foldS_0 t1 i hi
            have h3 : f i = 3 := by
              by_cases y : f i = 3
              · exact y
              · rw [if_neg y] at u1
                exact absurd u1 (sSay_w (by decide))
            rw [if_pos h3] at u1
            rw [h4] at hev
            cases d with
            | zero => exact absurd rfl hev.2.2
            | succ d =>
              have hiv := (hev.2 (Or.inr rfl)).2 i hi
              rw [h3] at hiv
              exact ⟨h3, i2 _ _ hiv.up u0 u1⟩
          · rw [if_pos q] at t1; exact absurd t1 q
      · rw [if_neg z] at t1
        unfold kPath at t1
        have hp : (pPath f e T).1 = 0 := by
          cases hc : isC f (f e) (vo f e) with
          | true =>
            rw [hc, if_pos rfl] at t1
            by_cases y : (sCnt (pPath f e T) 1 e).1 = 0
            · exact sCnt_0 y
            · rw [if_neg y] at t1; exact absurd t1 y
          | false =>
            rw [hc, if_neg (by decide)] at t1
            exact sCnt_0 t1
        have hs : stN f e ≠ 0 := by
          intro y
          unfold pPath at hp
          rw [if_pos y] at hp
          exact absurd hp (sSay_w (by decide))
        have hs2 : gdP true (nL f e) = true ∧ cnP (nL f e) + 1 < 9 := by
          unfold stN at hs
          by_cases y : gdP true (nL f e) = true ∧ cnP (nL f e) + 1 < 9
          · exact y
          · rw [if_neg y] at hs; exact absurd rfl hs
        refine ⟨?_, fun y => ?_⟩
        · refine okP_n hok.1.1 hok.1.2 ?_ 9 (e + 1) (Nat.le_refl _) (ne_gt f e) (by have := hs2.2; unfold nL at this; omega)
          exact nz_top f 2000 (e + 1)
        · rw [if_pos y] at t1
          have h3 := isC_3 y
          rw [h3] at hev
          by_cases x : (sCnt (pPath f e T) 1 e).1 = 0
          · rw [if_pos x] at t1
            exact i1 _ _ hev x t1
          · rw [if_neg x] at t1; exact absurd t1 x
