/-! ===== a document laid elsewhere: its tree, and what a filter made of it costs ===== -/
/-- the element x of f lies at c + x in f2 -/
def EFt (f f2 : Nat → Nat) (c x : Nat) : Prop := f2 (c + x) = f x ∧ ne f2 (c + x) = c + ne f x ∧ nL f2 (c + x) = nL f x ∧ th f2 (c + x) = c + th f x ∧ f2 (c + th f x) = f (th f x) ∧ th f x < 2000 ∧ 0 < th f x ∧ (f x = 2 ∨ f x = 3 ∨ f x = 4 → vo f x + 4 ≤ th f x)
def TrV (f f2 : Nat → Nat) (c : Nat) : Nat → Nat → Nat → Prop
  | 0, k, a => numv f2 k (c + a) = numv f k a ∧ txL f2 k (c + a) = txL f k a
  | d + 1, k, a => (numv f2 k (c + a) = numv f k a ∧ txL f2 k (c + a) = txL f k a) ∧ (k = 3 ∨ k = 4 → els f2 (c + a) = (els f a).map (c + ·) ∧ ∀ x ∈ els f a, EFt f f2 c x ∧ TrV f f2 c d (f x) (vo f x))
theorem TrV.b {f f2 : Nat → Nat} {c d k a : Nat} (h : TrV f f2 c d k a) : numv f2 k (c + a) = numv f k a ∧ txL f2 k (c + a) = txL f k a := by
  cases d with
  | zero => exact h
  | succ d => exact h.1
theorem EFt.vo {f f2 : Nat → Nat} {c x : Nat} (h : EFt f f2 c x) : vo f2 (c + x) = c + Jvm.Pilot.CFilterReaderLaw_law_r6385_1adcd0.vo f x := by
  unfold Jvm.Pilot.CFilterReaderLaw_law_r6385_1adcd0.vo
  rw [h.2.1]; omega
theorem EFt.nx {f f2 : Nat → Nat} {c x : Nat} (h : EFt f f2 c x) : nx f2 (c + x) = if nx f x = 0 then 0 else c + nx f x := by
  obtain ⟨h1, h2, h3, h4, h5, h6, h7, h8⟩ := h
  unfold Jvm.Pilot.CFilterReaderLaw_law_r6385_1adcd0.nx
  rw [h4, h5]
  by_cases z : f (th f x) = 0
  · rw [if_pos z, if_pos z, if_pos rfl]
  · rw [if_neg z, if_neg z, if_neg (by omega)]
theorem Ch_tr {f f2 : Nat → Nat} {c : Nat} (hc : c ≤ 16000) : ∀ {M : List Nat} {e : Nat}, Ch 18000 f e M → (∀ x ∈ M, EFt f f2 c x) → Ch 18000 f2 (if e = 0 then 0 else c + e) (M.map (c + ·))
  | [], e, h, _ => by
    have h : e = 0 := h
    rw [if_pos h]; rfl
  | x :: M, e, h, hx => by
    obtain ⟨h1, h2, h3, h4⟩ := h
    subst h1
    have hE := hx e List.mem_cons_self
    have hv := hE.vo
    have hn := hE.nx
    obtain ⟨g1, g2, g3, g4, g5, g6, g7, g8⟩ := hE
    rw [if_neg (by omega)]
    have hth : vo f e ≤ th f e := Nat.le_add_right _ _
    have hvo : vo f e = ne f e + 1 := rfl
    refine ⟨rfl, by show 0 < c + e; omega, ⟨⟨?_, ?_⟩, ?_, ?_⟩, ?_⟩
    · rw [g2]
      have hz := h3.1.1
      by_cases z : ne f e < 2000
      · -- the byte behind the name
        have e1 : f2 (ne f2 (c + e)) = 0 := by
          have q : ne f2 (c + e) = nz f2 2000 (c + e + 1) := rfl
          by_cases y : f2 (ne f2 (c + e)) = 0
          · exact y
          · exfalso
            have h9 : ∀ k q, f2 (nz f2 k q) ≠ 0 → nz f2 k q = q + k := by
              intro k
              induction k with
              | zero => intro q _; rfl
              | succ k ih =>
                intro q hq
                unfold nz at hq ⊢
                by_cases w : f2 q = 0
                · rw [if_pos w] at hq; exact absurd w hq
                · rw [if_neg w] at hq ⊢
                  rw [ih _ hq]; omega
            have h10 := h9 2000 (c + e + 1) (by rw [← q]; exact y)
            rw [← q, g2] at h10
            omega
        rw [g2] at e1
        exact e1
      · omega
    · rw [g2]; have := h3.1.2; omega
    · rw [hv, g1]; intro q
      have := g8 q
      omega
    · rw [g4]; omega
    · rw [hn]
      exact Ch_tr hc h4 (fun y hy => hx y (List.mem_cons_of_mem _ hy))
theorem nuM_sh {f f2 : Nat → Nat} {c n k a last : Nat} (h : shB f f2 c n) (hl : last < n) (hv : a ≤ last) (hF : vaF f k a last = 0) : numv f2 k (c + a) = numv f k a := by
  unfold numv
  by_cases hk : k = 8 ∨ k = 16 ∨ k = 18
  · rw [if_pos hk, if_pos hk]
    obtain ⟨h1, -⟩ := vaF_n hF (by omega) hv
    unfold nuM
    rcases hk with z | z | z <;> subst z
    · rw [if_pos rfl, if_pos rfl, h a (by have : vaN 8 = 1 := rfl; omega)]
    · have e : vaN 16 = 4 := rfl
      rw [if_neg (by decide), if_pos rfl, if_neg (by decide), if_pos rfl, wh_sh h (by omega)]
    · have e : vaN 18 = 8 := rfl
      rw [if_neg (by decide), if_neg (by decide), if_neg (by decide), if_neg (by decide), wh_sh h (by omega), show c + a + 4 = c + (a + 4) by omega, wh_sh h (by omega)]
  · rw [if_neg hk, if_neg hk]
theorem txL_sh {f f2 : Nat → Nat} {c n k a last : Nat} (h : shB f f2 c n) (hl : last < n) (hF : vaF f k a last = 0) : txL f2 k (c + a) = txL f k a := by
  unfold txL
  by_cases hk : k = 2
  · subst hk
    obtain ⟨h1, h2, -⟩ := txF_0 (vaF_t hF)
    rw [if_pos rfl, if_pos rfl, wh_sh h (by omega), show c + a + 4 = c + (a + 4) by omega]
    exact sg_sh h _ _ (by omega)
  · rw [if_neg hk, if_neg hk]
theorem nt_34 {f f2 : Nat → Nat} {c k a : Nat} (hk : k = 3 ∨ k = 4) : numv f2 k (c + a) = numv f k a ∧ txL f2 k (c + a) = txL f k a := by
  unfold numv txL
  rw [if_neg (by omega), if_neg (by omega), if_neg (by omega), if_neg (by omega)]
  exact ⟨rfl, rfl⟩
theorem TrV_simple {f f2 : Nat → Nat} {c d k a : Nat} (h : numv f2 k (c + a) = numv f k a ∧ txL f2 k (c + a) = txL f k a) (h3 : ¬ (k = 3 ∨ k = 4)) : TrV f f2 c d k a := by
  cases d with
  | zero => exact h
  | succ d => exact ⟨h, fun z => absurd z h3⟩
theorem pE_tr {f f2 : Nat → Nat} {c n K : Nat} (hs : shB f f2 c n) (hn : n ≤ 2000) (hc : c ≤ 16000) (hK : K ≤ 80) : ∀ F dep a last row cnt L e, pE f F dep a last row cnt L = some e → a ≤ last → last < n → 0 < a → dep ≤ 16 →
    ∃ M, Ch 18000 f (if f a = 0 then 0 else a) M ∧ (∀ x ∈ M, EFt f f2 c x ∧ TrV f f2 c (16 - dep) (f x) (vo f x)) ∧ cstL K f (cst K f (16 - dep)) M ≤ 40 * (last - a)
  | 0, _, _, _, _, _, _, _, h, _, _, _, _ => by cases h
  | F + 1, dep, a, last, row, cnt, L, e, h, ha, hl, h0, hd => by
    by_cases h1 : a = last
    · by_cases h2 : f a = 0
      · exact ⟨[], by rw [if_pos h2]; rfl, fun x hx => (by cases hx), Nat.zero_le _⟩
      · rw [pE_endN h1 h2] at h; cases h
    · cases h2 : gE f row cnt a last L with
      | false => rw [pE_no h1 h2] at h; cases h
      | true =>
        obtain ⟨hk, ht, -, hnm⟩ := gE_tE h2
        have hgt := tE_gt f a last
        have hne := tE_ne' ht (by omega)
        have hvo : vo f a = tE f a last + 1 := by unfold vo; rw [hne]
        have hk8 := okK_8 hk
        have hfa : f a ≠ 0 := by omega
        have hz : f (ne f a) = 0 := by rw [← hne]; exact tE_0 ht
        have s1 : f2 (c + a) = f a := hs a (by omega)
        have s2 := ne_sh hs (show a < last by omega) (by omega) hn ht
        have s3 := nL_sh hs (show a < last by omega) (by omega) hn ht
        have s4 : vo f2 (c + a) = c + vo f a := by unfold vo; rw [s2]; omega
        by_cases h3 : f a = 3 ∨ f a = 4
        · by_cases h4 : opF f (tE f a last + 1) (last - (tE f a last + 1)) dep = 0
          · have h8 := opF_0 h4
            cases h5 : pE f F (dep + 1) (tE f a last + 1 + 4) (tE f a last + 1 + wh f (tE f a last + 1) - 1) (decide (f a = 4)) 0 [] with
            | none => rw [pE_bI h1 h2 h3 h4 h5] at h; cases h
            | some e2 =>
              rw [pE_b h1 h2 h3 h4 h5] at h
              have he := pE_e h5
              rw [← hvo] at h4 h5 h8 he
              have hln : ln f (f a) (vo f a) = wh f (vo f a) := by unfold ln; rcases h3 with q | q <;> rw [q] <;> rfl
              have hth : th f a = e2 := by
                unfold th
                rw [he, hln]
                omega
              have hln2 : ln f2 (f2 (c + a)) (vo f2 (c + a)) = wh f2 (vo f2 (c + a)) := by rw [s1]; unfold ln; rcases h3 with q | q <;> rw [q] <;> rfl
              have s5 : th f2 (c + a) = c + th f a := by
                unfold th
                rw [hln2, hln, s4, wh_sh hs (by omega)]; omega
              obtain ⟨M2, m1, m2, m3⟩ := pE_tr hs hn hc hK F (dep + 1) (vo f a + 4) (vo f a + wh f (vo f a) - 1) (decide (f a = 4)) 0 [] e2 h5 (by omega) (by omega) (by omega) (by omega)
              obtain ⟨M, n1, n2, n3⟩ := pE_tr hs hn hc hK F dep e2 last row (cnt + 1) (a :: L) e h (by omega) hl (by omega) hd
              have hE : els f (vo f a) = M2 := els_eq m1
              have hds : 16 - dep = (16 - (dep + 1)) + 1 := by omega
              have hEF : EFt f f2 c a := ⟨s1, s2, s3, s5, by rw [hth]; exact hs e2 (by omega), by omega, by omega, fun _ => by omega⟩
              have hok : Ch 18000 f a (a :: M) := ⟨rfl, h0, ⟨⟨hz, by omega⟩, fun _ => by omega, by omega⟩, by rw [nx, hth]; exact n1⟩
              refine ⟨a :: M, by rw [if_neg hfa]; exact hok, fun x hx => ?_, ?_⟩
              · rcases List.mem_cons.mp hx with q | q
                · subst q
                  refine ⟨hEF, ?_⟩
                  rw [hds]
                  refine ⟨nt_34 h3, fun _ => ⟨?_, ?_⟩⟩
                  · rw [hE]
                    apply els_eq
                    have hf0 : fi f2 (c + vo f x) = if (if f (vo f x + 4) = 0 then 0 else vo f x + 4) = 0 then 0 else c + (if f (vo f x + 4) = 0 then 0 else vo f x + 4) := by
                      unfold fi
                      rw [show c + vo f x + 4 = c + (vo f x + 4) by omega, hs (vo f x + 4) (by omega)]
                      by_cases z : f (vo f x + 4) = 0
                      · rw [if_pos z, if_pos z, if_pos rfl]
                      · rw [if_neg z, if_neg z, if_neg (by omega)]
                    rw [hf0]
                    exact Ch_tr hc m1 (fun y hy => (m2 y hy).1)
                  · rw [hE]; exact m2
                · exact n2 x q
              · have e1 : cstL K f (cst K f (16 - dep)) (a :: M) = K + (ne f a - (a + 1)) + (if f a = 3 ∨ f a = 4 then cst K f (16 - dep) (vo f a) else 0) + cstL K f (cst K f (16 - dep)) M := rfl
                have e2' : cst K f (16 - dep) (vo f a) = cstL K f (cst K f (16 - (dep + 1))) M2 := by
                  rw [hds]
                  show cstL K f (cst K f (16 - (dep + 1))) (els f (vo f a)) = _
                  rw [hE]
                rw [e1, if_pos h3, e2']
                omega
          · rw [pE_bN h1 h2 h3 h4] at h; cases h
        · by_cases h4 : vaF f (f a) (tE f a last + 1) last = 0
          · rw [pE_v h1 h2 h3 h4] at h
            have hr := vaR_le (by omega) h4
            have hln := vaR_ln hk h3 h4
            have h4' := h4
            have w1 := vaR_sh (k := f a) (a := tE f a last + 1) hs (by omega) hl
            have w2 := vaF_sh (k := f a) (a := tE f a last + 1) hs (by omega) hl (by omega)
            rw [← hvo] at h4 h hr hln w1 w2
            have hth : th f a = vaR f (f a) (vo f a) last := by unfold th; rw [hln]
            have hln2 := vaR_ln (f := f2) hk h3 (by rw [w2]; exact h4)
            have s5 : th f2 (c + a) = c + th f a := by
              unfold th
              rw [s1, s4, ← hln2, w1, hln]
            obtain ⟨M, n1, n2, n3⟩ := pE_tr hs hn hc hK F dep _ last row (cnt + 1) (a :: L) e h (by omega) hl (by omega) hd
            have hB := okB_v hk h3 h4 (by omega) (by omega)
            have hEF : EFt f f2 c a := ⟨s1, s2, s3, s5, by rw [hth]; exact hs _ (by omega), by omega, by omega, fun q => by
              rcases q with q | q | q
              · show vo f a + 4 ≤ vo f a + ln f (f a) (vo f a)
                rw [q]
                have e : ln f 2 (vo f a) = 4 + wh f (vo f a) := rfl
                omega
              · exact absurd (Or.inl q) h3
              · exact absurd (Or.inr q) h3⟩
            have hok : Ch 18000 f a (a :: M) := by
              refine ⟨rfl, h0, ⟨⟨hz, by omega⟩, fun q => ?_, by omega⟩, by rw [nx, hth]; exact n1⟩
              rcases q with q | q | q
              · have := hB.2.2.2.2.1 q; omega
              · exact absurd (Or.inl q) h3
              · exact absurd (Or.inr q) h3
            refine ⟨a :: M, by rw [if_neg hfa]; exact hok, fun x hx => ?_, ?_⟩
            · rcases List.mem_cons.mp hx with q | q
              · subst q
                exact ⟨hEF, TrV_simple ⟨nuM_sh hs hl (by omega) h4, txL_sh hs hl h4⟩ h3⟩
              · exact n2 x q
            · have e1 : cstL K f (cst K f (16 - dep)) (a :: M) = K + (ne f a - (a + 1)) + (if f a = 3 ∨ f a = 4 then cst K f (16 - dep) (vo f a) else 0) + cstL K f (cst K f (16 - dep)) M := rfl
              rw [e1, if_neg h3]
              omega
          · rw [pE_vN h1 h2 h3 h4] at h; cases h
theorem dcB_tr {f f2 : Nat → Nat} {c n : Nat} (h : dcB f 0 n = true) (hs : shB f f2 c n) (hn : n ≤ 2000) (hc : c ≤ 16000) : TrV f f2 c 16 3 0 ∧ ∀ K, K ≤ 80 → cst K f 16 0 ≤ 40 * n := by
  unfold dcB at h
  have h1 := (Bool.and_eq_true _ _).mp h
  have h2 := opF_0 (of_decide_eq_true h1.1)
  rw [Nat.zero_add, Nat.zero_add] at h1
  cases hp : pE f n 1 4 (n - 1) false 0 [] with
  | none => rw [hp] at h1; exact absurd h1.2 (by decide)
  | some e =>
    have key := fun K (hK : K ≤ 80) => pE_tr (K := K) hs hn hc hK n 1 4 (n - 1) false 0 [] e hp (by omega) (by omega) (by omega) (by omega)
    have hfi : fi f 0 = if f 4 = 0 then 0 else 4 := by unfold fi; rw [Nat.zero_add]
    refine ⟨?_, fun K hK => ?_⟩
    · obtain ⟨M, m1, m2, -⟩ := key 0 (by decide)
      have hE : els f 0 = M := els_eq (by rw [hfi]; exact m1)
      refine ⟨nt_34 (Or.inl rfl), fun _ => ⟨?_, ?_⟩⟩
      · rw [hE]
        apply els_eq
        have hf0 : fi f2 (c + 0) = if (if f 4 = 0 then 0 else 4) = 0 then 0 else c + (if f 4 = 0 then 0 else 4) := by
          unfold fi
          rw [show c + 0 + 4 = c + 4 by omega, hs 4 (by omega)]
          by_cases z : f 4 = 0
          · rw [if_pos z, if_pos z, if_pos rfl]
          · rw [if_neg z, if_neg z, if_neg (by omega)]
        rw [hf0]
        exact Ch_tr hc m1 (fun y hy => (m2 y hy).1)
      · rw [hE]; exact m2
    · obtain ⟨M, m1, -, m3⟩ := key K hK
      have hE : els f 0 = M := els_eq (by rw [hfi]; exact m1)
      have e1 : cst K f 16 0 = cstL K f (cst K f 15) (els f 0) := rfl
      rw [e1, hE]
      exact Nat.le_trans m3 (by omega)
