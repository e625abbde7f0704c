/-! ===== the public methods: words ===== -/
theorem RuL_up {G : zG} {H : Heap} {f : Nat → Nat} {pf : Nat → Int32} {Z : Nat → Prop} : ∀ d, (∀ lo hi rs ts, (RuL G H f pf Z d).1 lo hi rs ts → (RuL G H f pf Z (d + 1)).1 lo hi rs ts) ∧ (∀ lo hi rs xs, (RuL G H f pf Z d).2 lo hi rs xs → (RuL G H f pf Z (d + 1)).2 lo hi rs xs)
  | 0 => ⟨fun _ _ _ _ h => h.elim, fun _ _ _ _ h => h.elim⟩
  | d + 1 => by
    obtain ⟨i1, i2⟩ := RuL_up (G := G) (H := H) (f := f) (pf := pf) (Z := Z) d
    have hC : ∀ lo hi rs ts, kidR (RCn G H f pf Z (RuL G H f pf Z d).1 (RuL G H f pf Z d).2) lo hi rs ts → kidR (RCn G H f pf Z (RuL G H f pf Z (d + 1)).1 (RuL G H f pf Z (d + 1)).2) lo hi rs ts := by
      intro lo hi rs ts h
      refine kidR_mono (fun l2 v mid x n _ _ a3 => ?_) (fun _ _ _ _ _ a => a.b) h
      obtain ⟨vl, rs1, h1, h2, h3, h4, h5, h6, h7⟩ := a3
      exact ⟨vl, rs1, h1, h2, h3, h4, h5, fun z => i1 _ _ _ _ (h6 z), fun z => i2 _ _ _ _ (h7 z)⟩
    refine ⟨hC, fun lo hi rs xs h => ?_⟩
    refine kidR_mono (Nd := RFn G H f pf Z d) (Nd1 := RFn G H f pf Z (d + 1)) (fun l2 v mid x n _ _ a3 => ?_) (fun _ _ _ _ _ a => RFn.b a) h
    unfold RFn at a3 ⊢
    by_cases hj : f (x + 1) = 36
    · rw [if_pos hj] at a3 ⊢
      obtain ⟨vl, rs1, h1, h2, h3, h4, h5⟩ := a3
      refine ⟨vl, rs1, h1, h2, h3, h4, kidR_mono (fun l2 v mid x n _ _ b3 => ?_) (fun _ _ _ _ _ a => a.b) h5⟩
      obtain ⟨vl2, rs2, k1, k2, k3, k4, k5⟩ := b3
      exact ⟨vl2, rs2, k1, k2, k3, k4, i2 _ _ _ _ k5⟩
    · rw [if_neg hj] at a3 ⊢
      obtain ⟨vl, rs1, sa, h1, h2, h3, h4, h5, h6, h7⟩ := a3
      exact ⟨vl, rs1, sa, h1, h2, h3, h4, h5, fun z => i1 _ _ _ _ (h6 z), fun z => hC _ _ _ _ (h7 z)⟩
theorem okFl_up {f : Nat → Nat} : ∀ d, (∀ v, (okFl f d).1 v → (okFl f (d + 1)).1 v) ∧ (∀ v, (okFl f d).2 v → (okFl f (d + 1)).2 v)
  | 0 => ⟨fun _ h => h.elim, fun _ h => h.elim⟩
  | d + 1 => by
    obtain ⟨i1, i2⟩ := okFl_up (f := f) d
    refine ⟨fun v h => ⟨h.1, fun c hc => ⟨(h.2 c hc).1, ?_⟩⟩, fun v h => ⟨h.1, fun e he => ⟨(h.2 e he).1, ?_⟩⟩⟩
    · obtain ⟨h1, h2, h3, h4⟩ := (h.2 c hc).2
      exact ⟨h1, h2, fun z => i1 _ (h3 z), fun z => ⟨fun y => i1 _ ((h4 z).1 y), fun y => i2 _ ((h4 z).2 y)⟩⟩
    · obtain ⟨h1, h2⟩ := (h.2 e he).2
      exact ⟨fun z => ⟨(h1 z).1, (h1 z).2.1, fun i hi => ⟨((h1 z).2.2 i hi).1, i2 _ ((h1 z).2.2 i hi).2⟩⟩, fun z => ⟨(h2 z).1, fun y => i1 _ ((h2 z).2 y)⟩⟩
theorem fI_cg {P Q : Nat → Bool} : ∀ {X : List Nat} {k : Nat}, (∀ x ∈ X, P x = Q x) → fI P X k = fI Q X k
  | [], _, _ => rfl
  | x :: X, k, h => by
    unfold fI
    rw [h x List.mem_cons_self, fI_cg (fun y hy => h y (List.mem_cons_of_mem _ hy))]
/-- the class's matcher and the reference's say the same -/
theorem fI_ev {f : Nat → Nat} {v a : Nat} (h : (okFl f 17).2 v) (hb : bxW f v) (ha : okV f 16 3 a) : fI (fun e => clS f (ecF f (17 - 1)).1 (ecF f (17 - 1)).2 e a) (els f v) 0 = fI (fun e => EH f (evF f 16).1 (evF f 16).2 e a) (els f v) 0 := by
  obtain ⟨h1, h2⟩ := ec_ev (f := f) 16
  refine fI_cg (fun e he => ?_)
  obtain ⟨e1, e2, e3, e4, e5⟩ := hb.el e he
  exact clS_c h1 h2 (okEl.w (h.2 e he).2 e5) e1 e3 ha
theorem has_y {nn cn : Nat} (h : nn ≤ cn) (hc : cn ≤ 2000) : decide (¬ nI nn < 0 ∧ nI nn ≤ nI cn) = true := decide_eq_true ⟨nI_nn (by omega), nI_le h (by omega)⟩
theorem va_up_some {sv : Nat → Nat} {i v : Nat} : ∀ j, va_up (fun j => some (sv j)) i (some v) j = some (upN sv i v j) := by
  intro j
  unfold va_up upN
  by_cases h : j = i
  · simp [h]
  · simp [h]
/-- a filter as it has been made, told for every way to lay its bytes -/
def MkAll (G : zG) (H : Heap) (g : Nat → Nat) (nb mk fl rt ca c0 vl hv lo hi wa : Nat) : Prop := (vl < hv ∧ hv ≤ mk ∧ mk < fl ∧ fl < rt ∧ rt < ca ∧ ca < lo ∧ lo ≤ hi) ∧ ∀ f2 c, shB g f2 c nb → c ≤ 16000 → (∀ i, f2 i < 256) → ∃ T : cS, MKs G H mk fl rt ca c0 (pfc c) T ∧ eqS T ((ckF f2 16).2 c (0, wa, 0, 0, 0)) ∧ (T.1 = 0 → ∃ rs : List Nat, zO G H rt 5 (rlF 1 false vl none rs.head? rs.getLast? none) ∧ (RuL G H f2 (pfc c) (fun q => vl ≤ q ∧ q < hv) 16).2 lo hi rs (els f2 c))
theorem MkAll.keep {G : zG} {B : Nat → Prop} {H H1 : Heap} {g : Nat → Nat} {nb mk fl rt ca c0 vl hv lo hi wa : Nat} (h : MkAll G H g nb mk fl rt ca c0 vl hv lo hi wa) (k : zKp B H H1) (hb : ∀ q, (vl ≤ q ∧ q < hi) ∨ q < cB G → ¬ B q) : MkAll G H1 g nb mk fl rt ca c0 vl hv lo hi wa := by
  obtain ⟨⟨o1, o2, o3, o4, o5, o6, o7⟩, h⟩ := h
  refine ⟨⟨o1, o2, o3, o4, o5, o6, o7⟩, fun f2 c a1 a2 a3 => ?_⟩
  obtain ⟨T, h1, h2, h3⟩ := h f2 c a1 a2 a3
  refine ⟨T, h1.keep k ⟨hb _ (Or.inl (by omega)), hb _ (Or.inl (by omega)), hb _ (Or.inl (by omega))⟩, h2, fun z => ?_⟩
  obtain ⟨rs, h4, h5⟩ := h3 z
  exact ⟨rs, h4.keep k (hb _ (Or.inl (by omega))), (RuL_keep k (fun q hq => hb q (hq.elim (fun y => Or.inl (by omega)) Or.inr)) 16).2 _ _ _ _ (fun q hq => hb q (Or.inl (by omega))) h5⟩
theorem sInv_0 (wa : Nat) : sInv (0, wa, 0, 0, 0) := ⟨by show 0 < 6; decide, by show 0 ≤ 102; decide, fun _ => by show 0 ≤ 100; decide⟩
theorem ck_6 (f : Nat → Nat) (c wa : Nat) : ((ckF f 16).2 c (0, wa, 0, 0, 0)).1 < 6 := ((ckF_inv f 16).2 c _ (sInv_0 wa) rfl).1
theorem is4_nat {x : Int32} (h : is4i x = true) : ∃ i, i < 4 ∧ x = nI i := by
  have h1 := of_decide_eq_true h
  obtain ⟨j, hj, e⟩ := nI_of h1.1
  subst e
  refine ⟨j, ?_, rfl⟩
  have h2 := Int32.lt_iff_toInt_lt.mp h1.2
  rw [nI_toInt hj, show (4 : Int32).toInt = 4 by decide] at h2
  omega
theorem is4_y {i : Nat} (h : i < 4) : is4i (nI i) = true := is4 h
theorem le_nat {y : Int32} {cn : Nat} (hc : cn ≤ 2000) (h : ¬ y < 0 ∧ y ≤ nI cn) : ∃ n, n ≤ cn ∧ y = nI n := nI_of2 (nI_toInt (by omega)) h.1 h.2
