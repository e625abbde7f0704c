/-! ===== one condition made: words ===== -/
theorem csG_lt (f : Nat → Nat) (c : Nat) : csG f c < 16 := by
  unfold csG cS1 oS1 eS1
  (repeat' split) <;> omega
theorem eqS_cnt {T : cS} {more e : Nat} (h : T.1 ≠ 0) : eqS T (sCnt T more e) := by
  unfold sCnt
  by_cases z : T.2.2.1 + more ≤ 100
  · rw [if_pos z]
    exact ⟨rfl, fun _ => rfl, fun q => absurd q h⟩
  · rw [if_neg z]
    unfold sSay
    rw [if_pos h]
    exact ⟨rfl, fun _ => rfl, fun q => absurd q h⟩
theorem sSay_1 {S : cS} {why e : Nat} (h0 : S.1 = 0) : sSay S why e = (why, e, S.2.2) := by unfold sSay; rw [if_neg (fun z => z h0)]
theorem kc_1 {f : Nat → Nat} {kc kf : eS} {c : Nat} {S : cS} (h0 : S.1 = 0) (h : coN f c = 0) : eqS (sSay S 1 c) (kCond f kc kf c S) := by
  have e : qCond f c S = sCnt (sSay S 1 c) 1 c := by unfold qCond; rw [if_pos h]
  have hw : (sSay S 1 c).1 ≠ 0 := sSay_w (by decide)
  unfold kCond
  rw [e, if_pos (sCnt_w hw)]
  exact eqS_cnt hw
theorem kc_4 {f : Nat → Nat} {kc kf : eS} {c : Nat} {S : cS} (h : coN f c ≠ 0) (hR : isR f (coN f c) (f c) (vo f c) = false) : eqS (sSay S 4 c) (kCond f kc kf c S) := by
  have e : qCond f c S = sCnt (sSay S 4 c) 1 c := by unfold qCond; rw [if_neg h, if_neg (by rw [hR]; decide)]
  have hw : (sSay S 4 c).1 ≠ 0 := sSay_w (by decide)
  unfold kCond
  rw [e, if_pos (sCnt_w hw)]
  exact eqS_cnt hw
theorem kc_q {f : Nat → Nat} {c : Nat} {S : cS} (h : coN f c ≠ 0) (hR : isR f (coN f c) (f c) (vo f c) = true) : qCond f c S = sCnt S 1 c := by unfold qCond; rw [if_neg h, if_pos hR]
theorem kc_5 {f : Nat → Nat} {kc kf : eS} {c : Nat} {S : cS} (h0 : S.1 = 0) (h : coN f c ≠ 0) (hR : isR f (coN f c) (f c) (vo f c) = true) (hn : ¬ S.2.2.1 + 1 ≤ 100) : kCond f kc kf c S = sCnt S 1 c ∧ (sCnt S 1 c).1 ≠ 0 := by
  have hw : (sCnt S 1 c).1 ≠ 0 := by rw [sCnt_n hn]; exact sSay_w (by decide)
  unfold kCond
  rw [kc_q h hR, if_pos hw]
  exact ⟨rfl, hw⟩
theorem kc_n {f : Nat → Nat} {kc kf : eS} {c : Nat} {S : cS} (h0 : S.1 = 0) (h : coN f c ≠ 0) (hR : isR f (coN f c) (f c) (vo f c) = true) (hn : S.2.2.1 + 1 ≤ 100) : kCond f kc kf c S = if coN f c = 12 then kc (vo f c) (sCnt S 1 c) else if coN f c = 11 then kElem f kc kf c (sCnt S 1 c) else sCnt S 1 c := by
  have hw : (sCnt S 1 c).1 = 0 := by rw [sCnt_y hn]; exact h0
  unfold kCond
  rw [kc_q h hR, if_neg (fun z => z hw)]
theorem sgN_13 {f : Nat → Nat} {c : Nat} (h : sgN f c = 13) : coN f c = 11 ∧ asC f (vo f c) = true := by
  have := coN_lt f c
  unfold sgN at h
  (repeat' split at h) <;> first | omega | (exact ⟨by omega, by assumption⟩)
theorem sgN_14 {f : Nat → Nat} {c : Nat} (h : sgN f c = 14) : coN f c = 11 ∧ ¬ asC f (vo f c) = true := by
  have := coN_lt f c
  unfold sgN at h
  (repeat' split at h) <;> first | omega | (exact ⟨by omega, by assumption⟩)
theorem sgN_15' {f : Nat → Nat} {c : Nat} (h0 : coN f c ≠ 0) (h : sgN f c = 15) : coN f c = 12 := by
  have := coN_lt f c
  unfold sgN at h
  (repeat' split at h) <;> omega
theorem kc_15 {f : Nat → Nat} {kc kf : eS} {c : Nat} {S : cS} (h0 : S.1 = 0) (h : coN f c ≠ 0) (hR : isR f (coN f c) (f c) (vo f c) = true) (hn : S.2.2.1 + 1 ≤ 100) (hs : sgN f c = 15 ∨ sgN f c = 13) : kCond f kc kf c S = kc (vo f c) (sCnt S 1 c) ∧ f c = 3 := by
  rw [kc_n h0 h hR hn]
  rcases hs with hs | hs
  · have e := sgN_15' h hs
    rw [if_pos e]
    exact ⟨rfl, isC_3 (isR_12 hR e)⟩
  · obtain ⟨e, e2⟩ := sgN_13 hs
    rw [if_neg (by omega), if_pos e]
    unfold kElem
    rw [if_pos e2]
    exact ⟨rfl, isR_11 hR e⟩
theorem kc_14 {f : Nat → Nat} {kc kf : eS} {c : Nat} {S : cS} (h0 : S.1 = 0) (h : coN f c ≠ 0) (hR : isR f (coN f c) (f c) (vo f c) = true) (hn : S.2.2.1 + 1 ≤ 100) (hs : sgN f c = 14) : kCond f kc kf c S = kf (vo f c) (sCnt S 1 c) ∧ f c = 3 := by
  rw [kc_n h0 h hR hn]
  obtain ⟨e, e2⟩ := sgN_14 hs
  rw [if_neg (by omega), if_pos e]
  unfold kElem
  rw [if_neg e2]
  exact ⟨rfl, isR_11 hR e⟩
theorem kc_o {f : Nat → Nat} {kc kf : eS} {c : Nat} {S : cS} (h0 : S.1 = 0) (h : coN f c ≠ 0) (hR : isR f (coN f c) (f c) (vo f c) = true) (hn : S.2.2.1 + 1 ≤ 100) (h15 : sgN f c ≠ 15) (h13 : sgN f c ≠ 13) (h14 : sgN f c ≠ 14) : kCond f kc kf c S = sCnt S 1 c := by
  rw [kc_n h0 h hR hn]
  have e1 : coN f c ≠ 12 := fun z => h15 (by unfold sgN; rw [z]; rfl)
  have e2 : coN f c ≠ 11 := fun z => by
    have e : sgN f c = (if asC f (vo f c) = true then 13 else 14) := by unfold sgN; rw [z]; rfl
    split at e
    · exact h13 e
    · exact h14 e
  rw [if_neg e1, if_neg e2]
theorem kidR_lo {α : Type} {Nd : Nat → Nat → Nat → α → Option Nat → Prop} {lo l3 hi : Nat} {vs : List Nat} {xs : List α} (hm : ∀ l2 l3 v mid x n, l3 ≤ l2 → Nd l2 v mid x n → Nd l3 v mid x n) (h : kidR Nd lo hi vs xs) (hl : l3 ≤ lo) : kidR Nd l3 hi vs xs := by
  cases vs with
  | nil =>
    have e := kidR_nil h
    subst e
    exact Nat.le_trans hl (show lo ≤ hi from h)
  | cons v vs =>
    obtain ⟨x, xs1, rfl, mid, h1, h2, h3⟩ := kidR_cons h
    exact ⟨mid, h1, hm _ _ _ _ _ _ hl h2, h3⟩
theorem RuL_lo {G : zG} {H : Heap} {f : Nat → Nat} {pf : Nat → Int32} {Z : Nat → Prop} {d lo l3 hi : Nat} {rs : List Nat} {ts : List cT} (h : (RuL G H f pf Z d).1 lo hi rs ts) (hl : l3 ≤ lo) : (RuL G H f pf Z d).1 l3 hi rs ts := by
  cases d with
  | zero => exact h
  | succ d => exact kidR_lo (fun l2 l3 v mid x n a b => (rK_C G f pf Z d).2.2.2.2 H l2 l3 v mid x n a b) h hl
theorem RuF_lo {G : zG} {H : Heap} {f : Nat → Nat} {pf : Nat → Int32} {Z : Nat → Prop} {d lo l3 hi : Nat} {rs xs : List Nat} (h : (RuL G H f pf Z d).2 lo hi rs xs) (hl : l3 ≤ lo) : (RuL G H f pf Z d).2 l3 hi rs xs := by
  cases d with
  | zero => exact h
  | succ d => exact kidR_lo (fun l2 l3 v mid x n a b => (rK_F G f pf Z d).2.2.2.2 H l2 l3 v mid x n a b) h hl
theorem ac_fin {G : zG} {H : Heap} {f : Nat → Nat} {pf : Nat → Int32} {Z : Nat → Prop} {d lo hi0 hi2 r ev c : Nat} {rs rs1 : List Nat} {ts : List cT} (hT : zT9 (rCk9 G f pf Z d) H (some r) lo hi0 rs ts) (h1 : zO G H r 5 (rlF (sgN f c) (ngN f c) ev none rs1.head? rs1.getLast? none)) (hlo : hi0 ≤ r) (hr : r < hi2) (hV : VN G H f pf Z ev c) (hs : sgN f c < 16) (hC : sgN f c = 15 ∨ sgN f c = 13 → (RuL G H f pf Z d).1 (r + 1) hi2 rs1 (conds f c)) (hF : sgN f c = 14 → (RuL G H f pf Z d).2 (r + 1) hi2 rs1 (els f (vo f c))) : zR9 (rCk9 G f pf Z d) H lo hi2 (rs ++ [r]) (ts ++ [cnd f c]) :=
  kidT_app hT (by omega) (fun l2 h2 h3 => (rK_C G f pf Z d).2.2.2.2 H _ _ _ _ _ _ h2 h3) ((rK_C G f pf Z d).1 H) ⟨ev, rs1, h1, hlo, hr, hV, hs, hC, hF⟩
theorem cE1_ge {K : Nat} {f sub : Nat → Nat} {x : Nat} : K ≤ cE1 K f sub x := by unfold cE1; omega
theorem cE1_b {K : Nat} {f sub : Nat → Nat} {x : Nat} (h : f x = 3 ∨ f x = 4) : cE1 K f sub x = K + (ne f x - (x + 1)) + sub (vo f x) := by unfold cE1; rw [if_pos h]
theorem sInv_c1 {S : cS} (h : sInv S) (h0 : S.1 = 0) (c : Nat) : sInv (sCnt S 1 c) := h.cnt (h.2.2 h0) (by decide) c
