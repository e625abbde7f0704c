/-! ===== joins and paths made: words ===== -/
noncomputable abbrev gJ (f : Nat → Nat) (d : Nat) : eS := fun i T => if f i = 3 then (ckF f d).2 (vo f i) T else sSay T 2 i
theorem gJ_inv (f : Nat → Nat) (d i : Nat) (T : cS) (hT : sInv T) (hT0 : T.1 = 0) : sInv (gJ f d i T) := by
  show sInv (if f i = 3 then (ckF f d).2 (vo f i) T else sSay T 2 i)
  split
  · exact (ckF_inv f d).2 _ _ hT hT0
  · exact hT.say ⟨by decide, by decide⟩ i
theorem gJ_3 {f : Nat → Nat} {d i : Nat} {T : cS} (h : f i = 3) : gJ f d i T = (ckF f d).2 (vo f i) T := if_pos h
theorem gJ_n {f : Nat → Nat} {d i : Nat} {T : cS} (h : f i ≠ 3) : gJ f d i T = sSay T 2 i := if_neg h
theorem jd_fin {G : zG} {H : Heap} {f : Nat → Nat} {pf : Nat → Int32} {Z : Nat → Prop} {d lo hi0 hi2 r ev i : Nat} {rs rs1 ts : List Nat} (hT : zT9 (rPk9 G f pf Z d) H (some r) lo hi0 rs ts) (h1 : zO G H r 5 (rlF 1 false ev none rs1.head? rs1.getLast? none)) (hlo : hi0 ≤ r) (hr : r < hi2) (hV : VN G H f pf Z ev i) (hF : (RuL G H f pf Z d).2 (r + 1) hi2 rs1 (els f (vo f i))) : zR9 (rPk9 G f pf Z d) H lo hi2 (rs ++ [r]) (ts ++ [i]) :=
  kidT_app hT (by omega) (fun l2 h2 h3 => (rK_P G f pf Z d).2.2.2.2 H _ _ _ _ _ _ h2 h3) ((rK_P G f pf Z d).1 H) ⟨ev, rs1, h1, hlo, hr, hV, hF⟩
theorem jn_fin {G : zG} {H : Heap} {f : Nat → Nat} {pf : Nat → Int32} {Z : Nat → Prop} {d lo hi0 hi2 r ev e : Nat} {rs rs1 ts : List Nat} (hj : f (e + 1) = 36) (hT : zT9 (rFk9 G f pf Z d) H (some r) lo hi0 rs ts) (h1 : zO G H r 5 (rlF (if isA f e wAnd = true then 2 else 3) (isA f e wNor) ev none rs1.head? rs1.getLast? none)) (hlo : hi0 ≤ r) (hr : r < hi2) (hV : VN G H f pf Z ev e) (hF : zR9 (rPk9 G f pf Z d) H (r + 1) hi2 rs1 (els f (vo f e))) : zR9 (rFk9 G f pf Z d) H lo hi2 (rs ++ [r]) (ts ++ [e]) :=
  kidT_app hT (by omega) (fun l2 h2 h3 => (rK_F G f pf Z d).2.2.2.2 H _ _ _ _ _ _ h2 h3) ((rK_F G f pf Z d).1 H) (by show RFn G H f pf Z d hi0 r hi2 e none; unfold RFn; rw [if_pos hj]; exact ⟨ev, rs1, h1, hlo, hr, hV, hF⟩)
theorem pa_fin {G : zG} {H : Heap} {f : Nat → Nat} {pf : Nat → Int32} {Z : Nat → Prop} {d lo hi0 hi2 r ev e sa : Nat} {rs rs1 ts : List Nat} (hj : f (e + 1) ≠ 36) (hT : zT9 (rFk9 G f pf Z d) H (some r) lo hi0 rs ts) (h1 : zO G H r 5 (rlF 4 false ev (some sa) rs1.head? rs1.getLast? none)) (hlo : hi0 ≤ r) (hr : r < hi2) (hV : VN G H f pf Z ev e) (hS : Spt G H (fun q => Z q ∨ (hi0 ≤ q ∧ q < r) ∨ q < cB G) f 9 (some sa) (e + 1)) (hC : isC f (f e) (vo f e) = true → (RuL G H f pf Z d).1 (r + 1) hi2 rs1 (conds f e)) (hA : isC f (f e) (vo f e) = false → zR9 (rCk9 G f pf Z d) H (r + 1) hi2 rs1 [(5, false, e)]) : zR9 (rFk9 G f pf Z d) H lo hi2 (rs ++ [r]) (ts ++ [e]) :=
  kidT_app hT (by omega) (fun l2 h2 h3 => (rK_F G f pf Z d).2.2.2.2 H _ _ _ _ _ _ h2 h3) ((rK_F G f pf Z d).1 H) (by show RFn G H f pf Z d hi0 r hi2 e none; unfold RFn; rw [if_neg hj]; exact ⟨ev, rs1, sa, h1, hlo, hr, hV, hS, hC, hA⟩)
theorem fi_len {f : Nat → Nat} {d a : Nat} (h : okV f d 4 a) : ((els f a).length = 0 ↔ ¬ 0 < fi f a) := by
  obtain ⟨d', rfl⟩ := h.s (Or.inr rfl)
  have hb := (h.2 (Or.inr rfl)).1
  cases hE : els f a with
  | nil => exact ⟨fun _ => by rw [els_nil hb hE]; exact Nat.lt_irrefl 0, fun _ => rfl⟩
  | cons x xs =>
    obtain ⟨h1, h2, -⟩ := els_cons hb hE
    exact ⟨fun z => by simp at z, fun z => absurd (by omega) z⟩
theorem kj_1 {f : Nat → Nat} {kc kf : eS} {e : Nat} {S : cS} (hj : f (e + 1) = 36) (h : isJ f e = false) : eqS (sSay S 1 e) (kEl f kc kf e S) := by
  unfold kEl kJoin
  rw [if_pos hj, h, if_neg (by decide)]
  exact eqS.rf _
theorem kj_2 {f : Nat → Nat} {kc kf : eS} {e : Nat} {S : cS} (hj : f (e + 1) = 36) (h : isJ f e = true) (hn : ¬ (f e = 4 ∧ 0 < fi f (vo f e))) : eqS (sSay S 2 e) (kEl f kc kf e S) := by
  have hw : (sSay S 2 e).1 ≠ 0 := sSay_w (by decide)
  unfold kEl kJoin
  rw [if_pos hj, h, if_pos rfl, if_neg hn, if_pos (sCnt_w hw)]
  exact eqS_cnt hw
theorem kj_5 {f : Nat → Nat} {kc kf : eS} {e : Nat} {S : cS} (hj : f (e + 1) = 36) (h : isJ f e = true) (hy : f e = 4 ∧ 0 < fi f (vo f e)) (hn : ¬ S.2.2.1 + 1 ≤ 100) : kEl f kc kf e S = sCnt S 1 e ∧ (sCnt S 1 e).1 ≠ 0 := by
  have hw : (sCnt S 1 e).1 ≠ 0 := by rw [sCnt_n hn]; exact sSay_w (by decide)
  unfold kEl kJoin
  rw [if_pos hj, h, if_pos rfl, if_pos hy, if_pos hw]
  exact ⟨rfl, hw⟩
theorem kj_y {f : Nat → Nat} {kc : eS} {d e : Nat} {S : cS} (h0 : S.1 = 0) (hj : f (e + 1) = 36) (h : isJ f e = true) (hy : f e = 4 ∧ 0 < fi f (vo f e)) (hn : S.2.2.1 + 1 ≤ 100) : kEl f kc (ckF f d).2 e S = foldS (gJ f d) (els f (vo f e)) (sCnt S 1 e) := by
  have hw : (sCnt S 1 e).1 = 0 := by rw [sCnt_y hn]; exact h0
  unfold kEl kJoin
  rw [if_pos hj, h, if_pos rfl, if_pos hy, if_neg (fun z => z hw)]
theorem jS_s {f : Nat → Nat} {e : Nat} (hz : f (ne f e) = 0) (h : jS (nL f e) ≠ 0) : jS (nL f e) = if isA f e wAnd = true then 2 else 3 := by
  rw [isA_eq hz (by decide), show wAnd = ltr "$and" by decide]
  unfold jS at h ⊢
  split
  · rfl
  · split
    · rfl
    · rename_i z1 z2
      rw [if_neg z1, if_neg z2] at h
      exact absurd rfl h
theorem jS_n {f : Nat → Nat} {e : Nat} (hz : f (ne f e) = 0) : isA f e wNor = decide (nL f e = ltr "$nor") := isA_eq hz (by decide)
theorem jS_lt (w : List Nat) : jS w < 2 ^ 31 := by unfold jS; (repeat' split) <;> decide
theorem isJ_0 {f : Nat → Nat} {e : Nat} (hz : f (ne f e) = 0) (h : jS (nL f e) = 0) : isJ f e = false := by rw [isJ_jS hz, decide_eq_false (fun z => z h)]
theorem isJ_1 {f : Nat → Nat} {e : Nat} (hz : f (ne f e) = 0) (h : jS (nL f e) ≠ 0) : isJ f e = true := by rw [isJ_jS hz, decide_eq_true h]
theorem nz_fuel (f : Nat → Nat) : ∀ k q, nz f k q ≤ q + k
  | 0, q => Nat.le_refl _
  | k + 1, q => by
    unfold nz
    split
    · omega
    · have := nz_fuel f k (q + 1)
      omega
theorem ne_fuel (f : Nat → Nat) (e : Nat) : ne f e ≤ e + 2001 := by
  have := nz_fuel f 2000 (e + 1)
  unfold ne
  omega
theorem stN_31 (f : Nat → Nat) (e : Nat) : stN f e < 2 ^ 31 := by
  unfold stN
  split
  · rename_i h; have := h.2; omega
  · decide
theorem eqS.tr {A B C : cS} (h : eqS A B) (h2 : eqS B C) : eqS A C := by
  refine ⟨h.1.trans h2.1, fun z => (h.2.1 z).trans (h2.2.1 (by rw [← h.1]; exact z)), fun z => ?_⟩
  have e := h.2.2 z
  rw [e]
  exact h2.2.2 (by rw [← h.1]; exact z)
theorem kp_3 {f : Nat → Nat} {kc kf : eS} {e : Nat} {S : cS} (h0 : S.1 = 0) (hj : f (e + 1) ≠ 36) (h : stN f e = 0) : eqS (sSay S 3 e) (kEl f kc kf e S) := by
  have e1 : pPath f e S = (3, e, S.2.2.1, S.2.2.2.1 + 1, S.2.2.2.2 + stN f e) := by
    unfold pPath
    rw [if_pos h, sSay_1 h0]
  have hw : (pPath f e S).1 ≠ 0 := by rw [e1]; exact (by decide : (3 : Nat) ≠ 0)
  have g : eqS (sSay S 3 e) (pPath f e S) := by
    rw [e1, sSay_1 h0]
    exact ⟨rfl, fun _ => rfl, fun z => absurd (show (3 : Nat) = 0 from z) (by decide)⟩
  unfold kEl kPath
  rw [if_neg hj]
  split
  · rw [if_neg (sCnt_w hw)]
    exact g.tr (eqS_cnt hw)
  · exact g.tr (eqS_cnt hw)
theorem pP_y {f : Nat → Nat} {e : Nat} {S : cS} (h : stN f e ≠ 0) : pPath f e S = (S.1, S.2.1, S.2.2.1, S.2.2.2.1 + 1, S.2.2.2.2 + stN f e) := by
  unfold pPath
  rw [if_neg h]
theorem kp_s {f : Nat → Nat} {e more : Nat} {S : cS} (h : stN f e ≠ 0) (hn : S.2.2.1 + more ≤ 100) : sCnt (pPath f e S) more e = (S.1, S.2.1, S.2.2.1 + more, S.2.2.2.1 + 1, S.2.2.2.2 + stN f e) := by
  rw [pP_y h, sCnt_y (S := (S.1, S.2.1, S.2.2.1, S.2.2.2.1 + 1, S.2.2.2.2 + stN f e)) hn]
theorem kp_n {f : Nat → Nat} {e more : Nat} {S : cS} (h0 : S.1 = 0) (h : stN f e ≠ 0) (hn : ¬ S.2.2.1 + more ≤ 100) : eqS (sCnt S more e) (sCnt (pPath f e S) more e) ∧ (sCnt S more e).1 ≠ 0 := by
  have e1 : sCnt S more e = (5, e, S.2.2.1 + more, S.2.2.2) := by rw [sCnt_n hn]; exact sSay_1 h0
  have e2 : sCnt (pPath f e S) more e = (5, e, S.2.2.1 + more, S.2.2.2.1 + 1, S.2.2.2.2 + stN f e) := by rw [pP_y h, sCnt_n (S := (S.1, S.2.1, S.2.2.1, S.2.2.2.1 + 1, S.2.2.2.2 + stN f e)) hn]; exact sSay_1 h0
  rw [e1, e2]
  exact ⟨⟨rfl, fun _ => rfl, fun z => absurd (show (5 : Nat) = 0 from z) (by decide)⟩, by show (5 : Nat) ≠ 0; decide⟩
theorem kp_5 {f : Nat → Nat} {kc kf : eS} {e : Nat} {S : cS} (h0 : S.1 = 0) (hj : f (e + 1) ≠ 36) (h : stN f e ≠ 0) (hc : isC f (f e) (vo f e) = true) (hn : ¬ S.2.2.1 + 1 ≤ 100) : eqS (sCnt S 1 e) (kEl f kc kf e S) ∧ (sCnt S 1 e).1 ≠ 0 := by
  obtain ⟨g1, g2⟩ := kp_n h0 h hn
  refine ⟨?_, g2⟩
  unfold kEl kPath
  rw [if_neg hj, if_pos hc, if_neg (by rw [← g1.1]; exact g2)]
  exact g1
theorem kp_5a {f : Nat → Nat} {kc kf : eS} {e : Nat} {S : cS} (h0 : S.1 = 0) (hj : f (e + 1) ≠ 36) (h : stN f e ≠ 0) (hc : isC f (f e) (vo f e) = false) (hn : ¬ S.2.2.1 + 2 ≤ 100) : eqS (sCnt S 2 e) (kEl f kc kf e S) ∧ (sCnt S 2 e).1 ≠ 0 := by
  obtain ⟨g1, g2⟩ := kp_n h0 h hn
  refine ⟨?_, g2⟩
  unfold kEl kPath
  rw [if_neg hj, if_neg (by rw [hc]; decide)]
  exact g1
theorem kp_a {f : Nat → Nat} {kc kf : eS} {e : Nat} {S : cS} (hj : f (e + 1) ≠ 36) (h : stN f e ≠ 0) (hc : isC f (f e) (vo f e) = false) (hn : S.2.2.1 + 2 ≤ 100) : kEl f kc kf e S = (S.1, S.2.1, S.2.2.1 + 2, S.2.2.2.1 + 1, S.2.2.2.2 + stN f e) := by
  unfold kEl kPath
  rw [if_neg hj, if_neg (by rw [hc]; decide), kp_s h hn]
theorem kp_c {f : Nat → Nat} {kc kf : eS} {e : Nat} {S : cS} (h0 : S.1 = 0) (hj : f (e + 1) ≠ 36) (h : stN f e ≠ 0) (hc : isC f (f e) (vo f e) = true) (hn : S.2.2.1 + 1 ≤ 100) : kEl f kc kf e S = kc (vo f e) (S.1, S.2.1, S.2.2.1 + 1, S.2.2.2.1 + 1, S.2.2.2.2 + stN f e) := by
  unfold kEl kPath
  rw [if_neg hj, if_pos hc, kp_s h hn, if_pos h0]
theorem kp_i {f : Nat → Nat} {e more : Nat} {S : cS} (hs : sInv S) (h0 : S.1 = 0) (h : stN f e ≠ 0) (hn : S.2.2.1 + more ≤ 100) (hm : more ≤ 2) : sInv (S.1, S.2.1, S.2.2.1 + more, S.2.2.2.1 + 1, S.2.2.2.2 + stN f e) := by
  rw [← kp_s h hn]
  exact (hs.pp h0).1.cnt (hs.pp h0).2 hm e
theorem al_one {G : zG} {H : Heap} {f : Nat → Nat} {pf : Nat → Int32} {Z : Nat → Prop} {d lo r hi ev e : Nat} (h1 : zO G H r 5 (rlF 5 false ev none none none none)) (h2 : lo ≤ r) (h3 : r < hi) (h4 : VN G H f pf Z ev e) : zR9 (rCk9 G f pf Z d) H lo hi [r] [(5, false, e)] :=
  ⟨hi, Nat.le_refl _, ⟨ev, [], h1, h2, h3, h4, by show 5 < 16; decide, fun z => absurd z (by show ¬ (5 = 15 ∨ 5 = 13); decide), fun z => absurd z (by show ¬ 5 = 14; decide)⟩, Nat.le_refl _⟩
theorem spt_zr {G : zG} {H : Heap} {Z : Nat → Prop} {f : Nat → Nat} {n v hv n0 z : Nat} {st : Option Nat} {q : Nat} (h : Spt G H (ZPp G (Zr G v hv) n0 z) f n st q) (hz : ∀ q, v ≤ q → q < hv → Z q) : Spt G H (fun q => Z q ∨ (n0 ≤ q ∧ q < z) ∨ q < cB G) f n st q :=
  h.mono (fun q hq => hq.elim (fun y => y.elim (fun w => Or.inl (hz q (Nat.le_of_lt w.1) w.2)) (fun w => Or.inr (Or.inr w))) Or.inr)
