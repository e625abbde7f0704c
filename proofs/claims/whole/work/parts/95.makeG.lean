/-! ===== joins and paths made: words ===== -/
noncomputable abbrev gJ (f : Nat → Nat) (d : Nat) : eS := fun i T => if f i = 3 then (ckF f d).2 (vo f i) T else sSay T 2 i
theorem gJ_inv (f : Nat → Nat) (d i : Nat) (T : cS) (hT : sInv T) (hT0 : T.1 = 0) : sInv (gJ f d i T) := by
  show sInv (if f i = 3 then (ckF f d).2 (vo f i) T else sSay T 2 i)
  split
  · exact (ckF_inv f d).2 _ _ hT hT0
  · exact hT.say ⟨by decide, by decide⟩ i
theorem gJ_3 {f : Nat → Nat} {d i : Nat} {T : cS} (h : f i = 3) : gJ f d i T = (ckF f d).2 (vo f i) T := if_pos h
theorem gJ_n {f : Nat → Nat} {d i : Nat} {T : cS} (h : f i ≠ 3) : gJ f d i T = sSay T 2 i := if_neg h
theorem jd_fin {G : zG} {H : Heap} {f : Nat → Nat} {pf : Nat → Int32} {Z : Nat → Prop} {d lo hi0 hi2 r ev i : Nat} {rs rs1 ts : List Nat} (hT : zT9 (rPk9 G f pf Z d) H (some r) lo hi0 rs ts) (h1 : zO G H r 5 (rlF 1 false ev none rs1.head? rs1.getLast? none)) (hlo : hi0 ≤ r) (hr : r < hi2) (hV : VN G H f pf Z ev i) (hF : (RuL G H f pf Z d).2 (r + 1) hi2 rs1 (els f (vo f i))) : zR9 (rPk9 G f pf Z d) H lo hi2 (rs ++ [r]) (ts ++ [i]) :=
  kidT_app hT (by omega) (fun l2 h2 h3 => (rK_P G f pf Z d).2.2.2.2 H _ _ _ _ _ _ h2 h3) ((rK_P G f pf Z d).1 H) ⟨ev, rs1, h1, hlo, hr, hV, hF⟩
theorem jn_fin {G : zG} {H : Heap} {f : Nat → Nat} {pf : Nat → Int32} {Z : Nat → Prop} {d lo hi0 hi2 r ev e : Nat} {rs rs1 ts : List Nat} (hj : f (e + 1) = 36) (hT : zT9 (rFk9 G f pf Z d) H (some r) lo hi0 rs ts) (h1 : zO G H r 5 (rlF (if isA f e wAnd = true then 2 else 3) (isA f e wNor) ev none rs1.head? rs1.getLast? none)) (hlo : hi0 ≤ r) (hr : r < hi2) (hV : VN G H f pf Z ev e) (hF : zR9 (rPk9 G f pf Z d) H (r + 1) hi2 rs1 (els f (vo f e))) : zR9 (rFk9 G f pf Z d) H lo hi2 (rs ++ [r]) (ts ++ [e]) :=
  kidT_app hT (by omega) (fun l2 h2 h3 => (rK_F G f pf Z d).2.2.2.2 H _ _ _ _ _ _ h2 h3) ((rK_F G f pf Z d).1 H) (by show RFn G H f pf Z d hi0 r hi2 e none; unfold RFn; rw [if_pos hj]; exact ⟨ev, rs1, h1, hlo, hr, hV, hF⟩)
theorem pa_fin {G : zG} {H : Heap} {f : Nat → Nat} {pf : Nat → Int32} {Z : Nat → Prop} {d lo hi0 hi2 r ev e sa : Nat} {rs rs1 ts : List Nat} (hj : f (e + 1) ≠ 36) (hT : zT9 (rFk9 G f pf Z d) H (some r) lo hi0 rs ts) (h1 : zO G H r 5 (rlF 4 false ev (some sa) rs1.head? rs1.getLast? none)) (hlo : hi0 ≤ r) (hr : r < hi2) (hV : VN G H f pf Z ev e) (hS : Spt G H (fun q => Z q ∨ (hi0 ≤ q ∧ q < r) ∨ q < cB G) f 9 (some sa) (e + 1)) (hC : isC f (f e) (vo f e) = true → (RuL G H f pf Z d).1 (r + 1) hi2 rs1 (conds f e)) (hA : isC f (f e) (vo f e) = false → zR9 (rCk9 G f pf Z d) H (r + 1) hi2 rs1 [(5, false, e)]) : zR9 (rFk9 G f pf Z d) H lo hi2 (rs ++ [r]) (ts ++ [e]) :=
  kidT_app hT (by omega) (fun l2 h2 h3 => (rK_F G f pf Z d).2.2.2.2 H _ _ _ _ _ _ h2 h3) ((rK_F G f pf Z d).1 H) (by show RFn G H f pf Z d hi0 r hi2 e none; unfold RFn; rw [if_neg hj]; exact ⟨ev, rs1, sa, h1, hlo, hr, hV, hS, hC, hA⟩)
theorem fi_len {f : Nat → Nat} {d a : Nat} (h : okV f d 4 a) : ((els f a).length = 0 ↔ ¬ 0 < fi f a) := by
  obtain ⟨d', rfl⟩ := h.s (Or.inr rfl)
  have hb := (h.2 (Or.inr rfl)).1
  cases hE : els f a with
  | nil => exact ⟨fun _ => by rw [els_nil hb hE]; exact Nat.lt_irrefl 0, fun _ => rfl⟩
  | cons x xs =>
    obtain ⟨h1, h2, -⟩ := els_cons hb hE
    exact ⟨fun z => by simp at z, fun z => absurd (by omega) z⟩
theorem kj_1 {f : Nat → Nat} {kc kf : eS} {e : Nat} {S : cS} (hj : f (e + 1) = 36) (h : isJ f e = false) : eqS (sSay S 1 e) (kEl f kc kf e S) := by
  unfold kEl kJoin
  rw [if_pos hj, h, if_neg (by decide)]
  exact eqS.rf _
theorem kj_2 {f : Nat → Nat} {kc kf : eS} {e : Nat} {S : cS} (hj : f (e + 1) = 36) (h : isJ f e = true) (hn : ¬ (f e = 4 ∧ 0 < fi f (vo f e))) : eqS (sSay S 2 e) (kEl f kc kf e S) := by
  have hw : (sSay S 2 e).1 ≠ 0 := sSay_w (by decide)
  unfold kEl kJoin
  rw [if_pos hj, h, if_pos rfl, if_neg hn, if_pos (sCnt_w hw)]
  exact eqS_cnt hw
theorem kj_5 {f : Nat → Nat} {kc kf : eS} {e : Nat} {S : cS} (hj : f (e + 1) = 36) (h : isJ f e = true) (hy : f e = 4 ∧ 0 < fi f (vo f e)) (hn : ¬ S.2.2.1 + 1 ≤ 100) : kEl f kc kf e S = sCnt S 1 e ∧ (sCnt S 1 e).1 ≠ 0 := by
  have hw : (sCnt S 1 e).1 ≠ 0 := by rw [sCnt_n hn]; exact sSay_w (by decide)
  unfold kEl kJoin
  rw [if_pos hj, h, if_pos rfl, if_pos hy, if_pos hw]
  exact ⟨rfl, hw⟩
theorem kj_y {f : Nat → Nat} {kc : eS} {d e : Nat} {S : cS} (h0 : S.1 = 0) (hj : f (e + 1) = 36) (h : isJ f e = true) (hy : f e = 4 ∧ 0 < fi f (vo f e)) (hn : S.2.2.1 + 1 ≤ 100) : kEl f kc (ckF f d).2 e S = foldS (gJ f d) (els f (vo f e)) (sCnt S 1 e) := by
  have hw : (sCnt S 1 e).1 = 0 := by rw [sCnt_y hn]; exact h0
  unfold kEl kJoin
  rw [if_pos hj, h, if_pos rfl, if_pos hy, if_neg (fun z => z hw)]
theorem jS_s {f : Nat → Nat} {e : Nat} (hz : f (ne f e) = 0) (h : jS (nL f e) ≠ 0) : jS (nL f e) = if isA f e wAnd = true then 2 else 3 := by
  rw [isA_eq hz (by decide), show wAnd = ltr "$and" by decide]
  unfold jS at h ⊢
  split
  · rfl
  · split
    · rfl
    · rename_i z1 z2
      rw [if_neg z1, if_neg z2] at h
      exact absurd rfl h
theorem jS_n {f : Nat → Nat} {e : Nat} (hz : f (ne f e) = 0) : isA f e wNor = decide (nL f e = ltr "$nor") := isA_eq hz (by decide)
theorem jS_lt (w : List Nat) : jS w < 2 ^ 31 := by unfold jS; (repeat' split) <;> decide
theorem isJ_0 {f : Nat → Nat} {e : Nat} (hz : f (ne f e) = 0) (h : jS (nL f e) = 0) : isJ f e = false := by rw [isJ_jS hz, decide_eq_false (fun z => z h)]
theorem isJ_1 {f : Nat → Nat} {e : Nat} (hz : f (ne f e) = 0) (h : jS (nL f e) ≠ 0) : isJ f e = true := by rw [isJ_jS hz, decide_eq_true h]
