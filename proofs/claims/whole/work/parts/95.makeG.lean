/-! ===== joins and paths made: words ===== -/
noncomputable abbrev gJ (f : Nat → Nat) (d : Nat) : eS := fun i T => if f i = 3 then (ckF f d).2 (vo f i) T else sSay T 2 i
theorem gJ_inv (f : Nat → Nat) (d i : Nat) (T : cS) (hT : sInv T) (hT0 : T.1 = 0) : sInv (gJ f d i T) := by
  show sInv (if f i = 3 then (ckF f d).2 (vo f i) T else sSay T 2 i)
  split
  · exact (ckF_inv f d).2 _ _ hT hT0
  · exact hT.say ⟨by decide, by decide⟩ i
theorem gJ_3 {f : Nat → Nat} {d i : Nat} {T : cS} (h : f i = 3) : gJ f d i T = (ckF f d).2 (vo f i) T := if_pos h
theorem gJ_n {f : Nat → Nat} {d i : Nat} {T : cS} (h : f i ≠ 3) : gJ f d i T = sSay T 2 i := if_neg h
theorem jd_fin {G : zG} {H : Heap} {f : Nat → Nat} {pf : Nat → Int32} {Z : Nat → Prop} {d lo hi0 hi2 r ev i : Nat} {rs rs1 ts : List Nat} (hT : zT9 (rPk9 G f pf Z d) H (some r) lo hi0 rs ts) (h1 : zO G H r 5 (rlF 1 false ev none rs1.head? rs1.getLast? none)) (hlo : hi0 ≤ r) (hr : r < hi2) (hV : VN G H f pf Z ev i) (hF : (RuL G H f pf Z d).2 (r + 1) hi2 rs1 (els f (vo f i))) : zR9 (rPk9 G f pf Z d) H lo hi2 (rs ++ [r]) (ts ++ [i]) :=
  kidT_app hT (by omega) (fun l2 h2 h3 => (rK_P G f pf Z d).2.2.2.2 H _ _ _ _ _ _ h2 h3) ((rK_P G f pf Z d).1 H) ⟨ev, rs1, h1, hlo, hr, hV, hF⟩
theorem jn_fin {G : zG} {H : Heap} {f : Nat → Nat} {pf : Nat → Int32} {Z : Nat → Prop} {d lo hi0 hi2 r ev e : Nat} {rs rs1 ts : List Nat} (hj : f (e + 1) = 36) (hT : zT9 (rFk9 G f pf Z d) H (some r) lo hi0 rs ts) (h1 : zO G H r 5 (rlF (if isA f e wAnd = true then 2 else 3) (isA f e wNor) ev none rs1.head? rs1.getLast? none)) (hlo : hi0 ≤ r) (hr : r < hi2) (hV : VN G H f pf Z ev e) (hF : zR9 (rPk9 G f pf Z d) H (r + 1) hi2 rs1 (els f (vo f e))) : zR9 (rFk9 G f pf Z d) H lo hi2 (rs ++ [r]) (ts ++ [e]) :=
  kidT_app hT (by omega) (fun l2 h2 h3 => (rK_F G f pf Z d).2.2.2.2 H _ _ _ _ _ _ h2 h3) ((rK_F G f pf Z d).1 H) (by show RFn G H f pf Z d hi0 r hi2 e none; unfold RFn; rw [if_pos hj]; exact ⟨ev, rs1, h1, hlo, hr, hV, hF⟩)
theorem pa_fin {G : zG} {H : Heap} {f : Nat → Nat} {pf : Nat → Int32} {Z : Nat → Prop} {d lo hi0 hi2 r ev e sa : Nat} {rs rs1 ts : List Nat} (hj : f (e + 1) ≠ 36) (hT : zT9 (rFk9 G f pf Z d) H (some r) lo hi0 rs ts) (h1 : zO G H r 5 (rlF 4 false ev (some sa) rs1.head? rs1.getLast? none)) (hlo : hi0 ≤ r) (hr : r < hi2) (hV : VN G H f pf Z ev e) (hS : Spt G H (fun q => Z q ∨ (hi0 ≤ q ∧ q < r) ∨ q < cB G) f 9 (some sa) (e + 1)) (hC : isC f (f e) (vo f e) = true → (RuL G H f pf Z d).1 (r + 1) hi2 rs1 (conds f e)) (hA : isC f (f e) (vo f e) = false → zR9 (rCk9 G f pf Z d) H (r + 1) hi2 rs1 [(5, false, e)]) : zR9 (rFk9 G f pf Z d) H lo hi2 (rs ++ [r]) (ts ++ [e]) :=
  kidT_app hT (by omega) (fun l2 h2 h3 => (rK_F G f pf Z d).2.2.2.2 H _ _ _ _ _ _ h2 h3) ((rK_F G f pf Z d).1 H) (by show RFn G H f pf Z d hi0 r hi2 e none; unfold RFn; rw [if_neg hj]; exact ⟨ev, rs1, sa, h1, hlo, hr, hV, hS, hC, hA⟩)
