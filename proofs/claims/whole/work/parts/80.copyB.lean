/-! ===== System.arraycopy of bytes ===== -/
theorem wYl : Cond.methodLink RJ7 150 arraycopyName ∈ zW := zin 647 (by decide +kernel) (by decide +kernel)
theorem wYs : Cond.static arraycopyName ∈ zW := zin 648 (by decide +kernel) (by decide +kernel)
theorem wYn : Cond.native arraycopyName ∈ zW := zin 649 (by decide +kernel) (by decide +kernel)
section ZCP
variable {p : Program} {l : Launch} {e : Env} {R : Room} {s : State} {m : MethodId} {args : Array Value} {below : List Frame} {meth : Method} {c : Code} {H : Heap} {locs : List Loc} {cells slots : Nat} {Q : State → Prop}
variable {cc : ByteArray} {pc : Nat} {ls : Array Slot} {rest : List Value} {A : Nat → Prop} {H0 : Heap}
theorem zx_copyB0 {G : zG} {spI dpI nnI : Int32} (hx : p.tables.exec = Jvm.exec) (hb : c.code = cc) (hml : c.maxLocals = ls.size) {own : String} {index : Nat} (hown : s.vm.findClass own = some m.cls) (hlink : (Cond.methodLink own index arraycopyName).before args s = true) (hnat : (Cond.native arraycopyName).before args s = true) (hstat : (Cond.static arraycopyName).before args s = true) (hini : (Cond.initialized "java/lang/System").before args s = true)
    (hK : zK G s) {a0 a n0 n1 sp n : Nat} (g1 : ¬ spI < 0) (g2 : ¬ dpI < 0) (g3 : ¬ nnI < 0) (t1 : spI.toInt = (sp : Int)) (t2 : dpI.toInt = 0) (t3 : nnI.toInt = (n : Int)) (esp : spI.toNatClampNeg = sp) (e0 : dpI.toNatClampNeg = 0) (en9 : nnI.toNatClampNeg = n) {f g : Nat → Nat} (ha0 : zB G H a0 n0 f) (ha1 : zB G H a n1 g) (h4 : sp + n ≤ n0) (h5 : n ≤ n1) (hn0 : n0 < 2 ^ 31) (hn1 : n1 < 2 ^ 31)
    (hframes : 1 ≤ R.frames) (hlocals : (rest.map fun v => v.category).sum + (nativeFrameWords "java/lang/System" "arraycopy" 5 + 11) ≤ R.locals) (hA : A a) (hS : va_S A H0 H locs) (hdg : decode cc pc = .ok (.invokestatic index, 3))
    (kk : ∀ (H1 : Heap) (locs1 : List Loc), H1.size = H.size → zB G H1 a n1 (fun k => if k < n then f (sp + k) else g k) → zKp (fun q => q = a) H H1 → va_S A H0 H1 locs1 → W p l e R s m args below meth c H1 locs1 cells slots Q (F0 m (pc + 3) ls rest)) : W p l e R s m args below meth c H locs cells slots Q (F0 m pc ls (.int nnI :: .int dpI :: .ref a :: .int spI :: .ref a0 :: rest)) := by
  intro T hT X
  obtain ⟨cs, c1, c2, c3, c4, c5, c6⟩ := ha0
  obtain ⟨cd, d1, d2, d3, d4, d5, d6⟩ := ha1
  obtain ⟨-, k0, hk0, cm0, hkk0⟩ := zBc.arr hK c2 c3
  obtain ⟨-, k1, hk1, cm1, hkk1⟩ := zBc.arr hK d2 d3
  have hlen : (cs.stretch spI.toNatClampNeg nnI.toNatClampNeg).length = n := by simp [Cell.stretch, en9]
  obtain ⟨vm', X', step⟩ := X.arraycopy hx hown hlink hnat hstat hini (src := a0) (dst := a) (cs := cs) (cd := cd) (srcPos := spI) (destPos := dpI) (n := nnI) (by rw [hT]; exact c1) (by rw [hT]; exact d1)
    c3 d3 c4 d4 hk0 hk1 hkk0 hkk1 (by simp [show refKind FieldType.byte = false from rfl]) g1 g2 g3
    (by rw [t1, t3]; have := c5.1; omega)
    (by rw [t2, t3]; have := d5.1; omega)
    (fun vm₁ _ i hi => by
      rw [en9] at hi
      rw [esp]
      have e9 : cs.slots.getD (sp + i) .null = .int (sb_b (f (sp + i))) := by
        rw [Array.getD_eq_getD_getElem?, c6 _ (by omega)]
        rfl
      rw [e9]
      exact ⟨sb_fitB _, trivial⟩)
    (g := F0 m pc ls (.int nnI :: .int dpI :: .ref a :: .int spI :: .ref a0 :: rest)) rfl (by rw [hml]) (rest := rest) rfl (by rw [hb]; exact hdg) hframes (by show 2 * 0 + _ + _ ≤ _; omega)
  obtain ⟨f1, f2, f3, -, -⟩ := Cell.storeRun_facts cd dpI.toNatClampNeg (cs.stretch spI.toNatClampNeg nnI.toNatClampNeg)
  have hB : ∀ H1 : Heap, H1[a]? = some (copied cs cd spI dpI nnI) → zB G H1 a n1 (fun k => if k < n then f (sp + k) else g k) := fun H1 h => by
    refine ⟨_, h, by rw [f1]; exact d2, by rw [f2]; exact d3, by rw [f2]; exact d4, by rw [f3]; exact d5, fun j hj => ?_⟩
    rw [Cell.storeRun_get _ _ _ _ (by rw [hlen, e0]; have := d5.1; omega), hlen, e0]
    show _ = some (Value.int (sb_b (if j < n then f (sp + j) else g j)))
    by_cases h9 : j < n
    · rw [if_pos (by omega), if_pos h9, Nat.sub_zero]
      unfold Cell.stretch
      rw [List.getElem?_map, List.getElem?_range (by rw [en9]; exact h9)]
      show some (cs.slots.getD _ _) = _
      rw [esp, Array.getD_eq_getD_getElem?, c6 _ (by omega)]
      rfl
    · rw [if_neg (by omega), if_neg h9]
      exact d6 j hj
  have hl : a < H.size := (Array.getElem?_eq_some_iff.mp d1).1
  have oq : ∀ q : Nat, q ≠ a → (H.setIfInBounds a (copied cs cd spI dpI nnI))[q]? = H[q]? := fun q hq => by simp [Array.getElem?_setIfInBounds, Ne.symm hq]
  have hheap : ((T.setVm vm').setCell a (copied cs cd spI dpI nnI)).heap = H.setIfInBounds a (copied cs cd spI dpI nnI) := by rw [← hT]; rfl
  obtain ⟨t, a1, b1⟩ := kk _ _ (by simp) (hB _ (show (H.setIfInBounds a _)[a]? = some _ by simp [Array.getElem?_setIfInBounds, hl])) (fun q _ h => oq q h) ⟨by simp; exact hS.1, fun q g1 g2 => by
      rw [oq q (fun e => g2 (by rw [e]; exact hA))]
      exact hS.2.1 q g1 g2, fun q hq => by
      rcases List.mem_append.mp hq with h | h
      · exact hS.2.2 q h
      · obtain ⟨z, -, hz⟩ := List.mem_map.mp h
        rw [← hz]
        exact hA⟩ _ hheap X'
  exact ⟨t, step t a1, b1⟩
theorem zx_copyB {G : zG} (hx : p.tables.exec = Jvm.exec) (hb : c.code = cc) (hml : c.maxLocals = ls.size) {own : String} {index : Nat} (hown : s.vm.findClass own = some m.cls) (hlink : (Cond.methodLink own index arraycopyName).before args s = true) (hnat : (Cond.native arraycopyName).before args s = true) (hstat : (Cond.static arraycopyName).before args s = true) (hini : (Cond.initialized "java/lang/System").before args s = true)
    (hK : zK G s) {a0 a n0 n1 sp n : Nat} {f g : Nat → Nat} (ha0 : zB G H a0 n0 f) (ha1 : zB G H a n1 g) (h4 : sp + n ≤ n0) (h5 : n ≤ n1) (hn0 : n0 < 2 ^ 31) (hn1 : n1 < 2 ^ 31)
    (hframes : 1 ≤ R.frames) (hlocals : (rest.map fun v => v.category).sum + (nativeFrameWords "java/lang/System" "arraycopy" 5 + 11) ≤ R.locals) (hA : A a) (hS : va_S A H0 H locs) (hdg : decode cc pc = .ok (.invokestatic index, 3))
    (kk : ∀ (H1 : Heap) (locs1 : List Loc), H1.size = H.size → zB G H1 a n1 (fun k => if k < n then f (sp + k) else g k) → zKp (fun q => q = a) H H1 → va_S A H0 H1 locs1 → W p l e R s m args below meth c H1 locs1 cells slots Q (F0 m (pc + 3) ls rest)) : W p l e R s m args below meth c H locs cells slots Q (F0 m pc ls (.int (nI n) :: .int (nI 0) :: .ref a :: .int (nI sp) :: .ref a0 :: rest)) :=
  zx_copyB0 hx hb hml hown hlink hnat hstat hini hK (nI_pos (by omega)) (by decide) (nI_pos (by omega)) (nI_toInt (by omega)) (by decide) (nI_toInt (by omega)) (nI_clamp (by omega)) (by decide) (nI_clamp (by omega)) ha0 ha1 h4 h5 hn0 hn1 hframes hlocals hA hS hdg kk
end ZCP
def subL (w : List Nat) (i j : Nat) : List Nat := (w.drop i).take (j - i)
theorem subL_len {w : List Nat} {i j : Nat} (h1 : i ≤ j) (h2 : j ≤ w.length) : (subL w i j).length = j - i := by
  unfold subL
  rw [List.length_take, List.length_drop]
  omega
theorem subL_get {w : List Nat} {i j k : Nat} (h : k < j - i) : (subL w i j).getD k 0 = w.getD (i + k) 0 := by
  unfold subL
  rw [List.getD_eq_getElem?_getD, List.getD_eq_getElem?_getD, List.getElem?_take, if_pos h, List.getElem?_drop]
theorem subL_lt {w : List Nat} {i j : Nat} (h8 : ∀ k, w.getD k 0 < 256) : ∀ k, (subL w i j).getD k 0 < 256 := by
  intro k
  by_cases h : k < j - i
  · rw [subL_get h]; exact h8 _
  · unfold subL
    rw [List.getD_eq_getElem?_getD, List.getElem?_take, if_neg h]
    decide
theorem subL_all (w : List Nat) : subL w 0 w.length = w := by
  unfold subL
  rw [List.drop_zero, Nat.sub_zero, List.take_length]
theorem subL_nil {w : List Nat} {i j : Nat} (h : j - i = 0) : subL w i j = [] := by
  unfold subL
  rw [h, List.take_zero]
theorem mkStr2 {G : zG} {H : Heap} {Z : Nat → Prop} {sa b n : Nat} {u : List Nat} {t : Nat → Nat} {hs hz : Value} (h1 : zO G H sa 0 [.ref b, .int (nI 0), hs, hz]) (h2 : zB G H b n t) (hl : u.length = n) (hu : ∀ i, i < n → t i = u.getD i 0) (h8 : ∀ i, u.getD i 0 < 256) (hn : n < 2 ^ 31) (z1 : Z sa) (z2 : Z b) : StrZ G H Z sa u :=
  ⟨b, hs, hz, z1, z2, h1.w, by rw [hl]; exact h2.ext hu, h8, by rw [hl]; exact hn⟩
