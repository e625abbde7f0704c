/-! ===== JDK: statics, bytes, texts; returns of small types ===== -/
/-- what the cell of a static field holds -/
def zSh (G : zG) (q : String × String × String) (v : Value) (H : Heap) : Prop := ∃ cell : Cell, H[G.2.2 ("A:" ++ q.2.1)]? = some cell ∧ cell.vm.isStatics = true ∧ cell.slots[G.2.2 ("K:" ++ q.2.1)]? = some v
def qCS : String × String × String := ("java/lang/String", "COMPACT_STRINGS", "Z")
/-- a class of arrays of bytes: the JDK's own, or that of a constant's bytes -/
def zBc (G : zG) (c : ClassId) : Prop := c = G.2.1.2.1 ∨ ∃ q ∈ zStr, c = G.2.2 ("B:" ++ q.2.2)
theorem zBc.arr {G : zG} {s : State} {cell : Cell} (hK : zK G s) (h : zBc G cell.cls) (hv : ∀ k, cell.vm ≠ .statics k) : s.isArrayOf cell .byte := by
  have h1 : ArrOfT s cell.cls .byte := by
    rcases h with e | ⟨q, hq, e⟩
    · rw [e]; exact (hK.1.2 1 _ rfl).1
    · rw [e]; exact hK.2.2.2.2 q hq
  obtain ⟨-, k, hk, comp, hkk⟩ := h1 0 (fun _ => .null)
  exact ⟨hv, k, hk, comp, hkk⟩
/-- an array of n bytes -/
def zB (G : zG) (H : Heap) (a n : Nat) (t : Nat → Nat) : Prop := ∃ cell : Cell, H[a]? = some cell ∧ zBc G cell.cls ∧ (∀ k, cell.vm ≠ .statics k) ∧ cell.vm ≠ .unknown ∧ (n ≤ cell.slots.size ∧ cell.slots.size.toInt32 = nI n) ∧ ∀ j, j < n → cell.slots[j]? = some (.int (sb_b (t j)))
theorem zB.ofC {G : zG} {H : Heap} {a n : Nat} {t : Nat → Nat} (h : H[a]? = some (vp_cell G.2.1.2.1 (n, .inl (fun j => sb_b (t j))))) : zB G H a n t :=
  ⟨_, h, Or.inl rfl, fun k e => (by cases e), fun e => (by cases e), (by rw [vp_cell_i, arrV_size]; exact ⟨Nat.le_refl _, rfl⟩), fun j hj => by rw [vp_cell_i, arrV_read _ _ hj]⟩
/-- an object that may be one of the constants -/
def zOw (G : zG) (H : Heap) (a ci : Nat) (fs : List Value) : Prop := ∃ r : vw_C, vwCl[ci]? = some r ∧ ∃ cell : Cell, H[a]? = some cell ∧ cell.cls = G.1.1 ci ∧ cell.vm.isStatics = false ∧ cell.vm ≠ .unknown ∧ ∀ k, k < r.2.2 → cell.slots[G.1.2 ci k]? = some (vp_V fs k)
theorem zO.w {G : zG} {H : Heap} {a ci : Nat} {fs : List Value} (h : zO G H a ci fs) : zOw G H a ci fs := by
  obtain ⟨r, h1, cell, q1, q2, q3, q4⟩ := h
  exact ⟨r, h1, cell, q1, q2, by rw [q3]; rfl, (by rw [q3]; exact fun h => (by cases h)), q4⟩
theorem zOw.kept {G : zG} {H H1 : Heap} {a ci : Nat} {fs : List Value} (h : zOw G H a ci fs) (hq : H1[a]? = H[a]?) : zOw G H1 a ci fs := by
  obtain ⟨r, h1, cell, q1, q2⟩ := h
  exact ⟨r, h1, cell, by rw [hq]; exact q1, q2⟩
theorem zOw.lt {G : zG} {H : Heap} {a ci : Nat} {fs : List Value} (h : zOw G H a ci fs) : a < H.size := by
  obtain ⟨r, h1, cell, q1, q2⟩ := h
  exact (Array.getElem?_eq_some_iff.mp q1).1
theorem zOw.recv {G : zG} {s : State} {H : Heap} {a ci : Nat} {fs : List Value} {q : vw_C} (hK : zK G s) (h : zOw G H a ci fs) (hc : vwCl[ci]? = some q) : ∃ cell : Cell, H[a]? = some cell ∧ cell.vm.isStatics = false ∧ s.vm.findClass q.1 = some cell.cls := by
  obtain ⟨r, h1, cell, g1, g2, g3, -⟩ := h
  exact ⟨cell, g1, g3, by rw [g2]; exact (hK.1.1 ci q hc).2.1⟩
/-- a text of n letters t at a, its bytes at v -/
def zS (G : zG) (a v n : Nat) (t : Nat → Nat) (hs hz : Value) (H : Heap) : Prop := zOw G H a 0 [.ref v, .int (nI 0), hs, hz] ∧ zB G H v n t ∧ (∀ i, t i < 256) ∧ n < 2 ^ 31
def zRv : Array Value → State → Outcome → State → Prop := fun _ st oc t => oc = .returned none ∧ t.heap = st.heap
section ZJ
variable {p : Program} {l : Launch} {e : Env} {R : Room} {s : State} {m : MethodId} {args : Array Value} {below : List Frame} {meth : Method} {c : Code} {H : Heap} {locs : List Loc} {cells slots : Nat} {Q : State → Prop}
variable {cc : ByteArray} {pc : Nat} {ls : Array Slot} {rest : List Value}
theorem zi_gets {G : zG} (hx : p.tables.exec = Jvm.exec) (hb : c.code = cc) (hK : zK G s) {q : String × String × String} (hq : q ∈ zStat) {v : Value} (hH : zSh G q v H) {own : String} {index : Nat} (hown : s.vm.findClass own = some m.cls) (hlink : (Cond.fieldLink own index q.1 q.2.1 q.2.2).before args s = true) (hdg : decode cc pc = .ok (.getstatic index, 3))
    (kk : W p l e R s m args below meth c H locs cells slots Q (F0 m (pc + 3) ls (v :: rest))) : W p l e R s m args below meth c H locs cells slots Q (F0 m pc ls rest) := by
  obtain ⟨cf, kf, fi, f, h1, h2, h3, h4, h5⟩ := hK.2.2.2.1 q hq
  obtain ⟨cell, g1, g2, g3⟩ := hH
  exact W.gets hx hb hown hlink h1 h2 h3 h4 g1 (fun e => by rw [e] at g2; cases g2) (by rw [h5]; exact g3) rfl hdg kk
theorem zi_lenB {G : zG} (hx : p.tables.exec = Jvm.exec) (hb : c.code = cc) (hK : zK G s) {a n : Nat} {t : Nat → Nat} (ha : zB G H a n t) (hdg : decode cc pc = .ok (.arraylength, 1))
    (k : W p l e R s m args below meth c H locs cells slots Q (F0 m (pc + 1) ls (.int (nI n) :: rest))) : W p l e R s m args below meth c H locs cells slots Q (F0 m pc ls (.ref a :: rest)) := by
  obtain ⟨cell, c1, c2, c3, c4, c5, -⟩ := ha
  exact W.alen (n := nI n) hx hb c1 (zBc.arr hK c2 c3) c5.2 rfl rfl hdg k
theorem zi_bald {G : zG} (hx : p.tables.exec = Jvm.exec) (hb : c.code = cc) (hK : zK G s) {a n i : Nat} {t : Nat → Nat} (ha : zB G H a n t) (hi : i < n) (hn : n < 2 ^ 31) (hdg : decode cc pc = .ok (.baload, 1))
    (k : W p l e R s m args below meth c H locs cells slots Q (F0 m (pc + 1) ls (.int (sb_b (t i)) :: rest))) : W p l e R s m args below meth c H locs cells slots Q (F0 m pc ls (.int (nI i) :: .ref a :: rest)) := by
  obtain ⟨cell, c1, c2, c3, c4, c5, c6⟩ := ha
  have hcl : (nI i).toNatClampNeg = i := nI_clamp (Nat.lt_trans hi hn)
  exact W.bald (v := .int (sb_b (t i))) hx hb c1 (zBc.arr hK c2 c3) c4 (fun h9 => h9.elim (fun z => vp_in_nI hi hn (Or.inl z)) (fun z => by rw [hcl] at z; have := c5.1; omega)) (by rw [hcl]; exact c6 i hi) rfl rfl hdg k
theorem zi_getw {G : zG} (hx : p.tables.exec = Jvm.exec) (hb : c.code = cc) {own C : String} {T : u_T} {N ci index a : Nat} {Ts : List Cond} (hts : ∀ w ∈ Ts, w.before args s = true) (hin : ∀ w ∈ u_ws C T N, w ∈ Ts) (hown : s.vm.findClass own = some m.cls) (hK : zK G s) {fs : List Value} (hO : zOw G H a ci fs) (hc : vwCl[ci]? = some (C, T, N)) (k : Nat) (hk : k < N) (hlink : (Cond.fieldLink own index C (T k).2.1 (T k).2.2.1).before args s = true) (hsame : ∀ x, s.fieldFound? (T k).1 (T k).2.1 (T k).2.2.1 = some x → s.fieldFound? C (T k).2.1 (T k).2.2.1 = some x) {v : Value} (hv : fs[k]? = some v) (hdg : decode cc pc = .ok (.getfield index, 3))
    (kk : W p l e R s m args below meth c H locs cells slots Q (F0 m (pc + 3) ls (v :: rest))) : W p l e R s m args below meth c H locs cells slots Q (F0 m pc ls (.ref a :: rest)) := by
  obtain ⟨r, h1, cell, q1, q2, q3, q5, q4⟩ := hO
  have hr : r = (C, T, N) := Option.some.inj (h1.symm.trans hc)
  subst hr
  obtain ⟨hS, hfc, kC, hkC, hkind⟩ := hK.1.1 ci _ hc
  obtain ⟨cf, kf, fi, f, hi, hsl⟩ := hS k hk
  refine W.getf hx hb hown hlink (hsame _ hi) (u_facts hfc hkC (u_lays hts hin hk) hi).1 q1 q5 (v := v) ?_ rfl rfl hdg kk
  rw [hsl, q4 k hk]
  simp [vp_V, hv]
theorem zr_t {ty : FieldType} (hx : p.tables.exec = Jvm.exec) (hb : c.code = cc) (hr : meth.sig.returnType = some ty) (hlocks : meth.locks = false) {v r : Int32} (hn : narrow ty (.int v) = .int v) (he : v = r) (hdg : decode cc pc = .ok (.ireturn, 1)) : W p l e R s m args below meth c s.heap [] 0 0 (MQ below (zR (.int r)) args s 0 0 (fun _ => False)) (F0 m pc ls [.int v]) := by
  subst he
  exact W.zret hx hb hr hn (fun t ht _ => ⟨rfl, ht⟩) (fun _ h => by cases h) hdg hlocks
theorem zr_vo (hx : p.tables.exec = Jvm.exec) (hb : c.code = cc) (hr : meth.sig.returnType = none) (hlocks : meth.locks = false) (hdg : decode cc pc = .ok (.return_, 1)) : W p l e R s m args below meth c s.heap [] 0 0 (MQ below zRv args s 0 0 (fun _ => False)) (F0 m pc ls []) :=
  W.vret hx hb hr (fun t ht _ => ⟨rfl, ht⟩) (fun _ h => by cases h) hdg hlocks
theorem zc_Sv {y : MethodName} {bytes : ByteArray} {maxL nL n index : Nat} {ret : Option FieldType} {ws : List Cond} {rm : Room} {P : Heap → Prop} {Ts : List Cond} {own : String} {As st : List Value} {G : zG} (S : CallFix p m c cc nL s args Ts own) (hM : Met l y ws rm (zP G As P) zRv 0 0 (fun _ => False)) (cw : CallB R s args own index y bytes maxL ret ws rm 0 0 n ∧ (Cond.static y).before args s = true) (hK : zK G s) (hP : P H)
    (hn : As.length = n) (hsize : ls.size = nL) (hstack : st = As.reverse ++ rest) (hW : (rest.map fun v => v.category).sum ≤ 8) (hdg : decode cc pc = .ok (.invokestatic index, 3)) (hf : cells ≤ R.cells ∧ slots ≤ R.slots)
    (kk : W p l e R s m args below meth c H locs cells slots Q (F0 m (pc + 3) ls rest)) : W p l e R s m args below meth c H locs cells slots Q (F0 m pc ls st) := by
  have hr := W.runS (e := e) (below := below) (meth := meth) (H := H) (locs := locs) (cells := cells) (slots := slots) (As := As) (rest := rest) (g := F0 m pc ls st) S hM cw ⟨zP_blind, fun U hU hW => ⟨rfl, by rw [hU]; exact hP, zK.warm hW hK⟩⟩ rfl hn hsize hstack (lv_room hW) hdg hf
  intro X hT XS
  obtain ⟨v, st₀, t, T', L, h0, X', hL, e1, ⟨hv, hh⟩, stp⟩ := hr X hT XS
  cases hv
  obtain ⟨t2, a1, b1⟩ := kk T' (by rw [e1, hh, h0]) (Stand.forget X' (fun q h => (hL q h).elim))
  exact ⟨t2, stp t2 a1, b1⟩
theorem zc_Vw {y : MethodName} {bytes : ByteArray} {maxL nL n index ci N b : Nat} {ret : Option FieldType} {ws : List Cond} {rm : Room} {P : Heap → Prop} {r : Value} {Ts : List Cond} {own C : String} {T : u_T} {As st fs : List Value} {G : zG} (S : CallFix p m c cc nL s args Ts own) (hM : Met l y ws rm (zP G (.ref b :: As) P) (zR r) 0 0 (fun _ => False)) (cw : CallW R s args own C index y bytes maxL ret ws rm 0 0 n) (hK : zK G s) (hO : zOw G H b ci fs) (hc : vwCl[ci]? = some (C, T, N)) (hP : P H)
    (hn : As.length = n) (hsize : ls.size = nL) (hstack : st = As.reverse ++ .ref b :: rest) (hW : (rest.map fun v => v.category).sum ≤ 8) (hdg : decode cc pc = .ok (.invokevirtual index, 3)) (hf : cells ≤ R.cells ∧ slots ≤ R.slots)
    (kk : W p l e R s m args below meth c H locs cells slots Q (F0 m (pc + 3) ls (r :: rest))) : W p l e R s m args below meth c H locs cells slots Q (F0 m pc ls st) := by
  have hr := W.runV (e := e) (below := below) (meth := meth) (H := H) (locs := locs) (cells := cells) (slots := slots) (b := b) (As := As) (rest := rest) (g := F0 m pc ls st) S hM cw ⟨zP_blind, zOw.recv hK hO hc, fun U hU hW => ⟨rfl, by rw [hU]; exact hP, zK.warm hW hK⟩⟩ rfl hn hsize hstack (lv_room hW) hdg hf
  intro X hT XS
  obtain ⟨v, st₀, t, T', L, h0, X', hL, e1, ⟨hv, hh⟩, stp⟩ := hr X hT XS
  cases hv
  obtain ⟨t2, a1, b1⟩ := kk T' (by rw [e1, hh, h0]) (Stand.forget X' (fun q h => (hL q h).elim))
  exact ⟨t2, stp t2 a1, b1⟩
end ZJ
theorem zgX {c0 : Cond} {own : String} {idx n : Nat} {y : MethodName} {cc : ByteArray} {r : Option FieldType} (h1 : Cond.methodLink own idx y ∈ zW) (h : Cond.static y ∈ zW ∧ Cond.initialized y.cls ∈ zW ∧ Cond.code y cc n r ∈ zW) : GoodIn (c0 :: zW) (va_wsS own idx y (Cond.code y cc n r :: zW)) := by
  intro w hw
  have : w ∈ zW := by
    unfold va_wsS at hw
    simp only [List.cons_append, List.nil_append, List.mem_cons] at hw
    rcases hw with rfl | rfl | rfl | rfl | hw
    · exact h1
    · exact h.1
    · exact h.2.1
    · exact h.2.2
    · exact hw
  exact ⟨List.mem_cons_of_mem _ this, zW_good this⟩
theorem cNa_oI_lt {a b : Nat} (h : a < b) : oI (cNa a b) = -1 := by rw [cNa, if_pos h]; rfl
theorem cNa_oI_eq {a b : Nat} (h : a = b) : oI (cNa a b) = 0 := by rw [cNa, if_neg (by omega), if_neg (by omega)]; rfl
theorem cNa_oI_gt {a b : Nat} (h : b < a) : oI (cNa a b) = 1 := by rw [cNa, if_neg (by omega), if_pos h]; rfl
