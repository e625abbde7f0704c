/-! ===== JDK: statics, bytes, texts; returns of small types ===== -/
/-- what the cell of a static field holds -/
def zSh (G : zG) (q : String × String × String) (v : Value) (H : Heap) : Prop := ∃ cell : Cell, H[G.2.2 ("A:" ++ q.2.1)]? = some cell ∧ cell.vm.isStatics = true ∧ cell.slots[G.2.2 ("K:" ++ q.2.1)]? = some v
def qCS : String × String × String := ("java/lang/String", "COMPACT_STRINGS", "Z")
def zB (G : zG) (H : Heap) (a n : Nat) (t : Nat → Nat) : Prop := va_at G.1 vwCl (a, .inl (G.2.1.2.1, n, .inl (fun j => sb_b (t j)))) H
theorem zB.one {G : zG} {H : Heap} {a n : Nat} {t : Nat → Nat} (h : zB G H a n t) : va_P G.1 vwCl [(a, .inl (G.2.1.2.1, n, .inl (fun j => sb_b (t j))))] H := va_one h
/-- a text of n letters t at a, its bytes at v -/
def zS (G : zG) (a v n : Nat) (t : Nat → Nat) (hs hz : Value) (H : Heap) : Prop := zO G H a 0 [.ref v, .int (nI 0), hs, hz] ∧ zB G H v n t ∧ (∀ i, t i < 256) ∧ n < 2 ^ 31
def zRv : Array Value → State → Outcome → State → Prop := fun _ st oc t => oc = .returned none ∧ t.heap = st.heap
section ZJ
variable {p : Program} {l : Launch} {e : Env} {R : Room} {s : State} {m : MethodId} {args : Array Value} {below : List Frame} {meth : Method} {c : Code} {H : Heap} {locs : List Loc} {cells slots : Nat} {Q : State → Prop}
variable {cc : ByteArray} {pc : Nat} {ls : Array Slot} {rest : List Value}
theorem zi_gets {G : zG} (hx : p.tables.exec = Jvm.exec) (hb : c.code = cc) (hK : zK G s) {q : String × String × String} (hq : q ∈ zStat) {v : Value} (hH : zSh G q v H) {own : String} {index : Nat} (hown : s.vm.findClass own = some m.cls) (hlink : (Cond.fieldLink own index q.1 q.2.1 q.2.2).before args s = true) (hdg : decode cc pc = .ok (.getstatic index, 3))
    (kk : W p l e R s m args below meth c H locs cells slots Q (F0 m (pc + 3) ls (v :: rest))) : W p l e R s m args below meth c H locs cells slots Q (F0 m pc ls rest) := by
  obtain ⟨cf, kf, fi, f, h1, h2, h3, h4, h5⟩ := hK.2.2.2 q hq
  obtain ⟨cell, g1, g2, g3⟩ := hH
  exact W.gets hx hb hown hlink h1 h2 h3 h4 g1 (fun e => by rw [e] at g2; cases g2) (by rw [h5]; exact g3) rfl hdg kk
theorem zi_lenB {G : zG} (hx : p.tables.exec = Jvm.exec) (hb : c.code = cc) (hK : zK G s) {a n : Nat} {t : Nat → Nat} (ha : zB G H a n t) (hdg : decode cc pc = .ok (.arraylength, 1))
    (k : W p l e R s m args below meth c H locs cells slots Q (F0 m (pc + 1) ls (.int (nI n) :: rest))) : W p l e R s m args below meth c H locs cells slots Q (F0 m pc ls (.ref a :: rest)) :=
  va_alen hx hb hK.1 ha.one 0 1 rfl rfl rfl hdg k
theorem zi_bald {G : zG} (hx : p.tables.exec = Jvm.exec) (hb : c.code = cc) (hK : zK G s) {a n i : Nat} {t : Nat → Nat} (ha : zB G H a n t) (hi : i < n) (hn : n < 2 ^ 31) (hdg : decode cc pc = .ok (.baload, 1))
    (k : W p l e R s m args below meth c H locs cells slots Q (F0 m (pc + 1) ls (.int (sb_b (t i)) :: rest))) : W p l e R s m args below meth c H locs cells slots Q (F0 m pc ls (.int (nI i) :: .ref a :: rest)) :=
  va_bald hx hb hK.1 ha.one 0 1 rfl rfl (vp_in_nI hi hn) hdg (by rw [nI_clamp (Nat.lt_trans hi hn)]; exact k)
theorem zr_t {ty : FieldType} (hx : p.tables.exec = Jvm.exec) (hb : c.code = cc) (hr : meth.sig.returnType = some ty) (hlocks : meth.locks = false) {v r : Int32} (hn : narrow ty (.int v) = .int v) (he : v = r) (hdg : decode cc pc = .ok (.ireturn, 1)) : W p l e R s m args below meth c s.heap [] 0 0 (MQ below (zR (.int r)) args s 0 0 (fun _ => False)) (F0 m pc ls [.int v]) := by
  subst he
  exact W.zret hx hb hr hn (fun t ht _ => ⟨rfl, ht⟩) (fun _ h => by cases h) hdg hlocks
theorem zr_vo (hx : p.tables.exec = Jvm.exec) (hb : c.code = cc) (hr : meth.sig.returnType = none) (hlocks : meth.locks = false) (hdg : decode cc pc = .ok (.return_, 1)) : W p l e R s m args below meth c s.heap [] 0 0 (MQ below zRv args s 0 0 (fun _ => False)) (F0 m pc ls []) :=
  W.vret hx hb hr (fun t ht _ => ⟨rfl, ht⟩) (fun _ h => by cases h) hdg hlocks
theorem zc_Sv {y : MethodName} {bytes : ByteArray} {maxL nL n index : Nat} {ret : Option FieldType} {ws : List Cond} {rm : Room} {P : Heap → Prop} {Ts : List Cond} {own : String} {As st : List Value} {G : zG} (S : CallFix p m c cc nL s args Ts own) (hM : Met l y ws rm (zP G As P) zRv 0 0 (fun _ => False)) (cw : CallB R s args own index y bytes maxL ret ws rm 0 0 n ∧ (Cond.static y).before args s = true) (hK : zK G s) (hP : P H)
    (hn : As.length = n) (hsize : ls.size = nL) (hstack : st = As.reverse ++ rest) (hW : (rest.map fun v => v.category).sum ≤ 8) (hdg : decode cc pc = .ok (.invokestatic index, 3)) (hf : cells ≤ R.cells ∧ slots ≤ R.slots)
    (kk : W p l e R s m args below meth c H locs cells slots Q (F0 m (pc + 3) ls rest)) : W p l e R s m args below meth c H locs cells slots Q (F0 m pc ls st) := by
  have hr := W.runS (e := e) (below := below) (meth := meth) (H := H) (locs := locs) (cells := cells) (slots := slots) (As := As) (rest := rest) (g := F0 m pc ls st) S hM cw ⟨zP_blind, fun U hU hW => ⟨rfl, by rw [hU]; exact hP, zK.warm hW hK⟩⟩ rfl hn hsize hstack (lv_room hW) hdg hf
  intro X hT XS
  obtain ⟨v, st₀, t, T', L, h0, X', hL, e1, ⟨hv, hh⟩, stp⟩ := hr X hT XS
  cases hv
  obtain ⟨t2, a1, b1⟩ := kk T' (by rw [e1, hh, h0]) (Stand.forget X' (fun q h => (hL q h).elim))
  exact ⟨t2, stp t2 a1, b1⟩
end ZJ
theorem zgX {c0 : Cond} {own : String} {idx n : Nat} {y : MethodName} {cc : ByteArray} {r : Option FieldType} (h1 : Cond.methodLink own idx y ∈ zW) (h : Cond.static y ∈ zW ∧ Cond.initialized y.cls ∈ zW ∧ Cond.code y cc n r ∈ zW) : GoodIn (c0 :: zW) (va_wsS own idx y (Cond.code y cc n r :: zW)) := by
  intro w hw
  have : w ∈ zW := by
    unfold va_wsS at hw
    simp only [List.cons_append, List.nil_append, List.mem_cons] at hw
    rcases hw with rfl | rfl | rfl | rfl | hw
    · exact h1
    · exact h.1
    · exact h.2.1
    · exact h.2.2
    · exact hw
  exact ⟨List.mem_cons_of_mem _ this, zW_good this⟩
theorem cNa_oI_lt {a b : Nat} (h : a < b) : oI (cNa a b) = -1 := by rw [cNa, if_pos h]; rfl
theorem cNa_oI_eq {a b : Nat} (h : a = b) : oI (cNa a b) = 0 := by rw [cNa, if_neg (by omega), if_neg (by omega)]; rfl
theorem cNa_oI_gt {a b : Nat} (h : b < a) : oI (cNa a b) = 1 := by rw [cNa, if_neg (by omega), if_pos h]; rfl
