/-! ===== texts as lists of letters; constants of the heap; returns of references ===== -/
def qSI : String × String × String := ("jdk/internal/util/Preconditions", "SIOOBE_FORMATTER", "Ljava/util/function/BiFunction;")
/-- a text of the letters w at a, its cells where Z says -/
def StrZ (G : zG) (H : Heap) (Z : Nat → Prop) (a : Nat) (w : List Nat) : Prop := ∃ (v : Nat) (hs hz : Value), Z a ∧ Z v ∧ zS G a v w.length (fun i => w.getD i 0) hs hz H
theorem zB.kept {G : zG} {H H1 : Heap} {a n : Nat} {t : Nat → Nat} (h : zB G H a n t) (hq : H1[a]? = H[a]?) : zB G H1 a n t := by
  obtain ⟨cell, q1, q2⟩ := h
  exact ⟨cell, by rw [hq]; exact q1, q2⟩
theorem zB.lt {G : zG} {H : Heap} {a n : Nat} {t : Nat → Nat} (h : zB G H a n t) : a < H.size := by
  obtain ⟨cell, q1, q2⟩ := h
  exact (Array.getElem?_eq_some_iff.mp q1).1
theorem zS.kept {G : zG} {H H1 : Heap} {a v n : Nat} {t : Nat → Nat} {hs hz : Value} (h : zS G a v n t hs hz H) (h1 : H1[a]? = H[a]?) (h2 : H1[v]? = H[v]?) : zS G a v n t hs hz H1 := ⟨h.1.kept h1, h.2.1.kept h2, h.2.2⟩
theorem StrZ.kept {G : zG} {H H1 : Heap} {Z : Nat → Prop} {a : Nat} {w : List Nat} (h : StrZ G H Z a w) (hk : ∀ q, Z q → q < H.size → H1[q]? = H[q]?) : StrZ G H1 Z a w := by
  obtain ⟨v, hs, hz, z1, z2, h1⟩ := h
  exact ⟨v, hs, hz, z1, z2, h1.kept (hk _ z1 h1.1.lt) (hk _ z2 h1.2.1.lt)⟩
theorem StrZ.mono {G : zG} {H : Heap} {Z Z1 : Nat → Prop} {a : Nat} {w : List Nat} (h : StrZ G H Z a w) (hz : ∀ q, Z q → Z1 q) : StrZ G H Z1 a w := by
  obtain ⟨v, hs, hz9, z1, z2, h1⟩ := h
  exact ⟨v, hs, hz9, hz _ z1, hz _ z2, h1⟩
theorem StrZ.to {G : zG} {H : Heap} {Z : Nat → Prop} {a : Nat} {w w1 : List Nat} (h : StrZ G H Z a w) (e : w = w1) : StrZ G H Z a w1 := e ▸ h
def ltr (x : String) : List Nat := x.toList.map Char.toNat
/-- where the law begins: below it lies what nothing here changes -/
def cB (G : zG) : Nat := G.2.2 "base"
/-- statics of the JDK and String constants -/
def CH (G : zG) (H : Heap) : Prop := zSh G qCS (.int (nI 1)) H ∧ (∃ x9 : Option Nat, zSh G qSI (va_rf x9) H) ∧ (∀ q ∈ zStr, StrZ G H (fun x => x < cB G) (G.2.2 q.2.2) (ltr q.2.2)) ∧ G.2.2 ("A:" ++ "COMPACT_STRINGS") < cB G ∧ G.2.2 ("A:" ++ "SIOOBE_FORMATTER") < cB G ∧ cB G ≤ H.size
theorem zSh.kept {G : zG} {q : String × String × String} {v : Value} {H H1 : Heap} (h : zSh G q v H) (hk : H1[G.2.2 ("A:" ++ q.2.1)]? = H[G.2.2 ("A:" ++ q.2.1)]?) : zSh G q v H1 := by
  obtain ⟨cell, h1, h2⟩ := h
  exact ⟨cell, by rw [hk]; exact h1, h2⟩
theorem CH.kept {G : zG} {H H1 : Heap} (h : CH G H) (hk : ∀ q, q < cB G → H1[q]? = H[q]?) (hz : H.size ≤ H1.size) : CH G H1 := by
  obtain ⟨h1, ⟨v, h2⟩, h3, h4, h5, h6⟩ := h
  exact ⟨h1.kept (hk _ h4), ⟨v, h2.kept (hk _ h5)⟩, fun q hq => (h3 q hq).kept (fun x hx _ => hk x hx), h4, h5, Nat.le_trans h6 hz⟩
section ZR2
variable {p : Program} {l : Launch} {e : Env} {R : Room} {s : State} {m : MethodId} {args : Array Value} {below : List Frame} {meth : Method} {c : Code} {H : Heap} {locs : List Loc} {cells slots : Nat} {Q : State → Prop}
variable {cc : ByteArray} {pc : Nat} {ls : Array Slot} {rest : List Value}
theorem zr_a {n : String} (hx : p.tables.exec = Jvm.exec) (hb : c.code = cc) (hr : meth.sig.returnType = some (.object n)) (hlocks : meth.locks = false) {v r : Value} (hv : v = .null ∨ ∃ a, v = .ref a) (he : v = r) (hdg : decode cc pc = .ok (.areturn, 1)) : W p l e R s m args below meth c s.heap [] 0 0 (MQ below (zR r) args s 0 0 (fun _ => False)) (F0 m pc ls [v]) := by
  subst he
  exact W.aret hx hb hr (Or.inl ⟨n, rfl⟩) hv (fun t ht _ => ⟨rfl, ht⟩) (fun _ h => by cases h) hdg hlocks
theorem zi_acmp_ne (hx : p.tables.exec = Jvm.exec) (hb : c.code = cc) {a b : Nat} {off : Int} {tgt : Nat} (hdg : decode cc pc = .ok (.if_acmp .ne off, 3)) (ht : (pc : Int) + off = (tgt : Int))
    (kt : a ≠ b → W p l e R s m args below meth c H locs cells slots Q (F0 m tgt ls rest)) (kf : a = b → W p l e R s m args below meth c H locs cells slots Q (F0 m (pc + 3) ls rest)) : W p l e R s m args below meth c H locs cells slots Q (F0 m pc ls (.ref b :: .ref a :: rest)) :=
  lv_acmp_ne (rx := some a) (ry := some b) hx hb hdg ht (fun h => kt (fun z => h (by rw [z]))) (fun h => kf (Option.some.inj h))
theorem zi_inst {G : zG} (hx : p.tables.exec = Jvm.exec) (hb : c.code = cc) {own C : String} {T : u_T} {N ci index a : Nat} (hown : s.vm.findClass own = some m.cls) (hlink : (Cond.classLink own index C).before args s = true) (hK : zK G s) {fs : List Value} (hO : zO G H a ci fs) (hc : vwCl[ci]? = some (C, T, N)) (hdg : decode cc pc = .ok (.instanceof index, 3))
    (k : W p l e R s m args below meth c H locs cells slots Q (F0 m (pc + 3) ls (.int (nI 1) :: rest))) : W p l e R s m args below meth c H locs cells slots Q (F0 m pc ls (.ref a :: rest)) :=
  va_instS hx hb hown hlink (hK.1.1 ci _ hc).2 (va_recv hK.1 hO.one (q0 := 0) hc rfl) hdg k
theorem zi_cst {G : zG} (hx : p.tables.exec = Jvm.exec) (hb : c.code = cc) {own C : String} {T : u_T} {N ci index a : Nat} (hown : s.vm.findClass own = some m.cls) (hlink : (Cond.classLink own index C).before args s = true) (hK : zK G s) {fs : List Value} (hO : zO G H a ci fs) (hc : vwCl[ci]? = some (C, T, N)) (hdg : decode cc pc = .ok (.checkcast index, 3))
    (k : W p l e R s m args below meth c H locs cells slots Q (F0 m (pc + 3) ls (.ref a :: rest))) : W p l e R s m args below meth c H locs cells slots Q (F0 m pc ls (.ref a :: rest)) :=
  va_castS hx hb hown hlink (hK.1.1 ci _ hc).2 (va_recv hK.1 hO.one (q0 := 0) hc rfl) hdg k
theorem zi_instw {G : zG} (hx : p.tables.exec = Jvm.exec) (hb : c.code = cc) {own C : String} {T : u_T} {N ci index a : Nat} (hown : s.vm.findClass own = some m.cls) (hlink : (Cond.classLink own index C).before args s = true) (hK : zK G s) {fs : List Value} (hO : zOw G H a ci fs) (hc : vwCl[ci]? = some (C, T, N)) (hdg : decode cc pc = .ok (.instanceof index, 3))
    (k : W p l e R s m args below meth c H locs cells slots Q (F0 m (pc + 3) ls (.int (nI 1) :: rest))) : W p l e R s m args below meth c H locs cells slots Q (F0 m pc ls (.ref a :: rest)) :=
  va_instS hx hb hown hlink (hK.1.1 ci _ hc).2 (zOw.recv hK hO hc) hdg k
theorem zi_cstw {G : zG} (hx : p.tables.exec = Jvm.exec) (hb : c.code = cc) {own C : String} {T : u_T} {N ci index a : Nat} (hown : s.vm.findClass own = some m.cls) (hlink : (Cond.classLink own index C).before args s = true) (hK : zK G s) {fs : List Value} (hO : zOw G H a ci fs) (hc : vwCl[ci]? = some (C, T, N)) (hdg : decode cc pc = .ok (.checkcast index, 3))
    (k : W p l e R s m args below meth c H locs cells slots Q (F0 m (pc + 3) ls (.ref a :: rest))) : W p l e R s m args below meth c H locs cells slots Q (F0 m pc ls (.ref a :: rest)) :=
  va_castS hx hb hown hlink (hK.1.1 ci _ hc).2 (zOw.recv hK hO hc) hdg k
theorem zo_aload_n (hx : p.tables.exec = Jvm.exec) (hb : c.code = cc) {k : Fin 4} {i : Nat} {x : Option Nat} (hdg : decode cc pc = .ok (.aload_n k, 1)) (hi : (k : Nat) = i) (hl : ls[i]? = some (.val (va_rf x)))
    (kk : W p l e R s m args below meth c H locs cells slots Q (F0 m (pc + 1) ls (va_rf x :: rest))) : W p l e R s m args below meth c H locs cells slots Q (F0 m pc ls rest) := by
  cases x with
  | none => exact lv_aload_nN hx hb hdg hi hl kk
  | some a => exact lv_aload_n hx hb hdg hi hl kk
theorem zo_aload (hx : p.tables.exec = Jvm.exec) (hb : c.code = cc) {i : Nat} {x : Option Nat} (hdg : decode cc pc = .ok (.aload i, 2)) (hl : ls[i]? = some (.val (va_rf x)))
    (kk : W p l e R s m args below meth c H locs cells slots Q (F0 m (pc + 2) ls (va_rf x :: rest))) : W p l e R s m args below meth c H locs cells slots Q (F0 m pc ls rest) := by
  cases x with
  | none => exact lv_aloadN hx hb hdg hl kk
  | some a => exact lv_aload hx hb hdg hl kk
theorem zo_astore_n (hx : p.tables.exec = Jvm.exec) (hb : c.code = cc) {k : Fin 4} {i nL : Nat} {x : Option Nat} {lv lv' : List (Nat × Value)} (hdg : decode cc pc = .ok (.astore_n k, 1)) (hi : (k : Nat) = i) (h : lv_has ls nL lv) (hn : i < nL) (hl : (i, va_rf x) :: lv.filter (fun q => !(q.1 == i) && !(q.1 + 1 == i && q.2.category == 2)) = lv')
    (kk : ∀ ls : Array Slot, lv_has ls nL lv' → W p l e R s m args below meth c H locs cells slots Q (F0 m (pc + 1) ls rest)) : W p l e R s m args below meth c H locs cells slots Q (F0 m pc ls (va_rf x :: rest)) := by
  cases x with
  | none => exact lv_astore_nN hx hb hdg hi h hn hl kk
  | some a => exact lv_astore_n hx hb hdg hi h hn hl kk
theorem zo_astore (hx : p.tables.exec = Jvm.exec) (hb : c.code = cc) {i nL : Nat} {x : Option Nat} {lv lv' : List (Nat × Value)} (hdg : decode cc pc = .ok (.astore i, 2)) (h : lv_has ls nL lv) (hn : i < nL) (hl : (i, va_rf x) :: lv.filter (fun q => !(q.1 == i) && !(q.1 + 1 == i && q.2.category == 2)) = lv')
    (kk : ∀ ls : Array Slot, lv_has ls nL lv' → W p l e R s m args below meth c H locs cells slots Q (F0 m (pc + 2) ls rest)) : W p l e R s m args below meth c H locs cells slots Q (F0 m pc ls (va_rf x :: rest)) := by
  cases x with
  | none => exact lv_astoreN hx hb hdg h hn hl kk
  | some a => exact lv_astore hx hb hdg h hn hl kk
theorem zo_ifnull (hx : p.tables.exec = Jvm.exec) (hb : c.code = cc) {x : Option Nat} {off : Int} {tgt : Nat} (hdg : decode cc pc = .ok (.ifnull off, 3)) (ht : (pc : Int) + off = (tgt : Int))
    (kt : x = none → W p l e R s m args below meth c H locs cells slots Q (F0 m tgt ls rest)) (kf : ∀ a, x = some a → W p l e R s m args below meth c H locs cells slots Q (F0 m (pc + 3) ls rest)) : W p l e R s m args below meth c H locs cells slots Q (F0 m pc ls (va_rf x :: rest)) := by
  cases x with
  | none => exact lv_ifnullN hx hb hdg ht (kt rfl)
  | some a => exact lv_ifnull hx hb hdg (kf a rfl)
theorem zo_ifnonnull (hx : p.tables.exec = Jvm.exec) (hb : c.code = cc) {x : Option Nat} {off : Int} {tgt : Nat} (hdg : decode cc pc = .ok (.ifnonnull off, 3)) (ht : (pc : Int) + off = (tgt : Int))
    (kt : ∀ a, x = some a → W p l e R s m args below meth c H locs cells slots Q (F0 m tgt ls rest)) (kf : x = none → W p l e R s m args below meth c H locs cells slots Q (F0 m (pc + 3) ls rest)) : W p l e R s m args below meth c H locs cells slots Q (F0 m pc ls (va_rf x :: rest)) := by
  cases x with
  | none => exact lv_ifnonnullN hx hb hdg (kf rfl)
  | some a => exact lv_ifnonnull hx hb hdg ht (kt a rfl)
end ZR2
theorem sb_inj : ∀ c, c < 256 → ∀ d, d < 256 → sb_b c = sb_b d → c = d := by
  intro c hc d hd h
  have h1 := (sb_byte c hc).1
  have h2 := (sb_byte d hd).1
  rw [h, h2] at h1
  exact ((nI_eq (by omega) (by omega)).mp h1).symm
theorem z_i2c {x : Nat} (h : x < 256) : ((nI x).toUInt32 % 65536).toInt32 = nI x := (sb_byte x h).2.1
theorem z_chr {x : Nat} (h : x < 256) : narrow .char (.int (nI x)) = .int (nI x) := by
  show Value.int ((nI x).toUInt32 % 65536).toInt32 = _
  rw [z_i2c h]
theorem getD_ext {w v : List Nat} (hl : w.length = v.length) (h : ∀ i, i < w.length → w.getD i 0 = v.getD i 0) : w = v := by
  apply List.ext_getElem hl
  intro i h1 h2
  have := h i h1
  rw [List.getD_eq_getElem?_getD, List.getD_eq_getElem?_getD, List.getElem?_eq_getElem h1, List.getElem?_eq_getElem h2] at this
  exact this
theorem zO_fn {G : zG} {H : Heap} {a ci : Nat} {fs gs : List Value} {r : vw_C} (hc : vwCl[ci]? = some r) (h1 : zO G H a ci fs) (h2 : zO G H a ci gs) (k : Nat) (hk : k < r.2.2) : vp_V fs k = vp_V gs k := by
  obtain ⟨r1, e1, c1, q1, -, -, q2⟩ := h1
  obtain ⟨r2, e2, c2, p1, -, -, p2⟩ := h2
  cases e1.symm.trans hc
  cases e2.symm.trans hc
  cases q1.symm.trans p1
  exact Option.some.inj ((q2 k hk).symm.trans (p2 k hk))
theorem zOw_fn {G : zG} {H : Heap} {a ci : Nat} {fs gs : List Value} {r : vw_C} (hc : vwCl[ci]? = some r) (h1 : zOw G H a ci fs) (h2 : zOw G H a ci gs) (k : Nat) (hk : k < r.2.2) : vp_V fs k = vp_V gs k := by
  obtain ⟨r1, e1, c1, q1, -, -, -, q2⟩ := h1
  obtain ⟨r2, e2, c2, p1, -, -, -, p2⟩ := h2
  cases e1.symm.trans hc
  cases e2.symm.trans hc
  cases q1.symm.trans p1
  exact Option.some.inj ((q2 k hk).symm.trans (p2 k hk))
theorem zB_fn {G : zG} {H : Heap} {a n n2 : Nat} {t t2 : Nat → Nat} (h1 : zB G H a n t) (h2 : zB G H a n2 t2) (b1 : n < 2 ^ 31) (b2 : n2 < 2 ^ 31) : n = n2 ∧ ∀ i, i < n → sb_b (t i) = sb_b (t2 i) := by
  obtain ⟨c1, e1, -, -, -, s1, q1⟩ := h1
  obtain ⟨c2, e2, -, -, -, s2, q2⟩ := h2
  cases e1.symm.trans e2
  have hn : n = n2 := (nI_eq b1 b2).mp (s1.2.symm.trans s2.2)
  subst hn
  exact ⟨rfl, fun i hi => Value.int.inj (Option.some.inj ((q1 i hi).symm.trans (q2 i hi)))⟩
theorem Str_fn {G : zG} {H : Heap} {Z1 Z2 : Nat → Prop} {a : Nat} {w u : List Nat} (h1 : StrZ G H Z1 a w) (h2 : StrZ G H Z2 a u) : w = u := by
  obtain ⟨v, hs, hz, -, -, o1, b1, l1, m1⟩ := h1
  obtain ⟨v2, hs2, hz2, -, -, o2, b2, l2, m2⟩ := h2
  have e : (Value.ref v) = .ref v2 := zOw_fn (r := (RJ0, TJ0, 4)) rfl o1 o2 0 (by decide)
  cases e
  obtain ⟨e1, e2⟩ := zB_fn b1 b2 m1 m2
  exact getD_ext e1 (fun i hi => sb_inj _ (l1 i) _ (l2 i) (e2 i hi))
