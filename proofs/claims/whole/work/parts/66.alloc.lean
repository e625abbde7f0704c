/-! ===== NEW CELLS: objects, arrays, stores into them; calls and ends of methods that make cells ===== -/
/-- what a method leaves that may make cells: its answer and what then holds -/
def zX (A : Nat → Prop) (Post : Option Value → Heap → Prop) : Array Value → State → Outcome → State → Prop := fun _ st oc t => ∃ r, oc = .returned r ∧ Post r t.heap ∧ va_F A st t
/-- nothing below the size changed but what B names -/
def zKp (B : Nat → Prop) (H H1 : Heap) : Prop := ∀ q, q < H.size → ¬ B q → H1[q]? = H[q]?
def zC (G : zG) (H : Heap) (a n : Nat) (f : Nat → Nat) : Prop := va_at G.1 vwCl (a, .inl (G.2.1.2.2.1, n, .inl (fun j => nI (f j)))) H
theorem zC.one {G : zG} {H : Heap} {a n : Nat} {f : Nat → Nat} (h : zC G H a n f) : va_P G.1 vwCl [(a, .inl (G.2.1.2.2.1, n, .inl (fun j => nI (f j))))] H := va_one h
theorem zC.lt {G : zG} {H : Heap} {a n : Nat} {f : Nat → Nat} (h : zC G H a n f) : a < H.size := va_at.lt h
theorem zO.keep {G : zG} {B : Nat → Prop} {H H1 : Heap} {a ci : Nat} {fs : List Value} (h : zO G H a ci fs) (k : zKp B H H1) (hb : ¬ B a) : zO G H1 a ci fs := h.kept (k a h.lt hb)
theorem zA.keep {G : zG} {B : Nat → Prop} {H H1 : Heap} {a n : Nat} {f : Nat → Nat} (h : zA G H a n f) (k : zKp B H H1) (hb : ¬ B a) : zA G H1 a n f := h.kept (k a h.lt hb)
theorem zB.keep {G : zG} {B : Nat → Prop} {H H1 : Heap} {a n : Nat} {f : Nat → Nat} (h : zB G H a n f) (k : zKp B H H1) (hb : ¬ B a) : zB G H1 a n f := h.kept (k a h.lt hb)
theorem zC.keep {G : zG} {B : Nat → Prop} {H H1 : Heap} {a n : Nat} {f : Nat → Nat} (h : zC G H a n f) (k : zKp B H H1) (hb : ¬ B a) : zC G H1 a n f := va_at.kept h (k a h.lt hb)
theorem zOw.keep {G : zG} {B : Nat → Prop} {H H1 : Heap} {a ci : Nat} {fs : List Value} (h : zOw G H a ci fs) (k : zKp B H H1) (hb : ¬ B a) : zOw G H1 a ci fs := h.kept (k a h.lt hb)
theorem zS.keep {G : zG} {B : Nat → Prop} {H H1 : Heap} {a v n : Nat} {t : Nat → Nat} {hs hz : Value} (h : zS G a v n t hs hz H) (k : zKp B H H1) (hb : ¬ B a ∧ ¬ B v) : zS G a v n t hs hz H1 := ⟨h.1.keep k hb.1, h.2.1.keep k hb.2, h.2.2⟩
theorem StrZ.keep {G : zG} {B Z : Nat → Prop} {H H1 : Heap} {a : Nat} {w : List Nat} (h : StrZ G H Z a w) (k : zKp B H H1) (hb : ∀ q, Z q → ¬ B q) : StrZ G H1 Z a w := h.kept (fun q hq hl => k q hl (hb q hq))
theorem CH.keep {G : zG} {B : Nat → Prop} {H H1 : Heap} (h : CH G H) (k : zKp B H H1) (hb : (∀ q, q < cB G → ¬ B q) ∧ H.size ≤ H1.size) : CH G H1 := h.kept (fun q hq => k q (Nat.lt_of_lt_of_le hq h.2.2.2.2.2) (hb.1 q hq)) hb.2
theorem Nod.keep {G : zG} {B : Nat → Prop} {H H1 : Heap} {f : Nat → Nat} {pf : Nat → Int32} {d v hi k a : Nat} {w : List Nat} {pl : Int32} {nxt : Option Nat} (h : Nod G H f pf d v hi k a w pl nxt) (kp : zKp B H H1) (hb : ∀ q, (v ≤ q ∧ q < hi) ∨ q < cB G → ¬ B q) : Nod G H1 f pf d v hi k a w pl nxt := h.kept (fun q h1 h2 h3 => kp q h3 (hb q (Or.inl ⟨h1, h2⟩))) (fun q h1 h3 => kp q h3 (hb q (Or.inr h1)))
theorem TP.keep {G : zG} {B : Nat → Prop} {H H1 : Heap} {tp qb cn : Nat} {f : Nat → Nat} (h : TP G tp qb cn f H) (k : zKp B H H1) (hb : ¬ B tp ∧ ¬ B qb) : TP G tp qb cn f H1 := ⟨h.1.keep k hb.1, h.2.1.keep k hb.2, h.2.2⟩
def KL (G : zG) (H : Heap) (f : Nat → Nat) (pf : Nat → Int32) (d lo hi : Nat) (vs xs : List Nat) : Prop := kidL (fun v1 mid x n1 => Nod G H f pf d v1 mid (f x) (vo f x) (nL f x) (pf x) n1) lo hi vs xs
theorem KL.keep {G : zG} {B : Nat → Prop} {H H1 : Heap} {f : Nat → Nat} {pf : Nat → Int32} {d lo hi : Nat} {vs xs : List Nat} (h : KL G H f pf d lo hi vs xs) (kp : zKp B H H1) (hb : ∀ q, (lo ≤ q ∧ q < hi) ∨ q < cB G → ¬ B q) : KL G H1 f pf d lo hi vs xs :=
  kidL_mono (fun v mid x n h1 h2 _ h3 => h3.keep kp (fun q hq => hb q (by omega))) (fun _ _ _ _ h1 => h1.lt) h
section ZX
variable {p : Program} {l : Launch} {e : Env} {R : Room} {s : State} {m : MethodId} {args : Array Value} {below : List Frame} {meth : Method} {c : Code} {H : Heap} {locs : List Loc} {cells slots : Nat} {Q : State → Prop}
variable {cc : ByteArray} {pc : Nat} {ls : Array Slot} {rest : List Value} {A : Nat → Prop} {H0 : Heap}
theorem zx_run {st : List Value} {A1 : Nat → Prop} {Post : Option Value → Heap → Prop} {a : Array Value} {mc ms : Nat} (hr : CallRun p l e R s m args below meth c H locs cells slots mc ms (F0 m pc ls st) rest (zX A1 Post a) A1) (hS : va_S A H0 H locs) (hA : ∀ q, A1 q → A q)
    (kk : ∀ (r : Option Value) (H1 : Heap) (locs1 : List Loc), Post r H1 → H.size ≤ H1.size → zKp A1 H H1 → va_S A H0 H1 locs1 → W p l e R s m args below meth c H1 locs1 (cells + mc) (slots + ms) Q (F0 m (pc + 3) ls (r.toList ++ rest))) : W p l e R s m args below meth c H locs cells slots Q (F0 m pc ls st) := by
  intro X hT XS
  obtain ⟨v, st₀, t, T', L, h0, X', hL, e1, ⟨r, hv, hh, hz, hk⟩, stp⟩ := hr X hT XS
  cases hv
  rw [h0] at hz hk
  obtain ⟨t2, a1, b1⟩ := kk _ T'.heap (locs ++ L) (by rw [e1]; exact hh) (by rw [e1]; exact hz) (fun q h1 h2 => by rw [e1]; exact hk q h1 h2) ⟨Nat.le_trans hS.1 (by rw [e1]; exact hz), fun q h1 h2 => by
      rw [e1, hk q (Nat.lt_of_lt_of_le h1 hS.1) (fun z => h2 (hA q z))]
      exact hS.2.1 q h1 h2, fun q hq => by
      rcases List.mem_append.mp hq with h | h
      · exact hS.2.2 q h
      · exact hA _ (hL q h)⟩ T' rfl X'
  exact ⟨t2, stp t2 a1, b1⟩
theorem zx_V {y : MethodName} {bytes : ByteArray} {maxL nL n index ci N b mc ms : Nat} {ret : Option FieldType} {ws : List Cond} {rm : Room} {P : Heap → Prop} {Post : Option Value → Heap → Prop} {A1 : Nat → Prop} {Ts : List Cond} {own C : String} {T : u_T} {As st fs : List Value} {G : zG} (S : CallFix p m c cc nL s args Ts own) (hM : Met l y ws rm (zP G (.ref b :: As) P) (zX A1 Post) mc ms A1) (cw : CallW R s args own C index y bytes maxL ret ws rm mc ms n) (hK : zK G s) (hO : zO G H b ci fs) (hc : vwCl[ci]? = some (C, T, N)) (hP : P H)
    (hn : As.length = n) (hsize : ls.size = nL) (hstack : st = As.reverse ++ .ref b :: rest) (hW : (rest.map fun v => v.category).sum ≤ 8) (hdg : decode cc pc = .ok (.invokevirtual index, 3)) (hf : cells + mc ≤ R.cells ∧ slots + ms ≤ R.slots) (hS : va_S A H0 H locs) (hA : ∀ q, A1 q → A q)
    (kk : ∀ (r : Option Value) (H1 : Heap) (locs1 : List Loc), Post r H1 → H.size ≤ H1.size → zKp A1 H H1 → va_S A H0 H1 locs1 → W p l e R s m args below meth c H1 locs1 (cells + mc) (slots + ms) Q (F0 m (pc + 3) ls (r.toList ++ rest))) : W p l e R s m args below meth c H locs cells slots Q (F0 m pc ls st) :=
  zx_run (W.runV (e := e) (below := below) (meth := meth) (H := H) (locs := locs) (cells := cells) (slots := slots) (b := b) (As := As) (rest := rest) (g := F0 m pc ls st) S hM cw ⟨zP_blind, va_recv hK.1 hO.one (q0 := 0) hc rfl, fun U hU hW => ⟨rfl, by rw [hU]; exact hP, zK.warm hW hK⟩⟩ rfl hn hsize hstack (lv_room hW) hdg hf) hS hA kk
theorem zx_Vw {y : MethodName} {bytes : ByteArray} {maxL nL n index ci N b mc ms : Nat} {ret : Option FieldType} {ws : List Cond} {rm : Room} {P : Heap → Prop} {Post : Option Value → Heap → Prop} {A1 : Nat → Prop} {Ts : List Cond} {own C : String} {T : u_T} {As st fs : List Value} {G : zG} (S : CallFix p m c cc nL s args Ts own) (hM : Met l y ws rm (zP G (.ref b :: As) P) (zX A1 Post) mc ms A1) (cw : CallW R s args own C index y bytes maxL ret ws rm mc ms n) (hK : zK G s) (hO : zOw G H b ci fs) (hc : vwCl[ci]? = some (C, T, N)) (hP : P H)
    (hn : As.length = n) (hsize : ls.size = nL) (hstack : st = As.reverse ++ .ref b :: rest) (hW : (rest.map fun v => v.category).sum ≤ 8) (hdg : decode cc pc = .ok (.invokevirtual index, 3)) (hf : cells + mc ≤ R.cells ∧ slots + ms ≤ R.slots) (hS : va_S A H0 H locs) (hA : ∀ q, A1 q → A q)
    (kk : ∀ (r : Option Value) (H1 : Heap) (locs1 : List Loc), Post r H1 → H.size ≤ H1.size → zKp A1 H H1 → va_S A H0 H1 locs1 → W p l e R s m args below meth c H1 locs1 (cells + mc) (slots + ms) Q (F0 m (pc + 3) ls (r.toList ++ rest))) : W p l e R s m args below meth c H locs cells slots Q (F0 m pc ls st) :=
  zx_run (W.runV (e := e) (below := below) (meth := meth) (H := H) (locs := locs) (cells := cells) (slots := slots) (b := b) (As := As) (rest := rest) (g := F0 m pc ls st) S hM cw ⟨zP_blind, zOw.recv hK hO hc, fun U hU hW => ⟨rfl, by rw [hU]; exact hP, zK.warm hW hK⟩⟩ rfl hn hsize hstack (lv_room hW) hdg hf) hS hA kk
theorem zx_VN {y : MethodName} {bytes : ByteArray} {maxL nL n index ci N b mc ms : Nat} {ret : Option FieldType} {ws : List Cond} {rm : Room} {P : Heap → Prop} {Post : Option Value → Heap → Prop} {A1 : Nat → Prop} {Ts : List Cond} {own C host : String} {T : u_T} {As st fs : List Value} {G : zG} (S : CallFix p m c cc nL s args Ts own) (hM : Met l y ws rm (zP G (.ref b :: As) P) (zX A1 Post) mc ms A1) (cw : va_CN R s args own index y host bytes maxL ret ws rm mc ms n ∧ (Cond.instanceMethod y).before args s = true ∧ (Cond.selects C y y).before args s = true) (hK : zK G s) (hO : zO G H b ci fs) (hc : vwCl[ci]? = some (C, T, N)) (hP : P H)
    (hn : As.length = n) (hsize : ls.size = nL) (hstack : st = As.reverse ++ .ref b :: rest) (hW : (rest.map fun v => v.category).sum ≤ 8) (hdg : decode cc pc = .ok (.invokevirtual index, 3)) (hf : cells + mc ≤ R.cells ∧ slots + ms ≤ R.slots) (hS : va_S A H0 H locs) (hA : ∀ q, A1 q → A q)
    (kk : ∀ (r : Option Value) (H1 : Heap) (locs1 : List Loc), Post r H1 → H.size ≤ H1.size → zKp A1 H H1 → va_S A H0 H1 locs1 → W p l e R s m args below meth c H1 locs1 (cells + mc) (slots + ms) Q (F0 m (pc + 3) ls (r.toList ++ rest))) : W p l e R s m args below meth c H locs cells slots Q (F0 m pc ls st) :=
  zx_run (va_Run.run (va_runVN (e := e) (below := below) (meth := meth) (H := H) (locs := locs) (cells := cells) (slots := slots) (b := b) (As := As) (rest := rest) (g := F0 m pc ls st) S hM cw ⟨zP_blind, va_recv hK.1 hO.one (q0 := 0) hc rfl, fun U hU hW => ⟨rfl, by rw [hU]; exact hP, zK.warm hW hK⟩⟩ rfl hn hsize hstack (lv_room hW) hdg hf)) hS hA kk
theorem zx_S {y : MethodName} {bytes : ByteArray} {maxL nL n index mc ms : Nat} {ret : Option FieldType} {ws : List Cond} {rm : Room} {P : Heap → Prop} {Post : Option Value → Heap → Prop} {A1 : Nat → Prop} {Ts : List Cond} {own : String} {As st : List Value} {G : zG} (S : CallFix p m c cc nL s args Ts own) (hM : Met l y ws rm (zP G As P) (zX A1 Post) mc ms A1) (cw : CallB R s args own index y bytes maxL ret ws rm mc ms n ∧ (Cond.static y).before args s = true) (hK : zK G s) (hP : P H)
    (hn : As.length = n) (hsize : ls.size = nL) (hstack : st = As.reverse ++ rest) (hW : (rest.map fun v => v.category).sum ≤ 8) (hdg : decode cc pc = .ok (.invokestatic index, 3)) (hf : cells + mc ≤ R.cells ∧ slots + ms ≤ R.slots) (hS : va_S A H0 H locs) (hA : ∀ q, A1 q → A q)
    (kk : ∀ (r : Option Value) (H1 : Heap) (locs1 : List Loc), Post r H1 → H.size ≤ H1.size → zKp A1 H H1 → va_S A H0 H1 locs1 → W p l e R s m args below meth c H1 locs1 (cells + mc) (slots + ms) Q (F0 m (pc + 3) ls (r.toList ++ rest))) : W p l e R s m args below meth c H locs cells slots Q (F0 m pc ls st) :=
  zx_run (W.runS (e := e) (below := below) (meth := meth) (H := H) (locs := locs) (cells := cells) (slots := slots) (As := As) (rest := rest) (g := F0 m pc ls st) S hM cw ⟨zP_blind, fun U hU hW => ⟨rfl, by rw [hU]; exact hP, zK.warm hW hK⟩⟩ rfl hn hsize hstack (lv_room hW) hdg hf) hS hA kk
theorem zx_SN {y : MethodName} {bytes : ByteArray} {maxL nL n index mc ms : Nat} {ret : Option FieldType} {ws : List Cond} {rm : Room} {P : Heap → Prop} {Post : Option Value → Heap → Prop} {A1 : Nat → Prop} {Ts : List Cond} {own host : String} {As st : List Value} {G : zG} (S : CallFix p m c cc nL s args Ts own) (hM : Met l y ws rm (zP G As P) (zX A1 Post) mc ms A1) (cw : va_CN R s args own index y host bytes maxL ret ws rm mc ms n ∧ (Cond.static y).before args s = true ∧ True) (hK : zK G s) (hP : P H)
    (hn : As.length = n) (hsize : ls.size = nL) (hstack : st = As.reverse ++ rest) (hW : (rest.map fun v => v.category).sum ≤ 8) (hdg : decode cc pc = .ok (.invokestatic index, 3)) (hf : cells + mc ≤ R.cells ∧ slots + ms ≤ R.slots) (hS : va_S A H0 H locs) (hA : ∀ q, A1 q → A q)
    (kk : ∀ (r : Option Value) (H1 : Heap) (locs1 : List Loc), Post r H1 → H.size ≤ H1.size → zKp A1 H H1 → va_S A H0 H1 locs1 → W p l e R s m args below meth c H1 locs1 (cells + mc) (slots + ms) Q (F0 m (pc + 3) ls (r.toList ++ rest))) : W p l e R s m args below meth c H locs cells slots Q (F0 m pc ls st) :=
  zx_run (va_Run.run (va_runSN (e := e) (below := below) (meth := meth) (H := H) (locs := locs) (cells := cells) (slots := slots) (As := As) (rest := rest) (g := F0 m pc ls st) S hM cw ⟨zP_blind, fun U hU hW => ⟨rfl, by rw [hU]; exact hP, zK.warm hW hK⟩⟩ rfl hn hsize hstack (lv_room hW) hdg hf)) hS hA kk
theorem zx_I {y : MethodName} {bytes : ByteArray} {maxL nL n index b mc ms : Nat} {ws : List Cond} {rm : Room} {P : Heap → Prop} {Post : Option Value → Heap → Prop} {A1 : Nat → Prop} {Ts : List Cond} {own : String} {As st : List Value} {G : zG} (S : CallFix p m c cc nL s args Ts own) (hM : Met l y ws rm (zP G (.ref b :: As) P) (zX A1 Post) mc ms A1) (cw : CallB R s args own index y bytes maxL none ws rm mc ms n ∧ y.name = "<init>" ∧ (Cond.instanceMethod y).before args s = true) (hK : zK G s) (hP : P H)
    (hn : As.length = n) (hsize : ls.size = nL) (hstack : st = As.reverse ++ .ref b :: rest) (hW : (rest.map fun v => v.category).sum ≤ 8) (hdg : decode cc pc = .ok (.invokespecial index, 3)) (hf : cells + mc ≤ R.cells ∧ slots + ms ≤ R.slots) (hS : va_S A H0 H locs) (hA : ∀ q, A1 q → A q)
    (kk : ∀ (r : Option Value) (H1 : Heap) (locs1 : List Loc), Post r H1 → H.size ≤ H1.size → zKp A1 H H1 → va_S A H0 H1 locs1 → W p l e R s m args below meth c H1 locs1 (cells + mc) (slots + ms) Q (F0 m (pc + 3) ls (r.toList ++ rest))) : W p l e R s m args below meth c H locs cells slots Q (F0 m pc ls st) :=
  zx_run (W.runI (e := e) (below := below) (meth := meth) (H := H) (locs := locs) (cells := cells) (slots := slots) (b := b) (As := As) (rest := rest) (g := F0 m pc ls st) S hM cw ⟨zP_blind, fun U hU hW => ⟨rfl, by rw [hU]; exact hP, zK.warm hW hK⟩⟩ rfl hn hsize hstack (lv_room hW) hdg hf) hS hA kk
theorem zx_IN {y : MethodName} {bytes : ByteArray} {maxL nL n index b mc ms : Nat} {ws : List Cond} {rm : Room} {P : Heap → Prop} {Post : Option Value → Heap → Prop} {A1 : Nat → Prop} {Ts : List Cond} {own host : String} {As st : List Value} {G : zG} (S : CallFix p m c cc nL s args Ts own) (hM : Met l y ws rm (zP G (.ref b :: As) P) (zX A1 Post) mc ms A1) (cw : va_CN R s args own index y host bytes maxL none ws rm mc ms n ∧ y.name = "<init>" ∧ (Cond.instanceMethod y).before args s = true) (hK : zK G s) (hP : P H)
    (hn : As.length = n) (hsize : ls.size = nL) (hstack : st = As.reverse ++ .ref b :: rest) (hW : (rest.map fun v => v.category).sum ≤ 8) (hdg : decode cc pc = .ok (.invokespecial index, 3)) (hf : cells + mc ≤ R.cells ∧ slots + ms ≤ R.slots) (hS : va_S A H0 H locs) (hA : ∀ q, A1 q → A q)
    (kk : ∀ (r : Option Value) (H1 : Heap) (locs1 : List Loc), Post r H1 → H.size ≤ H1.size → zKp A1 H H1 → va_S A H0 H1 locs1 → W p l e R s m args below meth c H1 locs1 (cells + mc) (slots + ms) Q (F0 m (pc + 3) ls (r.toList ++ rest))) : W p l e R s m args below meth c H locs cells slots Q (F0 m pc ls st) :=
  zx_run (va_Run.run (va_runIN (e := e) (below := below) (meth := meth) (H := H) (locs := locs) (cells := cells) (slots := slots) (b := b) (As := As) (rest := rest) (g := F0 m pc ls st) S hM cw ⟨zP_blind, fun U hU hW => ⟨rfl, by rw [hU]; exact hP, zK.warm hW hK⟩⟩ rfl hn hsize hstack (lv_room hW) hdg hf)) hS hA kk
theorem zx_new {G : zG} (hx : p.tables.exec = Jvm.exec) (hb : c.code = cc) {own C : String} {T : u_T} {N ci index : Nat} {Ts : List Cond} (hts : ∀ w ∈ Ts, w.before args s = true) (hin : ∀ w ∈ u_ws C T N, w ∈ Ts) (ty : Nat → FieldType) (hty : ∀ k, k < N → parseFieldDescriptor (T k).2.2.1 = some (ty k)) (hown : s.vm.findClass own = some m.cls) (hcl : (Cond.classLink own index C).before args s = true) (hinst : (Cond.instantiable C N).before args s = true) (hini : (Cond.initialized C).before args s = true)
    (hK : zK G s) (hc : vwCl[ci]? = some (C, T, N)) {fs : List Value} (hfs : ∀ j, j < N → defaultValue (ty j) = vp_V fs j) (hcells : cells + 1 ≤ R.cells) (hslots : slots + N ≤ R.slots) (hS : va_S A H0 H locs) (hdg : decode cc pc = .ok (.new index, 3))
    (kk : ∀ (q : Nat) (H1 : Heap), q = H.size → H1.size = q + 1 → zO G H1 q ci fs → zKp (fun _ => False) H H1 → va_S A H0 H1 locs → W p l e R s m args below meth c H1 locs (cells + 1) (slots + N) Q (F0 m (pc + 3) ls (.ref q :: rest))) : W p l e R s m args below meth c H locs cells slots Q (F0 m pc ls rest) := by
  have hKn := hK.1.1 ci _ hc
  refine W.newcK hx hb hown hcl hinst hini rfl hdg hcells hslots hKn.2.1 rfl fun H1 kC hkC e1 z1 o1 => ?_
  exact kk H.size H1 rfl z1 ⟨_, hc, (u_born ty hts hin hKn hkC e1 hty).to hfs⟩ (fun q hq _ => o1 q hq) ⟨Nat.le_trans hS.1 (by omega), fun x h1 h2 => (o1 x (Nat.lt_of_lt_of_le h1 hS.1)).trans (hS.2.1 x h1 h2), hS.2.2⟩
theorem zx_newC {G : zG} (hx : p.tables.exec = Jvm.exec) (hb : c.code = cc) (harr : (Cond.arrayClass .char).before args s = true) (hK : zK G s) {n : Nat} (hn : n < 2 ^ 20) (hcells : cells + 1 ≤ R.cells) (hslots : slots + n ≤ R.slots) (hS : va_S A H0 H locs) (hdg : decode cc pc = .ok (.newarray .char, 2))
    (kk : ∀ (q : Nat) (H1 : Heap), q = H.size → H1.size = q + 1 → zC G H1 q n (fun _ => 0) → zKp (fun _ => False) H H1 → va_S A H0 H1 locs → W p l e R s m args below meth c H1 locs (cells + 1) (slots + n) Q (F0 m (pc + 2) ls (.ref q :: rest))) : W p l e R s m args below meth c H locs cells slots Q (F0 m pc ls (.int (nI n) :: rest)) := by
  refine va_newaK (atype := .char) hx hb harr rfl hdg rfl (nI_pos (by omega)) (nI_clamp (by omega)) (by show n * 2 ≤ _; omega) hcells hslots rfl fun H1 cA e1 z1 o1 hAr hNm => ?_
  have hc : cA = G.2.1.2.2.1 := Option.some.inj (hNm.symm.trans (hK.1.2 2 _ rfl).2)
  subst hc
  exact kk H.size H1 rfl z1 e1 (fun q hq _ => o1 q hq) ⟨Nat.le_trans hS.1 (by omega), fun x h1 h2 => (o1 x (Nat.lt_of_lt_of_le h1 hS.1)).trans (hS.2.1 x h1 h2), hS.2.2⟩
theorem zx_newB {G : zG} (hx : p.tables.exec = Jvm.exec) (hb : c.code = cc) (harr : (Cond.arrayClass .byte).before args s = true) (hK : zK G s) {n : Nat} (hn : n < 2 ^ 20) (hcells : cells + 1 ≤ R.cells) (hslots : slots + n ≤ R.slots) (hS : va_S A H0 H locs) (hdg : decode cc pc = .ok (.newarray .byte, 2))
    (kk : ∀ (q : Nat) (H1 : Heap), q = H.size → H1.size = q + 1 → zB G H1 q n (fun _ => 0) → zKp (fun _ => False) H H1 → va_S A H0 H1 locs → W p l e R s m args below meth c H1 locs (cells + 1) (slots + n) Q (F0 m (pc + 2) ls (.ref q :: rest))) : W p l e R s m args below meth c H locs cells slots Q (F0 m pc ls (.int (nI n) :: rest)) := by
  refine va_newaK (atype := .byte) hx hb harr rfl hdg rfl (nI_pos (by omega)) (nI_clamp (by omega)) (by show n * 1 ≤ _; omega) hcells hslots rfl fun H1 cA e1 z1 o1 hAr hNm => ?_
  have hc : cA = G.2.1.2.1 := Option.some.inj (hNm.symm.trans (hK.1.2 1 _ rfl).2)
  subst hc
  exact kk H.size H1 rfl z1 (zB.ofC e1) (fun q hq _ => o1 q hq) ⟨Nat.le_trans hS.1 (by omega), fun x h1 h2 => (o1 x (Nat.lt_of_lt_of_le h1 hS.1)).trans (hS.2.1 x h1 h2), hS.2.2⟩
theorem zx_newA {G : zG} (hx : p.tables.exec = Jvm.exec) (hb : c.code = cc) (harr : (Cond.arrayClass .int).before args s = true) (hK : zK G s) {n : Nat} (hn : n < 2 ^ 20) (hcells : cells + 1 ≤ R.cells) (hslots : slots + n ≤ R.slots) (hS : va_S A H0 H locs) (hdg : decode cc pc = .ok (.newarray .int, 2))
    (kk : ∀ (q : Nat) (H1 : Heap), q = H.size → H1.size = q + 1 → zA G H1 q n (fun _ => 0) → zKp (fun _ => False) H H1 → va_S A H0 H1 locs → W p l e R s m args below meth c H1 locs (cells + 1) (slots + n) Q (F0 m (pc + 2) ls (.ref q :: rest))) : W p l e R s m args below meth c H locs cells slots Q (F0 m pc ls (.int (nI n) :: rest)) := by
  refine va_newaK (atype := .int) hx hb harr rfl hdg rfl (nI_pos (by omega)) (nI_clamp (by omega)) (by show n * 4 ≤ _; omega) hcells hslots rfl fun H1 cA e1 z1 o1 hAr hNm => ?_
  have hc : cA = G.2.1.1 := Option.some.inj (hNm.symm.trans (hK.1.2 0 _ rfl).2)
  subst hc
  exact kk H.size H1 rfl z1 e1 (fun q hq _ => o1 q hq) ⟨Nat.le_trans hS.1 (by omega), fun x h1 h2 => (o1 x (Nat.lt_of_lt_of_le h1 hS.1)).trans (hS.2.1 x h1 h2), hS.2.2⟩
theorem zx_put {G : zG} (hx : p.tables.exec = Jvm.exec) (hb : c.code = cc) {own C : String} {T : u_T} {N ci index a : Nat} {Ts : List Cond} (hts : ∀ w ∈ Ts, w.before args s = true) (hin : ∀ w ∈ u_ws C T N, w ∈ Ts) (ty0 : Nat → FieldType) (hty : ∀ k, k < N → parseFieldDescriptor (T k).2.2.1 = some (ty0 k)) (hnm : ∀ a, a < N → ∀ b, b < N → a ≠ b → (T a).2.1 ≠ (T b).2.1) (hown : s.vm.findClass own = some m.cls) (hK : zK G s) {fs : List Value} (hO : zO G H a ci fs) (hc : vwCl[ci]? = some (C, T, N)) (k : Nat) (hk : k < N) (hlink : (Cond.fieldLink own index C (T k).2.1 (T k).2.2.1).before args s = true) (hsame : ∀ x, s.fieldFound? (T k).1 (T k).2.1 (T k).2.2.1 = some x → s.fieldFound? C (T k).2.1 (T k).2.2.1 = some x) (hfin : (T k).2.2.2 = false ∨ ((T k).2.2.2 = true ∧ meth.name = "<init>" ∧ (T k).1 = own)) {v : Value} (hn : narrow (ty0 k) v = v) (hfit : fits (ty0 k) v = true) (hl : k < fs.length) (hA : A a) (hS : va_S A H0 H locs)
    (hdg : decode cc pc = .ok (.putfield index, 3)) (kk : ∀ (H1 : Heap) (locs1 : List Loc), H1.size = H.size → zO G H1 a ci (fs.set k v) → zKp (fun q => q = a) H H1 → va_S A H0 H1 locs1 → W p l e R s m args below meth c H1 locs1 cells slots Q (F0 m (pc + 3) ls rest)) : W p l e R s m args below meth c H locs cells slots Q (F0 m pc ls (v :: .ref a :: rest)) := by
  have hd := hty k hk
  have hap := va_apart (own := own) hts hin ty0 hty hnm hK.1 hc
  obtain ⟨r, h1, cell, q1, q2, q3, q4⟩ := hO
  have hr : r = (C, T, N) := Option.some.inj (h1.symm.trans hc)
  subst hr
  obtain ⟨hSl, hfc, kC, hkC, hkind⟩ := hK.1.1 ci _ hc
  obtain ⟨cf, kf, fi, f, hi, hsl⟩ := hSl k hk
  have hlay := hts _ (hin _ (u_in_lay hk))
  have hst := (u_facts hfc hkC (u_lays hts hin hk) hi).1
  unfold u_lay at hlay
  rcases hfin with hfin | ⟨hfin, hin2, hdecl⟩
  · rw [if_neg (by rw [hfin]; decide)] at hlay
    have h6 := u_store hfc hkC hkind hlay hi hd hn hfit
    refine W.putK hx hb (f := f) ⟨hown, hlink, ⟨_, _, _, hsame _ hi⟩, hst⟩ (by rw [q2]; exact h6) q1 q3 (by rw [hsl]; exact k2_hasslot (q4 k hk)) rfl rfl hdg fun H' e1 e2 e3 => ?_
    rw [hsl] at e1 ⊢
    exact kk H' _ e2 ⟨_, hc, t_OB.to (V := updV (vp_V fs) k v) ⟨_, e1, q2, q3, t_set q4 hap hk v⟩ (fun j _ => vp_updV_set hl v j)⟩ (fun q _ h => e3 q h) (hS.put e2 e3 hA)
  · rw [if_pos hfin] at hlay
    have hcf : m.cls = cf := by
      obtain ⟨_, _, c', _, _, _, -, -, hf', -, -, -, hown2, -⟩ := Cond.laysFinal_spec hlay
      have e1 : c' = cf := by have := hi.symm.trans hf'; simp at this; exact this.1.symm
      rw [hdecl] at hown2
      rw [← e1]; exact Option.some.inj (hown.symm.trans hown2)
    have h6 := u_fits hfc hkC hkind (Or.inr hlay) hi hd hn hfit
    refine W.putFinK hx hb hown hlink (hsame _ hi) hst hcf hin2 (by rw [q2]; exact h6) q1 q3 (by rw [hsl]; exact k2_hasslot (q4 k hk)) rfl rfl hdg fun H' e1 e2 e3 => ?_
    rw [hsl] at e1 ⊢
    exact kk H' _ e2 ⟨_, hc, t_OB.to (V := updV (vp_V fs) k v) ⟨_, e1, q2, q3, t_set q4 hap hk v⟩ (fun j _ => vp_updV_set hl v j)⟩ (fun q _ h => e3 q h) (hS.put e2 e3 hA)
theorem zx_putN {G : zG} (hx : p.tables.exec = Jvm.exec) (hb : c.code = cc) {own C host : String} {T : u_T} {N ci index a : Nat} {Ts : List Cond} (hts : ∀ w ∈ Ts, w.before args s = true) (hin : ∀ w ∈ u_ws C T N, w ∈ Ts) (ty0 : Nat → FieldType) (hty : ∀ k, k < N → parseFieldDescriptor (T k).2.2.1 = some (ty0 k)) (hnm : ∀ a, a < N → ∀ b, b < N → a ≠ b → (T a).2.1 ≠ (T b).2.1) (hown : s.vm.findClass own = some m.cls) (hK : zK G s) {fs : List Value} (hO : zO G H a ci fs) (hc : vwCl[ci]? = some (C, T, N)) (k : Nat) (hk : k < N) (hlink : Cond.fieldLinkNest own index C (T k).2.1 (T k).2.2.1 host ∈ zNest) (hsame : ∀ x, s.fieldFound? (T k).1 (T k).2.1 (T k).2.2.1 = some x → s.fieldFound? C (T k).2.1 (T k).2.2.1 = some x) (hfin : (T k).2.2.2 = false) {v : Value} (hn : narrow (ty0 k) v = v) (hfit : fits (ty0 k) v = true) (hl : k < fs.length) (hA : A a) (hS : va_S A H0 H locs)
    (hdg : decode cc pc = .ok (.putfield index, 3)) (kk : ∀ (H1 : Heap) (locs1 : List Loc), H1.size = H.size → zO G H1 a ci (fs.set k v) → zKp (fun q => q = a) H H1 → va_S A H0 H1 locs1 → W p l e R s m args below meth c H1 locs1 cells slots Q (F0 m (pc + 3) ls rest)) : W p l e R s m args below meth c H locs cells slots Q (F0 m pc ls (v :: .ref a :: rest)) := by
  have hd := hty k hk
  have hap := va_apart (own := own) hts hin ty0 hty hnm hK.1 hc
  obtain ⟨r, h1, cell, q1, q2, q3, q4⟩ := hO
  have hr : r = (C, T, N) := Option.some.inj (h1.symm.trans hc)
  subst hr
  obtain ⟨hSl, hfc, kC, hkC, hkind⟩ := hK.1.1 ci _ hc
  obtain ⟨cf, kf, fi, f, hi, hsl⟩ := hSl k hk
  have hlay := hts _ (hin _ (u_in_lay hk))
  unfold u_lay at hlay
  rw [if_neg (by rw [hfin]; decide)] at hlay
  have hst := (u_facts hfc hkC (u_lays hts hin hk) hi).1
  have h6 := u_store hfc hkC hkind hlay hi hd hn hfit
  refine va_WputK hx hb (f := f) hown (va_Nw.use rfl (hK.2.1 _ hlink)) (hsame _ hi) hst (by rw [q2]; exact h6) q1 q3 (by rw [hsl]; exact k2_hasslot (q4 k hk)) rfl rfl hdg fun H' e1 e2 e3 => ?_
  rw [hsl] at e1 ⊢
  exact kk H' _ e2 ⟨_, hc, t_OB.to (V := updV (vp_V fs) k v) ⟨_, e1, q2, q3, t_set q4 hap hk v⟩ (fun j _ => vp_updV_set hl v j)⟩ (fun q _ h => e3 q h) (hS.put e2 e3 hA)
theorem zx_cst {G : zG} (hx : p.tables.exec = Jvm.exec) (hb : c.code = cc) (hK : zK G s) {a n i x : Nat} {f : Nat → Nat} (ha : zC G H a n f) (hi : i < n) (hn : n < 2 ^ 31) (hx9 : narrow .char (.int (nI x)) = .int (nI x)) (hA : A a) (hS : va_S A H0 H locs) (hdg : decode cc pc = .ok (.castore, 1))
    (kk : ∀ (H1 : Heap) (locs1 : List Loc), H1.size = H.size → zC G H1 a n (upN f i x) → zKp (fun q => q = a) H H1 → va_S A H0 H1 locs1 → W p l e R s m args below meth c H1 locs1 cells slots Q (F0 m (pc + 1) ls rest)) : W p l e R s m args below meth c H locs cells slots Q (F0 m pc ls (.int (nI x) :: .int (nI i) :: .ref a :: rest)) := by
  have hin := vp_in_nI hi hn
  refine W.cast hx hb ha ((hK.1.2 2 _ rfl).1 n (fun j => .int (nI (f j)))) (fun q => by cases q) (by show ¬ (_ < 0 ∨ (arrV _ _ _).slots.size ≤ _); rw [arrV_size]; exact hin) rfl rfl hdg fun H1 e z oq => ?_
  refine kk H1 _ z ?_ (fun q _ h => oq q h) (hS.put z oq hA)
  show H1[a]? = some (vp_cell _ _)
  rw [e, hx9]
  rw [vp_cell_i, vp_cell_i, arrV_store]
  congr 2
  funext q
  rw [nI_clamp (Nat.lt_trans hi hn)]
  by_cases hq : q = i
  · subst hq
    simp [updV, upN]
  · simp [updV, upN, hq]
theorem zx_bst {G : zG} (hx : p.tables.exec = Jvm.exec) (hb : c.code = cc) (hK : zK G s) {a n i x : Nat} {f : Nat → Nat} (ha : zB G H a n f) (hi : i < n) (hn : n < 2 ^ 31) (hx9 : narrow .byte (.int (sb_b x)) = .int (sb_b x)) (hA : A a) (hS : va_S A H0 H locs) (hdg : decode cc pc = .ok (.bastore, 1))
    (kk : ∀ (H1 : Heap) (locs1 : List Loc), H1.size = H.size → zB G H1 a n (upN f i x) → zKp (fun q => q = a) H H1 → va_S A H0 H1 locs1 → W p l e R s m args below meth c H1 locs1 cells slots Q (F0 m (pc + 1) ls rest)) : W p l e R s m args below meth c H locs cells slots Q (F0 m pc ls (.int (sb_b x) :: .int (nI i) :: .ref a :: rest)) := by
  have hin := vp_in_nI hi hn
  have hcl : (nI i).toNatClampNeg = i := nI_clamp (Nat.lt_trans hi hn)
  obtain ⟨cell, c1, c2, c3, c4, c5, c6⟩ := ha
  refine W.bast hx hb c1 (zBc.arr hK c2 c3) c4 (fun h9 => h9.elim (fun z => hin (Or.inl z)) (fun z => by rw [hcl] at z; have := c5.1; omega)) rfl rfl hdg fun H1 e z oq => ?_
  refine kk H1 _ z ⟨_, e, c2, c3, c4, ?_, fun j hj => ?_⟩ (fun q _ h => oq q h) (hS.put z oq hA)
  · simp only [Cell.setSlot, Array.size_setIfInBounds]; exact c5
  · rw [hcl, hx9]
    by_cases hq : j = i
    · subst hq
      rw [upN_self]
      simp only [Cell.setSlot]
      rw [Array.getElem?_setIfInBounds_self_of_lt (by have := c5.1; omega)]
    · rw [upN_ne _ _ hq]
      simp only [Cell.setSlot]
      rw [Array.getElem?_setIfInBounds_ne (Ne.symm hq)]
      exact c6 j hj
theorem zx_ast {G : zG} (hx : p.tables.exec = Jvm.exec) (hb : c.code = cc) (hK : zK G s) {a n i x : Nat} {f : Nat → Nat} (ha : zA G H a n f) (hi : i < n) (hn : n < 2 ^ 31) (hA : A a) (hS : va_S A H0 H locs) (hdg : decode cc pc = .ok (.iastore, 1))
    (kk : ∀ (H1 : Heap) (locs1 : List Loc), H1.size = H.size → zA G H1 a n (upN f i x) → zKp (fun q => q = a) H H1 → va_S A H0 H1 locs1 → W p l e R s m args below meth c H1 locs1 cells slots Q (F0 m (pc + 1) ls rest)) : W p l e R s m args below meth c H locs cells slots Q (F0 m pc ls (.int (nI x) :: .int (nI i) :: .ref a :: rest)) :=
  zi_ast hx hb hK ha hi hn hA hS hdg (fun H1 locs1 z oq h1 h2 => kk H1 locs1 z h1 (fun q _ h => oq q h) h2)
theorem zx_cald {G : zG} (hx : p.tables.exec = Jvm.exec) (hb : c.code = cc) (hK : zK G s) {a n i : Nat} {f : Nat → Nat} (ha : zC G H a n f) (hi : i < n) (hn : n < 2 ^ 31) (hdg : decode cc pc = .ok (.caload, 1))
    (k : W p l e R s m args below meth c H locs cells slots Q (F0 m (pc + 1) ls (.int (nI (f i)) :: rest))) : W p l e R s m args below meth c H locs cells slots Q (F0 m pc ls (.int (nI i) :: .ref a :: rest)) :=
  va_cald hx hb hK.1 ha.one 0 2 rfl rfl (vp_in_nI hi hn) hdg (by rw [nI_clamp (Nat.lt_trans hi hn)]; exact k)
theorem zi_lenC {G : zG} (hx : p.tables.exec = Jvm.exec) (hb : c.code = cc) (hK : zK G s) {a n : Nat} {f : Nat → Nat} (ha : zC G H a n f) (hdg : decode cc pc = .ok (.arraylength, 1))
    (k : W p l e R s m args below meth c H locs cells slots Q (F0 m (pc + 1) ls (.int (nI n) :: rest))) : W p l e R s m args below meth c H locs cells slots Q (F0 m pc ls (.ref a :: rest)) :=
  va_alen hx hb hK.1 ha.one 0 2 rfl rfl rfl hdg k
theorem zx_v {Post : Option Value → Heap → Prop} {mc ms : Nat} (hx : p.tables.exec = Jvm.exec) (hb : c.code = cc) (hr : meth.sig.returnType = none) (hlocks : meth.locks = false) (h1 : cells ≤ mc) (h2 : slots ≤ ms) (hP : Post none H) (hS : va_S A s.heap H locs) (hdg : decode cc pc = .ok (.return_, 1)) : W p l e R s m args below meth c H locs cells slots (MQ below (zX A Post) args s mc ms A) (F0 m pc ls []) :=
  W.widen h1 h2 (W.vret hx hb hr (fun t ht _ => ⟨_, rfl, by rw [ht]; exact hP, hS.F ht⟩) hS.2.2 hdg hlocks)
theorem zx_i {Post : Option Value → Heap → Prop} {mc ms : Nat} (hx : p.tables.exec = Jvm.exec) (hb : c.code = cc) (hr : meth.sig.returnType = some .int) (hlocks : meth.locks = false) {v : Int32} (h1 : cells ≤ mc) (h2 : slots ≤ ms) (hP : Post (some (.int v)) H) (hS : va_S A s.heap H locs) (hdg : decode cc pc = .ok (.ireturn, 1)) : W p l e R s m args below meth c H locs cells slots (MQ below (zX A Post) args s mc ms A) (F0 m pc ls [.int v]) :=
  W.widen h1 h2 (W.iret hx hb hr (fun t ht _ => ⟨_, rfl, by rw [ht]; exact hP, hS.F ht⟩) hS.2.2 hdg hlocks)
theorem zx_z {Post : Option Value → Heap → Prop} {mc ms : Nat} (hx : p.tables.exec = Jvm.exec) (hb : c.code = cc) (hr : meth.sig.returnType = some .boolean) (hlocks : meth.locks = false) {v : Int32} (b : Bool) (he : v = nI (nB b)) (h1 : cells ≤ mc) (h2 : slots ≤ ms) (hP : Post (some (.int (nI (nB b)))) H) (hS : va_S A s.heap H locs) (hdg : decode cc pc = .ok (.ireturn, 1)) : W p l e R s m args below meth c H locs cells slots (MQ below (zX A Post) args s mc ms A) (F0 m pc ls [.int v]) := by
  subst he
  exact W.widen h1 h2 (W.zret hx hb hr (by cases b <;> decide) (fun t ht _ => ⟨_, rfl, by rw [ht]; exact hP, hS.F ht⟩) hS.2.2 hdg hlocks)
theorem zx_t {ty : FieldType} {Post : Option Value → Heap → Prop} {mc ms : Nat} (hx : p.tables.exec = Jvm.exec) (hb : c.code = cc) (hr : meth.sig.returnType = some ty) (hlocks : meth.locks = false) {v : Int32} (hn : narrow ty (.int v) = .int v) (h1 : cells ≤ mc) (h2 : slots ≤ ms) (hP : Post (some (.int v)) H) (hS : va_S A s.heap H locs) (hdg : decode cc pc = .ok (.ireturn, 1)) : W p l e R s m args below meth c H locs cells slots (MQ below (zX A Post) args s mc ms A) (F0 m pc ls [.int v]) :=
  W.widen h1 h2 (W.zret hx hb hr hn (fun t ht _ => ⟨_, rfl, by rw [ht]; exact hP, hS.F ht⟩) hS.2.2 hdg hlocks)
theorem zx_l {Post : Option Value → Heap → Prop} {mc ms : Nat} (hx : p.tables.exec = Jvm.exec) (hb : c.code = cc) (hr : meth.sig.returnType = some .long) (hlocks : meth.locks = false) {v : Int64} (h1 : cells ≤ mc) (h2 : slots ≤ ms) (hP : Post (some (.long v)) H) (hS : va_S A s.heap H locs) (hdg : decode cc pc = .ok (.lreturn, 1)) : W p l e R s m args below meth c H locs cells slots (MQ below (zX A Post) args s mc ms A) (F0 m pc ls [.long v]) :=
  W.widen h1 h2 (W.lret hx hb hr (fun t ht _ => ⟨_, rfl, by rw [ht]; exact hP, hS.F ht⟩) hS.2.2 hdg hlocks)
theorem zx_a {rt : FieldType} {Post : Option Value → Heap → Prop} {mc ms : Nat} (hx : p.tables.exec = Jvm.exec) (hb : c.code = cc) (hr : meth.sig.returnType = some rt) (hrt : (∃ n, rt = .object n) ∨ ∃ t, rt = .array t) (hlocks : meth.locks = false) {v : Value} (hv : v = .null ∨ ∃ a, v = .ref a) (h1 : cells ≤ mc) (h2 : slots ≤ ms) (hP : Post (some v) H) (hS : va_S A s.heap H locs) (hdg : decode cc pc = .ok (.areturn, 1)) : W p l e R s m args below meth c H locs cells slots (MQ below (zX A Post) args s mc ms A) (F0 m pc ls [v]) :=
  W.widen h1 h2 (W.aret hx hb hr hrt hv (fun t ht _ => ⟨_, rfl, by rw [ht]; exact hP, hS.F ht⟩) hS.2.2 hdg hlocks)
end ZX
theorem wAi : Cond.arrayClass .int ∈ zW := zin 147 (by decide +kernel) (by decide +kernel)
theorem wAb : Cond.arrayClass .byte ∈ zW := zin 213 (by decide +kernel) (by decide +kernel)
theorem wAc : Cond.arrayClass .char ∈ zW := zin 459 (by decide +kernel) (by decide +kernel)
theorem wOn : Cond.instanceMethod Lib.objectInit ∈ zW := zin 131 (by decide +kernel) (by decide +kernel)
theorem wOc : Cond.code Lib.objectInit ⟨#[0xb1]⟩ 1 none ∈ zW := zin 132 (by decide +kernel) (by decide +kernel)
