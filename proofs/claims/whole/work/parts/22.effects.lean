/-! ===== EFFECTS: stores, calls that change cells, their ends ===== -/
/-- what a method that changes cells (those that A names, and new ones) leaves -/
def zQ (A : Nat → Prop) (r : Option Value) (Post : Heap → Prop) : Array Value → State → Outcome → State → Prop := fun _ st oc t => oc = .returned r ∧ Post t.heap ∧ va_F A st t
theorem zO.kept {G : zG} {H H1 : Heap} {a ci : Nat} {fs : List Value} (h : zO G H a ci fs) (hq : H1[a]? = H[a]?) : zO G H1 a ci fs := va_at.kept h hq
theorem zA.kept {G : zG} {H H1 : Heap} {a n : Nat} {f : Nat → Nat} (h : zA G H a n f) (hq : H1[a]? = H[a]?) : zA G H1 a n f := va_at.kept h hq
theorem zO.lt {G : zG} {H : Heap} {a ci : Nat} {fs : List Value} (h : zO G H a ci fs) : a < H.size := va_at.lt h
theorem zA.lt {G : zG} {H : Heap} {a n : Nat} {f : Nat → Nat} (h : zA G H a n f) : a < H.size := va_at.lt h
def upN (f : Nat → Nat) (k x : Nat) : Nat → Nat := fun j => if j = k then x else f j
theorem upN_self (f : Nat → Nat) (k x : Nat) : upN f k x k = x := if_pos rfl
theorem upN_ne (f : Nat → Nat) {k j : Nat} (x : Nat) (h : j ≠ k) : upN f k x j = f j := if_neg h
section ZE
variable {p : Program} {l : Launch} {e : Env} {R : Room} {s : State} {m : MethodId} {args : Array Value} {below : List Frame} {meth : Method} {c : Code} {H : Heap} {locs : List Loc} {cells slots : Nat} {Q : State → Prop}
variable {cc : ByteArray} {pc : Nat} {ls : Array Slot} {rest : List Value}
theorem zi_put {G : zG} (hx : p.tables.exec = Jvm.exec) (hb : c.code = cc) {own C : String} {T : u_T} {N ci index a : Nat} {Ts : List Cond} (hts : ∀ w ∈ Ts, w.before args s = true) (hin : ∀ w ∈ u_ws C T N, w ∈ Ts) (ty0 : Nat → FieldType) (hty : ∀ k, k < N → parseFieldDescriptor (T k).2.2.1 = some (ty0 k)) (hnm : ∀ a, a < N → ∀ b, b < N → a ≠ b → (T a).2.1 ≠ (T b).2.1) (hown : s.vm.findClass own = some m.cls) (hK : zK G s) {fs : List Value} (hO : zO G H a ci fs) (hc : vwCl[ci]? = some (C, T, N)) (k : Nat) (hk : k < N) (hlink : (Cond.fieldLink own index C (T k).2.1 (T k).2.2.1).before args s = true) (hsame : ∀ x, s.fieldFound? (T k).1 (T k).2.1 (T k).2.2.1 = some x → s.fieldFound? C (T k).2.1 (T k).2.2.1 = some x) (hfin : (T k).2.2.2 = false) {ty : FieldType} {v : Value} (hd : parseFieldDescriptor (T k).2.2.1 = some ty) (hn : narrow ty v = v) (hfit : fits ty v = true) (hl : k < fs.length) {A : Nat → Prop} {H0 : Heap} (hA : A a) (hS : va_S A H0 H locs)
    (hdg : decode cc pc = .ok (.putfield index, 3)) (kk : ∀ (H1 : Heap) (locs1 : List Loc), H1.size = H.size → (∀ q, q ≠ a → H1[q]? = H[q]?) → zO G H1 a ci (fs.set k v) → va_S A H0 H1 locs1 → W p l e R s m args below meth c H1 locs1 cells slots Q (F0 m (pc + 3) ls rest)) : W p l e R s m args below meth c H locs cells slots Q (F0 m pc ls (v :: .ref a :: rest)) := by
  have hap := va_apart (own := own) hts hin ty0 hty hnm hK.1 hc
  obtain ⟨r, h1, cell, q1, q2, q3, q4⟩ := hO
  have hr : r = (C, T, N) := Option.some.inj (h1.symm.trans hc)
  subst hr
  obtain ⟨hSl, hfc, kC, hkC, hkind⟩ := hK.1.1 ci _ hc
  obtain ⟨cf, kf, fi, f, hi, hsl⟩ := hSl k hk
  have hlay := hts _ (hin _ (u_in_lay hk))
  unfold u_lay at hlay
  rw [if_neg (by rw [hfin]; decide)] at hlay
  have hst := (u_facts hfc hkC (u_lays hts hin hk) hi).1
  have h6 := u_store hfc hkC hkind hlay hi hd hn hfit
  refine W.putK hx hb (f := f) ⟨hown, hlink, ⟨_, _, _, hsame _ hi⟩, hst⟩ (by rw [q2]; exact h6) q1 q3 (by rw [hsl]; exact k2_hasslot (q4 k hk)) rfl rfl hdg fun H' e1 e2 e3 => ?_
  rw [hsl] at e1 ⊢
  exact kk H' _ e2 e3 ⟨_, hc, t_OB.to (V := updV (vp_V fs) k v) ⟨_, e1, q2, q3, t_set q4 hap hk v⟩ (fun j _ => vp_updV_set hl v j)⟩ (hS.put e2 e3 hA)
theorem zi_ast {G : zG} (hx : p.tables.exec = Jvm.exec) (hb : c.code = cc) (hK : zK G s) {a n i x : Nat} {f : Nat → Nat} (ha : zA G H a n f) (hi : i < n) (hn : n < 2 ^ 31) {A : Nat → Prop} {H0 : Heap} (hA : A a) (hS : va_S A H0 H locs) (hdg : decode cc pc = .ok (.iastore, 1))
    (kk : ∀ (H1 : Heap) (locs1 : List Loc), H1.size = H.size → (∀ q, q ≠ a → H1[q]? = H[q]?) → zA G H1 a n (upN f i x) → va_S A H0 H1 locs1 → W p l e R s m args below meth c H1 locs1 cells slots Q (F0 m (pc + 1) ls rest)) : W p l e R s m args below meth c H locs cells slots Q (F0 m pc ls (.int (nI x) :: .int (nI i) :: .ref a :: rest)) := by
  have hin := vp_in_nI hi hn
  refine W.iast hx hb ha ((hK.1.2 0 _ rfl).1 n (fun j => .int (nI (f j)))) (fun q => by cases q) (by show ¬ (_ < 0 ∨ (arrV _ _ _).slots.size ≤ _); rw [arrV_size]; exact hin) rfl rfl hdg fun H1 e z oq => ?_
  refine kk H1 _ z oq ?_ (hS.put z oq hA)
  show H1[a]? = some (vp_cell _ _)
  rw [e]
  rw [vp_cell_i, vp_cell_i, arrV_store]
  congr 2
  funext q
  rw [nI_clamp (Nat.lt_trans hi hn)]
  by_cases hq : q = i
  · subst hq
    simp [updV, upN]
  · simp [updV, upN, hq]
theorem zr_v {A : Nat → Prop} {Post : Heap → Prop} (hx : p.tables.exec = Jvm.exec) (hb : c.code = cc) (hr : meth.sig.returnType = none) (hlocks : meth.locks = false) (hP : Post H) (hS : va_S A s.heap H locs) (hdg : decode cc pc = .ok (.return_, 1)) : W p l e R s m args below meth c H locs cells slots (MQ below (zQ A none Post) args s cells slots A) (F0 m pc ls []) :=
  W.vret hx hb hr (fun t ht _ => ⟨rfl, by rw [ht]; exact hP, hS.F ht⟩) hS.2.2 hdg hlocks
theorem zr_ie {A : Nat → Prop} {Post : Heap → Prop} (hx : p.tables.exec = Jvm.exec) (hb : c.code = cc) (hr : meth.sig.returnType = some .int) (hlocks : meth.locks = false) {v r : Int32} (he : v = r) (hP : Post H) (hS : va_S A s.heap H locs) (hdg : decode cc pc = .ok (.ireturn, 1)) : W p l e R s m args below meth c H locs cells slots (MQ below (zQ A (some (.int r)) Post) args s cells slots A) (F0 m pc ls [.int v]) := by
  subst he
  exact W.iret hx hb hr (fun t ht _ => ⟨rfl, by rw [ht]; exact hP, hS.F ht⟩) hS.2.2 hdg hlocks
theorem zr_ze {A : Nat → Prop} {Post : Heap → Prop} (hx : p.tables.exec = Jvm.exec) (hb : c.code = cc) (hr : meth.sig.returnType = some .boolean) (hlocks : meth.locks = false) {v : Int32} {b : Bool} (he : v = nI (nB b)) (hP : Post H) (hS : va_S A s.heap H locs) (hdg : decode cc pc = .ok (.ireturn, 1)) : W p l e R s m args below meth c H locs cells slots (MQ below (zQ A (some (.int (nI (nB b)))) Post) args s cells slots A) (F0 m pc ls [.int v]) := by
  subst he
  exact W.zret hx hb hr (by cases b <;> decide) (fun t ht _ => ⟨rfl, by rw [ht]; exact hP, hS.F ht⟩) hS.2.2 hdg hlocks
theorem zc_VE {y : MethodName} {bytes : ByteArray} {maxL nL n index ci N b mc ms : Nat} {ret : Option FieldType} {ws : List Cond} {rm : Room} {P : Heap → Prop} {r : Option Value} {Post : Heap → Prop} {A1 : Nat → Prop} {Ts : List Cond} {own C : String} {T : u_T} {As st fs : List Value} {G : zG} (S : CallFix p m c cc nL s args Ts own) (hM : Met l y ws rm (zP G (.ref b :: As) P) (zQ A1 r Post) mc ms A1) (cw : CallW R s args own C index y bytes maxL ret ws rm mc ms n) (hK : zK G s) (hO : zO G H b ci fs) (hc : vwCl[ci]? = some (C, T, N)) (hP : P H)
    (hn : As.length = n) (hsize : ls.size = nL) (hstack : st = As.reverse ++ .ref b :: rest) (hW : (rest.map fun v => v.category).sum ≤ 8) (hdg : decode cc pc = .ok (.invokevirtual index, 3)) (hf : cells + mc ≤ R.cells ∧ slots + ms ≤ R.slots) {A : Nat → Prop} {H0 : Heap} (hS : va_S A H0 H locs) (hA : ∀ q, A1 q → A q)
    (kk : ∀ (H1 : Heap) (locs1 : List Loc), Post H1 → H.size ≤ H1.size → (∀ q, q < H.size → ¬ A1 q → H1[q]? = H[q]?) → va_S A H0 H1 locs1 → W p l e R s m args below meth c H1 locs1 (cells + mc) (slots + ms) Q (F0 m (pc + 3) ls (r.toList ++ rest))) : W p l e R s m args below meth c H locs cells slots Q (F0 m pc ls st) := by
  have hr := W.runV (e := e) (below := below) (meth := meth) (H := H) (locs := locs) (cells := cells) (slots := slots) (b := b) (As := As) (rest := rest) (g := F0 m pc ls st) S hM cw ⟨zP_blind, va_recv hK.1 hO.one (q0 := 0) hc rfl, fun U hU hW => ⟨rfl, by rw [hU]; exact hP, zK.warm hW hK⟩⟩ rfl hn hsize hstack (lv_room hW) hdg hf
  intro X hT XS
  obtain ⟨v, st₀, t, T', L, h0, X', hL, e1, ⟨hv, hh, hz, hk⟩, stp⟩ := hr X hT XS
  cases hv
  rw [h0] at hz hk
  obtain ⟨t2, a1, b1⟩ := kk T'.heap (locs ++ L) (by rw [e1]; exact hh) (by rw [e1]; exact hz) (fun q h1 h2 => by rw [e1]; exact hk q h1 h2) ⟨Nat.le_trans hS.1 (by rw [e1]; exact hz), fun q h1 h2 => by
      rw [e1, hk q (Nat.lt_of_lt_of_le h1 hS.1) (fun z => h2 (hA q z))]
      exact hS.2.1 q h1 h2, fun q hq => by
      rcases List.mem_append.mp hq with h | h
      · exact hS.2.2 q h
      · exact hA _ (hL q h)⟩ T' rfl X'
  exact ⟨t2, stp t2 a1, b1⟩
end ZE
/-! the model's object with its field met, and its store -/
def zM (fs : List Value) (u : Bool) : List Value := fs.set 22 (.int (nI (nB u)))
def MM (G : zG) (o qs : Nat) (fs : List Value) (f : Nat → Nat) (u : Bool) (H : Heap) : Prop := zO G H o 10 (zM fs u) ∧ zA G H qs 18000 f ∧ fs[1]? = some (.ref qs) ∧ (∀ i, f i < 256) ∧ fs.length = 23 ∧ qs ≠ o
theorem MM.s1 {fs : List Value} {qs : Nat} {u : Bool} (h : fs[1]? = some (.ref qs)) : (zM fs u)[1]? = some (.ref qs) := by
  unfold zM
  rw [List.getElem?_set_ne (by decide)]
  exact h
theorem MM.mt {fs : List Value} {u : Bool} (h : fs.length = 23) : (zM fs u)[22]? = some (.int (nI (nB u))) := by
  unfold zM
  rw [List.getElem?_set_self (by omega)]
theorem MM.mv {G : zG} {o qs : Nat} {fs : List Value} {f : Nat → Nat} {u : Bool} {H : Heap} (h : MM G o qs fs f u H) : MV G o qs (zM fs u) f H := ⟨h.1, h.2.1, MM.s1 h.2.2.1, h.2.2.2.1⟩
theorem zM_set (fs : List Value) (u v : Bool) : (zM fs u).set 22 (.int (nI (nB v))) = zM fs v := by
  unfold zM
  rw [List.set_set]
theorem MM.put {G : zG} {o qs : Nat} {fs : List Value} {f : Nat → Nat} {u v : Bool} {H H1 : Heap} (h : MM G o qs fs f u H) (hk : ∀ q, q ≠ o → H1[q]? = H[q]?) (hO : zO G H1 o 10 ((zM fs u).set 22 (.int (nI (nB v))))) : MM G o qs fs f v H1 := by
  rw [zM_set] at hO
  exact ⟨hO, h.2.1.kept (hk qs h.2.2.2.2.2), h.2.2⟩
