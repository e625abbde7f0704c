/-! ===== NEST: calls and fields of nest mates, lengths ===== -/
section ZN
variable {p : Program} {l : Launch} {e : Env} {R : Room} {s : State} {m : MethodId} {args : Array Value} {below : List Frame} {meth : Method} {c : Code} {H : Heap} {locs : List Loc} {cells slots : Nat} {Q : State → Prop}
variable {cc : ByteArray} {pc : Nat} {ls : Array Slot} {rest : List Value}
theorem zi_len {G : zG} (hx : p.tables.exec = Jvm.exec) (hb : c.code = cc) (hK : zK G s) {a n : Nat} {f : Nat → Nat} (ha : zA G H a n f) (hdg : decode cc pc = .ok (.arraylength, 1))
    (k : W p l e R s m args below meth c H locs cells slots Q (F0 m (pc + 1) ls (.int (nI n) :: rest))) : W p l e R s m args below meth c H locs cells slots Q (F0 m pc ls (.ref a :: rest)) :=
  va_alen hx hb hK.1 ha.one 0 0 rfl rfl rfl hdg k
theorem zi_getN {G : zG} (hx : p.tables.exec = Jvm.exec) (hb : c.code = cc) {own C host : String} {T : u_T} {N ci index a : Nat} {Ts : List Cond} (hts : ∀ w ∈ Ts, w.before args s = true) (hin : ∀ w ∈ u_ws C T N, w ∈ Ts) (hown : s.vm.findClass own = some m.cls) (hK : zK G s) {fs : List Value} (hO : zO G H a ci fs) (hc : vwCl[ci]? = some (C, T, N)) (k : Nat) (hk : k < N) (hlink : Cond.fieldLinkNest own index C (T k).2.1 (T k).2.2.1 host ∈ zNest) (hsame : ∀ x, s.fieldFound? (T k).1 (T k).2.1 (T k).2.2.1 = some x → s.fieldFound? C (T k).2.1 (T k).2.2.1 = some x) {v : Value} (hv : fs[k]? = some v) (hdg : decode cc pc = .ok (.getfield index, 3))
    (kk : W p l e R s m args below meth c H locs cells slots Q (F0 m (pc + 3) ls (v :: rest))) : W p l e R s m args below meth c H locs cells slots Q (F0 m pc ls (.ref a :: rest)) :=
  va_getN hx hb hts hin hown hK.1 hO.one 0 rfl hc k hk (va_Nw.use rfl (hK.2.1 _ hlink)) hsame hv hdg kk
theorem zc_VN {y : MethodName} {bytes : ByteArray} {maxL nL n index ci N b : Nat} {ret : Option FieldType} {ws : List Cond} {rm : Room} {P : Heap → Prop} {r : Value} {Ts : List Cond} {own C host : String} {T : u_T} {As st fs : List Value} {G : zG} (S : CallFix p m c cc nL s args Ts own) (hM : Met l y ws rm (zP G (.ref b :: As) P) (zR r) 0 0 (fun _ => False)) (cw : va_CN R s args own index y host bytes maxL ret ws rm 0 0 n ∧ (Cond.instanceMethod y).before args s = true ∧ (Cond.selects C y y).before args s = true) (hK : zK G s) (hO : zO G H b ci fs) (hc : vwCl[ci]? = some (C, T, N)) (hP : P H)
    (hn : As.length = n) (hsize : ls.size = nL) (hstack : st = As.reverse ++ .ref b :: rest) (hW : (rest.map fun v => v.category).sum ≤ 8) (hdg : decode cc pc = .ok (.invokevirtual index, 3)) (hf : cells ≤ R.cells ∧ slots ≤ R.slots)
    (kk : W p l e R s m args below meth c H locs cells slots Q (F0 m (pc + 3) ls (r :: rest))) : W p l e R s m args below meth c H locs cells slots Q (F0 m pc ls st) := by
  have hr := va_runVN (e := e) (below := below) (meth := meth) (H := H) (locs := locs) (cells := cells) (slots := slots) (b := b) (As := As) (rest := rest) (g := F0 m pc ls st) S hM cw ⟨zP_blind, va_recv hK.1 hO.one (q0 := 0) hc rfl, fun U hU hW => ⟨rfl, by rw [hU]; exact hP, zK.warm hW hK⟩⟩ rfl hn hsize hstack (lv_room hW) hdg hf
  intro X hT XS
  obtain ⟨v, st₀, t, T', L, h0, X', hL, e1, e2, ⟨hv, hh⟩, stp⟩ := hr X hT XS
  cases hv
  obtain ⟨t2, a1, b1⟩ := kk T' (by rw [e1, hh, h0]) (Stand.forget X' (fun q h => (hL q h).elim))
  exact ⟨t2, stp t2 a1, b1⟩
theorem zc_SN {y : MethodName} {bytes : ByteArray} {maxL nL n index : Nat} {ret : Option FieldType} {ws : List Cond} {rm : Room} {P : Heap → Prop} {r : Value} {Ts : List Cond} {own host : String} {As st : List Value} {G : zG} (S : CallFix p m c cc nL s args Ts own) (hM : Met l y ws rm (zP G As P) (zR r) 0 0 (fun _ => False)) (cw : va_CN R s args own index y host bytes maxL ret ws rm 0 0 n ∧ (Cond.static y).before args s = true ∧ True) (hK : zK G s) (hP : P H)
    (hn : As.length = n) (hsize : ls.size = nL) (hstack : st = As.reverse ++ rest) (hW : (rest.map fun v => v.category).sum ≤ 8) (hdg : decode cc pc = .ok (.invokestatic index, 3)) (hf : cells ≤ R.cells ∧ slots ≤ R.slots)
    (kk : W p l e R s m args below meth c H locs cells slots Q (F0 m (pc + 3) ls (r :: rest))) : W p l e R s m args below meth c H locs cells slots Q (F0 m pc ls st) := by
  have hr := va_runSN (e := e) (below := below) (meth := meth) (H := H) (locs := locs) (cells := cells) (slots := slots) (As := As) (rest := rest) (g := F0 m pc ls st) S hM cw ⟨zP_blind, fun U hU hW => ⟨rfl, by rw [hU]; exact hP, zK.warm hW hK⟩⟩ rfl hn hsize hstack (lv_room hW) hdg hf
  intro X hT XS
  obtain ⟨v, st₀, t, T', L, h0, X', hL, e1, e2, ⟨hv, hh⟩, stp⟩ := hr X hT XS
  cases hv
  obtain ⟨t2, a1, b1⟩ := kk T' (by rw [e1, hh, h0]) (Stand.forget X' (fun q h => (hL q h).elim))
  exact ⟨t2, stp t2 a1, b1⟩
end ZN
/-- the tape of the class -/
def TP (G : zG) (tp qb cn : Nat) (f : Nat → Nat) (H : Heap) : Prop := zO G H tp 7 [.ref qb, .int (nI cn)] ∧ zA G H qb 2000 f ∧ ∀ i, f i < 256
def bA (f : Nat → Nat) (a : Nat) : Nat := if a < 2000 then f a else 0
def flw (b : Nat) : Int32 := if b < 128 then 0 else if b < 192 ∨ 247 < b then -1 else if b < 224 then 1 else if b < 240 then 2 else 3
def zrF (f : Nat → Nat) : Nat → Nat → Nat → Int32
  | 0, _, _ => -1
  | n + 1, k, last => if k < last then (if bA f k = 0 then nI k else zrF f n (k + 1) last) else -1
theorem bA_lt {f : Nat → Nat} (h : ∀ i, f i < 256) (a : Nat) : bA f a < 256 := by
  unfold bA
  split
  · exact h a
  · decide
