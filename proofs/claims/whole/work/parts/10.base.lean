/-! ===== BASE: contexts, heap words, rows over Nat ===== -/
abbrev zG : Type := va_G × (ClassId × ClassId × ClassId × ClassId × ClassId) × (String → Nat)
def zT (G : zG) : List (ClassId × FieldType) := [(G.2.1.1, .int), (G.2.1.2.1, .byte), (G.2.1.2.2.1, .char), (G.2.1.2.2.2.1, .object "FilterReader$Value"), (G.2.1.2.2.2.2, .object "FilterReader$Filter")]
/-- what holds of the tables at every point: classes, array classes, links of nest mates, String constants -/
def zStat : List (String × String × String) := [("java/lang/String", "COMPACT_STRINGS", "Z"), ("jdk/internal/util/Preconditions", "SIOOBE_FORMATTER", "Ljava/util/function/BiFunction;"), ("java/lang/StringUTF16", "$assertionsDisabled", "Z"), ("java/lang/StringUTF16", "HI_BYTE_SHIFT", "I"), ("java/lang/StringUTF16", "LO_BYTE_SHIFT", "I")]
/-- a static field of the JDK: which cell holds it, and where (G.2.2 tells both, under names of their own) -/
def zSv (G : zG) (q : String × String × String) (U : State) : Prop := ∃ (cf : ClassId) (kf : Class) (fi : Nat) (f : Field), U.fieldFound? q.1 q.2.1 q.2.2 = some (cf, kf, fi, f) ∧ f.isStatic = true ∧ kf.init = .initialized ∧ kf.statics = some (G.2.2 ("A:" ++ q.2.1)) ∧ f.slot = G.2.2 ("K:" ++ q.2.1)
theorem zSv.moved {G : zG} {q : String × String × String} {u U : State} (hvm : u.vm.Alike U.vm) (h : zSv G q u) : zSv G q U := by
  obtain ⟨cf, kf, fi, f, h1, h2, h3, h4, h5⟩ := h
  obtain ⟨k', hi', he⟩ := State.fieldFound?_setVm hvm h1
  exact ⟨cf, k', fi, f, hi', h2, by rw [he]; exact h3, by rw [he]; exact h4, h5⟩
def zK (G : zG) (U : State) : Prop := va_K G.1 vwCl (zT G) U ∧ (∀ w ∈ zNest, va_Nw w U) ∧ (∀ q ∈ zStr, vk_R q.1 q.2.1 q.2.2 (G.2.2 q.2.2) U) ∧ (∀ q ∈ zStat, zSv G q U) ∧ ∀ q ∈ zStr, ArrOfT U (G.2.2 ("B:" ++ q.2.2)) .byte
theorem zK.warm {G : zG} {s U : State} (hW : s.WarmedH U.vm) (h : zK G s) : zK G U := by
  refine ⟨va_K.moved hW.alike h.1, fun w hw => ?_, fun q hq => vk_R.warm hW (h.2.2.1 q hq), fun q hq => (h.2.2.2.1 q hq).moved hW.alike, fun q hq => arrOfT_moved hW.alike (h.2.2.2.2 q hq)⟩
  have h1 := h.2.1 w hw
  have h2 := (List.mem_filter.mp hw).2
  cases w <;> first | exact absurd h2 (by decide) | exact va_Nw.warmF hW h1 | exact va_Nw.warmM hW h1 | simp [isNest] at h2
theorem zK.same {G : zG} {s U : State} (hv : s.vm = U.vm) (h : zK G s) : zK G U := by
  refine ⟨va_K.moved (by rw [hv]; exact Vm.Alike.refl _) h.1, fun w hw => ?_, fun q hq => vk_R.same hv.symm (h.2.2.1 q hq), fun q hq => (h.2.2.2.1 q hq).moved (by rw [hv]; exact Vm.Alike.refl _), fun q hq => arrOfT_moved (by rw [hv]; exact Vm.Alike.refl _) (h.2.2.2.2 q hq)⟩
  have h1 := h.2.1 w hw
  have h2 := (List.mem_filter.mp hw).2
  cases w <;> first | exact va_Nw.same rfl hv h1 | simp [isNest] at h2
def zO (G : zG) (H : Heap) (a ci : Nat) (fs : List Value) : Prop := va_at G.1 vwCl (a, .inr (ci, fs)) H
def zA (G : zG) (H : Heap) (a n : Nat) (f : Nat → Nat) : Prop := va_at G.1 vwCl (a, .inl (G.2.1.1, n, .inl (fun j => nI (f j)))) H
def nB (b : Bool) : Nat := if b then 1 else 0
theorem nB_t : nB true = 1 := rfl
theorem nB_f : nB false = 0 := rfl
theorem nB_z {b : Bool} (h : nB b = 0) : b = false := by
  cases b
  · rfl
  · exact absurd h (by decide)
theorem nB_nz {b : Bool} (h : nB b ≠ 0) : b = true := by
  cases b
  · exact absurd rfl h
  · rfl
theorem nB_lt (b : Bool) : nB b < 2 := by cases b <;> decide
def zP (G : zG) (av : List Value) (P : Heap → Prop) : Array Value → State → Prop := fun v U => v = av.toArray ∧ P U.heap ∧ zK G U
def zR (r : Value) : Array Value → State → Outcome → State → Prop := fun _ st oc t => oc = .returned (some r) ∧ t.heap = st.heap
theorem zP_blind {G : zG} {av : List Value} {P : Heap → Prop} : FrameBlind (zP G av P) := by
  intro a U g mk h
  exact ⟨h.1, h.2.1, zK.same (s := U) (U := U.calling g mk a) rfl h.2.2⟩
theorem va_one {D : va_G} {cl : List vw_C} {q : Nat × va_E} {H : Heap} (h : va_at D cl q H) : va_P D cl [q] H := by
  intro k r hk
  match k, hk with
  | 0, hk => cases hk; exact h
  | k + 1, hk => simp at hk
theorem zO.one {G : zG} {H : Heap} {a ci : Nat} {fs : List Value} (h : zO G H a ci fs) : va_P G.1 vwCl [(a, .inr (ci, fs))] H := va_one h
theorem zA.one {G : zG} {H : Heap} {a n : Nat} {f : Nat → Nat} (h : zA G H a n f) : va_P G.1 vwCl [(a, .inl (G.2.1.1, n, .inl (fun j => nI (f j))))] H := va_one h
theorem z_osw {a k : Nat} {o d : Int} {r : List (Int × Int)} (ha : a < 2 ^ 31) (hk : k < 2 ^ 31) (h : a ≠ k) : Op.lookupswitch.offset (((k : Int), o) :: r) d (nI a).toInt = Op.lookupswitch.offset r d (nI a).toInt :=
  lv_osw (k := nI k) (fun e => h ((nI_eq ha hk).mp e)) (nI_toInt hk)
section ZB
variable {p : Program} {l : Launch} {e : Env} {R : Room} {s : State} {m : MethodId} {args : Array Value} {below : List Frame} {meth : Method} {c : Code} {H : Heap} {locs : List Loc} {cells slots : Nat} {Q : State → Prop}
variable {cc : ByteArray} {pc : Nat} {ls : Array Slot} {rest : List Value}
theorem zi_add (hx : p.tables.exec = Jvm.exec) (hb : c.code = cc) {a b : Nat} (hdg : decode cc pc = .ok (.iadd, 1)) (k : W p l e R s m args below meth c H locs cells slots Q (F0 m (pc + 1) ls (.int (nI (a + b)) :: rest))) : W p l e R s m args below meth c H locs cells slots Q (F0 m pc ls (.int (nI b) :: .int (nI a) :: rest)) := lv_iadd hx hb hdg (by rw [nI_add]; exact k)
theorem zi_sub (hx : p.tables.exec = Jvm.exec) (hb : c.code = cc) {a b : Nat} (h : b ≤ a) (hdg : decode cc pc = .ok (.isub, 1)) (k : W p l e R s m args below meth c H locs cells slots Q (F0 m (pc + 1) ls (.int (nI (a - b)) :: rest))) : W p l e R s m args below meth c H locs cells slots Q (F0 m pc ls (.int (nI b) :: .int (nI a) :: rest)) := lv_isub hx hb hdg (by rw [pk_sub h]; exact k)
theorem zi_mul (hx : p.tables.exec = Jvm.exec) (hb : c.code = cc) {a b : Nat} (hdg : decode cc pc = .ok (.imul, 1)) (k : W p l e R s m args below meth c H locs cells slots Q (F0 m (pc + 1) ls (.int (nI (a * b)) :: rest))) : W p l e R s m args below meth c H locs cells slots Q (F0 m pc ls (.int (nI b) :: .int (nI a) :: rest)) := lv_imul hx hb hdg (by rw [pk_mul]; exact k)
theorem zi_div (hx : p.tables.exec = Jvm.exec) (hb : c.code = cc) {a b : Nat} (ha : a < 2 ^ 31) (h0 : 0 < b) (hb1 : b < 2 ^ 31) (hdg : decode cc pc = .ok (.idiv, 1)) (k : W p l e R s m args below meth c H locs cells slots Q (F0 m (pc + 1) ls (.int (nI (a / b)) :: rest))) : W p l e R s m args below meth c H locs cells slots Q (F0 m pc ls (.int (nI b) :: .int (nI a) :: rest)) := lv_idiv hx hb hdg (nI_ne0 h0 hb1) (by rw [pk_div ha h0 hb1]; exact k)
theorem zi_rem (hx : p.tables.exec = Jvm.exec) (hb : c.code = cc) {a b : Nat} (ha : a < 2 ^ 31) (h0 : 0 < b) (hb1 : b < 2 ^ 31) (hdg : decode cc pc = .ok (.irem, 1)) (k : W p l e R s m args below meth c H locs cells slots Q (F0 m (pc + 1) ls (.int (nI (a % b)) :: rest))) : W p l e R s m args below meth c H locs cells slots Q (F0 m pc ls (.int (nI b) :: .int (nI a) :: rest)) := lv_irem hx hb hdg (nI_ne0 h0 hb1) (by rw [pk_rem ha h0 hb1]; exact k)
theorem zi_icmp_eq (hx : p.tables.exec = Jvm.exec) (hb : c.code = cc) {a b : Nat} {off : Int} {tgt : Nat} (hdg : decode cc pc = .ok (.if_icmp .eq off, 3)) (ht : (pc : Int) + off = (tgt : Int)) (ha : a < 2 ^ 31) (hb1 : b < 2 ^ 31)
    (kt : a = b → W p l e R s m args below meth c H locs cells slots Q (F0 m tgt ls rest)) (kf : a ≠ b → W p l e R s m args below meth c H locs cells slots Q (F0 m (pc + 3) ls rest)) : W p l e R s m args below meth c H locs cells slots Q (F0 m pc ls (.int (nI b) :: .int (nI a) :: rest)) :=
  lv_icmp_eq hx hb hdg ht (fun h => kt ((nI_eq ha hb1).mp h)) (fun h => kf (fun q => h ((nI_eq ha hb1).mpr q)))
theorem zi_icmp_ne (hx : p.tables.exec = Jvm.exec) (hb : c.code = cc) {a b : Nat} {off : Int} {tgt : Nat} (hdg : decode cc pc = .ok (.if_icmp .ne off, 3)) (ht : (pc : Int) + off = (tgt : Int)) (ha : a < 2 ^ 31) (hb1 : b < 2 ^ 31)
    (kt : a ≠ b → W p l e R s m args below meth c H locs cells slots Q (F0 m tgt ls rest)) (kf : a = b → W p l e R s m args below meth c H locs cells slots Q (F0 m (pc + 3) ls rest)) : W p l e R s m args below meth c H locs cells slots Q (F0 m pc ls (.int (nI b) :: .int (nI a) :: rest)) :=
  lv_icmp_ne hx hb hdg ht (fun h => kt (fun q => h ((nI_eq ha hb1).mpr q))) (fun h => kf ((nI_eq ha hb1).mp h))
theorem zi_icmp_lt (hx : p.tables.exec = Jvm.exec) (hb : c.code = cc) {a b : Nat} {off : Int} {tgt : Nat} (hdg : decode cc pc = .ok (.if_icmp .lt off, 3)) (ht : (pc : Int) + off = (tgt : Int)) (ha : a < 2 ^ 31) (hb1 : b < 2 ^ 31)
    (kt : a < b → W p l e R s m args below meth c H locs cells slots Q (F0 m tgt ls rest)) (kf : b ≤ a → W p l e R s m args below meth c H locs cells slots Q (F0 m (pc + 3) ls rest)) : W p l e R s m args below meth c H locs cells slots Q (F0 m pc ls (.int (nI b) :: .int (nI a) :: rest)) :=
  lv_icmp_lt hx hb hdg ht (fun h => kt ((nI_ltI ha hb1).mp h)) (fun h => kf (Nat.le_of_not_lt (fun q => h ((nI_ltI ha hb1).mpr q))))
theorem zi_icmp_ge (hx : p.tables.exec = Jvm.exec) (hb : c.code = cc) {a b : Nat} {off : Int} {tgt : Nat} (hdg : decode cc pc = .ok (.if_icmp .ge off, 3)) (ht : (pc : Int) + off = (tgt : Int)) (ha : a < 2 ^ 31) (hb1 : b < 2 ^ 31)
    (kt : b ≤ a → W p l e R s m args below meth c H locs cells slots Q (F0 m tgt ls rest)) (kf : a < b → W p l e R s m args below meth c H locs cells slots Q (F0 m (pc + 3) ls rest)) : W p l e R s m args below meth c H locs cells slots Q (F0 m pc ls (.int (nI b) :: .int (nI a) :: rest)) :=
  lv_icmp_ge hx hb hdg ht (fun h => kt ((nI_leI hb1 ha).mp h)) (fun h => kf (Nat.lt_of_not_le (fun q => h ((nI_leI hb1 ha).mpr q))))
theorem zi_icmp_gt (hx : p.tables.exec = Jvm.exec) (hb : c.code = cc) {a b : Nat} {off : Int} {tgt : Nat} (hdg : decode cc pc = .ok (.if_icmp .gt off, 3)) (ht : (pc : Int) + off = (tgt : Int)) (ha : a < 2 ^ 31) (hb1 : b < 2 ^ 31)
    (kt : b < a → W p l e R s m args below meth c H locs cells slots Q (F0 m tgt ls rest)) (kf : a ≤ b → W p l e R s m args below meth c H locs cells slots Q (F0 m (pc + 3) ls rest)) : W p l e R s m args below meth c H locs cells slots Q (F0 m pc ls (.int (nI b) :: .int (nI a) :: rest)) :=
  lv_icmp_gt hx hb hdg ht (fun h => kt ((nI_ltI hb1 ha).mp h)) (fun h => kf (Nat.le_of_not_lt (fun q => h ((nI_ltI hb1 ha).mpr q))))
theorem zi_icmp_le (hx : p.tables.exec = Jvm.exec) (hb : c.code = cc) {a b : Nat} {off : Int} {tgt : Nat} (hdg : decode cc pc = .ok (.if_icmp .le off, 3)) (ht : (pc : Int) + off = (tgt : Int)) (ha : a < 2 ^ 31) (hb1 : b < 2 ^ 31)
    (kt : a ≤ b → W p l e R s m args below meth c H locs cells slots Q (F0 m tgt ls rest)) (kf : b < a → W p l e R s m args below meth c H locs cells slots Q (F0 m (pc + 3) ls rest)) : W p l e R s m args below meth c H locs cells slots Q (F0 m pc ls (.int (nI b) :: .int (nI a) :: rest)) :=
  lv_icmp_le hx hb hdg ht (fun h => kt ((nI_leI ha hb1).mp h)) (fun h => kf (Nat.lt_of_not_le (fun q => h ((nI_leI ha hb1).mpr q))))
theorem nI_is0 {a : Nat} (ha : a < 2 ^ 31) : nI a = 0 ↔ a = 0 := by
  have h := nI_eq ha (show 0 < 2 ^ 31 by decide)
  rwa [nI_0] at h
theorem zi_if_eq (hx : p.tables.exec = Jvm.exec) (hb : c.code = cc) {a : Nat} {off : Int} {tgt : Nat} (hdg : decode cc pc = .ok (.ifCond .eq off, 3)) (ht : (pc : Int) + off = (tgt : Int)) (ha : a < 2 ^ 31)
    (kt : a = 0 → W p l e R s m args below meth c H locs cells slots Q (F0 m tgt ls rest)) (kf : a ≠ 0 → W p l e R s m args below meth c H locs cells slots Q (F0 m (pc + 3) ls rest)) : W p l e R s m args below meth c H locs cells slots Q (F0 m pc ls (.int (nI a) :: rest)) :=
  lv_if_eq hx hb hdg ht (fun h => kt ((nI_is0 ha).mp h)) (fun h => kf (fun q => h ((nI_is0 ha).mpr q)))
theorem zi_if_ne (hx : p.tables.exec = Jvm.exec) (hb : c.code = cc) {a : Nat} {off : Int} {tgt : Nat} (hdg : decode cc pc = .ok (.ifCond .ne off, 3)) (ht : (pc : Int) + off = (tgt : Int)) (ha : a < 2 ^ 31)
    (kt : a ≠ 0 → W p l e R s m args below meth c H locs cells slots Q (F0 m tgt ls rest)) (kf : a = 0 → W p l e R s m args below meth c H locs cells slots Q (F0 m (pc + 3) ls rest)) : W p l e R s m args below meth c H locs cells slots Q (F0 m pc ls (.int (nI a) :: rest)) :=
  lv_if_ne hx hb hdg ht (fun h => kt (fun q => h ((nI_is0 ha).mpr q))) (fun h => kf ((nI_is0 ha).mp h))
theorem nI_gt0 {a : Nat} (ha : a < 2 ^ 31) : (0 : Int32) < nI a ↔ 0 < a := by
  have h := nI_ltI (show 0 < 2 ^ 31 by decide) ha
  rwa [nI_0] at h
theorem nI_le0 {a : Nat} (ha : a < 2 ^ 31) : nI a ≤ (0 : Int32) ↔ a ≤ 0 := by
  have h := nI_leI ha (show 0 < 2 ^ 31 by decide)
  rwa [nI_0] at h
theorem zi_if_gt (hx : p.tables.exec = Jvm.exec) (hb : c.code = cc) {a : Nat} {off : Int} {tgt : Nat} (hdg : decode cc pc = .ok (.ifCond .gt off, 3)) (ht : (pc : Int) + off = (tgt : Int)) (ha : a < 2 ^ 31)
    (kt : 0 < a → W p l e R s m args below meth c H locs cells slots Q (F0 m tgt ls rest)) (kf : a = 0 → W p l e R s m args below meth c H locs cells slots Q (F0 m (pc + 3) ls rest)) : W p l e R s m args below meth c H locs cells slots Q (F0 m pc ls (.int (nI a) :: rest)) :=
  lv_if_gt hx hb hdg ht (fun h => kt ((nI_gt0 ha).mp h)) (fun h => kf (Nat.eq_zero_of_not_pos (fun q => h ((nI_gt0 ha).mpr q))))
theorem zi_if_le (hx : p.tables.exec = Jvm.exec) (hb : c.code = cc) {a : Nat} {off : Int} {tgt : Nat} (hdg : decode cc pc = .ok (.ifCond .le off, 3)) (ht : (pc : Int) + off = (tgt : Int)) (ha : a < 2 ^ 31)
    (kt : a = 0 → W p l e R s m args below meth c H locs cells slots Q (F0 m tgt ls rest)) (kf : 0 < a → W p l e R s m args below meth c H locs cells slots Q (F0 m (pc + 3) ls rest)) : W p l e R s m args below meth c H locs cells slots Q (F0 m pc ls (.int (nI a) :: rest)) :=
  lv_if_le hx hb hdg ht (fun h => kt (Nat.le_zero.mp ((nI_le0 ha).mp h))) (fun h => kf (Nat.pos_of_ne_zero (fun q => h ((nI_le0 ha).mpr (Nat.le_of_eq q)))))
theorem zi_if_lt (hx : p.tables.exec = Jvm.exec) (hb : c.code = cc) {a : Nat} {off : Int} {tgt : Nat} (hdg : decode cc pc = .ok (.ifCond .lt off, 3)) (ht : (pc : Int) + off = (tgt : Int)) (ha : a < 2 ^ 31)
    (kf : W p l e R s m args below meth c H locs cells slots Q (F0 m (pc + 3) ls rest)) : W p l e R s m args below meth c H locs cells slots Q (F0 m pc ls (.int (nI a) :: rest)) :=
  lv_if_lt hx hb hdg ht (fun h => absurd h (nI_pos ha)) (fun _ => kf)
theorem zi_if_ge (hx : p.tables.exec = Jvm.exec) (hb : c.code = cc) {a : Nat} {off : Int} {tgt : Nat} (hdg : decode cc pc = .ok (.ifCond .ge off, 3)) (ht : (pc : Int) + off = (tgt : Int)) (ha : a < 2 ^ 31)
    (kt : W p l e R s m args below meth c H locs cells slots Q (F0 m tgt ls rest)) : W p l e R s m args below meth c H locs cells slots Q (F0 m pc ls (.int (nI a) :: rest)) :=
  lv_if_ge hx hb hdg ht (fun _ => kt) (fun h => absurd (nI_pos' ha) h)
theorem zb_if_eq (hx : p.tables.exec = Jvm.exec) (hb : c.code = cc) {v : Bool} {off : Int} {tgt : Nat} (hdg : decode cc pc = .ok (.ifCond .eq off, 3)) (ht : (pc : Int) + off = (tgt : Int))
    (kt : v = false → W p l e R s m args below meth c H locs cells slots Q (F0 m tgt ls rest)) (kf : v = true → W p l e R s m args below meth c H locs cells slots Q (F0 m (pc + 3) ls rest)) : W p l e R s m args below meth c H locs cells slots Q (F0 m pc ls (.int (nI (nB v)) :: rest)) :=
  zi_if_eq hx hb hdg ht (Nat.lt_trans (nB_lt v) (by decide)) (fun h => kt (nB_z h)) (fun h => kf (nB_nz h))
theorem zb_if_ne (hx : p.tables.exec = Jvm.exec) (hb : c.code = cc) {v : Bool} {off : Int} {tgt : Nat} (hdg : decode cc pc = .ok (.ifCond .ne off, 3)) (ht : (pc : Int) + off = (tgt : Int))
    (kt : v = true → W p l e R s m args below meth c H locs cells slots Q (F0 m tgt ls rest)) (kf : v = false → W p l e R s m args below meth c H locs cells slots Q (F0 m (pc + 3) ls rest)) : W p l e R s m args below meth c H locs cells slots Q (F0 m pc ls (.int (nI (nB v)) :: rest)) :=
  zi_if_ne hx hb hdg ht (Nat.lt_trans (nB_lt v) (by decide)) (fun h => kt (nB_nz h)) (fun h => kf (nB_z h))
theorem zi_ald {G : zG} (hx : p.tables.exec = Jvm.exec) (hb : c.code = cc) (hK : zK G s) {a n i : Nat} {f : Nat → Nat} (ha : zA G H a n f) (hi : i < n) (hn : n < 2 ^ 31) (hdg : decode cc pc = .ok (.iaload, 1))
    (k : W p l e R s m args below meth c H locs cells slots Q (F0 m (pc + 1) ls (.int (nI (f i)) :: rest))) : W p l e R s m args below meth c H locs cells slots Q (F0 m pc ls (.int (nI i) :: .ref a :: rest)) :=
  va_iald hx hb hK.1 ha.one 0 0 rfl rfl (vp_in_nI hi hn) hdg (by rw [nI_clamp (Nat.lt_trans hi hn)]; exact k)
theorem zi_get {G : zG} (hx : p.tables.exec = Jvm.exec) (hb : c.code = cc) {own C : String} {T : u_T} {N ci index a : Nat} {Ts : List Cond} (hts : ∀ w ∈ Ts, w.before args s = true) (hin : ∀ w ∈ u_ws C T N, w ∈ Ts) (hown : s.vm.findClass own = some m.cls) (hK : zK G s) {fs : List Value} (hO : zO G H a ci fs) (hc : vwCl[ci]? = some (C, T, N)) (k : Nat) (hk : k < N) (hlink : (Cond.fieldLink own index C (T k).2.1 (T k).2.2.1).before args s = true) (hsame : ∀ x, s.fieldFound? (T k).1 (T k).2.1 (T k).2.2.1 = some x → s.fieldFound? C (T k).2.1 (T k).2.2.1 = some x) {v : Value} (hv : fs[k]? = some v) (hdg : decode cc pc = .ok (.getfield index, 3))
    (kk : W p l e R s m args below meth c H locs cells slots Q (F0 m (pc + 3) ls (v :: rest))) : W p l e R s m args below meth c H locs cells slots Q (F0 m pc ls (.ref a :: rest)) :=
  va_get hx hb hts hin hown hK.1 hO.one 0 rfl hc k hk hlink hsame hv hdg kk
theorem zr_i (hx : p.tables.exec = Jvm.exec) (hb : c.code = cc) (hr : meth.sig.returnType = some .int) (hlocks : meth.locks = false) {v r : Int32} (he : v = r) (hdg : decode cc pc = .ok (.ireturn, 1)) : W p l e R s m args below meth c s.heap [] 0 0 (MQ below (zR (.int r)) args s 0 0 (fun _ => False)) (F0 m pc ls [.int v]) := by
  subst he
  exact W.iret hx hb hr (fun t ht _ => ⟨rfl, ht⟩) (fun _ h => by cases h) hdg hlocks
theorem zr_z (hx : p.tables.exec = Jvm.exec) (hb : c.code = cc) (hr : meth.sig.returnType = some .boolean) (hlocks : meth.locks = false) {v : Int32} {b : Bool} (he : v = nI (nB b)) (hdg : decode cc pc = .ok (.ireturn, 1)) : W p l e R s m args below meth c s.heap [] 0 0 (MQ below (zR (.int (nI (nB b)))) args s 0 0 (fun _ => False)) (F0 m pc ls [.int v]) := by
  subst he
  exact W.zret hx hb hr (by cases b <;> decide) (fun t ht _ => ⟨rfl, ht⟩) (fun _ h => by cases h) hdg hlocks
theorem zr_l (hx : p.tables.exec = Jvm.exec) (hb : c.code = cc) (hr : meth.sig.returnType = some .long) (hlocks : meth.locks = false) {v r : Int64} (he : v = r) (hdg : decode cc pc = .ok (.lreturn, 1)) : W p l e R s m args below meth c s.heap [] 0 0 (MQ below (zR (.long r)) args s 0 0 (fun _ => False)) (F0 m pc ls [.long v]) := by
  subst he
  exact W.lret hx hb hr (fun t ht _ => ⟨rfl, ht⟩) (fun _ h => by cases h) hdg hlocks
theorem zc_V {y : MethodName} {bytes : ByteArray} {maxL nL n index ci N b : Nat} {ret : Option FieldType} {ws : List Cond} {rm : Room} {P : Heap → Prop} {r : Value} {Ts : List Cond} {own C : String} {T : u_T} {As st fs : List Value} {G : zG} (S : CallFix p m c cc nL s args Ts own) (hM : Met l y ws rm (zP G (.ref b :: As) P) (zR r) 0 0 (fun _ => False)) (cw : CallW R s args own C index y bytes maxL ret ws rm 0 0 n) (hK : zK G s) (hO : zO G H b ci fs) (hc : vwCl[ci]? = some (C, T, N)) (hP : P H)
    (hn : As.length = n) (hsize : ls.size = nL) (hstack : st = As.reverse ++ .ref b :: rest) (hW : (rest.map fun v => v.category).sum ≤ 8) (hdg : decode cc pc = .ok (.invokevirtual index, 3)) (hf : cells ≤ R.cells ∧ slots ≤ R.slots)
    (kk : W p l e R s m args below meth c H locs cells slots Q (F0 m (pc + 3) ls (r :: rest))) : W p l e R s m args below meth c H locs cells slots Q (F0 m pc ls st) := by
  have hr := W.runV (e := e) (below := below) (meth := meth) (H := H) (locs := locs) (cells := cells) (slots := slots) (b := b) (As := As) (rest := rest) (g := F0 m pc ls st) S hM cw ⟨zP_blind, va_recv hK.1 hO.one (q0 := 0) hc rfl, fun U hU hW => ⟨rfl, by rw [hU]; exact hP, zK.warm hW hK⟩⟩ rfl hn hsize hstack (lv_room hW) hdg hf
  intro X hT XS
  obtain ⟨v, st₀, t, T', L, h0, X', hL, e1, ⟨hv, hh⟩, stp⟩ := hr X hT XS
  cases hv
  obtain ⟨t2, a1, b1⟩ := kk T' (by rw [e1, hh, h0]) (Stand.forget X' (fun q h => (hL q h).elim))
  exact ⟨t2, stp t2 a1, b1⟩
theorem zc_S {y : MethodName} {bytes : ByteArray} {maxL nL n index : Nat} {ret : Option FieldType} {ws : List Cond} {rm : Room} {P : Heap → Prop} {r : Value} {Ts : List Cond} {own : String} {As st : List Value} {G : zG} (S : CallFix p m c cc nL s args Ts own) (hM : Met l y ws rm (zP G As P) (zR r) 0 0 (fun _ => False)) (cw : CallB R s args own index y bytes maxL ret ws rm 0 0 n ∧ (Cond.static y).before args s = true) (hK : zK G s) (hP : P H)
    (hn : As.length = n) (hsize : ls.size = nL) (hstack : st = As.reverse ++ rest) (hW : (rest.map fun v => v.category).sum ≤ 8) (hdg : decode cc pc = .ok (.invokestatic index, 3)) (hf : cells ≤ R.cells ∧ slots ≤ R.slots)
    (kk : W p l e R s m args below meth c H locs cells slots Q (F0 m (pc + 3) ls (r :: rest))) : W p l e R s m args below meth c H locs cells slots Q (F0 m pc ls st) := by
  have hr := W.runS (e := e) (below := below) (meth := meth) (H := H) (locs := locs) (cells := cells) (slots := slots) (As := As) (rest := rest) (g := F0 m pc ls st) S hM cw ⟨zP_blind, fun U hU hW => ⟨rfl, by rw [hU]; exact hP, zK.warm hW hK⟩⟩ rfl hn hsize hstack (lv_room hW) hdg hf
  intro X hT XS
  obtain ⟨v, st₀, t, T', L, h0, X', hL, e1, ⟨hv, hh⟩, stp⟩ := hr X hT XS
  cases hv
  obtain ⟨t2, a1, b1⟩ := kk T' (by rw [e1, hh, h0]) (Stand.forget X' (fun q h => (hL q h).elim))
  exact ⟨t2, stp t2 a1, b1⟩
end ZB
