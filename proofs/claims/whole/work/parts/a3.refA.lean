/-! ===== arrays of references: the slots and the filters ===== -/
def zQi (G : zG) (t : Nat) : ClassId := if t = 3 then G.2.1.2.2.2.1 else G.2.1.2.2.2.2
def zQc (t : Nat) : String := if t = 3 then "FilterReader$Value" else "FilterReader$Filter"
def zQk (t : Nat) : Nat := if t = 3 then 8 else 2
/-- t = 3: an array of values; t = 4: of filters -/
def zE (G : zG) (t : Nat) (H : Heap) (a n : Nat) (f : Nat → Option Nat) : Prop := va_at G.1 vwCl (a, .inl (zQi G t, n, .inr (.inr (.inr (.inr f))))) H
theorem zE.keep {G : zG} {t : Nat} {B : Nat → Prop} {H H1 : Heap} {a n : Nat} {f : Nat → Option Nat} (h : zE G t H a n f) (k : zKp B H H1) (hb : ¬ B a) : zE G t H1 a n f := va_at.kept h (k a (va_at.lt h) hb)
theorem zE.lt {G : zG} {t : Nat} {H : Heap} {a n : Nat} {f : Nat → Option Nat} (h : zE G t H a n f) : a < H.size := va_at.lt h
theorem zE.ext {G : zG} {t : Nat} {H : Heap} {a n : Nat} {f g : Nat → Option Nat} (h : zE G t H a n f) (e : ∀ j, f j = g j) : zE G t H a n g := by
  rw [← funext e]
  exact h
theorem zE.ty {G : zG} {t : Nat} (ht : t = 3 ∨ t = 4) : (zT G)[t]? = some (zQi G t, .object (zQc t)) := by
  rcases ht with e | e <;> subst e <;> rfl
section ZE
variable {p : Program} {l : Launch} {e : Env} {R : Room} {s : State} {m : MethodId} {args : Array Value} {below : List Frame} {meth : Method} {c : Code} {H H0 : Heap} {locs : List Loc} {cells slots : Nat} {Q : State → Prop} {A : Nat → Prop}
variable {cc : ByteArray} {pc : Nat} {ls : Array Slot} {rest : List Value}
theorem zi_aldE {G : zG} (hx : p.tables.exec = Jvm.exec) (hb : c.code = cc) (hK : zK G s) {t a n i : Nat} {f : Nat → Option Nat} (ht : t = 3 ∨ t = 4) (ha : zE G t H a n f) (hi : i < n) (hn : n < 2 ^ 31) (hdg : decode cc pc = .ok (.aaload, 1))
    (k : W p l e R s m args below meth c H locs cells slots Q (F0 m (pc + 1) ls (va_rf (f i) :: rest))) : W p l e R s m args below meth c H locs cells slots Q (F0 m pc ls (.int (nI i) :: .ref a :: rest)) :=
  va_aldq hx hb hK.1 (va_one ha) 0 t rfl (zE.ty ht) (vp_in_nI hi hn) hdg (by rw [nI_clamp (Nat.lt_trans hi hn)]; exact k)
theorem zi_lenE {G : zG} (hx : p.tables.exec = Jvm.exec) (hb : c.code = cc) (hK : zK G s) {t a n : Nat} {f : Nat → Option Nat} (ht : t = 3 ∨ t = 4) (ha : zE G t H a n f) (hdg : decode cc pc = .ok (.arraylength, 1))
    (k : W p l e R s m args below meth c H locs cells slots Q (F0 m (pc + 1) ls (.int (nI n) :: rest))) : W p l e R s m args below meth c H locs cells slots Q (F0 m pc ls (.ref a :: rest)) :=
  va_alen hx hb hK.1 (va_one ha) 0 t rfl (zE.ty ht) rfl hdg k
theorem zx_astE {G : zG} (hx : p.tables.exec = Jvm.exec) (hb : c.code = cc) (hK : zK G s) {t a n i v : Nat} {vs : List Value} {f : Nat → Option Nat} (ht : t = 3 ∨ t = 4) (ha : zE G t H a n f) (hv : zO G H v (zQk t) vs) (hi : i < n) (hn : n < 2 ^ 31) (hA : A a) (hS : va_S A H0 H locs) (hdg : decode cc pc = .ok (.aastore, 1))
    (kk : ∀ (H1 : Heap) (locs1 : List Loc), H1.size = H.size → zE G t H1 a n (va_up f i (some v)) → zKp (fun q => q = a) H H1 → va_S A H0 H1 locs1 → W p l e R s m args below meth c H1 locs1 cells slots Q (F0 m (pc + 1) ls rest)) : W p l e R s m args below meth c H locs cells slots Q (F0 m pc ls (.ref v :: .int (nI i) :: .ref a :: rest)) := by
  have hin := vp_in_nI hi hn
  have hcl : (nI i).toNatClampNeg = i := nI_clamp (Nat.lt_trans hi hn)
  have h0 : ¬ nI i < 0 := fun q => hin (Or.inl q)
  obtain ⟨r, hr, cellV, g1, g2, g3, -⟩ := hv
  have hr1 : r.1 = zQc t := by rcases ht with e | e <;> subst e <;> (cases hr; rfl)
  have hcls := (hK.1.1 (zQk t) r hr).2
  obtain ⟨kA, comp, k1, k2, k3, -⟩ := (hK.1.2 t _ (zE.ty ht)).2
  rw [← hr1] at k3
  have hcomp : comp = G.1.1 (zQk t) := Option.some.inj (k3.symm.trans hcls.1)
  subst hcomp
  obtain ⟨kC, hkC, -⟩ := hcls.2
  refine W.aast hx hb ha (fun q h => by cases h) (fun h => by cases h) k1 k2 rfl hkC ⟨h0, by show _ < (arrV _ _ _).slots.size; rw [arrV_size, hcl]; exact hi⟩ g1 (fun q h => by rw [g3] at h; cases h) (by rw [g2]; exact hkC) (by rw [g2]; exact va_assign hcls) rfl rfl hdg fun H1 e z oq => ?_
  refine kk H1 _ z ?_ (fun q _ h => oq q h) (hS.put z oq hA)
  show H1[a]? = some (vp_cell _ _)
  rw [e, hcl]
  rw [vp_cell_q, vp_cell_q, arrV_store]
  congr 2
  funext q
  by_cases hq : q = i
  · subst hq
    simp [updV, va_up, va_rf]
  · simp [updV, va_up, hq]
theorem zx_newE {G : zG} (hx : p.tables.exec = Jvm.exec) (hb : c.code = cc) {own : String} {index t : Nat} (ht : t = 3 ∨ t = 4) (hown : s.vm.findClass own = some m.cls) (hcl : (Cond.classLink own index (zQc t)).before args s = true) (hover : va_AO (zQc t) s) (hK : zK G s) {n : Nat} (hn : n < 2 ^ 20) (hcells : cells + 1 ≤ R.cells) (hslots : slots + n ≤ R.slots) (hS : va_S A H0 H locs) (hdg : decode cc pc = .ok (.anewarray index, 3))
    (kk : ∀ (q : Nat) (H1 : Heap), q = H.size → H1.size = q + 1 → zE G t H1 q n (fun _ => none) → zKp (fun _ => False) H H1 → va_S A H0 H1 locs → W p l e R s m args below meth c H1 locs (cells + 1) (slots + n) Q (F0 m (pc + 3) ls (.ref q :: rest))) : W p l e R s m args below meth c H locs cells slots Q (F0 m pc ls (.int (nI n) :: rest)) := by
  have hc1 : (nI n).toNatClampNeg = n := nI_clamp (by omega)
  refine W.anew hx hb hown hcl (va_AO.use hover) rfl hdg rfl (nI_pos (by omega)) (by rw [hc1]; omega) hcells (by rw [hc1]; exact hslots) fun cA kA comp f1 f2 f3 f4 => ?_
  rw [hc1]
  generalize hH1 : H.push ({ cls := cA, slots := Array.replicate n .null, vm := .none } : Cell) = H1
  have z1 : H1.size = H.size + 1 := by rw [← hH1, Array.size_push]
  have e1 : H1[H.size]? = some (arrV cA n (fun _ => .null)) := by rw [← hH1, Array.getElem?_push_size, ← arrV_new]
  have o1 : ∀ q : Nat, q < H.size → H1[q]? = H[q]? := fun q hq => by rw [← hH1, Array.getElem?_push, if_neg (Nat.ne_of_lt hq)]
  have hc : cA = zQi G t := by
    obtain ⟨kA2, comp2, -, -, -, w4⟩ := (hK.1.2 t _ (zE.ty (G := G) ht)).2
    exact Option.some.inj (f1.symm.trans w4)
  subst hc
  refine kk H.size H1 rfl z1 ?_ (fun q hq _ => o1 q hq) ⟨Nat.le_trans hS.1 (by omega), fun x h1 h2 => (o1 x (Nat.lt_of_lt_of_le h1 hS.1)).trans (hS.2.1 x h1 h2), hS.2.2⟩
  show H1[H.size]? = some (vp_cell _ _)
  rw [vp_cell_q]
  exact e1
end ZE
theorem va_up_s {f : Nat → Option Nat} {i : Nat} {v : Option Nat} : va_up f i v i = v := by unfold va_up; simp
theorem va_up_n {f : Nat → Option Nat} {i j : Nat} {v : Option Nat} (h : j ≠ i) : va_up f i v j = f j := by unfold va_up; simp [h]
/-- the matcher's value that stands for none, whatever the bytes -/
theorem nod_miss {G : zG} {H : Heap} {v hi : Nat} (h : zO G H v 8 (vF 0 (-1) (G.2.2 "") (G.2.2 "") 0 none none none 0)) (hc : CH G H) (hv : v < hi) (f : Nat → Nat) (pf : Nat → Int32) : Nod G H f pf 0 v hi 0 0 [] (-1) none :=
  ⟨G.2.2 "", G.2.2 "", h, hc.emp (fun _ h => Or.inr h), hc.emp (fun _ h => Or.inr h), hv, by decide, by decide⟩
/-- an empty document -/
def gE0 : Nat → Nat := fun j => if j = 0 then 5 else 0
theorem els_emp {f : Nat → Nat} {c : Nat} (h : f (c + 4) = 0) : els f c = [] := els_eq (by show fi f c = 0; unfold fi; rw [if_pos h])
theorem nod_emp {G : zG} {H : Heap} {v hi : Nat} (h : zO G H v 8 (vF 3 (-1) (G.2.2 "") (G.2.2 "") 0 none none none 0)) (hc : CH G H) (hv : v < hi) : Nod G H gE0 nI 16 v hi 3 0 [] (-1) none := by
  refine ⟨G.2.2 "", G.2.2 "", [], h, hc.emp (fun _ h => Or.inr h), hc.emp (fun _ h => Or.inr h), hv, ?_⟩
  rw [if_pos (Or.inl rfl), els_emp (f := gE0) (c := 0) rfl]
  exact hv
theorem dcB_emp : dcB gE0 0 5 = true := by decide +kernel
/-- make, told for every way to lay the document's bytes -/
theorem c_makeA (l : Launch) (G : zG) (g : Nat → Nat) (n0 mk fl rt ca c0 vl hv nb wa : Nat) (hdc : dcB g 0 nb = true) (hnb : nb ≤ 2000) (g8 : ∀ i, g i < 256) (hhv : hv ≤ mk) (hcB : cB G ≤ mk) (hd1 : mk < fl) (hd2 : fl < rt) (hd3 : rt < ca) (hcn9 : ca < n0) : Met l yX2_make wsX2_make ({ frames := 101, cells := 40 * nb, slots := 40 * nb, locals := 2670 }) (zP G [.ref (mk)] (fun H => zO G H mk 3 [.ref fl, .int (nI 0), .int (-1)] ∧ zO G H fl 2 [.ref rt, .ref ca] ∧ zA G H ca 4 (cA4 c0 (0, wa, 0, 0, 0)) ∧ zO G H rt 5 (rlF 1 false vl none none none none) ∧ Nod G H g nI 16 vl hv 3 0 [] (-1) none ∧ CH G H ∧ H.size = n0)) (zX (fun q => q = mk ∨ q = ca ∨ q = rt ∨ n0 ≤ q) (fun r9 H => r9 = none ∧ ∀ f2 c, shB g f2 c nb → c ≤ 16000 → (∀ i, f2 i < 256) → ∃ T : cS, MKs G H mk fl rt ca c0 (pfc c) T ∧ eqS T ((ckF f2 16).2 c (0, wa, 0, 0, 0)) ∧ (T.1 = 0 → ∃ rs : List Nat, zO G H rt 5 (rlF 1 false vl none rs.head? rs.getLast? none) ∧ (RuL G H f2 (pfc c) (fun q => vl ≤ q ∧ q < hv) 16).2 n0 H.size rs (els f2 c)))) (40 * nb) (40 * nb) (fun q => q = mk ∨ q = ca ∨ q = rt ∨ n0 ≤ q) := by
  have h0 := Met.allV (I := {i : (Nat → Nat) × Nat // shB g i.1 i.2 nb ∧ i.2 ≤ 16000 ∧ ∀ j, i.1 j < 256}) (P := fun i H => MKs G H mk fl rt ca c0 (pfc i.1.2) (0, wa, 0, 0, 0) ∧ zO G H rt 5 (rlF 1 false vl none none none none) ∧ VNr G H i.1.1 (pfc i.1.2) (fun q => vl ≤ q ∧ q < hv) vl i.1.2 ∧ CH G H ∧ H.size = n0) ⟨(g, 0), fun j _ => by rw [Nat.zero_add], Nat.zero_le _, g8⟩
    (fun i => by
      have hd := dcB_sh i.2.1 hnb (by have := i.2.2.1; omega)
      rw [hdc] at hd
      obtain ⟨o1, o2, o3, o4⟩ := doc_at hd hnb i.2.2.1
      exact c_make l G i.1.1 (pfc i.1.2) (fun q => vl ≤ q ∧ q < hv) i.2.2.2 n0 mk fl rt ca c0 vl i.1.2 nb wa o1 o2 (fun q hq => hq.elim (fun z => by omega) (fun z => by omega)) hd1 hd2 hd3 hcn9 o3 o4)
  refine Met.toX h0 (fun H h i => ?_) (fun q h => h) (fun r H H1 h _ _ hq => ⟨hq.1, fun f2 c a1 a2 a3 => hq.2 ⟨(f2, c), a1, a2, a3⟩⟩)
  obtain ⟨h1, h2, h3, h4, h5, h6, h7⟩ := h
  have hd := dcB_sh i.2.1 hnb (by have := i.2.2.1; omega)
  rw [hdc] at hd
  obtain ⟨o1, o2, -⟩ := doc_at hd hnb i.2.2.1
  have hN := Nod_sh (dcB_tr hdc i.2.1 hnb i.2.2.1).1 h5
  rw [Nat.add_zero] at hN
  exact ⟨⟨h1, h2, h3⟩, h4, ⟨hv, hN, fun q a b => ⟨a, b⟩, o1, o2⟩, h6, h7⟩
