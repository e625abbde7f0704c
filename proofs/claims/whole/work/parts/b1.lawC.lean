/-! ===== the law: what holds at each turn ===== -/
theorem zKp.wk {B B1 : Nat → Prop} {H H1 : Heap} (k : zKp B H H1) (h : ∀ q, q < H.size → B q → B1 q) : zKp B1 H H1 := fun q hq hb => k q hq (fun z => hb (h q hq z))
def qo (o : Nat) : Nat → Nat := fun i => o + 1 + kx i
/-- the cells that calls may change -/
def Ex (x tp qb sl fa o : Nat) (q : Nat) : Prop := q = x ∨ q = tp ∨ q = qb ∨ q = sl ∨ q = fa ∨ (o ≤ q ∧ q < o + 13)
theorem kx_lt : ∀ i ∈ rIx, kx i < 12 := by decide
theorem rAx_o {o q : Nat} (h : rAx o (qo o) q) : o ≤ q ∧ q < o + 13 := by
  rcases h with e | ⟨i, hi, e⟩
  · omega
  · have h1 := kx_lt i hi
    have e : q = o + 1 + kx i := e
    omega
theorem RS.keep {G : zG} {B : Nat → Prop} {o : Nat} {q : Nat → Nat} {tp : Nat} {pl : Int32} {wr wa nc np ns fa nd : Nat} {u : Bool} {X : Nat → Nat → Nat} {H H1 : Heap} (h : RS G o q tp pl wr wa nc np ns fa nd u X H) (k : zKp B H H1) (hb : ∀ a, rAx o q a → ¬ B a) : RS G o q tp pl wr wa nc np ns fa nd u X H1 :=
  ⟨h.1.keep k (hb _ (Or.inl rfl)), fun i hi => (h.2.1 i hi).keep k (hb _ (Or.inr ⟨i, hi, rfl⟩)), h.2.2⟩
def OrdI (G : zG) (x tp qb mt ms sl fa o : Nat) : Prop := cB G ≤ x ∧ x < tp ∧ tp < qb ∧ qb < mt ∧ mt < ms ∧ ms < sl ∧ sl < fa ∧ fa < o
/-- the cells from v on below hv are none of those that change -/
def Av (sl fa o v hv : Nat) : Prop := (sl < v ∧ hv ≤ fa) ∨ (fa < v ∧ hv ≤ o) ∨ o + 13 ≤ v
theorem Av.ex {G : zG} {x tp qb mt ms sl fa o v hv : Nat} (h : Av sl fa o v hv) (hO : OrdI G x tp qb mt ms sl fa o) : ∀ q, (v ≤ q ∧ q < hv) ∨ q < cB G → ¬ Ex x tp qb sl fa o q := by
  intro q hq
  unfold Av at h
  unfold OrdI at hO
  unfold Ex
  omega
/-- a slot: v holds what the n bytes at b of F say -/
def SlI (G : zG) (H : Heap) (F : Nat → Nat) (sl fa o v b : Nat) : Prop := ∃ (g : Nat → Nat) (n hv : Nat), n ≤ 2000 ∧ dcB g 0 n = true ∧ shB g F b n ∧ Nod G H g nI 16 v hv 3 0 [] (-1) none ∧ Av sl fa o v hv
/-- a filter: v was made of the n bytes at b of F -/
def FiI (G : zG) (H : Heap) (F : Nat → Nat) (k4 k5 k6 sl fa o v b : Nat) : Prop := ∃ (g : Nat → Nat) (n rt ca vl hv lo hi Lo Hi : Nat) (cc : Nat → Nat), n ≤ 2000 ∧ dcB g 0 n = true ∧ shB g F b n ∧ (Lo ≤ v ∧ v < Hi ∧ Lo ≤ rt ∧ rt < Hi ∧ Lo ≤ ca ∧ ca < Hi ∧ Lo ≤ vl ∧ hv ≤ Hi ∧ Lo ≤ lo ∧ hi ≤ Hi ∧ Av sl fa o Lo Hi) ∧ zO G H v 2 [.ref rt, .ref ca] ∧ zA G H ca 4 cc ∧ (cc 0 = (els g 0).length ∧ cc 1 = k4 ∧ cc 2 = k5 ∧ cc 3 = k6) ∧ ∀ f2 c, shB g f2 c n → c ≤ 16000 → (∀ i, f2 i < 256) → ∃ (wa : Nat) (rs : List Nat), ((ckF f2 16).2 c (0, wa, 0, 0, 0)).1 = 0 ∧ zO G H rt 5 (rlF 1 false vl none rs.head? rs.getLast? none) ∧ (RuL G H f2 (pfc c) (fun q => vl ≤ q ∧ q < hv) 16).2 lo hi rs (els f2 c)
theorem SlI.keep {G : zG} {H H1 : Heap} {F : Nat → Nat} {x tp qb mt ms sl fa o v b : Nat} (h : SlI G H F sl fa o v b) (hO : OrdI G x tp qb mt ms sl fa o) (k : zKp (Ex x tp qb sl fa o) H H1) : SlI G H1 F sl fa o v b := by
  obtain ⟨g, n, hv, h1, h2, h3, h4, h5⟩ := h
  exact ⟨g, n, hv, h1, h2, h3, h4.keep k (h5.ex hO), h5⟩
theorem FiI.keep {G : zG} {H H1 : Heap} {F : Nat → Nat} {k4 k5 k6 x tp qb mt ms sl fa o v b : Nat} (h : FiI G H F k4 k5 k6 sl fa o v b) (hO : OrdI G x tp qb mt ms sl fa o) (k : zKp (Ex x tp qb sl fa o) H H1) : FiI G H1 F k4 k5 k6 sl fa o v b := by
  obtain ⟨g, n, rt, ca, vl, hv, lo, hi, Lo, Hi, cc, h1, h2, h3, ⟨a1, a2, a3, a4, a5, a6, a7, a8, a9, a10, a11⟩, h5, h6, h7, h8⟩ := h
  have hb := a11.ex hO
  refine ⟨g, n, rt, ca, vl, hv, lo, hi, Lo, Hi, cc, h1, h2, h3, ⟨a1, a2, a3, a4, a5, a6, a7, a8, a9, a10, a11⟩, h5.keep k (hb _ (Or.inl ⟨a1, a2⟩)), h6.keep k (hb _ (Or.inl ⟨a5, a6⟩)), h7, fun f2 c b1 b2 b3 => ?_⟩
  obtain ⟨wa, rs, c1, c2, c3⟩ := h8 f2 c b1 b2 b3
  exact ⟨wa, rs, c1, c2.keep k (hb _ (Or.inl ⟨a3, a4⟩)), (RuL_keep k (fun q hq => hb q (hq.elim (fun y => Or.inl (by omega)) Or.inr)) 16).2 _ _ _ _ (fun q hq => hb q (Or.inl (by omega))) c3⟩
theorem SlI.to {G : zG} {H : Heap} {F F1 : Nat → Nat} {sl fa o v b : Nat} (h : SlI G H F sl fa o v b) (e : ∀ a, b ≤ a → a < b + 2000 → F1 a = F a) : SlI G H F1 sl fa o v b := by
  obtain ⟨g, n, hv, h1, h2, h3, h4, h5⟩ := h
  exact ⟨g, n, hv, h1, h2, fun j hj => by rw [e _ (by omega) (by omega)]; exact h3 j hj, h4, h5⟩
theorem FiI.to {G : zG} {H : Heap} {F F1 : Nat → Nat} {k4 k5 k6 sl fa o v b : Nat} (h : FiI G H F k4 k5 k6 sl fa o v b) (e : ∀ a, b ≤ a → a < b + 2000 → F1 a = F a) : FiI G H F1 k4 k5 k6 sl fa o v b := by
  obtain ⟨g, n, rt, ca, vl, hv, lo, hi, Lo, Hi, cc, h1, h2, h3, h4⟩ := h
  exact ⟨g, n, rt, ca, vl, hv, lo, hi, Lo, Hi, cc, h1, h2, fun j hj => by rw [e _ (by omega) (by omega)]; exact h3 j hj, h4⟩
/-- a slot, told over the reference's store -/
theorem SlI.at {G : zG} {H : Heap} {F : Nat → Nat} {sl fa o v b : Nat} (h : SlI G H F sl fa o v b) (hb : b ≤ 16000) : ∃ hv, Nod G H F (pfc b) 16 v hv 3 b [] (-1) none ∧ okV F 16 3 b ∧ okW F 16 3 b := by
  obtain ⟨g, n, hv, h1, h2, h3, h4, h5⟩ := h
  obtain ⟨t, -⟩ := dcB_tr h2 h3 h1 hb
  obtain ⟨o1, o2, -⟩ := dcB_ok (f := F) (c := b) (by rw [dcB_sh h3 h1 (by omega)]; exact h2) h1 hb
  exact ⟨hv, Nod_sh t h4, o1, o2⟩
/-- a filter, told over the reference's store -/
theorem FiI.at {G : zG} {H : Heap} {F : Nat → Nat} {k4 k5 k6 sl fa o v b : Nat} (h : FiI G H F k4 k5 k6 sl fa o v b) (hb : b ≤ 16000) (h8 : ∀ i, F i < 256) : ∃ (rt ca vl lo hi : Nat) (Z : Nat → Prop) (rs : List Nat), zO G H v 2 [.ref rt, .ref ca] ∧ zO G H rt 5 (rlF 1 false vl none rs.head? rs.getLast? none) ∧ (RuL G H F (pfc b) Z 17).2 lo hi rs (els F b) ∧ (okFl F 17).2 b ∧ bxW F b := by
  obtain ⟨g, n, rt, ca, vl, hv, lo, hi, Lo, Hi, cc, h1, h2, h3, -, h5, h6, -, h7⟩ := h
  obtain ⟨o1, o2, -⟩ := dcB_ok (f := F) (c := b) (by rw [dcB_sh h3 h1 (by omega)]; exact h2) h1 hb
  obtain ⟨wa, rs, c1, c2, c3⟩ := h7 F b h3 hb h8
  exact ⟨rt, ca, vl, lo, hi, _, rs, h5, c2, (RuL_up 16).2 _ _ _ _ c3, (okFl_up 16).2 _ ((ckF_ok F 16 (Nat.le_refl _)).2 b (0, wa, 0, 0, 0) o1 rfl c1), ⟨16, 3, Nat.le_refl _, Or.inl rfl, o1, o2⟩⟩
/-- its counts -/
theorem FiI.cnt {G : zG} {H : Heap} {F : Nat → Nat} {k4 k5 k6 sl fa o v b : Nat} (h : FiI G H F k4 k5 k6 sl fa o v b) (hb : b ≤ 16000) : ∃ (rt ca : Nat) (cc : Nat → Nat), zO G H v 2 [.ref rt, .ref ca] ∧ zA G H ca 4 cc ∧ (cc 0 = (els F b).length ∧ cc 1 = k4 ∧ cc 2 = k5 ∧ cc 3 = k6) ∧ Bx 18000 F b (els F b) := by
  obtain ⟨g, n, rt, ca, vl, hv, lo, hi, Lo, Hi, cc, h1, h2, h3, -, h5, h6, ⟨c0, c1, c2, c3⟩, -⟩ := h
  obtain ⟨o1, -⟩ := dcB_ok (f := F) (c := b) (by rw [dcB_sh h3 h1 (by omega)]; exact h2) h1 hb
  obtain ⟨t, -⟩ := dcB_tr h2 h3 h1 hb
  have e := (t.2 (Or.inl rfl)).1
  rw [Nat.add_zero] at e
  exact ⟨rt, ca, cc, h5, h6, ⟨by rw [e, List.length_map]; exact c0, c1, c2, c3⟩, okV_bx o1⟩
/-- what no call changes but by name: constants, matcher, slots, filters -/
def Rst (G : zG) (mt ms sl fa o : Nat) (sv fv : Nat → Nat) (F : Nat → Nat) (k4 k5 k6 : Nat → Nat) (H : Heap) : Prop := CH G H ∧ zO G H mt 4 [.ref ms] ∧ zO G H ms 8 (vF 0 (-1) (G.2.2 "") (G.2.2 "") 0 none none none 0) ∧ (∀ j, j < 4 → SlI G H F sl fa o (sv j) (2000 * j)) ∧ (∀ j, j < 4 → FiI G H F (k4 j) (k5 j) (k6 j) sl fa o (fv j) (8000 + 2000 * j))
theorem Rst.keep {G : zG} {B : Nat → Prop} {x tp qb mt ms sl fa o : Nat} {sv fv F k4 k5 k6 : Nat → Nat} {H H1 : Heap} (h : Rst G mt ms sl fa o sv fv F k4 k5 k6 H) (k : zKp B H H1) (hb : OrdI G x tp qb mt ms sl fa o ∧ H.size ≤ H1.size ∧ ∀ q, q < H.size → B q → Ex x tp qb sl fa o q) : Rst G mt ms sl fa o sv fv F k4 k5 k6 H1 := by
  obtain ⟨hO, hz, hb⟩ := hb
  have k := k.wk hb
  obtain ⟨h1, h2, h3, h4, h5⟩ := h
  have hO2 := hO
  unfold OrdI at hO2
  exact ⟨h1.keep k ⟨fun q hq => by unfold Ex; omega, hz⟩, h2.keep k (by unfold Ex; omega), h3.keep k (by unfold Ex; omega), fun j hj => (h4 j hj).keep hO k, fun j hj => (h5 j hj).keep hO k⟩
theorem Rst.to {G : zG} {mt ms sl fa o : Nat} {sv fv F F1 k4 k5 k6 : Nat → Nat} {H : Heap} (h : Rst G mt ms sl fa o sv fv F k4 k5 k6 H) (e : ∀ a, a < 16000 → F1 a = F a) : Rst G mt ms sl fa o sv fv F1 k4 k5 k6 H :=
  ⟨h.1, h.2.1, h.2.2.1, fun j hj => (h.2.2.2.1 j hj).to (fun a h1 h2 => e a (by omega)), fun j hj => (h.2.2.2.2 j hj).to (fun a h1 h2 => e a (by omega))⟩
theorem cpW_ne {f w : Nat → Nat} {b k a : Nat} (h : a < b ∨ b + k ≤ a) : cpW f w b k a = f a := by
  unfold cpW
  exact if_neg (by omega)
/-- a document has come into slot i -/
theorem Rst.slot {G : zG} {mt ms sl fa o i n v : Nat} {sv fv F w k4 k5 k6 : Nat → Nat} {H : Heap} (h : Rst G mt ms sl fa o sv fv F k4 k5 k6 H) (hi : i < 4) (hn : n ≤ 2000) (hs : SlI G H (cpW F w (2000 * i) n) sl fa o v (2000 * i)) : Rst G mt ms sl fa o (upN sv i v) fv (cpW F w (2000 * i) n) k4 k5 k6 H := by
  refine ⟨h.1, h.2.1, h.2.2.1, fun j hj => ?_, fun j hj => (h.2.2.2.2 j hj).to (fun a h1 h2 => cpW_ne (by omega))⟩
  by_cases z : j = i
  · subst z
    rw [upN_self]
    exact hs
  · rw [upN_ne _ _ z]
    exact (h.2.2.2.1 j hj).to (fun a h1 h2 => cpW_ne (by omega))
/-- a filter has come into place i -/
theorem Rst.filt {G : zG} {mt ms sl fa o i n v c4 c5 c6 : Nat} {sv fv F w k4 k5 k6 : Nat → Nat} {H : Heap} (h : Rst G mt ms sl fa o sv fv F k4 k5 k6 H) (hi : i < 4) (hn : n ≤ 2000) (hs : FiI G H (cpW F w (8000 + 2000 * i) n) c4 c5 c6 sl fa o v (8000 + 2000 * i)) : Rst G mt ms sl fa o sv (upN fv i v) (cpW F w (8000 + 2000 * i) n) (upN k4 i c4) (upN k5 i c5) (upN k6 i c6) H := by
  refine ⟨h.1, h.2.1, h.2.2.1, fun j hj => (h.2.2.2.1 j hj).to (fun a h1 h2 => cpW_ne (by omega)), fun j hj => ?_⟩
  by_cases z : j = i
  · subst z
    rw [upN_self, upN_self, upN_self, upN_self]
    exact hs
  · rw [upN_ne _ _ z, upN_ne _ _ z, upN_ne _ _ z, upN_ne _ _ z]
    exact (h.2.2.2.2 j hj).to (fun a h1 h2 => cpW_ne (by omega))
/-- what holds at each turn -/
def Inv (G : zG) (x tp qb mt ms sl fa o : Nat) (sv fv : Nat → Nat) (cn : Nat) (pl : Int32) (X : Nat → Nat → Nat) (H : Heap) : Prop := OrdI G x tp qb mt ms sl fa o ∧ o + 13 ≤ H.size ∧ cn ≤ 2000 ∧ (∃ (wr wa nc np ns f9 nd : Nat) (u : Bool), RS G o (qo o) cn pl wr wa nc np ns f9 nd u X H) ∧ zO G H x 9 [.ref tp, .ref mt, .ref sl, .ref fa, .int pl] ∧ TP G tp qb cn (fun j => X 1 (16000 + j)) H ∧ zE G 3 H sl 4 (fun j => some (sv j)) ∧ zE G 4 H fa 4 (fun j => some (fv j)) ∧ Rst G mt ms sl fa o sv fv (X 1) (X 4) (X 5) (X 6) H
theorem upN_eq {f : Nat → Nat} {k a x : Nat} (h : a = k) : upN f k x a = x := if_pos h
theorem put4_lo {f : Nat → Nat} {c a : Nat} {v : Int32} (h : a < c) : put4 f c v a = f a := by
  unfold put4
  rw [upN_ne _ _ (by omega), upN_ne _ _ (by omega), upN_ne _ _ (by omega), upN_ne _ _ (by omega)]
theorem upN_sh (f : Nat → Nat) (p x : Nat) : (fun j => upN f (16000 + p) x (16000 + j)) = upN (fun j => f (16000 + j)) p x := by
  funext j
  by_cases z : j = p
  · rw [upN_eq (by omega), upN_eq z]
  · rw [upN_ne _ _ (by omega), upN_ne _ _ z]
theorem put4_sh (f : Nat → Nat) (c : Nat) (v : Int32) : (fun j => put4 f (16000 + c) v (16000 + j)) = put4 (fun j => f (16000 + j)) c v := by
  have e1 := upN_sh f c (byB v 24)
  have e2 := upN_sh (upN f (16000 + c) (byB v 24)) (c + 1) (byB v 16)
  have e3 := upN_sh (upN (upN f (16000 + c) (byB v 24)) (16000 + (c + 1)) (byB v 16)) (c + 2) (byB v 8)
  have e4 := upN_sh (upN (upN (upN f (16000 + c) (byB v 24)) (16000 + (c + 1)) (byB v 16)) (16000 + (c + 2)) (byB v 8)) (c + 3) (byB v 0)
  rw [e3, e2, e1] at e4
  exact e4
theorem put4_b {f : Nat → Nat} {c : Nat} {v : Int32} (h : ∀ i, f i < 256) : ∀ i, put4 f c v i < 256 := upN_b (upN_b (upN_b (upN_b h (byB_lt v 24)) (byB_lt v 16)) (byB_lt v 8)) (byB_lt v 0)
theorem Met.qx {l : Launch} {y : MethodName} {ws : List Cond} {rm : Room} {P : Array Value → State → Prop} {A : Nat → Prop} {r : Option Value} {Post : Heap → Prop} {mc ms : Nat} (h : Met l y ws rm P (zQ A r Post) mc ms A) : Met l y ws rm P (zX A (fun r9 H => r9 = r ∧ Post H)) mc ms A := by
  refine MetFree.mono h (fun _ _ h9 => h9) (fun _ _ _ _ _ h9 => h9) (fun a s o t _ hx => ?_)
  obtain ⟨⟨e, h1, h2⟩, L, hF, hL⟩ := hx
  exact ⟨⟨r, e, ⟨rfl, h1⟩, h2⟩, L, hF, hL⟩
/-- the class's and the reference's answers of a whole filter -/
theorem ho_ev {f : Nat → Nat} {v a : Nat} (h : (okFl f 17).2 v) (hb : bxW f v) (ha : okV f 16 3 a) : (els f v).all (fun e => clS f (ecF f (17 - 1)).1 (ecF f (17 - 1)).2 e a) = (evF f 17).2 v a := by
  obtain ⟨h1, h2⟩ := ec_ev (f := f) 16
  show _ = (els f v).all (fun e => EH f (evF f 16).1 (evF f 16).2 e a)
  refine all_cg (fun e he => ?_)
  obtain ⟨e1, e2, e3, e4, e5⟩ := hb.el e he
  exact clS_c h1 h2 (okEl.w (h.2 e he).2 e5) e1 e3 ha
theorem wB_cg {p q : Nat → Bool} (h : ∀ j, j < 4 → p j = q j) : wB p = wB q := by
  unfold wB
  rw [h 0 (by decide), h 1 (by decide), h 2 (by decide), h 3 (by decide)]
theorem int_inj {a b : Int32} (h : Value.int a = Value.int b) : a = b := Value.int.inj h
/-- the filter that was made, told over the reference's store: its fault, its place -/
theorem Mk_at {G : zG} {H : Heap} {g f2 : Nat → Nat} {c nb mk fl rt ca c0 vl hv lo hi wa fa1 : Nat} {pl1 : Int32} (h : MkAll G H g nb mk fl rt ca c0 vl hv lo hi wa) (hO : zO G H mk 3 [.ref fl, .int (nI fa1), .int pl1]) (h6 : fa1 < 6) (hs : shB g f2 c nb) (hc : c ≤ 16000) (h8 : ∀ i, f2 i < 256) : fa1 = ((ckF f2 16).2 c (0, wa, 0, 0, 0)).1 ∧ (fa1 ≠ 0 → pl1 = nI ((ckF f2 16).2 c (0, wa, 0, 0, 0)).2.1 - nI c) ∧ (fa1 = 0 → pl1 = -1 ∧ zO G H fl 2 [.ref rt, .ref ca] ∧ zA G H ca 4 (cA4 c0 ((ckF f2 16).2 c (0, wa, 0, 0, 0))) ∧ ∃ rs : List Nat, zO G H rt 5 (rlF 1 false vl none rs.head? rs.getLast? none) ∧ (RuL G H f2 (pfc c) (fun q => vl ≤ q ∧ q < hv) 16).2 lo hi rs (els f2 c)) := by
  obtain ⟨T, ⟨m1, m2, m3⟩, ⟨q1, q2, q3⟩, h3⟩ := h.2 f2 c hs hc h8
  have k6 := ck_6 f2 c wa
  have e1 : nI T.1 = nI fa1 := int_inj (zO_fn (r := (RX2, TX2, 3)) rfl m1 hO 1 (by decide))
  have e2 : fpS (pfc c) T = pl1 := int_inj (zO_fn (r := (RX2, TX2, 3)) rfl m1 hO 2 (by decide))
  have e3 : T.1 = fa1 := (nI_eq (by omega) (by omega)).mp e1
  subst e3
  refine ⟨q1, fun z => ?_, fun z => ?_⟩
  · rw [← e2, ← q2 z]
    unfold fpS
    rw [if_neg z]
    rfl
  · refine ⟨by rw [← e2]; unfold fpS; rw [if_pos z], m2, ?_, h3 z⟩
    rw [← q3 z]
    exact m3
/-- and so it comes into a place -/
theorem Mk_fi {G : zG} {H : Heap} {F : Nat → Nat} {nb mk fl rt ca vl hv lo hi wa i sl fa o : Nat} {pl1 : Int32} (h : MkAll G H (fun j => F (16000 + j)) nb mk fl rt ca (els (fun j => F (16000 + j)) 0).length vl hv lo hi wa) (hO : zO G H mk 3 [.ref fl, .int (nI 0), .int pl1]) (hi4 : i < 4) (hn : nb ≤ 2000) (h8 : ∀ i, F i < 256) (hd : dcB (fun j => F (16000 + j)) 0 nb = true) (hlo : o + 13 ≤ vl) : FiI G H (cpW F (fun j => F (16000 + j)) (8000 + 2000 * i) nb) ((ckF F 16).2 16000 (0, wa, 0, 0, 0)).2.2.1 ((ckF F 16).2 16000 (0, wa, 0, 0, 0)).2.2.2.1 ((ckF F 16).2 16000 (0, wa, 0, 0, 0)).2.2.2.2 sl fa o fl (8000 + 2000 * i) := by
  obtain ⟨r1, -, r3⟩ := Mk_at (f2 := F) (c := 16000) h hO (by decide) (fun j _ => rfl) (Nat.le_refl _) h8
  obtain ⟨-, p2, p3, -⟩ := r3 rfl
  obtain ⟨o1, o2, o3, o4, o5, o6, o7⟩ := h.1
  refine ⟨fun j => F (16000 + j), nb, rt, ca, vl, hv, lo, hi, vl, hi, _, hn, hd, cpW_sh (by omega) (fun j _ => rfl), ⟨by omega, by omega, by omega, by omega, by omega, by omega, by omega, by omega, by omega, by omega, Or.inr (Or.inr hlo)⟩, p2, p3, ⟨rfl, rfl, rfl, rfl⟩, fun f2 c b1 b2 b3 => ?_⟩
  obtain ⟨s1, -, s3⟩ := Mk_at (f2 := f2) (c := c) h hO (by decide) b1 b2 b3
  obtain ⟨-, -, -, rs, t1, t2⟩ := s3 rfl
  exact ⟨wa, rs, s1.symm, t1, t2⟩
/-- the last three bits -/
theorem and7 (v : Int32) : ∃ t, t < 8 ∧ v &&& 7 = nI t := by
  obtain ⟨j, hj, e⟩ := pk_andE v (m := 7) 3 (by decide)
  exact ⟨j, by omega, e⟩
section ZL
variable {p : Program} {l : Launch} {e : Env} {R : Room} {s : State} {m : MethodId} {args : Array Value} {below : List Frame} {meth : Method} {c : Code} {H H0 : Heap} {locs : List Loc} {cells slots : Nat} {Q : State → Prop} {A : Nat → Prop}
variable {cc : ByteArray} {pc : Nat} {ls : Array Slot} {rest : List Value}
theorem zl_ald {b L i : Nat} {xs : Nat → Int32} {v : Int32} (hx : p.tables.exec = Jvm.exec) (hb : c.code = cc) (hX : va_X b L xs s s.heap) (hbl : b < s.heap.size) (hbA : ¬ A b) (hS : va_S A s.heap H locs) (hi : i < L) (hL : L ≤ 3072) (hv : xs i = v) (hdg : decode cc pc = .ok (.iaload, 1))
    (k : W p l e R s m args below meth c H locs cells slots Q (F0 m (pc + 1) ls (.int v :: rest))) : W p l e R s m args below meth c H locs cells slots Q (F0 m pc ls (.int (nI i) :: .ref b :: rest)) :=
  va_sld hx hb hX hbl hbA hS (vp_in_nI hi (by omega)) hdg (by rw [nI_clamp (by omega), hv]; exact k)
end ZL
