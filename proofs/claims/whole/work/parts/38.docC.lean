/-! ===== DOCUMENTS: the state of goOver (fields fault and nodes, eight arrays) ===== -/
def dF (w : Nat → Value) (q : Nat → Nat) (fa nd : Nat) : List Value := [w 0, w 1, w 2, w 3, w 4, w 5, w 6, w 7, w 8, w 9, w 10, w 11, .ref (q 12), .int (nI fa), .int (nI nd), .ref (q 15), .ref (q 16), .ref (q 17), .ref (q 18), .ref (q 19), .ref (q 20), .ref (q 21), w 22]
def dIx : List Nat := [12, 15, 16, 17, 18, 19, 20, 21]
def dSz (i : Nat) : Nat := if i = 12 then 2000 else if i < 18 then 1000 else 20
def dA (g pa be nm en bx mn rw : Nat → Nat) : Nat → Nat → Nat := fun i => if i = 12 then g else if i = 15 then pa else if i = 16 then be else if i = 17 then nm else if i = 18 then en else if i = 19 then bx else if i = 20 then mn else if i = 21 then rw else fun _ => 0
def MD (G : zG) (o : Nat) (w : Nat → Value) (q : Nat → Nat) (fa nd : Nat) (g pa be nm en bx mn rw : Nat → Nat) (H : Heap) : Prop := zO G H o 10 (dF w q fa nd) ∧ (∀ i ∈ dIx, zA G H (q i) (dSz i) (dA g pa be nm en bx mn rw i)) ∧ (∀ i ∈ dIx, q i ≠ o) ∧ (∀ i ∈ dIx, ∀ j ∈ dIx, q i = q j → i = j) ∧ ∀ i, g i < 256
def dAx (o : Nat) (q : Nat → Nat) : Nat → Prop := fun x => x = o ∨ ∃ i ∈ dIx, x = q i
theorem MD.a12 {G : zG} {o : Nat} {w : Nat → Value} {q : Nat → Nat} {fa nd : Nat} {g pa be nm en bx mn rw : Nat → Nat} {H : Heap} (h : MD G o w q fa nd g pa be nm en bx mn rw H) : zA G H (q 12) 2000 g := h.2.1 12 (by decide)
theorem MD.a15 {G : zG} {o : Nat} {w : Nat → Value} {q : Nat → Nat} {fa nd : Nat} {g pa be nm en bx mn rw : Nat → Nat} {H : Heap} (h : MD G o w q fa nd g pa be nm en bx mn rw H) : zA G H (q 15) 1000 pa := h.2.1 15 (by decide)
theorem MD.a16 {G : zG} {o : Nat} {w : Nat → Value} {q : Nat → Nat} {fa nd : Nat} {g pa be nm en bx mn rw : Nat → Nat} {H : Heap} (h : MD G o w q fa nd g pa be nm en bx mn rw H) : zA G H (q 16) 1000 be := h.2.1 16 (by decide)
theorem MD.a17 {G : zG} {o : Nat} {w : Nat → Value} {q : Nat → Nat} {fa nd : Nat} {g pa be nm en bx mn rw : Nat → Nat} {H : Heap} (h : MD G o w q fa nd g pa be nm en bx mn rw H) : zA G H (q 17) 1000 nm := h.2.1 17 (by decide)
theorem MD.a18 {G : zG} {o : Nat} {w : Nat → Value} {q : Nat → Nat} {fa nd : Nat} {g pa be nm en bx mn rw : Nat → Nat} {H : Heap} (h : MD G o w q fa nd g pa be nm en bx mn rw H) : zA G H (q 18) 20 en := h.2.1 18 (by decide)
theorem MD.a19 {G : zG} {o : Nat} {w : Nat → Value} {q : Nat → Nat} {fa nd : Nat} {g pa be nm en bx mn rw : Nat → Nat} {H : Heap} (h : MD G o w q fa nd g pa be nm en bx mn rw H) : zA G H (q 19) 20 bx := h.2.1 19 (by decide)
theorem MD.a20 {G : zG} {o : Nat} {w : Nat → Value} {q : Nat → Nat} {fa nd : Nat} {g pa be nm en bx mn rw : Nat → Nat} {H : Heap} (h : MD G o w q fa nd g pa be nm en bx mn rw H) : zA G H (q 20) 20 mn := h.2.1 20 (by decide)
theorem MD.a21 {G : zG} {o : Nat} {w : Nat → Value} {q : Nat → Nat} {fa nd : Nat} {g pa be nm en bx mn rw : Nat → Nat} {H : Heap} (h : MD G o w q fa nd g pa be nm en bx mn rw H) : zA G H (q 21) 20 rw := h.2.1 21 (by decide)
theorem MD.put {G : zG} {o : Nat} {w : Nat → Value} {q : Nat → Nat} {fa nd fa1 nd1 : Nat} {g pa be nm en bx mn rw : Nat → Nat} {H H1 : Heap} (h : MD G o w q fa nd g pa be nm en bx mn rw H) (hk : ∀ x, x ≠ o → H1[x]? = H[x]?) (hO : zO G H1 o 10 (dF w q fa1 nd1)) : MD G o w q fa1 nd1 g pa be nm en bx mn rw H1 :=
  ⟨hO, fun i hi => (h.2.1 i hi).kept (hk _ (h.2.2.1 i hi)), h.2.2⟩
theorem MD.s15 {G : zG} {o : Nat} {w : Nat → Value} {q : Nat → Nat} {fa nd k x : Nat} {g pa be nm en bx mn rw : Nat → Nat} {H H1 : Heap} (h : MD G o w q fa nd g pa be nm en bx mn rw H) (hk : ∀ y, y ≠ q 15 → H1[y]? = H[y]?) (hA : zA G H1 (q 15) 1000 (upN pa k x)) : MD G o w q fa nd g (upN pa k x) be nm en bx mn rw H1 := by
  refine ⟨h.1.kept (hk _ (fun e => h.2.2.1 15 (by decide) e.symm)), fun i hi => ?_, h.2.2⟩
  by_cases e : i = 15
  · subst e; exact hA
  · have h1 := (h.2.1 i hi).kept (hk _ (fun z => e (h.2.2.2.1 i hi 15 (by decide) z)))
    have h2 : dA g pa be nm en bx mn rw i = dA g (upN pa k x) be nm en bx mn rw i := by
      unfold dA
      simp only [e, if_false]
    rw [h2] at h1
    exact h1
theorem MD.s16 {G : zG} {o : Nat} {w : Nat → Value} {q : Nat → Nat} {fa nd k x : Nat} {g pa be nm en bx mn rw : Nat → Nat} {H H1 : Heap} (h : MD G o w q fa nd g pa be nm en bx mn rw H) (hk : ∀ y, y ≠ q 16 → H1[y]? = H[y]?) (hA : zA G H1 (q 16) 1000 (upN be k x)) : MD G o w q fa nd g pa (upN be k x) nm en bx mn rw H1 := by
  refine ⟨h.1.kept (hk _ (fun e => h.2.2.1 16 (by decide) e.symm)), fun i hi => ?_, h.2.2⟩
  by_cases e : i = 16
  · subst e; exact hA
  · have h1 := (h.2.1 i hi).kept (hk _ (fun z => e (h.2.2.2.1 i hi 16 (by decide) z)))
    have h2 : dA g pa be nm en bx mn rw i = dA g pa (upN be k x) nm en bx mn rw i := by
      unfold dA
      simp only [e, if_false]
    rw [h2] at h1
    exact h1
theorem MD.s17 {G : zG} {o : Nat} {w : Nat → Value} {q : Nat → Nat} {fa nd k x : Nat} {g pa be nm en bx mn rw : Nat → Nat} {H H1 : Heap} (h : MD G o w q fa nd g pa be nm en bx mn rw H) (hk : ∀ y, y ≠ q 17 → H1[y]? = H[y]?) (hA : zA G H1 (q 17) 1000 (upN nm k x)) : MD G o w q fa nd g pa be (upN nm k x) en bx mn rw H1 := by
  refine ⟨h.1.kept (hk _ (fun e => h.2.2.1 17 (by decide) e.symm)), fun i hi => ?_, h.2.2⟩
  by_cases e : i = 17
  · subst e; exact hA
  · have h1 := (h.2.1 i hi).kept (hk _ (fun z => e (h.2.2.2.1 i hi 17 (by decide) z)))
    have h2 : dA g pa be nm en bx mn rw i = dA g pa be (upN nm k x) en bx mn rw i := by
      unfold dA
      simp only [e, if_false]
    rw [h2] at h1
    exact h1
theorem MD.s18 {G : zG} {o : Nat} {w : Nat → Value} {q : Nat → Nat} {fa nd k x : Nat} {g pa be nm en bx mn rw : Nat → Nat} {H H1 : Heap} (h : MD G o w q fa nd g pa be nm en bx mn rw H) (hk : ∀ y, y ≠ q 18 → H1[y]? = H[y]?) (hA : zA G H1 (q 18) 20 (upN en k x)) : MD G o w q fa nd g pa be nm (upN en k x) bx mn rw H1 := by
  refine ⟨h.1.kept (hk _ (fun e => h.2.2.1 18 (by decide) e.symm)), fun i hi => ?_, h.2.2⟩
  by_cases e : i = 18
  · subst e; exact hA
  · have h1 := (h.2.1 i hi).kept (hk _ (fun z => e (h.2.2.2.1 i hi 18 (by decide) z)))
    have h2 : dA g pa be nm en bx mn rw i = dA g pa be nm (upN en k x) bx mn rw i := by
      unfold dA
      simp only [e, if_false]
    rw [h2] at h1
    exact h1
theorem MD.s19 {G : zG} {o : Nat} {w : Nat → Value} {q : Nat → Nat} {fa nd k x : Nat} {g pa be nm en bx mn rw : Nat → Nat} {H H1 : Heap} (h : MD G o w q fa nd g pa be nm en bx mn rw H) (hk : ∀ y, y ≠ q 19 → H1[y]? = H[y]?) (hA : zA G H1 (q 19) 20 (upN bx k x)) : MD G o w q fa nd g pa be nm en (upN bx k x) mn rw H1 := by
  refine ⟨h.1.kept (hk _ (fun e => h.2.2.1 19 (by decide) e.symm)), fun i hi => ?_, h.2.2⟩
  by_cases e : i = 19
  · subst e; exact hA
  · have h1 := (h.2.1 i hi).kept (hk _ (fun z => e (h.2.2.2.1 i hi 19 (by decide) z)))
    have h2 : dA g pa be nm en bx mn rw i = dA g pa be nm en (upN bx k x) mn rw i := by
      unfold dA
      simp only [e, if_false]
    rw [h2] at h1
    exact h1
theorem MD.s20 {G : zG} {o : Nat} {w : Nat → Value} {q : Nat → Nat} {fa nd k x : Nat} {g pa be nm en bx mn rw : Nat → Nat} {H H1 : Heap} (h : MD G o w q fa nd g pa be nm en bx mn rw H) (hk : ∀ y, y ≠ q 20 → H1[y]? = H[y]?) (hA : zA G H1 (q 20) 20 (upN mn k x)) : MD G o w q fa nd g pa be nm en bx (upN mn k x) rw H1 := by
  refine ⟨h.1.kept (hk _ (fun e => h.2.2.1 20 (by decide) e.symm)), fun i hi => ?_, h.2.2⟩
  by_cases e : i = 20
  · subst e; exact hA
  · have h1 := (h.2.1 i hi).kept (hk _ (fun z => e (h.2.2.2.1 i hi 20 (by decide) z)))
    have h2 : dA g pa be nm en bx mn rw i = dA g pa be nm en bx (upN mn k x) rw i := by
      unfold dA
      simp only [e, if_false]
    rw [h2] at h1
    exact h1
theorem MD.s21 {G : zG} {o : Nat} {w : Nat → Value} {q : Nat → Nat} {fa nd k x : Nat} {g pa be nm en bx mn rw : Nat → Nat} {H H1 : Heap} (h : MD G o w q fa nd g pa be nm en bx mn rw H) (hk : ∀ y, y ≠ q 21 → H1[y]? = H[y]?) (hA : zA G H1 (q 21) 20 (upN rw k x)) : MD G o w q fa nd g pa be nm en bx mn (upN rw k x) H1 := by
  refine ⟨h.1.kept (hk _ (fun e => h.2.2.1 21 (by decide) e.symm)), fun i hi => ?_, h.2.2⟩
  by_cases e : i = 21
  · subst e; exact hA
  · have h1 := (h.2.1 i hi).kept (hk _ (fun z => e (h.2.2.2.1 i hi 21 (by decide) z)))
    have h2 : dA g pa be nm en bx mn rw i = dA g pa be nm en bx mn (upN rw k x) i := by
      unfold dA
      simp only [e, if_false]
    rw [h2] at h1
    exact h1
def dSt (fa why : Nat) : Nat := if fa = 0 then why else fa
/-- a text at a: where it ends, and its fault -/
def txR (g : Nat → Nat) (a last : Nat) : Nat := if last - a < 4 then a else if wh g a < 1 then a else if last - a - 4 < wh g a then a else a + 4 + wh g a
def txF (g : Nat → Nat) (a last : Nat) : Nat := if last - a < 4 then 1 else if wh g a < 1 then 6 else if last - a - 4 < wh g a then 1 else if bd g (a + 4) (a + 4 + wh g a - 1) < 0 then (if g (a + 4 + wh g a - 1) = 0 then 0 else 6) else (if g (a + 4 + wh g a - 1) = 0 then 4 else 6)
def vaN (k : Nat) : Nat := if k = 16 then 4 else if k = 18 then 8 else 1
def vaR (g : Nat → Nat) (k a last : Nat) : Nat := if k = 16 ∨ k = 18 ∨ k = 8 then a + vaN k else if k = 2 then txR g a last else a
def vaF (g : Nat → Nat) (k a last : Nat) : Nat := if k = 16 ∨ k = 18 ∨ k = 8 then (if last - a < vaN k then 1 else if k = 8 ∧ 1 < g a then 5 else 0) else if k = 2 then txF g a last else 0
theorem lN_wh (g : Nat → Nat) (a : Nat) : lN (sb8 g a 0 4) = lN (wh g a) := by
  congr 1
  simp only [sb8, wh, Nat.add_assoc, Nat.reduceAdd, Nat.add_zero]
  omega
theorem wh_lt {g : Nat → Nat} (h8 : ∀ i, g i < 256) (a : Nat) : wh g a < 2 ^ 32 := by
  unfold wh
  have h0 := h8 a
  have h1 := h8 (a + 1)
  have h2 := h8 (a + 2)
  have h3 := h8 (a + 3)
  omega
def opF (g : Nat → Nat) (a left op : Nat) : Nat := if left < 4 then 1 else if wh g a < 5 ∨ (op = 0 ∧ wh g a < left) then 2 else if left < wh g a then 1 else if op = 16 then 8 else 0
theorem cmp_lt {g : Nat → Nat} (h8 : ∀ i, g i < 256) {a y : Nat} (hy : y < 2 ^ 31) : lg_cmp (lN (wh g a)) (lN y) < 0 ↔ wh g a < y := by
  rw [lg_cmp_lt, pk_lLT (Nat.lt_trans (wh_lt h8 a) (by decide)) (Nat.lt_trans hy (by decide))]
theorem cmp_ge {g : Nat → Nat} (h8 : ∀ i, g i < 256) {a y : Nat} (hy : y < 2 ^ 31) : 0 ≤ lg_cmp (lN (wh g a)) (lN y) ↔ y ≤ wh g a := by
  rw [lg_cmp_ge, pk_lLE (Nat.lt_trans hy (by decide)) (Nat.lt_trans (wh_lt h8 a) (by decide))]
theorem cmp_le {g : Nat → Nat} (h8 : ∀ i, g i < 256) {a y : Nat} (hy : y < 2 ^ 31) : lg_cmp (lN (wh g a)) (lN y) ≤ 0 ↔ wh g a ≤ y := by
  rw [lg_cmp_le, pk_lLE (Nat.lt_trans (wh_lt h8 a) (by decide)) (Nat.lt_trans hy (by decide))]
def nmS (g pa be nm bx : Nat → Nat) (fr to op k : Nat) : Bool := decide (pa k = bx (op - 1) ∧ nm k - be k - 1 = to - fr) && decide (sg g (be k + 1) (to - fr) = sg g fr (to - fr))
def nmU (p : Nat → Bool) : Nat → Nat → Bool
  | 0, _ => true
  | m + 1, k => !p k && nmU p m (k + 1)
theorem nmU_n {p : Nat → Bool} {nd k : Nat} (hk : k < nd) (h : p k = false) : nmU p (nd - k) k = nmU p (nd - (k + 1)) (k + 1) := by
  rw [show nd - k = (nd - (k + 1)) + 1 by omega, nmU, h]
  rfl
theorem nmU_y {p : Nat → Bool} {nd k : Nat} (hk : k < nd) (h : p k = true) : nmU p (nd - k) k = false := by
  rw [show nd - k = (nd - (k + 1)) + 1 by omega, nmU, h]
  rfl
theorem decide_sg {f g : Nat → Nat} {a b n i : Nat} (hi : i < n) (h : f (a + i) = g (b + i)) : decide (sg f (a + i) (n - i) = sg g (b + i) (n - i)) = decide (sg f (a + (i + 1)) (n - (i + 1)) = sg g (b + (i + 1)) (n - (i + 1))) := by
  rw [show n - i = (n - (i + 1)) + 1 by omega]
  congr 1
  show (f (a + i) :: sg f (a + i + 1) _ = g (b + i) :: sg g (b + i + 1) _) = _
  rw [h]
  apply propext
  exact ⟨fun z => (List.cons.inj z).2, fun z => congrArg _ z⟩
