/-! ===== goOver: a document's elements read one after another, as a function of its bytes ===== -/
theorem nz_fnd (f : Nat → Nat) : ∀ k q, nz f k q < q + k → f (nz f k q) = 0
  | 0, q, h => absurd h (by show ¬ q < q + 0; omega)
  | k + 1, q, h => by
    unfold nz at h ⊢
    split
    · assumption
    · rename_i h0
      rw [if_neg h0] at h
      exact nz_fnd f k (q + 1) (by omega)
theorem nz_top (f : Nat → Nat) : ∀ k q, nz f k q ≤ q + k
  | 0, q => Nat.le_refl _
  | k + 1, q => by
    unfold nz
    split
    · omega
    · have := nz_top f k (q + 1)
      omega
theorem tE_gt (g : Nat → Nat) (a last : Nat) : a < tE g a last := nz_ge g _ _
theorem tE_0 {g : Nat → Nat} {a last : Nat} (h : tE g a last < last) : g (tE g a last) = 0 := nz_fnd g _ _ (by
  have h1 := tE_gt g a last
  have h2 : tE g a last = nz g (last - (a + 1)) (a + 1) := rfl
  omega)
theorem tE_ne {g : Nat → Nat} {a last : Nat} (h : tE g a last < last) (hl : last ≤ 2000) : tE g a last = ne g a := by
  have h0 := tE_0 h
  have h1 := tE_gt g a last
  apply Nat.le_antisymm
  · exact nz_le g _ _ _ (ne_gt g a) (nz_0 g 2000 (a + 1) (tE g a last) h1 (by omega) h0)
  · exact nz_le g _ _ _ h1 h0
def okK (k : Nat) : Bool := decide (k = 2 ∨ k = 3 ∨ k = 4 ∨ k = 8 ∨ k = 10 ∨ k = 16 ∨ k = 18)
/-- the name from fr to to is right: the number of the item, or unlike the names of the elements L -/
def nmG (g : Nat → Nat) (row : Bool) (cnt fr to : Nat) (L : List Nat) : Bool := if row = true then isNu g fr to cnt else L.all (fun x => decide (nL g x ≠ sg g fr (to - fr)))
/-- kind and name of the element at a are right -/
def gE (g : Nat → Nat) (row : Bool) (cnt a last : Nat) (L : List Nat) : Bool := okK (g a) && (decide (tE g a last < last) && (decide (bd g (a + 1) (tE g a last) < 0) && nmG g row cnt (a + 1) (tE g a last) L))
/-- the elements from a on, up to the byte at last, which ends them; dep: how deep they lie; L: those ahead of them. Where they end -/
def pE (g : Nat → Nat) : Nat → Nat → Nat → Nat → Bool → Nat → List Nat → Option Nat
  | 0, _, _, _, _, _, _ => none
  | F + 1, dep, a, last, row, cnt, L =>
    if a = last then (if g a = 0 then some (a + 1) else none)
    else if gE g row cnt a last L = true then
      (if g a = 3 ∨ g a = 4 then
        (if opF g (tE g a last + 1) (last - (tE g a last + 1)) dep = 0 then
          (match pE g F (dep + 1) (tE g a last + 1 + 4) (tE g a last + 1 + wh g (tE g a last + 1) - 1) (decide (g a = 4)) 0 [] with
            | none => none
            | some e => pE g F dep e last row (cnt + 1) (a :: L)) else none)
      else (if vaF g (g a) (tE g a last + 1) last = 0 then pE g F dep (vaR g (g a) (tE g a last + 1) last) last row (cnt + 1) (a :: L) else none))
    else none
theorem pE_end0 {g : Nat → Nat} {F dep a last cnt : Nat} {row : Bool} {L : List Nat} (h : a = last) (h0 : g a = 0) : pE g (F + 1) dep a last row cnt L = some (a + 1) := by
  unfold pE; rw [if_pos h, if_pos h0]
theorem pE_endN {g : Nat → Nat} {F dep a last cnt : Nat} {row : Bool} {L : List Nat} (h : a = last) (h0 : g a ≠ 0) : pE g (F + 1) dep a last row cnt L = none := by
  unfold pE; rw [if_pos h, if_neg h0]
theorem pE_no {g : Nat → Nat} {F dep a last cnt : Nat} {row : Bool} {L : List Nat} (h : a ≠ last) (h0 : gE g row cnt a last L = false) : pE g (F + 1) dep a last row cnt L = none := by
  unfold pE; rw [if_neg h, h0, if_neg (by decide)]
theorem pE_vN {g : Nat → Nat} {F dep a last cnt : Nat} {row : Bool} {L : List Nat} (h : a ≠ last) (h0 : gE g row cnt a last L = true) (h3 : ¬ (g a = 3 ∨ g a = 4)) (hv : vaF g (g a) (tE g a last + 1) last ≠ 0) : pE g (F + 1) dep a last row cnt L = none := by
  unfold pE; rw [if_neg h, if_pos h0, if_neg h3, if_neg hv]
theorem pE_v {g : Nat → Nat} {F dep a last cnt : Nat} {row : Bool} {L : List Nat} (h : a ≠ last) (h0 : gE g row cnt a last L = true) (h3 : ¬ (g a = 3 ∨ g a = 4)) (hv : vaF g (g a) (tE g a last + 1) last = 0) : pE g (F + 1) dep a last row cnt L = pE g F dep (vaR g (g a) (tE g a last + 1) last) last row (cnt + 1) (a :: L) := by
  rw [pE, if_neg h, if_pos h0, if_neg h3, if_pos hv]
theorem pE_bN {g : Nat → Nat} {F dep a last cnt : Nat} {row : Bool} {L : List Nat} (h : a ≠ last) (h0 : gE g row cnt a last L = true) (h3 : g a = 3 ∨ g a = 4) (hv : opF g (tE g a last + 1) (last - (tE g a last + 1)) dep ≠ 0) : pE g (F + 1) dep a last row cnt L = none := by
  unfold pE; rw [if_neg h, if_pos h0, if_pos h3, if_neg hv]
theorem pE_bI {g : Nat → Nat} {F dep a last cnt : Nat} {row : Bool} {L : List Nat} (h : a ≠ last) (h0 : gE g row cnt a last L = true) (h3 : g a = 3 ∨ g a = 4) (hv : opF g (tE g a last + 1) (last - (tE g a last + 1)) dep = 0) (hi : pE g F (dep + 1) (tE g a last + 1 + 4) (tE g a last + 1 + wh g (tE g a last + 1) - 1) (decide (g a = 4)) 0 [] = none) : pE g (F + 1) dep a last row cnt L = none := by
  rw [pE, if_neg h, if_pos h0, if_pos h3, if_pos hv, hi]
theorem pE_b {g : Nat → Nat} {F dep a last cnt e : Nat} {row : Bool} {L : List Nat} (h : a ≠ last) (h0 : gE g row cnt a last L = true) (h3 : g a = 3 ∨ g a = 4) (hv : opF g (tE g a last + 1) (last - (tE g a last + 1)) dep = 0) (hi : pE g F (dep + 1) (tE g a last + 1 + 4) (tE g a last + 1 + wh g (tE g a last + 1) - 1) (decide (g a = 4)) 0 [] = some e) : pE g (F + 1) dep a last row cnt L = pE g F dep e last row (cnt + 1) (a :: L) := by
  rw [pE, if_neg h, if_pos h0, if_pos h3, if_pos hv, hi]
theorem pE_e {g : Nat → Nat} : ∀ {F dep a last cnt e : Nat} {row : Bool} {L : List Nat}, pE g F dep a last row cnt L = some e → e = last + 1
  | 0, _, _, _, _, _, _, _, h => by cases h
  | F + 1, dep, a, last, cnt, e, row, L, h => by
    by_cases h1 : a = last
    · by_cases h2 : g a = 0
      · rw [pE_end0 h1 h2] at h; cases h; omega
      · rw [pE_endN h1 h2] at h; cases h
    · cases h2 : gE g row cnt a last L with
      | false => rw [pE_no h1 h2] at h; cases h
      | true =>
        by_cases h3 : g a = 3 ∨ g a = 4
        · by_cases h4 : opF g (tE g a last + 1) (last - (tE g a last + 1)) dep = 0
          · cases h5 : pE g F (dep + 1) (tE g a last + 1 + 4) (tE g a last + 1 + wh g (tE g a last + 1) - 1) (decide (g a = 4)) 0 [] with
            | none => rw [pE_bI h1 h2 h3 h4 h5] at h; cases h
            | some e2 => rw [pE_b h1 h2 h3 h4 h5] at h; exact pE_e h
          · rw [pE_bN h1 h2 h3 h4] at h; cases h
        · by_cases h4 : vaF g (g a) (tE g a last + 1) last = 0
          · rw [pE_v h1 h2 h3 h4] at h; exact pE_e h
          · rw [pE_vN h1 h2 h3 h4] at h; cases h
theorem vaR_le {g : Nat → Nat} {k a last : Nat} (h : a ≤ last) (h0 : vaF g k a last = 0) : a ≤ vaR g k a last ∧ vaR g k a last ≤ last := by
  unfold vaF at h0
  unfold vaR
  split
  · rename_i h1
    rw [if_pos h1] at h0
    by_cases h2 : last - a < vaN k
    · rw [if_pos h2] at h0; omega
    · omega
  · rename_i h1
    rw [if_neg h1] at h0
    split
    · rename_i h2
      rw [if_pos h2] at h0
      unfold txF at h0
      unfold txR
      by_cases h3 : last - a < 4
      · rw [if_pos h3] at h0; omega
      · rw [if_neg h3] at h0
        by_cases h4 : wh g a < 1
        · rw [if_pos h4] at h0; omega
        · rw [if_neg h4] at h0
          by_cases h5 : last - a - 4 < wh g a
          · rw [if_pos h5] at h0; omega
          · rw [if_neg h3, if_neg h4, if_neg h5]; omega
    · omega
theorem opF_0 {g : Nat → Nat} {a left op : Nat} (h : opF g a left op = 0) : 4 ≤ left ∧ 5 ≤ wh g a ∧ wh g a ≤ left ∧ op ≠ 16 ∧ (op = 0 → wh g a = left) := by
  unfold opF at h
  by_cases h1 : left < 4
  · rw [if_pos h1] at h; omega
  · rw [if_neg h1] at h
    by_cases h2 : wh g a < 5 ∨ (op = 0 ∧ wh g a < left)
    · rw [if_pos h2] at h; omega
    · rw [if_neg h2] at h
      by_cases h3 : left < wh g a
      · rw [if_pos h3] at h; omega
      · rw [if_neg h3] at h
        by_cases h4 : op = 16
        · rw [if_pos h4] at h; omega
        · omega
theorem nmU_iff {p : Nat → Bool} : ∀ {n k : Nat}, nmU p n k = true ↔ ∀ j, k ≤ j → j < k + n → p j = false
  | 0, k => ⟨fun _ j h1 h2 => absurd h2 (by omega), fun _ => rfl⟩
  | n + 1, k => by
    unfold nmU
    constructor
    · intro h j h1 h2
      have h3 : p k = false ∧ nmU p n (k + 1) = true := by simpa using h
      rcases Nat.eq_or_lt_of_le h1 with e | e
      · rw [← e]; exact h3.1
      · exact (nmU_iff (n := n)).mp h3.2 j e (by omega)
    · intro h
      have h1 := h k (Nat.le_refl _) (by omega)
      have h2 : nmU p n (k + 1) = true := (nmU_iff (n := n)).mpr (fun j a b => h j (by omega) (by omega))
      simp [h1, h2]
/-- the nodes of the box op are the elements L -/
def tops (g pa be nm bx : Nat → Nat) (op nd : Nat) (L : List Nat) : Prop := (∀ k, 1 ≤ k → k < nd → pa k = bx (op - 1) → be k ∈ L ∧ nm k = ne g (be k)) ∧ ∀ x ∈ L, ∃ k, 1 ≤ k ∧ k < nd ∧ pa k = bx (op - 1) ∧ be k = x ∧ nm k = ne g x
def gB (pa bx mn rw : Nat → Nat) : Prop := (∀ k, pa k < 2 ^ 30) ∧ (∀ k, bx k < 2 ^ 30) ∧ (∀ k, mn k < 2 ^ 30) ∧ ∀ k, rw k < 2 ^ 30
theorem nmO_eq {g pa be nm bx mn rw : Nat → Nat} {op nd cnt fr to : Nat} {row : Bool} {L : List Nat} (ht : tops g pa be nm bx op nd L) (hn : 1 ≤ nd) (hr : rw (op - 1) = nB row) (hm : mn (op - 1) = cnt) : nmO g pa be nm bx mn rw nd fr to op = nmG g row cnt fr to L := by
  unfold nmO nmG
  rw [hr, hm]
  cases row with
  | true => rw [if_pos (show nB true = 1 from rfl), if_pos rfl]
  | false =>
    rw [if_neg (by decide), if_neg (by decide)]
    have key : ∀ k, 1 ≤ k → k < nd → be k ∈ L → pa k = bx (op - 1) → nm k = ne g (be k) → (nmS g pa be nm bx fr to op k = true ↔ nL g (be k) = sg g fr (to - fr)) := by
      intro k h1 h2 h3 h4 h5
      unfold nmS nL
      rw [h4, h5]
      by_cases hl : ne g (be k) - be k - 1 = to - fr
      · have hl2 : ne g (be k) - (be k + 1) = to - fr := by omega
        rw [hl2]
        simp [hl]
      · have hl2 : ne g (be k) - (be k + 1) ≠ to - fr := by omega
        constructor
        · intro z
          have : ne g (be k) - be k - 1 = to - fr := by
            have z1 := (Bool.and_eq_true _ _).mp z
            exact (of_decide_eq_true z1.1).2
          exact absurd this hl
        · intro z
          exact absurd z (sg_ne hl2)
    apply Bool.eq_iff_iff.mpr
    rw [nmU_iff, List.all_eq_true]
    constructor
    · intro h x hx
      obtain ⟨k, a1, a2, a3, a4, a5⟩ := ht.2 x hx
      have h1 := h k a1 (by omega)
      have h2 := key k a1 a2 (by rw [a4]; exact hx) a3 (by rw [a4]; exact a5)
      rw [a4] at h2
      exact decide_eq_true (fun z => by rw [h2.mpr z] at h1; cases h1)
    · intro h k h1 h2
      by_cases hp : pa k = bx (op - 1)
      · obtain ⟨b1, b2⟩ := ht.1 k h1 (by omega) hp
        have h3 := key k h1 (by omega) b1 hp b2
        have h4 := of_decide_eq_true (h _ b1)
        cases hc : nmS g pa be nm bx fr to op k with
        | false => rfl
        | true => exact absurd (h3.mp hc) h4
      · unfold nmS
        rw [decide_eq_false (fun z => hp z.1)]
        rfl
/-- what holds at the head of the loop -/
def gI (g : Nat → Nat) (a last op cnt nd : Nat) (row : Bool) (L : List Nat) (pa be nm ed bx mn rw : Nat → Nat) : Prop :=
  1 ≤ op ∧ op ≤ 16 ∧ a ≤ last ∧ last < 2000 ∧ 1 ≤ nd ∧ 2 * nd + 2 ≤ a ∧ ed (op - 1) = last + 1 ∧ rw (op - 1) = nB row ∧ mn (op - 1) = cnt ∧ cnt < nd ∧ bx (op - 1) < nd ∧ (∀ k, 1 ≤ k → k < nd → be k < nm k ∧ nm k ≤ 2000) ∧ (∀ k, 1 ≤ k → k < nd → pa k < k) ∧ gB pa bx mn rw ∧ tops g pa be nm bx op nd L
/-- what a box leaves when it has been read -/
def gK (e op nd nd1 : Nat) (pa be nm ed bx mn rw pa1 be1 nm1 ed1 bx1 mn1 rw1 : Nat → Nat) : Prop :=
  nd ≤ nd1 ∧ 2 * nd1 + 2 ≤ e ∧ (∀ k, k < nd → pa1 k = pa k ∧ be1 k = be k ∧ nm1 k = nm k) ∧ (∀ k, nd ≤ k → k < nd1 → bx (op - 1) ≤ pa1 k) ∧ (∀ k, 1 ≤ k → k < nd1 → be1 k < nm1 k ∧ nm1 k ≤ 2000) ∧ (∀ k, 1 ≤ k → k < nd1 → pa1 k < k) ∧ (∀ j, j < op - 1 → ed1 j = ed j ∧ bx1 j = bx j ∧ mn1 j = mn j ∧ rw1 j = rw j) ∧ gB pa1 bx1 mn1 rw1
theorem gB.up {pa bx mn rw : Nat → Nat} (h : gB pa bx mn rw) {k x j y : Nat} (hx : x < 2 ^ 30) (hy : y < 2 ^ 30) : gB (upN pa k x) bx (upN mn j y) rw := by
  refine ⟨fun i => ?_, h.2.1, fun i => ?_, h.2.2.2⟩
  · unfold upN; split
    · exact hx
    · exact h.1 i
  · unfold upN; split
    · exact hy
    · exact h.2.2.1 i
theorem gB.op {pa bx mn rw : Nat → Nat} (h : gB pa bx mn rw) {k x : Nat} {b : Bool} (hx : x < 2 ^ 30) : gB pa (upN bx k x) (upN mn k 0) (upN rw k (nB b)) := by
  refine ⟨h.1, fun i => ?_, fun i => ?_, fun i => ?_⟩
  · unfold upN; split
    · exact hx
    · exact h.2.1 i
  · unfold upN; split
    · decide
    · exact h.2.2.1 i
  · unfold upN; split
    · exact Nat.lt_trans (nB_lt b) (by decide)
    · exact h.2.2.2 i
/-- the invariant behind an element (its value read up to a1) -/
theorem gI.next {g : Nat → Nat} {a a1 last op cnt nd : Nat} {row : Bool} {L : List Nat} {pa be nm ed bx mn rw : Nat → Nat} (h : gI g a last op cnt nd row L pa be nm ed bx mn rw) (ht : tE g a last < last) (h1 : a + 2 ≤ a1) (h2 : a1 ≤ last) : gI g a1 last op (cnt + 1) (nd + 1) row (a :: L) (upN pa nd (bx (op - 1))) (upN be nd a) (upN nm nd (tE g a last)) ed bx (upN mn (op - 1) (mn (op - 1) + 1)) rw := by
  obtain ⟨b1, b2, b3, b4, b5, b6, b7, b8, b9, b10, b11, b12, bp, b13, b14⟩ := h
  have hne := tE_ne ht (by omega)
  have hgt := tE_gt g a last
  refine ⟨b1, b2, h2, b4, by omega, by omega, b7, b8, by rw [upN_self, b9], by omega, by omega, ?_, ?_, b13.up (b13.2.1 _) (by have := b13.2.2.1 (op - 1); rw [b9] at this ⊢; omega), ?_, ?_⟩
  · intro k k1 k2
    by_cases e : k = nd
    · rw [e, upN_self, upN_self]; omega
    · rw [upN_ne _ _ e, upN_ne _ _ e]; exact b12 k k1 (by omega)
  · intro k k1 k2
    by_cases e : k = nd
    · rw [e, upN_self]; exact b11
    · rw [upN_ne _ _ e]; exact bp k k1 (by omega)
  · intro k k1 k2 k3
    by_cases e : k = nd
    · subst e; rw [upN_self, upN_self]; exact ⟨List.mem_cons_self, hne⟩
    · rw [upN_ne _ _ e] at k3
      rw [upN_ne _ _ e, upN_ne _ _ e]
      obtain ⟨c1, c2⟩ := b14.1 k k1 (by omega) k3
      exact ⟨List.mem_cons_of_mem _ c1, c2⟩
  · intro x hx
    rcases List.mem_cons.mp hx with e | e
    · exact ⟨nd, b5, by omega, by rw [upN_self], by rw [upN_self, e], by rw [upN_self, e, hne]⟩
    · obtain ⟨k, c1, c2, c3, c4, c5⟩ := b14.2 x e
      have ek : k ≠ nd := by omega
      exact ⟨k, c1, by omega, by rw [upN_ne _ _ ek]; exact c3, by rw [upN_ne _ _ ek]; exact c4, by rw [upN_ne _ _ ek]; exact c5⟩
/-- the invariant in a box that has just been opened (behind its node) -/
theorem gI.inside {g : Nat → Nat} {a last op cnt nd b : Nat} {row rb : Bool} {L : List Nat} {pa be nm ed bx mn rw : Nat → Nat} (h : gI g a last op cnt nd row L pa be nm ed bx mn rw) (h2 : 2 ≤ nd) (ho : op ≠ 16) (hb : a + 4 ≤ b) (hb2 : b < 2000) : gI g (a + 4) b (op + 1) 0 nd rb [] pa be nm (upN ed op (b + 1)) (upN bx op (nd - 1)) (upN mn op 0) (upN rw op (nB rb)) := by
  obtain ⟨b1, b2, b3, b4, b5, b6, b7, b8, b9, b10, b11, b12, bp, b13, b14⟩ := h
  have e : op + 1 - 1 = op := by omega
  refine ⟨by omega, by omega, hb, hb2, b5, by omega, by rw [e, upN_self], by rw [e, upN_self], by rw [e, upN_self], by omega, by rw [e, upN_self]; omega, b12, bp, b13.op (by omega), ?_, fun x hx => by cases hx⟩
  intro k k1 k2 k3
  rw [e, upN_self] at k3
  have := bp k k1 k2
  omega
/-- .. and when that box has been read -/
theorem gI.back {g : Nat → Nat} {a last op cnt nd nd1 e b : Nat} {row rb : Bool} {L : List Nat} {pa be nm ed bx mn rw pa1 be1 nm1 ed1 bx1 mn1 rw1 : Nat → Nat} (h : gI g a last op cnt nd row L pa be nm ed bx mn rw) (h2 : 2 ≤ nd) (hb : bx (op - 1) < nd - 1) (k : gK e (op + 1) nd nd1 pa be nm (upN ed op b) (upN bx op (nd - 1)) (upN mn op 0) (upN rw op (nB rb)) pa1 be1 nm1 ed1 bx1 mn1 rw1) (he : e ≤ last) : gI g e last op cnt nd1 row L pa1 be1 nm1 ed1 bx1 mn1 rw1 := by
  obtain ⟨b1, b2, b3, b4, b5, b6, b7, b8, b9, b10, b11, b12, bp, b13, b14⟩ := h
  obtain ⟨c1, c2, c3, c4, c5, cp, c6, c7⟩ := k
  have eo : op + 1 - 1 = op := by omega
  have hx : op - 1 ≠ op := by omega
  obtain ⟨d1, d2, d3, d4⟩ := c6 (op - 1) (by omega)
  rw [upN_ne _ _ hx] at d1 d2 d3 d4
  refine ⟨b1, b2, he, b4, by omega, c2, by rw [d1]; exact b7, by rw [d4]; exact b8, by rw [d3]; exact b9, by omega, by rw [d2]; omega, c5, cp, c7, ?_, ?_⟩
  · intro k k1 k2 k3
    rw [d2] at k3
    by_cases q : k < nd
    · obtain ⟨z1, z2, z3⟩ := c3 k q
      rw [z1] at k3
      rw [z2, z3]
      exact b14.1 k k1 q k3
    · have z := c4 k (by omega) k2
      rw [eo, upN_self] at z
      omega
  · intro x hx
    obtain ⟨k, k1, k2, k3, k4, k5⟩ := b14.2 x hx
    obtain ⟨z1, z2, z3⟩ := c3 k k2
    exact ⟨k, k1, by omega, by rw [z1, d2]; exact k3, by rw [z2]; exact k4, by rw [z3]; exact k5⟩
/-- one box after another: what the whole leaves -/
theorem gK.trans {e1 e2 op nd nd1 nd2 a last : Nat} {pa be nm ed bx mn rw pa1 be1 nm1 ed1 bx1 mn1 rw1 pa2 be2 nm2 ed2 bx2 mn2 rw2 : Nat → Nat} (h1 : nd ≤ nd1) (h2 : ∀ k, k < nd → pa1 k = pa k ∧ be1 k = be k ∧ nm1 k = nm k) (h3 : ∀ k, nd ≤ k → k < nd1 → bx (op - 1) ≤ pa1 k) (h4 : bx1 (op - 1) = bx (op - 1)) (h5 : ∀ j, j < op - 1 → ed1 j = ed j ∧ bx1 j = bx j ∧ mn1 j = mn j ∧ rw1 j = rw j) (k : gK e2 op nd1 nd2 pa1 be1 nm1 ed1 bx1 mn1 rw1 pa2 be2 nm2 ed2 bx2 mn2 rw2) : gK e2 op nd nd2 pa be nm ed bx mn rw pa2 be2 nm2 ed2 bx2 mn2 rw2 := by
  obtain ⟨c1, c2, c3, c4, c5, cp, c6, c7⟩ := k
  refine ⟨by omega, c2, fun k hk => ?_, fun k k1 k2 => ?_, c5, cp, fun j hj => ?_, c7⟩
  · obtain ⟨z1, z2, z3⟩ := c3 k (by omega)
    obtain ⟨y1, y2, y3⟩ := h2 k hk
    exact ⟨z1.trans y1, z2.trans y2, z3.trans y3⟩
  · by_cases q : k < nd1
    · rw [(c3 k q).1]; exact h3 k k1 q
    · rw [← h4]; exact c4 k (by omega) k2
  · obtain ⟨z1, z2, z3, z4⟩ := c6 j hj
    obtain ⟨y1, y2, y3, y4⟩ := h5 j hj
    exact ⟨z1.trans y1, z2.trans y2, z3.trans y3, z4.trans y4⟩
def dcG (g : Nat → Nat) (n : Nat) : Prop := opF g 0 n 0 = 0 ∧ pE g n 1 4 (n - 1) false 0 [] ≠ none
theorem opF_lt (g : Nat → Nat) (a left op : Nat) : opF g a left op < 100 := by
  unfold opF
  (repeat' split) <;> decide
theorem vaF_lt (g : Nat → Nat) (k a last : Nat) : vaF g k a last < 100 := by
  unfold vaF txF
  (repeat' split) <;> decide
theorem vaF_b {g : Nat → Nat} {k a last : Nat} (h : k = 3 ∨ k = 4) : vaF g k a last = 0 := by
  unfold vaF
  rw [if_neg (by omega), if_neg (by omega)]
theorem vaR_b {g : Nat → Nat} {k a last : Nat} (h : k = 3 ∨ k = 4) : vaR g k a last = a := by
  unfold vaR
  rw [if_neg (by omega), if_neg (by omega)]
theorem gE_f {g : Nat → Nat} {row : Bool} {cnt a last : Nat} {L : List Nat} (hk : okK (g a) = true) (h : ¬ (tE g a last < last ∧ bd g (a + 1) (tE g a last) < 0 ∧ nmG g row cnt (a + 1) (tE g a last) L = true)) : gE g row cnt a last L = false := by
  cases hc : gE g row cnt a last L with
  | false => rfl
  | true =>
    unfold gE at hc
    rw [hk] at hc
    have h1 := (Bool.and_eq_true _ _).mp hc
    have h2 := (Bool.and_eq_true _ _).mp h1.2
    have h3 := (Bool.and_eq_true _ _).mp h2.2
    exact absurd ⟨of_decide_eq_true h2.1, of_decide_eq_true h3.1, h3.2⟩ h
theorem gI.after {g : Nat → Nat} {a last op cnt nd e nd1 t y : Nat} {row : Bool} {L : List Nat} {pa be nm ed bx mn rw pa1 be1 nm1 ed1 bx1 mn1 rw1 : Nat → Nat} (h : gI g a last op cnt nd row L pa be nm ed bx mn rw) (_ht : tE g a last < last) (k : gK e op (nd + 1) nd1 (upN pa nd (bx (op - 1))) (upN be nd a) (upN nm nd t) ed bx (upN mn (op - 1) y) rw pa1 be1 nm1 ed1 bx1 mn1 rw1) : gK e op nd nd1 pa be nm ed bx mn rw pa1 be1 nm1 ed1 bx1 mn1 rw1 := by
  refine gK.trans (e1 := 0) (a := 0) (last := 0) (Nat.le_succ nd) (fun k hk => ?_) (fun k k1 k2 => ?_) rfl (fun j hj => ⟨rfl, rfl, ?_, rfl⟩) k
  · have e : k ≠ nd := by omega
    exact ⟨upN_ne _ _ e, upN_ne _ _ e, upN_ne _ _ e⟩
  · have e : k = nd := by omega
    rw [e, upN_self]
    exact Nat.le_refl _
  · exact upN_ne _ _ (by omega)
theorem gI.over {g : Nat → Nat} {a last op cnt nd nd1 nd2 e e2 b : Nat} {row rb : Bool} {L : List Nat} {pa be nm ed bx mn rw pa1 be1 nm1 ed1 bx1 mn1 rw1 pa2 be2 nm2 ed2 bx2 mn2 rw2 : Nat → Nat} (h : gI g a last op cnt nd row L pa be nm ed bx mn rw) (_h2 : 2 ≤ nd) (hb : bx (op - 1) < nd - 1) (k : gK e (op + 1) nd nd1 pa be nm (upN ed op b) (upN bx op (nd - 1)) (upN mn op 0) (upN rw op (nB rb)) pa1 be1 nm1 ed1 bx1 mn1 rw1) (k2 : gK e2 op nd1 nd2 pa1 be1 nm1 ed1 bx1 mn1 rw1 pa2 be2 nm2 ed2 bx2 mn2 rw2) : gK e2 op nd nd2 pa be nm ed bx mn rw pa2 be2 nm2 ed2 bx2 mn2 rw2 := by
  obtain ⟨c1, c2, c3, c4, c5, cp, c6, c7⟩ := k
  have hop := h.1
  have eo : op + 1 - 1 = op := by omega
  refine gK.trans (e1 := 0) (a := 0) (last := 0) c1 c3 (fun k k1 k2 => ?_) ?_ (fun j hj => ?_) k2
  · have := c4 k k1 k2
    rw [eo, upN_self] at this
    omega
  · rw [(c6 (op - 1) (by omega)).2.1, upN_ne _ _ (by omega)]
  · obtain ⟨y1, y2, y3, y4⟩ := c6 j (by omega)
    have e : j ≠ op := by omega
    rw [upN_ne _ _ e] at y1 y2 y3 y4
    exact ⟨y1, y2, y3, y4⟩
