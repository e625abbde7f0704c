/-! ===== the reference's whole state ===== -/
def rF (q : Nat → Nat) (tp : Nat) (pl : Int32) (wr wa nc np ns fa nd : Nat) (u : Bool) : List Value := [.int 0, .ref (q 1), .int (nI tp), .int pl, .ref (q 4), .ref (q 5), .ref (q 6), .int (nI nc), .int (nI np), .int (nI ns), .int (nI wr), .int (nI wa), .ref (q 12), .int (nI fa), .int (nI nd), .ref (q 15), .ref (q 16), .ref (q 17), .ref (q 18), .ref (q 19), .ref (q 20), .ref (q 21), .int (nI (nB u))]
def rIx : List Nat := [1, 4, 5, 6, 12, 15, 16, 17, 18, 19, 20, 21]
def rSz (i : Nat) : Nat := if i = 1 then 18000 else if i < 12 then 4 else if i = 12 then 2000 else if i < 18 then 1000 else 20
def RS (G : zG) (o : Nat) (q : Nat → Nat) (tp : Nat) (pl : Int32) (wr wa nc np ns fa nd : Nat) (u : Bool) (X : Nat → Nat → Nat) (H : Heap) : Prop :=
  zO G H o 10 (rF q tp pl wr wa nc np ns fa nd u) ∧ (∀ i ∈ rIx, zA G H (q i) (rSz i) (X i)) ∧ (∀ i ∈ rIx, q i ≠ o) ∧ (∀ i ∈ rIx, ∀ j ∈ rIx, q i = q j → i = j) ∧ (∀ i, X 1 i < 256) ∧ (∀ i, X 12 i < 256) ∧ gB (X 15) (X 19) (X 20) (X 21)
def rAx (o : Nat) (q : Nat → Nat) : Nat → Prop := fun x => x = o ∨ ∃ i ∈ rIx, x = q i
def upX (X : Nat → Nat → Nat) (i : Nat) (h : Nat → Nat) : Nat → Nat → Nat := fun j => if j = i then h else X j
section RS
variable {G : zG} {o : Nat} {q : Nat → Nat} {tp tp1 : Nat} {pl pl1 : Int32} {wr wa nc np ns fa nd wr1 wa1 nc1 np1 ns1 fa1 nd1 : Nat} {u u1 : Bool} {X : Nat → Nat → Nat} {H H1 : Heap}
theorem RS.put (h : RS G o q tp pl wr wa nc np ns fa nd u X H) (hk : ∀ x, x ≠ o → H1[x]? = H[x]?) (hO : zO G H1 o 10 (rF q tp1 pl1 wr1 wa1 nc1 np1 ns1 fa1 nd1 u1)) : RS G o q tp1 pl1 wr1 wa1 nc1 np1 ns1 fa1 nd1 u1 X H1 :=
  ⟨hO, fun i hi => (h.2.1 i hi).kept (hk _ (h.2.2.1 i hi)), h.2.2⟩
theorem RS.st (h : RS G o q tp pl wr wa nc np ns fa nd u X H) {i : Nat} {h1 : Nat → Nat} (hi : i ∈ rIx) (hi2 : i < 13) (hk : ∀ x, x ≠ q i → H1[x]? = H[x]?) (hA : zA G H1 (q i) (rSz i) h1) (h8 : i = 1 ∨ i = 12 → ∀ j, h1 j < 256) : RS G o q tp pl wr wa nc np ns fa nd u (upX X i h1) H1 := by
  have e : ∀ j, 13 ≤ j → upX X i h1 j = X j := fun j hj => if_neg (by omega)
  refine ⟨h.1.kept (hk _ (fun e => h.2.2.1 i hi e.symm)), fun j hj => ?_, h.2.2.1, h.2.2.2.1, fun j => ?_, fun j => ?_, ?_⟩
  · by_cases z : j = i
    · subst z
      rw [show upX X j h1 j = h1 from if_pos rfl]
      exact hA
    · rw [show upX X i h1 j = X j from if_neg z]
      exact (h.2.1 j hj).kept (hk _ (fun y => z (h.2.2.2.1 j hj i hi y)))
  · by_cases z : 1 = i
    · rw [show upX X i h1 1 = h1 from if_pos z]; exact h8 (Or.inl z.symm) j
    · rw [show upX X i h1 1 = X 1 from if_neg z]; exact h.2.2.2.2.1 j
  · by_cases z : 12 = i
    · rw [show upX X i h1 12 = h1 from if_pos z]; exact h8 (Or.inr z.symm) j
    · rw [show upX X i h1 12 = X 12 from if_neg z]; exact h.2.2.2.2.2.1 j
  · rw [e 15 (by decide), e 19 (by decide), e 20 (by decide), e 21 (by decide)]; exact h.2.2.2.2.2.2
def rw_ (q : Nat → Nat) (tp : Nat) (pl : Int32) (wr wa nc np ns fa nd : Nat) (u : Bool) : Nat → Value := fun i => (rF q tp pl wr wa nc np ns fa nd u).getD i .null
theorem RS.md (h : RS G o q tp pl wr wa nc np ns fa nd u X H) : MD G o (rw_ q tp pl wr wa nc np ns fa nd u) q fa nd (X 12) (X 15) (X 16) (X 17) (X 18) (X 19) (X 20) (X 21) H := by
  refine ⟨h.1, fun i hi => ?_, fun i hi => ?_, fun i hi j hj e => ?_, h.2.2.2.2.2.1⟩
  · have hi2 : i ∈ rIx := by unfold dIx at hi; unfold rIx; simp at hi ⊢; omega
    have h1 := h.2.1 i hi2
    have e1 : rSz i = dSz i := by unfold dIx at hi; simp at hi; rcases hi with z | z | z | z | z | z | z | z <;> subst z <;> rfl
    have e2 : X i = dA (X 12) (X 15) (X 16) (X 17) (X 18) (X 19) (X 20) (X 21) i := by unfold dIx at hi; simp at hi; rcases hi with z | z | z | z | z | z | z | z <;> subst z <;> rfl
    rw [e1, e2] at h1
    exact h1
  · exact h.2.2.1 i (by unfold dIx at hi; unfold rIx; simp at hi ⊢; omega)
  · exact h.2.2.2.1 i (by unfold dIx at hi; unfold rIx; simp at hi ⊢; omega) j (by unfold dIx at hj; unfold rIx; simp at hj ⊢; omega) e
def upD (X : Nat → Nat → Nat) (pa be nm ed bx mn rw : Nat → Nat) : Nat → Nat → Nat := fun i => if i = 15 then pa else if i = 16 then be else if i = 17 then nm else if i = 18 then ed else if i = 19 then bx else if i = 20 then mn else if i = 21 then rw else X i
theorem RS.ofMD {pa be nm ed bx mn rw : Nat → Nat} (h : RS G o q tp pl wr wa nc np ns fa nd u X H) (hM : MD G o (rw_ q tp pl wr wa nc np ns fa nd u) q fa1 nd1 (X 12) pa be nm ed bx mn rw H1) (hB : gB pa bx mn rw) (hk : ∀ x, x < H.size → ¬ dAx o q x → H1[x]? = H[x]?) : RS G o q tp pl wr wa nc np ns fa1 nd1 u (upD X pa be nm ed bx mn rw) H1 := by
  refine ⟨hM.1, fun i hi => ?_, h.2.2.1, h.2.2.2.1, h.2.2.2.2.1, h.2.2.2.2.2.1, hB⟩
  by_cases z : i ∈ dIx
  · have h1 := hM.2.1 i z
    have e1 : rSz i = dSz i := by unfold dIx at z; simp at z; rcases z with z | z | z | z | z | z | z | z <;> subst z <;> rfl
    have e2 : upD X pa be nm ed bx mn rw i = dA (X 12) pa be nm ed bx mn rw i := by unfold dIx at z; simp at z; rcases z with z | z | z | z | z | z | z | z <;> subst z <;> rfl
    rw [e1, e2]
    exact h1
  · have h1 := h.2.1 i hi
    have e2 : upD X pa be nm ed bx mn rw i = X i := by unfold dIx at z; simp at z; unfold upD; simp [z]
    rw [e2]
    refine h1.kept (hk _ h1.lt ?_)
    rintro (e | ⟨j, hj, e⟩)
    · exact h.2.2.1 i hi e
    · exact z (by rw [h.2.2.2.1 i hi j (by unfold dIx at hj; unfold rIx; simp at hj ⊢; omega) e]; exact hj)
theorem dAx_r {x : Nat} (h : dAx o q x) : rAx o q x := by
  rcases h with e | ⟨j, hj, e⟩
  · exact Or.inl e
  · exact Or.inr ⟨j, by unfold dIx at hj; unfold rIx; simp at hj ⊢; omega, e⟩
theorem RS.mc (h : RS G o q tp pl wr wa nc np ns fa nd u X H) : MC G o (q 1) (rw_ q tp pl wr wa nc np ns fa nd u) (X 1) (wr, wa, nc, np, ns) H := ⟨h.1, h.2.1 1 (by decide), h.2.2.2.2.1, h.2.2.1 1 (by decide)⟩
theorem RS.ofMC {S : cS} (h : RS G o q tp pl wr wa nc np ns fa nd u X H) (hM : MC G o (q 1) (rw_ q tp pl wr wa nc np ns fa nd u) (X 1) S H1) (hk : ∀ x, x < H.size → ¬ x = o → H1[x]? = H[x]?) : RS G o q tp pl S.1 S.2.1 S.2.2.1 S.2.2.2.1 S.2.2.2.2 fa nd u X H1 :=
  ⟨hM.1, fun i hi => (h.2.1 i hi).kept (hk _ (h.2.1 i hi).lt (h.2.2.1 i hi)), h.2.2⟩
theorem RS.mm (h : RS G o q tp pl wr wa nc np ns fa nd u X H) : MM G o (q 1) (rF q tp pl wr wa nc np ns fa nd u) (X 1) u H := ⟨h.1, h.2.1 1 (by decide), rfl, h.2.2.2.2.1, rfl, h.2.2.1 1 (by decide)⟩
theorem RS.ofMM (h : RS G o q tp pl wr wa nc np ns fa nd u X H) (hM : MM G o (q 1) (rF q tp pl wr wa nc np ns fa nd u) (X 1) u H1) (hk : ∀ x, x < H.size → ¬ x = o → H1[x]? = H[x]?) : RS G o q tp pl wr wa nc np ns fa nd u X H1 :=
  ⟨hM.1, fun i hi => (h.2.1 i hi).kept (hk _ (h.2.1 i hi).lt (h.2.2.1 i hi)), h.2.2⟩
theorem RS.mt (h : RS G o q tp pl wr wa nc np ns fa nd u X H) : MT G o (q 1) (rw_ q tp pl wr wa nc np ns fa nd u) (X 1) tp H := ⟨h.1, h.2.1 1 (by decide), h.2.2.1 1 (by decide)⟩
theorem RS.ofMT {f : Nat → Nat} (h : RS G o q tp pl wr wa nc np ns fa nd u X H) (hM : MT G o (q 1) (rw_ q tp pl wr wa nc np ns fa nd u) f tp1 H1) (h8 : ∀ j, f j < 256) (hk : ∀ x, x < H.size → ¬ (x = o ∨ x = q 1) → H1[x]? = H[x]?) : RS G o q tp1 pl wr wa nc np ns fa nd u (upX X 1 f) H1 := by
  refine ⟨hM.1, fun i hi => ?_, h.2.2.1, h.2.2.2.1, h8, h.2.2.2.2.2.1, h.2.2.2.2.2.2⟩
  by_cases z : i = 1
  · subst z; exact hM.2.1
  · rw [show upX X 1 f i = X i from if_neg z]
    exact (h.2.1 i hi).kept (hk _ (h.2.1 i hi).lt (fun e => e.elim (h.2.2.1 i hi) (fun e => z (h.2.2.2.1 i hi 1 (by decide) e))))
theorem RS.mv (h : RS G o q tp pl wr wa nc np ns fa nd u X H) : MV G o (q 1) (rF q tp pl wr wa nc np ns fa nd u) (X 1) H := ⟨h.1, h.2.1 1 (by decide), rfl, h.2.2.2.2.1⟩
end RS
/-- the first k bytes of the tape laid over g -/
def cpG (f g : Nat → Nat) (k : Nat) : Nat → Nat := fun j => if j < k then f (16000 + j) else g j
theorem cpG_s (f g : Nat → Nat) (k : Nat) : upN (cpG f g k) k (f (16000 + k)) = cpG f g (k + 1) := by
  funext j
  unfold upN cpG
  by_cases z : j = k
  · rw [if_pos z, if_pos (by omega), z]
  · rw [if_neg z]
    by_cases y : j < k
    · rw [if_pos y, if_pos (by omega)]
    · rw [if_neg y, if_neg (by omega)]
theorem cpG_0 (f g : Nat → Nat) : cpG f g 0 = g := by
  funext j
  exact if_neg (by omega)
theorem cpG_lt {f g : Nat → Nat} (h1 : ∀ i, f i < 256) (h2 : ∀ i, g i < 256) (k : Nat) : ∀ j, cpG f g k j < 256 := by
  intro j
  unfold cpG
  split
  · exact h1 _
  · exact h2 _
/-- k bytes of w laid at b -/
def cpW (f w : Nat → Nat) (b k : Nat) : Nat → Nat := fun j => if b ≤ j ∧ j < b + k then w (j - b) else f j
theorem cpW_s (f w : Nat → Nat) (b k : Nat) : upN (cpW f w b k) (b + k) (w k) = cpW f w b (k + 1) := by
  funext j
  unfold upN cpW
  by_cases z : j = b + k
  · rw [if_pos z, if_pos (by omega), z, Nat.add_sub_cancel_left]
  · rw [if_neg z]
    by_cases y : b ≤ j ∧ j < b + k
    · rw [if_pos y, if_pos (by omega)]
    · rw [if_neg y, if_neg (by omega)]
theorem cpW_0 (f w : Nat → Nat) (b : Nat) : cpW f w b 0 = f := by
  funext j
  exact if_neg (by omega)
theorem cpW_lt {f w : Nat → Nat} (h1 : ∀ i, f i < 256) (h2 : ∀ i, w i < 256) (b k : Nat) : ∀ j, cpW f w b k j < 256 := by
  intro j
  unfold cpW
  split
  · exact h2 _
  · exact h1 _
theorem cpG_sh (f g : Nat → Nat) (n : Nat) : shB (cpG f g n) f 16000 n := fun j hj => (if_pos hj).symm
theorem dcB_cp {f g : Nat → Nat} {n : Nat} (hn : n ≤ 2000) : dcB f 16000 n = dcB (cpG f g n) 0 n := dcB_sh (cpG_sh f g n) hn (by omega)
theorem dc_fa {f g : Nat → Nat} {n fa : Nat} (hn : n ≤ 2000) (h : fa = 0 ↔ dcG (cpG f g n) n) : dcB f 16000 n = decide (fa = 0) := by
  rw [dcB_cp (g := g) hn]
  by_cases z : fa = 0
  · rw [decide_eq_true z]; exact dcG_iff.mp (h.mp z)
  · rw [decide_eq_false z]
    cases hc : dcB (cpG f g n) 0 n with
    | false => rfl
    | true => exact absurd (h.mpr (dcG_iff.mpr hc)) z
theorem cpW_sh {f w : Nat → Nat} {b n : Nat} (hb : b + n ≤ 16000) (hw : ∀ j, j < n → w j = f (16000 + j)) : shB (fun j => f (16000 + j)) (cpW f w b n) b n := fun j hj => by
  show cpW f w b n (b + j) = f (16000 + j)
  unfold cpW
  rw [if_pos (by omega), Nat.add_sub_cancel_left, hw j hj]
theorem cpW_cp (f g : Nat → Nat) (b n : Nat) : cpW f (cpG f g n) b n = cpW f (fun j => f (16000 + j)) b n := by
  funext j
  unfold cpW cpG
  by_cases z : b ≤ j ∧ j < b + n
  · rw [if_pos z, if_pos z, if_pos (by omega)]
  · rw [if_neg z, if_neg z]
