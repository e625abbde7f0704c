/-! ===== new objects: words ===== -/
theorem zE.extn {G : zG} {t : Nat} {H : Heap} {a n : Nat} {f g : Nat → Option Nat} (h : zE G t H a n f) (e : ∀ j, j < n → f j = g j) : zE G t H a n g := by
  have h1 : H[a]? = some (vp_cell (zQi G t) (n, .inr (.inr (.inr (.inr f))))) := h
  show H[a]? = some (vp_cell (zQi G t) (n, .inr (.inr (.inr (.inr g)))))
  rw [h1, vp_cell_q, vp_cell_q, arrV_ext (fun i hi => by rw [e i hi])]
def f4 (a b c d : Nat) : Nat → Nat := fun j => if j = 0 then a else if j = 1 then b else if j = 2 then c else d
theorem f4_all {P : Nat → Prop} {a b c d : Nat} (h0 : P a) (h1 : P b) (h2 : P c) (h3 : P d) : ∀ j, j < 4 → P (f4 a b c d j) := by
  intro j hj
  have : j = 0 ∨ j = 1 ∨ j = 2 ∨ j = 3 := by omega
  rcases this with e | e | e | e <;> subst e
  · exact h0
  · exact h1
  · exact h2
  · exact h3
theorem up_4 {a b c d : Nat} : ∀ j, j < 4 → va_up (va_up (va_up (va_up (fun _ => none) 0 (some a)) 1 (some b)) 2 (some c)) 3 (some d) j = some (f4 a b c d j) := by
  intro j hj
  have : j = 0 ∨ j = 1 ∨ j = 2 ∨ j = 3 := by omega
  rcases this with e | e | e | e <;> subst e <;> simp [va_up, f4]
def kx (i : Nat) : Nat := if i = 1 then 0 else if i < 12 then i - 3 else if i = 12 then 4 else i - 10
/-- the reference's store at first: eight empty documents -/
def st8 : Nat → Nat := fun j => if j = 0 ∨ j = 2000 ∨ j = 4000 ∨ j = 6000 ∨ j = 8000 ∨ j = 10000 ∨ j = 12000 ∨ j = 14000 then 5 else 0
def X0 : Nat → Nat → Nat := fun i => if i = 1 then st8 else fun _ => 0
theorem st8_lt (j : Nat) : st8 j < 256 := by
  unfold st8
  split <;> decide
theorem RS_new {G : zG} {H : Heap} {o n0 : Nat} (ho : o < n0) (hO : zO G H o 10 (rF (fun i => n0 + kx i) 0 (-1) 0 0 0 0 0 0 0 false)) (h : ∀ i ∈ rIx, zA G H (n0 + kx i) (rSz i) (X0 i)) : RS G o (fun i => n0 + kx i) 0 (-1) 0 0 0 0 0 0 0 false X0 H := by
  refine ⟨hO, h, fun i _ e => ?_, fun i hi j hj e => ?_, fun i => st8_lt i, fun i => by show 0 < 256; decide, ⟨fun k => by show 0 < 2 ^ 30; decide, fun k => by show 0 < 2 ^ 30; decide, fun k => by show 0 < 2 ^ 30; decide, fun k => by show 0 < 2 ^ 30; decide⟩⟩
  · have e : n0 + kx i = o := e
    omega
  · have e : n0 + kx i = n0 + kx j := e
    have key : ∀ i ∈ rIx, ∀ j ∈ rIx, kx i = kx j → i = j := by decide
    exact key i hi j hj (by omega)
theorem rIx_all {P : Nat → Prop} (h1 : P 1) (h4 : P 4) (h5 : P 5) (h6 : P 6) (h12 : P 12) (h15 : P 15) (h16 : P 16) (h17 : P 17) (h18 : P 18) (h19 : P 19) (h20 : P 20) (h21 : P 21) : ∀ i ∈ rIx, P i := by
  intro i hi
  unfold rIx at hi
  simp only [List.mem_cons, List.not_mem_nil, or_false] at hi
  rcases hi with e | e | e | e | e | e | e | e | e | e | e | e <;> subst e <;> assumption
theorem st8_up : ∀ j, j < 18000 → upN (upN (upN (upN (upN (upN (upN (upN (fun _ => 0) (2000 * 0) 5) (2000 * 1) 5) (2000 * 2) 5) (2000 * 3) 5) (2000 * 4) 5) (2000 * 5) 5) (2000 * 6) 5) (2000 * 7) 5 j = st8 j := by
  intro j _
  unfold upN st8
  dsimp only
  (repeat' split) <;> omega
/-- what a call needs that makes arrays of references -/
def zPo (G : zG) (av : List Value) (P : Heap → Prop) : Array Value → State → Prop := fun v U => zP G av P v U ∧ va_AO "FilterReader$Value" U ∧ va_AO "FilterReader$Filter" U
theorem zPo_blind {G : zG} {av : List Value} {P : Heap → Prop} : FrameBlind (zPo G av P) := by
  intro a U g mk h
  exact ⟨zP_blind a U g mk h.1, h.2.1.moved (Vm.Alike.refl _), h.2.2.moved (Vm.Alike.refl _)⟩
def V0 (G : zG) (k : Nat) : List Value := vF k (-1) (G.2.2 "") (G.2.2 "") 0 none none none 0
theorem RS_new2 {G : zG} {H : Heap} {o n0 q1 q4 q5 q6 q12 q15 q16 q17 q18 q19 q20 q21 : Nat} (ho : o < n0) (e1 : q1 = n0 + 0) (e4 : q4 = n0 + 1) (e5 : q5 = n0 + 2) (e6 : q6 = n0 + 3) (e12 : q12 = n0 + 4) (e15 : q15 = n0 + 5) (e16 : q16 = n0 + 6) (e17 : q17 = n0 + 7) (e18 : q18 = n0 + 8) (e19 : q19 = n0 + 9) (e20 : q20 = n0 + 10) (e21 : q21 = n0 + 11) (hO : zO G H o 10 [.int (nI (0)), .ref (q1), .int (nI (0)), .int ((-1)), .ref (q4), .ref (q5), .ref (q6), .int (nI (0)), .int (nI (0)), .int (nI (0)), .int (nI (0)), .int (nI (0)), .ref (q12), .int (nI (0)), .int (nI (0)), .ref (q15), .ref (q16), .ref (q17), .ref (q18), .ref (q19), .ref (q20), .ref (q21), .int (nI (0))]) (h1 : zA G H q1 18000 st8) (h4 : zA G H q4 4 (fun _ => 0)) (h5 : zA G H q5 4 (fun _ => 0)) (h6 : zA G H q6 4 (fun _ => 0)) (h12 : zA G H q12 2000 (fun _ => 0)) (h15 : zA G H q15 1000 (fun _ => 0)) (h16 : zA G H q16 1000 (fun _ => 0)) (h17 : zA G H q17 1000 (fun _ => 0)) (h18 : zA G H q18 20 (fun _ => 0)) (h19 : zA G H q19 20 (fun _ => 0)) (h20 : zA G H q20 20 (fun _ => 0)) (h21 : zA G H q21 20 (fun _ => 0)) : RS G o (fun i => n0 + kx i) 0 (-1) 0 0 0 0 0 0 0 false X0 H := by
  have k1 : kx 1 = 0 := by decide
  have a1 : zA G H (n0 + kx 1) (rSz 1) (X0 1) := by
    have z1 : rSz 1 = 18000 := by unfold rSz; rw [if_pos (by decide)]
    have z2 : X0 1 = st8 := by unfold X0; rw [if_pos rfl]
    rw [k1, ← e1, z1, z2]; exact h1
  have k4 : kx 4 = 1 := by decide
  have a4 : zA G H (n0 + kx 4) (rSz 4) (X0 4) := by
    have z1 : rSz 4 = 4 := by unfold rSz; rw [if_neg (by decide), if_pos (by decide)]
    have z2 : X0 4 = (fun _ => 0) := by unfold X0; rw [if_neg (by decide)]
    rw [k4, ← e4, z1, z2]; exact h4
  have k5 : kx 5 = 2 := by decide
  have a5 : zA G H (n0 + kx 5) (rSz 5) (X0 5) := by
    have z1 : rSz 5 = 4 := by unfold rSz; rw [if_neg (by decide), if_pos (by decide)]
    have z2 : X0 5 = (fun _ => 0) := by unfold X0; rw [if_neg (by decide)]
    rw [k5, ← e5, z1, z2]; exact h5
  have k6 : kx 6 = 3 := by decide
  have a6 : zA G H (n0 + kx 6) (rSz 6) (X0 6) := by
    have z1 : rSz 6 = 4 := by unfold rSz; rw [if_neg (by decide), if_pos (by decide)]
    have z2 : X0 6 = (fun _ => 0) := by unfold X0; rw [if_neg (by decide)]
    rw [k6, ← e6, z1, z2]; exact h6
  have k12 : kx 12 = 4 := by decide
  have a12 : zA G H (n0 + kx 12) (rSz 12) (X0 12) := by
    have z1 : rSz 12 = 2000 := by unfold rSz; rw [if_neg (by decide), if_neg (by decide), if_pos (by decide)]
    have z2 : X0 12 = (fun _ => 0) := by unfold X0; rw [if_neg (by decide)]
    rw [k12, ← e12, z1, z2]; exact h12
  have k15 : kx 15 = 5 := by decide
  have a15 : zA G H (n0 + kx 15) (rSz 15) (X0 15) := by
    have z1 : rSz 15 = 1000 := by unfold rSz; rw [if_neg (by decide), if_neg (by decide), if_neg (by decide), if_pos (by decide)]
    have z2 : X0 15 = (fun _ => 0) := by unfold X0; rw [if_neg (by decide)]
    rw [k15, ← e15, z1, z2]; exact h15
  have k16 : kx 16 = 6 := by decide
  have a16 : zA G H (n0 + kx 16) (rSz 16) (X0 16) := by
    have z1 : rSz 16 = 1000 := by unfold rSz; rw [if_neg (by decide), if_neg (by decide), if_neg (by decide), if_pos (by decide)]
    have z2 : X0 16 = (fun _ => 0) := by unfold X0; rw [if_neg (by decide)]
    rw [k16, ← e16, z1, z2]; exact h16
  have k17 : kx 17 = 7 := by decide
  have a17 : zA G H (n0 + kx 17) (rSz 17) (X0 17) := by
    have z1 : rSz 17 = 1000 := by unfold rSz; rw [if_neg (by decide), if_neg (by decide), if_neg (by decide), if_pos (by decide)]
    have z2 : X0 17 = (fun _ => 0) := by unfold X0; rw [if_neg (by decide)]
    rw [k17, ← e17, z1, z2]; exact h17
  have k18 : kx 18 = 8 := by decide
  have a18 : zA G H (n0 + kx 18) (rSz 18) (X0 18) := by
    have z1 : rSz 18 = 20 := by unfold rSz; rw [if_neg (by decide), if_neg (by decide), if_neg (by decide), if_neg (by decide)]
    have z2 : X0 18 = (fun _ => 0) := by unfold X0; rw [if_neg (by decide)]
    rw [k18, ← e18, z1, z2]; exact h18
  have k19 : kx 19 = 9 := by decide
  have a19 : zA G H (n0 + kx 19) (rSz 19) (X0 19) := by
    have z1 : rSz 19 = 20 := by unfold rSz; rw [if_neg (by decide), if_neg (by decide), if_neg (by decide), if_neg (by decide)]
    have z2 : X0 19 = (fun _ => 0) := by unfold X0; rw [if_neg (by decide)]
    rw [k19, ← e19, z1, z2]; exact h19
  have k20 : kx 20 = 10 := by decide
  have a20 : zA G H (n0 + kx 20) (rSz 20) (X0 20) := by
    have z1 : rSz 20 = 20 := by unfold rSz; rw [if_neg (by decide), if_neg (by decide), if_neg (by decide), if_neg (by decide)]
    have z2 : X0 20 = (fun _ => 0) := by unfold X0; rw [if_neg (by decide)]
    rw [k20, ← e20, z1, z2]; exact h20
  have k21 : kx 21 = 11 := by decide
  have a21 : zA G H (n0 + kx 21) (rSz 21) (X0 21) := by
    have z1 : rSz 21 = 20 := by unfold rSz; rw [if_neg (by decide), if_neg (by decide), if_neg (by decide), if_neg (by decide)]
    have z2 : X0 21 = (fun _ => 0) := by unfold X0; rw [if_neg (by decide)]
    rw [k21, ← e21, z1, z2]; exact h21
  have hO2 : zO G H o 10 (rF (fun i => n0 + kx i) 0 (-1) 0 0 0 0 0 0 0 false) := by
    unfold rF
    dsimp only
    rw [k1, ← e1, k4, ← e4, k5, ← e5, k6, ← e6, k12, ← e12, k15, ← e15, k16, ← e16, k17, ← e17, k18, ← e18, k19, ← e19, k20, ← e20, k21, ← e21]
    exact hO
  exact RS_new ho hO2 (rIx_all (P := fun i => zA G H (n0 + kx i) (rSz i) (X0 i)) a1 a4 a5 a6 a12 a15 a16 a17 a18 a19 a20 a21)
