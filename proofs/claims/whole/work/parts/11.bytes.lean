/-! ===== BYTES: the words of a document laid in bytes f (positions are Nat) ===== -/
def nz (f : Nat → Nat) : Nat → Nat → Nat
  | 0, q => q
  | k + 1, q => if f q = 0 then q else nz f k (q + 1)
/-- the end of the name of the element at e: the first 0 behind its kind -/
def ne (f : Nat → Nat) (e : Nat) : Nat := nz f 2000 (e + 1)
def vo (f : Nat → Nat) (e : Nat) : Nat := ne f e + 1
def wh (f : Nat → Nat) (a : Nat) : Nat := f a + 256 * f (a + 1) + 65536 * f (a + 2) + 16777216 * f (a + 3)
def ln (f : Nat → Nat) (k a : Nat) : Nat := if k = 16 then 4 else if k = 18 then 8 else if k = 8 then 1 else if k = 2 then 4 + wh f a else if k = 3 then wh f a else if k = 4 then wh f a else 0
def th (f : Nat → Nat) (e : Nat) : Nat := vo f e + ln f (f e) (vo f e)
def nx (f : Nat → Nat) (e : Nat) : Nat := if f (th f e) = 0 then 0 else th f e
def fi (f : Nat → Nat) (a : Nat) : Nat := if f (a + 4) = 0 then 0 else a + 4
/-- the name of the element at e ends within N bytes -/
def okN (N : Nat) (f : Nat → Nat) (e : Nat) : Prop := f (ne f e) = 0 ∧ ne f e < N
/-- the element at e, its length words and the byte behind it lie within N bytes -/
def okE (N : Nat) (f : Nat → Nat) (e : Nat) : Prop := okN N f e ∧ (f e = 2 ∨ f e = 3 ∨ f e = 4 → vo f e + 4 ≤ N) ∧ th f e < N
/-- L: the elements from e on, each within N bytes, to the last -/
def Ch (N : Nat) (f : Nat → Nat) : Nat → List Nat → Prop
  | e, [] => e = 0
  | e, x :: L => e = x ∧ 0 < x ∧ okE N f x ∧ Ch N f (nx f x) L
/-- the elements of the document or row at a -/
def Bx (N : Nat) (f : Nat → Nat) (a : Nat) (L : List Nat) : Prop := a + 4 < N ∧ Ch N f (fi f a) L
theorem nz_ge (f : Nat → Nat) : ∀ k q, q ≤ nz f k q
  | 0, q => Nat.le_refl _
  | k + 1, q => by
    unfold nz
    split
    · exact Nat.le_refl _
    · exact Nat.le_trans (Nat.le_succ q) (nz_ge f k (q + 1))
theorem nz_nz (f : Nat → Nat) : ∀ k q i, q ≤ i → i < nz f k q → f i ≠ 0
  | 0, q, i, h1, h2 => absurd h2 (Nat.not_lt.mpr h1)
  | k + 1, q, i, h1, h2 => by
    unfold nz at h2
    split at h2
    · exact absurd h2 (Nat.not_lt.mpr h1)
    · rename_i h
      rcases Nat.eq_or_lt_of_le h1 with e | e
      · rw [← e]; exact h
      · exact nz_nz f k (q + 1) i e h2
theorem nz_le (f : Nat → Nat) : ∀ k q z, q ≤ z → f z = 0 → nz f k q ≤ z
  | 0, q, z, h, _ => h
  | k + 1, q, z, h, hz => by
    unfold nz
    split
    · exact h
    · rename_i h0
      have : q ≠ z := fun e => h0 (by rw [e]; exact hz)
      exact nz_le f k (q + 1) z (by omega) hz
theorem nz_0 (f : Nat → Nat) : ∀ k q z, q ≤ z → z < q + k → f z = 0 → f (nz f k q) = 0
  | 0, q, z, h1, h2, _ => absurd h2 (by omega)
  | k + 1, q, z, h1, h2, hz => by
    unfold nz
    split
    · assumption
    · rename_i h0
      have : q ≠ z := fun e => h0 (by rw [e]; exact hz)
      exact nz_0 f k (q + 1) z (by omega) (by omega) hz
theorem ne_gt (f : Nat → Nat) (e : Nat) : e < ne f e := nz_ge f 2000 (e + 1)
theorem Ch.fn {N : Nat} {f : Nat → Nat} : ∀ {L M : List Nat} {e : Nat}, Ch N f e L → Ch N f e M → L = M
  | [], [], _, _, _ => rfl
  | [], y :: M, e, h1, h2 => by
    have a : e = 0 := h1
    have b := h2.1
    have c := h2.2.1
    omega
  | x :: L, [], e, h1, h2 => by
    have a : e = 0 := h2
    have b := h1.1
    have c := h1.2.1
    omega
  | x :: L, y :: M, e, h1, h2 => by
    have a : x = y := h1.1.symm.trans h2.1
    subst a
    rw [Ch.fn h1.2.2.2 h2.2.2.2]
/-- the model's view of its store -/
def MV (G : zG) (o qs : Nat) (fs : List Value) (f : Nat → Nat) (H : Heap) : Prop := zO G H o 10 fs ∧ zA G H qs 18000 f ∧ fs[1]? = some (.ref qs) ∧ ∀ i, f i < 256
/-- a switch by a table -/
def zTab (pc : Nat) (dflt lo hi : Int) (offs : Array Int) (a : Nat) : Int := if (a : Int) < lo ∨ hi < (a : Int) then (pc : Int) + dflt else (pc : Int) + (offs[((a : Int) - lo).toNat]?).getD dflt
theorem zTab_d {pc : Nat} {dflt lo hi : Int} {offs : Array Int} {a : Nat} (ks : List Nat) (h : ∀ i, i < hi.toNat + 1 → i ∉ ks → zTab pc dflt lo hi offs i = (pc : Int) + dflt) (hn : a ∉ ks) : zTab pc dflt lo hi offs a = (pc : Int) + dflt := by
  by_cases q : a < hi.toNat + 1
  · exact h a q hn
  · unfold zTab
    rw [if_pos (Or.inr (by omega))]
theorem zi_dec {a k : Nat} (h : k ≤ a) : nI a + Int32.ofInt (-(k : Int)) = nI (a - k) := by
  rw [← pk_sub h]
  show nI a + Int32.ofInt (-(k : Int)) = nI a - Int32.ofNat k
  rw [Int32.sub_eq_add_neg]
  rw [Int32.ofInt_neg]
  first | rfl | rw [Int32.ofInt_eq_ofNat] | simp
section ZB2
variable {p : Program} {l : Launch} {e : Env} {R : Room} {s : State} {m : MethodId} {args : Array Value} {below : List Frame} {meth : Method} {c : Code} {H : Heap} {locs : List Loc} {cells slots : Nat} {Q : State → Prop}
variable {cc : ByteArray} {pc : Nat} {ls : Array Slot} {rest : List Value}
theorem zi_tab (hx : p.tables.exec = Jvm.exec) (hb : c.code = cc) {dflt lo hi : Int} {offs : Array Int} {len a : Nat} (hdg : decode cc pc = .ok (.tableswitch dflt lo hi offs, len)) (ha : a < 2 ^ 31) (T : Nat) (hT : zTab pc dflt lo hi offs a = (T : Int))
    (k : W p l e R s m args below meth c H locs cells slots Q (F0 m T ls rest)) (hs : offs.size = (hi - lo).toNat + 1 := by decide) : W p l e R s m args below meth c H locs cells slots Q (F0 m pc ls (.int (nI a) :: rest)) := by
  unfold zTab at hT
  by_cases q : (a : Int) < lo ∨ hi < (a : Int)
  · rw [if_pos q] at hT
    exact lv_tableOut hx hb hdg (by rw [nI_toInt ha]; exact q) hT k
  · rw [if_neg q] at hT
    have q1 : ¬ (a : Int) < lo := fun z => q (Or.inl z)
    have q2 : ¬ hi < (a : Int) := fun z => q (Or.inr z)
    have hl : ((a : Int) - lo).toNat < offs.size := by omega
    rw [Array.getElem?_eq_getElem hl] at hT
    exact lv_tableIn hx hb hdg (by rw [nI_toInt ha]; exact q1) (by rw [nI_toInt ha]; exact q2) (by rw [nI_toInt ha]; exact Array.getElem?_eq_getElem hl) hT k
end ZB2
theorem okE.lt {N : Nat} {f : Nat → Nat} {e : Nat} (h : okE N f e) : e < N := Nat.lt_trans (ne_gt f e) h.1.2
theorem Ch.nil {N : Nat} {f : Nat → Nat} {e : Nat} {M : List Nat} (h : Ch N f e M) (h0 : e = 0) : M = [] := by
  cases M with
  | nil => rfl
  | cons x M => exact absurd h.2.1 (by have := h.1; omega)
theorem Ch.cons {N : Nat} {f : Nat → Nat} {e : Nat} {M : List Nat} (h : Ch N f e M) (h0 : 0 < e) : ∃ M', M = e :: M' ∧ okE N f e ∧ Ch N f (nx f e) M' := by
  cases M with
  | nil => exact absurd (show e = 0 from h) (by omega)
  | cons x M =>
    obtain ⟨rfl, -, h2, h3⟩ := h
    exact ⟨M, rfl, h2, h3⟩
theorem Ch.lt {N : Nat} {f : Nat → Nat} {e : Nat} {M : List Nat} (hN : 0 < N) (h : Ch N f e M) : e < N := by
  rcases Nat.eq_zero_or_pos e with q | q
  · omega
  · obtain ⟨M', -, h2, -⟩ := h.cons q
    exact h2.lt
theorem Ch.len {N : Nat} {f : Nat → Nat} (hN : 0 < N) : ∀ {M : List Nat} {e : Nat}, Ch N f e M → 0 < e → M.length + e ≤ N
  | [], e, h, h0 => absurd (show e = 0 from h) (by omega)
  | x :: M, e, h, h0 => by
    obtain ⟨rfl, -, h2, h3⟩ := h
    rcases Nat.eq_zero_or_pos (nx f e) with q | q
    · have := h3.nil q
      subst this
      have := h2.lt
      simp
      omega
    · have h5 := Ch.len hN h3 q
      have h6 : nx f e = th f e := by
        unfold nx at q ⊢
        split
        · rename_i z; rw [if_pos z] at q; omega
        · rfl
      have h7 : e < th f e := by
        unfold th vo
        have := ne_gt f e
        omega
      simp
      omega
theorem Ch.len' {N : Nat} {f : Nat → Nat} (hN : 0 < N) {M : List Nat} {e : Nat} (h : Ch N f e M) : M.length ≤ N := by
  rcases Nat.eq_zero_or_pos e with q | q
  · rw [h.nil q]; exact Nat.zero_le _
  · have := Ch.len hN h q
    omega
