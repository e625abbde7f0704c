/-! ===== the reader's recursion: contracts' words ===== -/
theorem zr_nz {f : Nat → Nat} {last : Nat} (hl : last ≤ 2000) : ∀ (n k : Nat), k + n = last → zrF f (n + 1) k last = if nz f n k < last then nI (nz f n k) else -1
  | 0, k, h => by
    rw [zrF, if_neg (by omega)]
    show -1 = if k < last then nI k else -1
    rw [if_neg (by omega)]
  | n + 1, k, h => by
    have e : bA f k = f k := by unfold bA; rw [if_pos (by omega)]
    rw [zrF, if_pos (by omega), e, nz]
    by_cases z : f k = 0
    · rw [if_pos z, if_pos z, if_pos (by omega)]
    · rw [if_neg z, if_neg z]
      exact zr_nz hl n (k + 1) (by omega)
theorem zr_tE {f : Nat → Nat} {a last : Nat} (ha : a < last) (hl : last ≤ 2000) : (tE f a last < last ∧ zrF f (last - (a + 1) + 1) (a + 1) last = nI (tE f a last)) ∨ (¬ tE f a last < last ∧ zrF f (last - (a + 1) + 1) (a + 1) last = (-1)) := by
  have h := zr_nz (f := f) hl (last - (a + 1)) (a + 1) (by omega)
  by_cases z : tE f a last < last
  · exact Or.inl ⟨z, by rw [h]; exact if_pos z⟩
  · exact Or.inr ⟨z, by rw [h]; exact if_neg z⟩
abbrev rRd (F L e mc ms : Nat) : Room := { frames := 3 * e + F, cells := mc, slots := ms, locals := 80 * e + L }
def C_rp (l : Launch) (G : zG) (tp qb cn : Nat) (f : Nat → Nat) (e : Nat) : Prop := ∀ (n0 rd el k : Nat) (pl : Int32) (nm tx at9 e9 dp : Nat), (k = 3 ∨ k = 4) → tp < rd → qb < rd → rd < el → at9 ≤ e9 → e9 ≤ 2000 → dp = 17 - e →
  Met l yX0_readParts wsX0_readParts (rRd 8 200 e (4 * useV f (16 - e) k at9 e9) (10 * useV f (16 - e) k at9 e9)) (zP G [.ref (rd), .ref (el), .int (nI (e9)), .int (nI (dp))] (fun H => zO G H rd 1 [.ref tp, .int (nI at9)] ∧ TP G tp qb cn f H ∧ zO G H el 8 (vF k pl nm tx 0 none none none 0) ∧ CH G H ∧ H.size = n0 ∧ cB G ≤ rd)) (zX (fun q => q = rd ∨ q = el ∨ n0 ≤ q) (fun r9 H => r9 = some (.int (nI (nB (bOK f (16 - e) k at9 e9)))) ∧ (bOK f (16 - e) k at9 e9 = true → ∃ vs : List Nat, zO G H rd 1 [.ref tp, .int (nI (at9 + wh f at9))] ∧ zO G H el 8 (vF k pl nm tx 0 vs.head? vs.getLast? none vs.length) ∧ KL G H f nI (e - 1) n0 H.size vs (els f at9)))) (4 * useV f (16 - e) k at9 e9) (10 * useV f (16 - e) k at9 e9) (fun q => q = rd ∨ q = el ∨ n0 ≤ q)
def C_rv (l : Launch) (G : zG) (tp qb cn : Nat) (f : Nat → Nat) (e : Nat) : Prop := ∀ (n0 rd el k : Nat) (pl : Int32) (nm : Nat) (w : List Nat) (at9 e9 dp : Nat), k < 256 → tp < rd → qb < rd → rd < el → at9 ≤ e9 → e9 ≤ 2000 → dp = 16 - e →
  Met l yX0_readValue wsX0_readValue (rRd 9 230 e (4 * useV f (16 - e) k at9 e9 + 3) (10 * useV f (16 - e) k at9 e9 + 4)) (zP G [.ref (rd), .ref (el), .int (nI (e9)), .int (nI (dp))] (fun H => zO G H rd 1 [.ref tp, .int (nI at9)] ∧ TP G tp qb cn f H ∧ zO G H el 8 (vF k pl nm (G.2.2 "") 0 none none none 0) ∧ StrZ G H (Zr G el n0) nm w ∧ CH G H ∧ H.size = n0 ∧ cB G ≤ rd)) (zX (fun q => q = rd ∨ q = el ∨ n0 ≤ q) (fun r9 H => r9 = some (.int (nI (nB (vOK f (16 - e) k at9 e9)))) ∧ (vOK f (16 - e) k at9 e9 = true → zO G H rd 1 [.ref tp, .int (nI (at9 + ln f k at9))] ∧ Nod G H f nI e el H.size k at9 w pl none))) (4 * useV f (16 - e) k at9 e9 + 3) (10 * useV f (16 - e) k at9 e9 + 4) (fun q => q = rd ∨ q = el ∨ n0 ≤ q)
def C_re (l : Launch) (G : zG) (tp qb cn : Nat) (f : Nat → Nat) (e : Nat) : Prop := ∀ (n0 rd at9 e9 dp : Nat), tp < rd → qb < rd → at9 < e9 → e9 ≤ 2000 → dp = 16 - e →
  Met l yX0_readElement wsX0_readElement (rRd 10 255 e (4 * useE f (16 - e) at9 e9) (10 * useE f (16 - e) at9 e9)) (zP G [.ref (rd), .int (nI (e9)), .int (nI (dp))] (fun H => zO G H rd 1 [.ref tp, .int (nI at9)] ∧ TP G tp qb cn f H ∧ CH G H ∧ H.size = n0 ∧ cB G ≤ rd)) (zX (fun q => q = rd ∨ n0 ≤ q) (fun r9 H => ∃ o8 : Option Nat, r9 = some (va_rf o8) ∧ (o8 = none → eOK f (16 - e) at9 e9 = false) ∧ ∀ v, o8 = some v → eOK f (16 - e) at9 e9 = true ∧ n0 ≤ v ∧ zO G H rd 1 [.ref tp, .int (nI (th f at9))] ∧ Nod G H f nI e v H.size (f at9) (vo f at9) (nL f at9) (nI at9) none)) (4 * useE f (16 - e) at9 e9) (10 * useE f (16 - e) at9 e9) (fun q => q = rd ∨ n0 ≤ q)
theorem useE_ge {f : Nat → Nat} {dep a last : Nat} (hl : last ≤ 2000) (ht : tE f a last < last) : tE f a last + 1 - a + useV f dep (f a) (tE f a last + 1) last ≤ useE f dep a last := by
  rcases useE_V (dep := dep) hl ht with h | ⟨h1, h2⟩
  · exact h
  · rw [h2]
    have := useV_le (f := f) (dep := dep) (k := f a) (a := tE f a last + 1) (last := last) (by omega)
    have := tE_gt f a last
    omega
theorem useV_box {f : Nat → Nat} {dep k a last : Nat} (hk : k = 3 ∨ k = 4) (h1 : 5 ≤ wh f a) (h2 : wh f a ≤ last - a) : wh f a ≤ useV f dep k a last := by
  unfold useV
  have e : ln f k a = wh f a := by
    unfold ln
    rcases hk with z | z <;> subst z <;> rfl
  by_cases h : vOK f dep k a last = true
  · rw [if_pos h, e]; exact Nat.le_refl _
  · rw [if_neg h]; exact h2
theorem useV_txt {f : Nat → Nat} {dep a last : Nat} : uT f a last ≤ useV f dep 2 a last := by
  unfold uT useV
  by_cases h : vaF f 2 a last = 0
  · rw [if_pos h, if_pos (by rw [vOK_val rfl (by decide), decide_eq_true h])]
    show wh f a ≤ 4 + wh f a
    omega
  · rw [if_neg h]; exact Nat.zero_le _
/-- a value that is no box, as a node -/
theorem Nod.val {G : zG} {H : Heap} {f : Nat → Nat} {e el k a : Nat} {w : List Nat} {pl : Int32} {nm tx : Nat} {hi : Nat} (h1 : zO G H el 8 (vF k pl nm tx (numv f k a) none none none 0)) (h2 : StrZ G H (Zr G el hi) nm w) (h3 : StrZ G H (Zr G el hi) tx (txL f k a)) (h4 : el < hi) (h5 : k ≠ 3 ∧ k ≠ 4) : Nod G H f nI e el hi k a w pl none := by
  have h0 : Nod G H f nI 0 el hi k a w pl none := ⟨nm, tx, h1, h2, h3, h4, h5⟩
  have := h0.to (n := e)
  rwa [Nat.zero_add] at this
theorem Nod.box {G : zG} {H : Heap} {f : Nat → Nat} {e el k a : Nat} {w : List Nat} {pl : Int32} {nm tx : Nat} {hi : Nat} {vs : List Nat} (h1 : zO G H el 8 (vF k pl nm tx 0 vs.head? vs.getLast? none vs.length)) (h2 : StrZ G H (Zr G el hi) nm w) (h3 : StrZ G H (Zr G el hi) tx []) (h4 : el < hi) (hk : k = 3 ∨ k = 4) (h5 : KL G H f nI e (el + 1) hi vs (els f a)) : Nod G H f nI (e + 1) el hi k a w pl none := by
  have e1 : numv f k a = 0 := by unfold numv; rw [if_neg (by omega)]
  have e2 : txL f k a = [] := by unfold txL; rw [if_neg (by omega)]
  refine ⟨nm, tx, vs, ?_, h2, ?_, h4, ?_⟩
  · rw [e1]; exact h1
  · rw [e2]; exact h3
  · rw [if_pos hk]; exact h5
theorem CH.emp {G : zG} {H : Heap} (h : CH G H) {Z : Nat → Prop} (hz : ∀ q, q < cB G → Z q) : StrZ G H Z (G.2.2 "") [] := (h.2.2.1 ("FilterReader$DocumentReader", 23, "") (by decide)).mono hz
theorem bOK_no {f : Nat → Nat} {dep k a last : Nat} (h : ¬ (5 ≤ wh f a ∧ wh f a ≤ last - a ∧ dep < 16)) : bOK f dep k a last = false := by
  unfold bOK opn
  rw [decide_eq_false h]; rfl
theorem bOK_pe {f : Nat → Nat} {dep k a last : Nat} (h : 5 ≤ wh f a ∧ wh f a ≤ last - a ∧ dep < 16) : bOK f dep k a last = (PE f (dep + 1) (a + 4) (a + wh f a - 1) (decide (k = 4)) 0 []).isSome := by
  unfold bOK opn
  rw [decide_eq_true h]; rfl
theorem ln_box {f : Nat → Nat} {k a : Nat} (hk : k = 3 ∨ k = 4) : ln f k a = wh f a := by
  unfold ln
  rcases hk with z | z <;> subst z <;> rfl
theorem nmG_may {f : Nat → Nat} {k cnt cu last : Nat} {xs : List Nat} (ht : tE f cu last = ne f cu) : nmG f (decide (k = 4)) cnt (cu + 1) (tE f cu last) xs.reverse = (if k = 4 then decide (nL f cu = dgl cnt) else xs.all (fun x => decide (nL f x ≠ nL f cu))) := by
  unfold nmG
  by_cases h : k = 4
  · rw [if_pos h, if_pos (decide_eq_true h), isNu_dgl, ht]; rfl
  · rw [if_neg h, if_neg (by rw [decide_eq_false h]; decide), List.all_reverse, ht]; rfl
