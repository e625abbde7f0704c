/-! ===== SHIFT: a document read at another place (g2 (c + j) = g j below n) ===== -/
def shB (g g2 : Nat → Nat) (c n : Nat) : Prop := ∀ j, j < n → g2 (c + j) = g j
theorem nz_sh {g g2 : Nat → Nat} {c n : Nat} (h : shB g g2 c n) : ∀ k q, q + k ≤ n → nz g2 k (c + q) = c + nz g k q
  | 0, q, _ => rfl
  | k + 1, q, hq => by
    unfold nz
    rw [h q (by omega)]
    by_cases z : g q = 0
    · rw [if_pos z, if_pos z]
    · rw [if_neg z, if_neg z]
      exact nz_sh h k (q + 1) (by omega)
theorem tE_sh {g g2 : Nat → Nat} {c n a last : Nat} (h : shB g g2 c n) (ha : a < last) (hl : last ≤ n) : tE g2 (c + a) (c + last) = c + tE g a last := by
  unfold tE
  rw [show c + last - (c + a + 1) = last - (a + 1) by omega, show c + a + 1 = c + (a + 1) by omega]
  exact nz_sh h _ _ (by omega)
theorem wh_sh {g g2 : Nat → Nat} {c n a : Nat} (h : shB g g2 c n) (ha : a + 4 ≤ n) : wh g2 (c + a) = wh g a := by
  unfold wh
  rw [show c + a + 1 = c + (a + 1) by omega, show c + a + 2 = c + (a + 2) by omega, show c + a + 3 = c + (a + 3) by omega, h a (by omega), h (a + 1) (by omega), h (a + 2) (by omega), h (a + 3) (by omega)]
theorem sg_sh {g g2 : Nat → Nat} {c n : Nat} (h : shB g g2 c n) : ∀ k a, a + k ≤ n → sg g2 (c + a) k = sg g a k
  | 0, _, _ => rfl
  | k + 1, a, ha => by
    show g2 (c + a) :: sg g2 (c + a + 1) k = g a :: sg g (a + 1) k
    rw [h a (by omega), show c + a + 1 = c + (a + 1) by omega, sg_sh h k (a + 1) (by omega)]
theorem chr_sh {g g2 : Nat → Nat} {c n a to : Nat} (h : shB g g2 c n) (ha : a < to) (ht : to ≤ n) : chr g2 (c + a) (c + to) = chr g a to := by
  have e0 := h a (by omega)
  have q2 : (c + a + 2 ≤ c + to) = (a + 2 ≤ to) := propext ⟨fun _ => by omega, fun _ => by omega⟩
  have q3 : (c + a + 3 ≤ c + to) = (a + 3 ≤ to) := propext ⟨fun _ => by omega, fun _ => by omega⟩
  have q4 : (c + a + 4 ≤ c + to) = (a + 4 ≤ to) := propext ⟨fun _ => by omega, fun _ => by omega⟩
  unfold chr
  by_cases z2 : a + 2 ≤ to
  · have e1 : g2 (c + a + 1) = g (a + 1) := h (a + 1) (by omega)
    by_cases z3 : a + 3 ≤ to
    · have e2 : g2 (c + a + 2) = g (a + 2) := h (a + 2) (by omega)
      by_cases z4 : a + 4 ≤ to
      · have e3 : g2 (c + a + 3) = g (a + 3) := h (a + 3) (by omega)
        simp only [e0, q2, q3, q4, e1, e2, e3]
      · simp only [e0, q2, q3, q4, e1, e2, z4, false_and, if_false]
    · simp only [e0, q2, q3, q4, e1, z3, show ¬ a + 4 ≤ to by omega, false_and, if_false]
  · simp only [e0, q2, q3, q4, z2, show ¬ a + 3 ≤ to by omega, show ¬ a + 4 ≤ to by omega, false_and, if_false]
theorem nI_nn {k : Nat} (h : k < 2 ^ 31) : ¬ nI k < 0 := nI_pos h
theorem bdF_sh {g g2 : Nat → Nat} {c n to : Nat} (h : shB g g2 c n) (ht : to ≤ n) (hc : c + n < 2 ^ 31) : ∀ m k, (bdF g2 m (c + k) (c + to) < 0 ↔ bdF g m k to < 0)
  | 0, k => Iff.rfl
  | m + 1, k => by
    unfold bdF
    by_cases z : k < to
    · rw [if_pos z, if_pos (by omega : c + k < c + to), chr_sh h z ht]
      by_cases y : chr g k to = 0
      · rw [if_pos y, if_pos y]
        exact ⟨fun q => absurd q (nI_nn (by omega)), fun q => absurd q (nI_nn (by omega))⟩
      · rw [if_neg y, if_neg y, Nat.add_assoc]
        exact bdF_sh h ht hc m _
    · rw [if_neg z, if_neg (by omega)]
theorem bd_sh {g g2 : Nat → Nat} {c n a to : Nat} (h : shB g g2 c n) (ht : to ≤ n) (hc : c + n < 2 ^ 31) : (bd g2 (c + a) (c + to) < 0 ↔ bd g a to < 0) := by
  unfold bd
  rw [show c + to - (c + a) + 1 = to - a + 1 by omega]
  exact bdF_sh h ht hc _ a
theorem isNu_sh {g g2 : Nat → Nat} {c n fr to v : Nat} (h : shB g g2 c n) (ht : to ≤ n) : isNu g2 (c + fr) (c + to) v = isNu g fr to v := by
  unfold isNu
  rw [show c + to - (c + fr) = to - fr by omega]
  by_cases z : to - fr = dgs v
  · rw [decide_eq_true z]
    congr 1
    apply Bool.eq_iff_iff.mpr
    rw [List.all_eq_true, List.all_eq_true]
    constructor
    · intro q k hk
      have h1 := q k hk
      have h2 := List.mem_range.mp hk
      rw [show c + fr + k = c + (fr + k) by omega, h (fr + k) (by omega)] at h1
      exact h1
    · intro q k hk
      have h1 := q k hk
      have h2 := List.mem_range.mp hk
      rw [show c + fr + k = c + (fr + k) by omega, h (fr + k) (by omega)]
      exact h1
  · rw [decide_eq_false z]
    rfl
theorem tE_ne' {g : Nat → Nat} {a last : Nat} (h : tE g a last < last) (hl : last ≤ a + 2000) : tE g a last = ne g a := by
  have h0 := tE_0 h
  have h1 := tE_gt g a last
  apply Nat.le_antisymm
  · exact nz_le g _ _ _ (ne_gt g a) (nz_0 g 2000 (a + 1) (tE g a last) h1 (by omega) h0)
  · exact nz_le g _ _ _ h1 h0
theorem ne_sh {g g2 : Nat → Nat} {c n a last : Nat} (h : shB g g2 c n) (ha : a < last) (hl : last ≤ n) (hn : n ≤ 2000) (ht : tE g a last < last) : ne g2 (c + a) = c + ne g a := by
  have h1 := tE_sh h ha hl
  have h2 := tE_ne' (g := g2) (a := c + a) (last := c + last) (by rw [h1]; omega) (by omega)
  rw [← h2, h1, tE_ne' ht (by omega)]
theorem nL_sh {g g2 : Nat → Nat} {c n a last : Nat} (h : shB g g2 c n) (ha : a < last) (hl : last ≤ n) (hn : n ≤ 2000) (ht : tE g a last < last) : nL g2 (c + a) = nL g a := by
  unfold nL
  rw [ne_sh h ha hl hn ht, show c + ne g a - (c + a + 1) = ne g a - (a + 1) by omega, show c + a + 1 = c + (a + 1) by omega]
  have h1 := tE_ne' ht (by omega)
  have h2 := ne_gt g a
  exact sg_sh h _ _ (by omega)
theorem opF_sh {g g2 : Nat → Nat} {c n a left dep : Nat} (h : shB g g2 c n) (ha : a + left ≤ n) : opF g2 (c + a) left dep = opF g a left dep := by
  unfold opF
  by_cases z : left < 4
  · rw [if_pos z, if_pos z]
  · rw [wh_sh h (by omega)]
theorem txF_sh {g g2 : Nat → Nat} {c n a last : Nat} (h : shB g g2 c n) (ha : a ≤ last) (hl : last < n) (hc : c + n < 2 ^ 31) : txF g2 (c + a) (c + last) = txF g a last := by
  unfold txF
  rw [show c + last - (c + a) = last - a by omega]
  by_cases z : last - a < 4
  · rw [if_pos z, if_pos z]
  · rw [if_neg z, if_neg z, wh_sh h (by omega)]
    by_cases y : wh g a < 1
    · rw [if_pos y, if_pos y]
    · rw [if_neg y, if_neg y]
      by_cases x : last - a - 4 < wh g a
      · rw [if_pos x, if_pos x]
      · rw [if_neg x, if_neg x, show c + a + 4 = c + (a + 4) by omega, show c + (a + 4) + wh g a - 1 = c + (a + 4 + wh g a - 1) by omega, h (a + 4 + wh g a - 1) (by omega)]
        have h1 := bd_sh (a := a + 4) (to := a + 4 + wh g a - 1) h (by omega) hc
        by_cases w : bd g (a + 4) (a + 4 + wh g a - 1) < 0
        · rw [if_pos w, if_pos (h1.mpr w)]
        · rw [if_neg w, if_neg (fun q => w (h1.mp q))]
theorem txR_sh {g g2 : Nat → Nat} {c n a last : Nat} (h : shB g g2 c n) (ha : a ≤ last) (hl : last < n) : txR g2 (c + a) (c + last) = c + txR g a last := by
  unfold txR
  rw [show c + last - (c + a) = last - a by omega]
  by_cases z : last - a < 4
  · rw [if_pos z, if_pos z]
  · rw [if_neg z, if_neg z, wh_sh h (by omega)]
    by_cases y : wh g a < 1
    · rw [if_pos y, if_pos y]
    · rw [if_neg y, if_neg y]
      by_cases x : last - a - 4 < wh g a
      · rw [if_pos x, if_pos x]
      · rw [if_neg x, if_neg x]; omega
theorem vaF_sh {g g2 : Nat → Nat} {c n k a last : Nat} (h : shB g g2 c n) (ha : a ≤ last) (hl : last < n) (hc : c + n < 2 ^ 31) : vaF g2 k (c + a) (c + last) = vaF g k a last := by
  unfold vaF
  rw [txF_sh h ha hl hc, show c + last - (c + a) = last - a by omega, h a (by omega)]
theorem vaR_sh {g g2 : Nat → Nat} {c n k a last : Nat} (h : shB g g2 c n) (ha : a ≤ last) (hl : last < n) : vaR g2 k (c + a) (c + last) = c + vaR g k a last := by
  unfold vaR
  rw [txR_sh h ha hl]
  by_cases z : k = 16 ∨ k = 18 ∨ k = 8
  · rw [if_pos z, if_pos z, Nat.add_assoc]
  · rw [if_neg z, if_neg z]
    by_cases y : k = 2
    · rw [if_pos y, if_pos y]
    · rw [if_neg y, if_neg y]
theorem nmG_sh {g g2 : Nat → Nat} {c n cnt fr to last : Nat} {row : Bool} {L : List Nat} (h : shB g g2 c n) (ht : to ≤ n) (hl : last ≤ n) (hn : n ≤ 2000) (hL : ∀ x ∈ L, x < last ∧ tE g x last < last) : nmG g2 row cnt (c + fr) (c + to) (L.map (c + ·)) = nmG g row cnt fr to L := by
  unfold nmG
  rw [isNu_sh h ht]
  cases row with
  | true => rw [if_pos rfl, if_pos rfl]
  | false =>
    rw [if_neg (by decide), if_neg (by decide), show c + to - (c + fr) = to - fr by omega, List.all_map]
    apply Bool.eq_iff_iff.mpr
    rw [List.all_eq_true, List.all_eq_true]
    have key : ∀ x ∈ L, nL g2 (c + x) = nL g x := fun x hx => nL_sh h (hL x hx).1 hl hn (hL x hx).2
    have key2 : sg g2 (c + fr) (to - fr) = sg g fr (to - fr) := by
      by_cases z : fr ≤ to
      · exact sg_sh h _ _ (by omega)
      · rw [show to - fr = 0 by omega]; rfl
    constructor
    · intro q x hx
      have := q x hx
      simp only [Function.comp] at this
      rw [key x hx, key2] at this
      exact this
    · intro q x hx
      have := q x hx
      simp only [Function.comp]
      rw [key x hx, key2]
      exact this
theorem gE_sh {g g2 : Nat → Nat} {c n cnt a last : Nat} {row : Bool} {L : List Nat} (h : shB g g2 c n) (ha : a < last) (hl : last < n) (hn : n ≤ 2000) (hc : c + n < 2 ^ 31) (hL : ∀ x ∈ L, x < last ∧ tE g x last < last) : gE g2 row cnt (c + a) (c + last) (L.map (c + ·)) = gE g row cnt a last L := by
  unfold gE
  rw [tE_sh h ha (by omega), h a (by omega)]
  by_cases z : tE g a last < last
  · rw [show c + a + 1 = c + (a + 1) by omega, nmG_sh h (by omega) (Nat.le_of_lt hl) hn hL, decide_eq_true z, decide_eq_true (by omega : c + tE g a last < c + last)]
    have h1 := bd_sh (a := a + 1) (to := tE g a last) h (by omega) hc
    by_cases w : bd g (a + 1) (tE g a last) < 0
    · rw [decide_eq_true w, decide_eq_true (h1.mpr w)]
    · rw [decide_eq_false w, decide_eq_false (fun q => w (h1.mp q))]
  · rw [decide_eq_false z, decide_eq_false (by omega : ¬ c + tE g a last < c + last)]
    simp
theorem gE_tE {g : Nat → Nat} {cnt a last : Nat} {row : Bool} {L : List Nat} (h : gE g row cnt a last L = true) : okK (g a) = true ∧ tE g a last < last ∧ bd g (a + 1) (tE g a last) < 0 ∧ nmG g row cnt (a + 1) (tE g a last) L = true := by
  unfold gE at h
  have h1 := (Bool.and_eq_true _ _).mp h
  have h2 := (Bool.and_eq_true _ _).mp h1.2
  have h3 := (Bool.and_eq_true _ _).mp h2.2
  exact ⟨h1.1, of_decide_eq_true h2.1, of_decide_eq_true h3.1, h3.2⟩
theorem pE_sh {g g2 : Nat → Nat} {c n : Nat} (h : shB g g2 c n) (hn : n ≤ 2000) (hc : c + n < 2 ^ 31) : ∀ F dep a last row cnt L, a ≤ last → last < n → (∀ x ∈ L, x < last ∧ tE g x last < last) → pE g2 F dep (c + a) (c + last) row cnt (L.map (c + ·)) = (pE g F dep a last row cnt L).map (c + ·)
  | 0, _, _, _, _, _, _, _, _, _ => rfl
  | F + 1, dep, a, last, row, cnt, L, ha, hl, hL => by
    by_cases h1 : a = last
    · subst h1
      by_cases h2 : g a = 0
      · rw [pE_end0 rfl h2, pE_end0 rfl (by rw [h a hl]; exact h2)]; rfl
      · rw [pE_endN rfl h2, pE_endN rfl (by rw [h a hl]; exact h2)]; rfl
    · have ha2 : a < last := by omega
      have h1' : c + a ≠ c + last := by omega
      have hG := gE_sh (cnt := cnt) (row := row) h ha2 hl hn hc hL
      have hT := tE_sh h ha2 (Nat.le_of_lt hl)
      cases h2 : gE g row cnt a last L with
      | false => rw [pE_no h1 h2, pE_no h1' (by rw [hG]; exact h2)]; rfl
      | true =>
        have h2' := hG.trans h2
        have h7 := gE_tE h2
        have hgt := tE_gt g a last
        have hL2 : ∀ x ∈ a :: L, x < last ∧ tE g x last < last := by
          intro x hx
          rcases List.mem_cons.mp hx with e | e
          · subst e; exact ⟨ha2, h7.2.1⟩
          · exact hL x e
        have hga : g2 (c + a) = g a := h a (by omega)
        by_cases h3 : g a = 3 ∨ g a = 4
        · have hO : opF g2 (tE g2 (c + a) (c + last) + 1) (c + last - (tE g2 (c + a) (c + last) + 1)) dep = opF g (tE g a last + 1) (last - (tE g a last + 1)) dep := by
            rw [hT, show c + tE g a last + 1 = c + (tE g a last + 1) by omega, show c + last - (c + (tE g a last + 1)) = last - (tE g a last + 1) by omega]
            exact opF_sh h (by omega)
          by_cases h4 : opF g (tE g a last + 1) (last - (tE g a last + 1)) dep = 0
          · have h8 := opF_0 h4
            have hw := wh_sh (a := tE g a last + 1) h (by omega)
            have ih := pE_sh h hn hc F (dep + 1) (tE g a last + 1 + 4) (tE g a last + 1 + wh g (tE g a last + 1) - 1) (decide (g a = 4)) 0 [] (by omega) (by omega) (fun x hx => by cases hx)
            have hi : pE g2 F (dep + 1) (tE g2 (c + a) (c + last) + 1 + 4) (tE g2 (c + a) (c + last) + 1 + wh g2 (tE g2 (c + a) (c + last) + 1) - 1) (decide (g2 (c + a) = 4)) 0 [] = (pE g F (dep + 1) (tE g a last + 1 + 4) (tE g a last + 1 + wh g (tE g a last + 1) - 1) (decide (g a = 4)) 0 []).map (c + ·) := by
              rw [← ih, hT, hga, show c + tE g a last + 1 = c + (tE g a last + 1) by omega, hw, show c + (tE g a last + 1) + 4 = c + (tE g a last + 1 + 4) by omega, show c + (tE g a last + 1) + wh g (tE g a last + 1) - 1 = c + (tE g a last + 1 + wh g (tE g a last + 1) - 1) by omega]
              rfl
            cases h5 : pE g F (dep + 1) (tE g a last + 1 + 4) (tE g a last + 1 + wh g (tE g a last + 1) - 1) (decide (g a = 4)) 0 [] with
            | none =>
              rw [h5] at hi
              rw [pE_bI h1 h2 h3 h4 h5, pE_bI h1' h2' (by rw [hga]; exact h3) (hO.trans h4) hi]
              rfl
            | some e =>
              rw [h5] at hi
              have he := pE_e h5
              rw [pE_b h1 h2 h3 h4 h5, pE_b h1' h2' (by rw [hga]; exact h3) (hO.trans h4) hi]
              exact pE_sh h hn hc F dep e last row (cnt + 1) (a :: L) (by omega) hl hL2
          · rw [pE_bN h1 h2 h3 h4, pE_bN h1' h2' (by rw [hga]; exact h3) (by rw [hO]; exact h4)]
            rfl
        · have hV : vaF g2 (g2 (c + a)) (tE g2 (c + a) (c + last) + 1) (c + last) = vaF g (g a) (tE g a last + 1) last := by
            rw [hT, hga, show c + tE g a last + 1 = c + (tE g a last + 1) by omega]
            exact vaF_sh h (by omega) hl hc
          by_cases h4 : vaF g (g a) (tE g a last + 1) last = 0
          · have hr := vaR_le (by omega) h4
            have hR : vaR g2 (g2 (c + a)) (tE g2 (c + a) (c + last) + 1) (c + last) = c + vaR g (g a) (tE g a last + 1) last := by
              rw [hT, hga, show c + tE g a last + 1 = c + (tE g a last + 1) by omega]
              exact vaR_sh h (by omega) hl
            rw [pE_v h1 h2 h3 h4, pE_v h1' h2' (by rw [hga]; exact h3) (hV.trans h4), hR]
            exact pE_sh h hn hc F dep _ last row (cnt + 1) (a :: L) (by omega) hl hL2
          · rw [pE_vN h1 h2 h3 h4, pE_vN h1' h2' (by rw [hga]; exact h3) (by rw [hV]; exact h4)]
            rfl
/-- whether the n bytes from c on are a document -/
def dcB (g : Nat → Nat) (c n : Nat) : Bool := decide (opF g c n 0 = 0) && (pE g n 1 (c + 4) (c + n - 1) false 0 []).isSome
theorem dcB_sh {g g2 : Nat → Nat} {c n : Nat} (h : shB g g2 c n) (hn : n ≤ 2000) (hc : c + n < 2 ^ 31) : dcB g2 c n = dcB g 0 n := by
  unfold dcB
  have h1 := opF_sh (a := 0) (left := n) (dep := 0) h (by omega)
  rw [Nat.add_zero] at h1
  rw [h1]
  by_cases z : opF g 0 n 0 = 0
  · have h2 := opF_0 z
    have h3 := pE_sh h hn hc n 1 4 (n - 1) false 0 [] (by omega) (by omega) (fun x hx => by cases hx)
    rw [List.map_nil] at h3
    have e1 : c + n - 1 = c + (n - 1) := by omega
    have e2 : 0 + 4 = 4 := Nat.zero_add 4
    have e3 : 0 + n - 1 = n - 1 := by omega
    rw [e1, e2, e3, h3, Option.isSome_map]
  · rw [decide_eq_false z, Bool.false_and, Bool.false_and]
theorem dcG_iff {g : Nat → Nat} {n : Nat} : dcG g n ↔ dcB g 0 n = true := by
  unfold dcG dcB
  rw [show 0 + 4 = 4 from rfl, show 0 + n - 1 = n - 1 by omega]
  constructor
  · intro h
    rw [decide_eq_true h.1]
    cases hc : pE g n 1 4 (n - 1) false 0 [] with
    | none => exact absurd hc h.2
    | some e => rfl
  · intro h
    have h1 := (Bool.and_eq_true _ _).mp h
    refine ⟨of_decide_eq_true h1.1, fun q => ?_⟩
    rw [q] at h1
    exact absurd h1.2 (by decide)
