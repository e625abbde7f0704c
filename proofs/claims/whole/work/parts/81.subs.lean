set_option maxHeartbeats 4000000 in
set_option maxRecDepth 100000 in
theorem j_cft_n (l : Launch) (G : zG)  (i j k b9 : Nat) (hij : i ≤ j) (hjk : j ≤ k) (hk9 : k < 2 ^ 31) : Met l yJ3_checkFromToIndex_8c36e wsJ3_checkFromToIndex_8c36e ({ frames := 0, cells := 0, slots := 0, locals := 0 }) (zP G [.int (nI (i)), .int (nI (j)), .int (nI (k)), .null] (fun H => True)) (zR (.int (nI i))) 0 0 (fun _ => False) := by
  refine Met.ofW (cc := cJ3_checkFromToIndex_8c36e) (maxL := 4) (ret := (some .int)) (by decide) rfl ?_
  intro p en s m args below meth c s₁ B hml hv
  obtain ⟨rfl, hP, hK⟩ := hv
  have hx := B.exec
  have hb := B.bytes
  have hr := B.returns
  have hts := atoms_spec (ws := wsJ3_checkFromToIndex_8c36e) B.pre
  have hz : ∀ w ∈ zW, w.before _ s = true := fun w h => hts w (List.mem_cons_of_mem _ h)
  have hown : s.vm.findClass RJ3 = some m.cls := findClass_of_methodNamed B.named
  have hlocks := B.notSynchronized
  have hl := lv_entry ([.int (nI (i)), .int (nI (j)), .int (nI (k)), .null]) (n := 4) (Nat.le_of_ble_eq_true rfl)
  rw [lg_entry_eq]
  generalize (lg_sl ([.int (nI (i)), .int (nI (j)), .int (nI (k)), .null]) ++ List.replicate (4 - (lg_sl ([.int (nI (i)), .int (nI (j)), .int (nI (k)), .null])).length) Slot.unset).toArray = ls at hl ⊢
  have hl : lv_has ls 4 [(0, .int (nI (i))), (1, .int (nI (j))), (2, .int (nI (k))), (3, .null)] := hl
  refine lv_iload_n hx hb dJ3_checkFromToIndex_8c36e_0 rfl (lv_at hl 0 rfl) ?_
  refine zi_if_lt (tgt := 14) hx hb dJ3_checkFromToIndex_8c36e_1 (by decide) (by omega) ?_
  refine lv_iload_n hx hb dJ3_checkFromToIndex_8c36e_4 rfl (lv_at hl 0 rfl) ?_
  refine lv_iload_n hx hb dJ3_checkFromToIndex_8c36e_5 rfl (lv_at hl 1 rfl) ?_
  refine zi_icmp_gt (tgt := 14) hx hb dJ3_checkFromToIndex_8c36e_6 (by decide) (by omega) (by omega) (fun c_6 => ?_) (fun c_6 => ?_)
  · exfalso; omega
  · refine lv_iload_n hx hb dJ3_checkFromToIndex_8c36e_9 rfl (lv_at hl 1 rfl) ?_
    refine lv_iload_n hx hb dJ3_checkFromToIndex_8c36e_10 rfl (lv_at hl 2 rfl) ?_
    refine zi_icmp_le (tgt := 22) hx hb dJ3_checkFromToIndex_8c36e_11 (by decide) (by omega) (by omega) (fun c_11 => ?_) (fun c_11 => ?_)
    · refine lv_iload_n hx hb dJ3_checkFromToIndex_8c36e_22 rfl (lv_at hl 0 rfl) ?_
      exact zr_i hx hb hr hlocks (rfl) dJ3_checkFromToIndex_8c36e_23
    · exfalso; omega

set_option maxHeartbeats 4000000 in
set_option maxRecDepth 100000 in
theorem j_cft_r (l : Launch) (G : zG)  (i j k b9 : Nat) (hij : i ≤ j) (hjk : j ≤ k) (hk9 : k < 2 ^ 31) : Met l yJ3_checkFromToIndex_8c36e wsJ3_checkFromToIndex_8c36e ({ frames := 0, cells := 0, slots := 0, locals := 0 }) (zP G [.int (nI (i)), .int (nI (j)), .int (nI (k)), .ref (b9)] (fun H => True)) (zR (.int (nI i))) 0 0 (fun _ => False) := by
  refine Met.ofW (cc := cJ3_checkFromToIndex_8c36e) (maxL := 4) (ret := (some .int)) (by decide) rfl ?_
  intro p en s m args below meth c s₁ B hml hv
  obtain ⟨rfl, hP, hK⟩ := hv
  have hx := B.exec
  have hb := B.bytes
  have hr := B.returns
  have hts := atoms_spec (ws := wsJ3_checkFromToIndex_8c36e) B.pre
  have hz : ∀ w ∈ zW, w.before _ s = true := fun w h => hts w (List.mem_cons_of_mem _ h)
  have hown : s.vm.findClass RJ3 = some m.cls := findClass_of_methodNamed B.named
  have hlocks := B.notSynchronized
  have hl := lv_entry ([.int (nI (i)), .int (nI (j)), .int (nI (k)), .ref (b9)]) (n := 4) (Nat.le_of_ble_eq_true rfl)
  rw [lg_entry_eq]
  generalize (lg_sl ([.int (nI (i)), .int (nI (j)), .int (nI (k)), .ref (b9)]) ++ List.replicate (4 - (lg_sl ([.int (nI (i)), .int (nI (j)), .int (nI (k)), .ref (b9)])).length) Slot.unset).toArray = ls at hl ⊢
  have hl : lv_has ls 4 [(0, .int (nI (i))), (1, .int (nI (j))), (2, .int (nI (k))), (3, .ref (b9))] := hl
  refine lv_iload_n hx hb dJ3_checkFromToIndex_8c36e_0 rfl (lv_at hl 0 rfl) ?_
  refine zi_if_lt (tgt := 14) hx hb dJ3_checkFromToIndex_8c36e_1 (by decide) (by omega) ?_
  refine lv_iload_n hx hb dJ3_checkFromToIndex_8c36e_4 rfl (lv_at hl 0 rfl) ?_
  refine lv_iload_n hx hb dJ3_checkFromToIndex_8c36e_5 rfl (lv_at hl 1 rfl) ?_
  refine zi_icmp_gt (tgt := 14) hx hb dJ3_checkFromToIndex_8c36e_6 (by decide) (by omega) (by omega) (fun c_6 => ?_) (fun c_6 => ?_)
  · exfalso; omega
  · refine lv_iload_n hx hb dJ3_checkFromToIndex_8c36e_9 rfl (lv_at hl 1 rfl) ?_
    refine lv_iload_n hx hb dJ3_checkFromToIndex_8c36e_10 rfl (lv_at hl 2 rfl) ?_
    refine zi_icmp_le (tgt := 22) hx hb dJ3_checkFromToIndex_8c36e_11 (by decide) (by omega) (by omega) (fun c_11 => ?_) (fun c_11 => ?_)
    · refine lv_iload_n hx hb dJ3_checkFromToIndex_8c36e_22 rfl (lv_at hl 0 rfl) ?_
      exact zr_i hx hb hr hlocks (rfl) dJ3_checkFromToIndex_8c36e_23
    · exfalso; omega

theorem j_cft (l : Launch) (G : zG) (i j k : Nat) (x9 : Option Nat) (hij : i ≤ j) (hjk : j ≤ k) (hk9 : k < 2 ^ 31) : Met l yJ3_checkFromToIndex_8c36e wsJ3_checkFromToIndex_8c36e ({ frames := 0, cells := 0, slots := 0, locals := 0 }) (zP G [.int (nI (i)), .int (nI (j)), .int (nI (k)), va_rf x9] (fun H => True)) (zR (.int (nI i))) 0 0 (fun _ => False) := by
  cases x9 with
  | none => exact j_cft_n l G i j k 0 hij hjk hk9
  | some b => exact j_cft_r l G i j k b hij hjk hk9

set_option maxHeartbeats 4000000 in
set_option maxRecDepth 100000 in
theorem j_cbe (l : Launch) (G : zG)  (i j k : Nat) (x9 : Option Nat) (hij : i ≤ j) (hjk : j ≤ k) (hk9 : k < 2 ^ 31) : Met l yJ0_checkBoundsBeginEnd_23922 wsJ0_checkBoundsBeginEnd_23922 ({ frames := 1, cells := 0, slots := 0, locals := 23 }) (zP G [.int (nI (i)), .int (nI (j)), .int (nI (k))] (fun H => zSh G qSI (va_rf x9) H)) zRv 0 0 (fun _ => False) := by
  refine Met.ofW (cc := cJ0_checkBoundsBeginEnd_23922) (maxL := 3) (ret := none) (by decide) rfl ?_
  intro p en s m args below meth c s₁ B hml hv
  obtain ⟨rfl, hP, hK⟩ := hv
  have hx := B.exec
  have hb := B.bytes
  have hr := B.returns
  have hts := atoms_spec (ws := wsJ0_checkBoundsBeginEnd_23922) B.pre
  have hz : ∀ w ∈ zW, w.before _ s = true := fun w h => hts w (List.mem_cons_of_mem _ h)
  have hown : s.vm.findClass RJ0 = some m.cls := findClass_of_methodNamed B.named
  have hlocks := B.notSynchronized
  have hl := lv_entry ([.int (nI (i)), .int (nI (j)), .int (nI (k))]) (n := 3) (Nat.le_of_ble_eq_true rfl)
  rw [lg_entry_eq]
  generalize (lg_sl ([.int (nI (i)), .int (nI (j)), .int (nI (k))]) ++ List.replicate (3 - (lg_sl ([.int (nI (i)), .int (nI (j)), .int (nI (k))])).length) Slot.unset).toArray = ls at hl ⊢
  have hl : lv_has ls 3 [(0, .int (nI (i))), (1, .int (nI (j))), (2, .int (nI (k)))] := hl
  refine lv_iload_n hx hb dJ0_checkBoundsBeginEnd_23922_0 rfl (lv_at hl 0 rfl) ?_
  refine lv_iload_n hx hb dJ0_checkBoundsBeginEnd_23922_1 rfl (lv_at hl 1 rfl) ?_
  refine lv_iload_n hx hb dJ0_checkBoundsBeginEnd_23922_2 rfl (lv_at hl 2 rfl) ?_
  refine zi_gets (q := qSI) hx hb hK (by decide) hP hown (hz _ wf_J0_1053) dJ0_checkBoundsBeginEnd_23922_3 ?_
  refine zc_S (As := [.int (nI (i)), .int (nI (j)), .int (nI (k)), va_rf (x9)]) (rest := []) ⟨hx, hb, hml, hown, hts⟩ (j_cft l G i j k x9 hij hjk hk9) (va_cwS 4 hts (zgX wm_J0_1062 wu_J3_checkFromToIndex_8c36e) rfl rfl rfl (by decide +kernel) ⟨Nat.le_of_ble_eq_true rfl, Nat.le_of_ble_eq_true rfl⟩) hK trivial rfl hl.1 rfl (Nat.le_of_ble_eq_true rfl) dJ0_checkBoundsBeginEnd_23922_6 ⟨Nat.zero_le _, Nat.zero_le _⟩ ?_
  refine lv_pop hx hb dJ0_checkBoundsBeginEnd_23922_9 rfl ?_
  exact zr_vo hx hb hr hlocks dJ0_checkBoundsBeginEnd_23922_10

set_option maxHeartbeats 4000000 in
set_option maxRecDepth 100000 in
theorem j_ckl (l : Launch) (G : zG)  (i j : Nat) (hij : i ≤ j) (hj9 : j < 2 ^ 31) : Met l yJ7_checkLength_df160 wsJ7_checkLength_df160 ({ frames := 0, cells := 0, slots := 0, locals := 0 }) (zP G [.int (nI (i)), .int (nI (j))] (fun H => True)) zRv 0 0 (fun _ => False) := by
  refine Met.ofW (cc := cJ7_checkLength_df160) (maxL := 2) (ret := none) (by decide) rfl ?_
  intro p en s m args below meth c s₁ B hml hv
  obtain ⟨rfl, hP, hK⟩ := hv
  have hx := B.exec
  have hb := B.bytes
  have hr := B.returns
  have hts := atoms_spec (ws := wsJ7_checkLength_df160) B.pre
  have hz : ∀ w ∈ zW, w.before _ s = true := fun w h => hts w (List.mem_cons_of_mem _ h)
  have hown : s.vm.findClass RJ7 = some m.cls := findClass_of_methodNamed B.named
  have hlocks := B.notSynchronized
  have hl := lv_entry ([.int (nI (i)), .int (nI (j))]) (n := 2) (Nat.le_of_ble_eq_true rfl)
  rw [lg_entry_eq]
  generalize (lg_sl ([.int (nI (i)), .int (nI (j))]) ++ List.replicate (2 - (lg_sl ([.int (nI (i)), .int (nI (j))])).length) Slot.unset).toArray = ls at hl ⊢
  have hl : lv_has ls 2 [(0, .int (nI (i))), (1, .int (nI (j)))] := hl
  refine lv_iload_n hx hb dJ7_checkLength_df160_0 rfl (lv_at hl 1 rfl) ?_
  refine lv_iload_n hx hb dJ7_checkLength_df160_1 rfl (lv_at hl 0 rfl) ?_
  refine zi_icmp_ge (tgt := 37) hx hb dJ7_checkLength_df160_2 (by decide) (by omega) (by omega) (fun c_2 => ?_) (fun c_2 => ?_)
  · exact zr_vo hx hb hr hlocks dJ7_checkLength_df160_37
  · exfalso; omega

set_option maxHeartbeats 4000000 in
set_option maxRecDepth 100000 in
theorem j_crb (l : Launch) (G : zG) (n0 bv N i j : Nat) (t : Nat → Nat) (hij : i ≤ j) (hjN : j ≤ N) (hN : N < 2 ^ 20) : Met l yJ7_copyOfRangeByte_39247 wsJ7_copyOfRangeByte_39247 ({ frames := 1, cells := 1, slots := j - i, locals := 60 }) (zP G [.ref (bv), .int (nI (i)), .int (nI (j))] (fun H => zB G H bv N t ∧ H.size = n0)) (zX (fun q => n0 ≤ q) (fun r9 H => ∃ b : Nat, r9 = some (.ref b) ∧ n0 ≤ b ∧ b < H.size ∧ zB G H b (j - i) (fun k => t (i + k)))) (1) (j - i) (fun q => n0 ≤ q) := by
  refine Met.ofW (cc := cJ7_copyOfRangeByte_39247) (maxL := 5) (ret := (some (.array .byte))) (by decide) rfl ?_
  intro p en s m args below meth c s₁ B hml hv
  obtain ⟨rfl, hP, hK⟩ := hv
  have hx := B.exec
  have hb := B.bytes
  have hr := B.returns
  have hts := atoms_spec (ws := wsJ7_copyOfRangeByte_39247) B.pre
  have hz : ∀ w ∈ zW, w.before _ s = true := fun w h => hts w (List.mem_cons_of_mem _ h)
  have hown : s.vm.findClass RJ7 = some m.cls := findClass_of_methodNamed B.named
  have hlocks := B.notSynchronized
  obtain ⟨hB, hn0⟩ := id hP
  have hS : va_S (fun q => n0 ≤ q) s.heap s.heap [] := va_S.rf
  have hbl := hB.lt
  have hl := lv_entry ([.ref (bv), .int (nI (i)), .int (nI (j))]) (n := 5) (Nat.le_of_ble_eq_true rfl)
  rw [lg_entry_eq]
  generalize (lg_sl ([.ref (bv), .int (nI (i)), .int (nI (j))]) ++ List.replicate (5 - (lg_sl ([.ref (bv), .int (nI (i)), .int (nI (j))])).length) Slot.unset).toArray = ls at hl ⊢
  have hl : lv_has ls 5 [(0, .ref (bv)), (1, .int (nI (i))), (2, .int (nI (j)))] := hl
  refine lv_iload_n hx hb dJ7_copyOfRangeByte_39247_0 rfl (lv_at hl 1 rfl) ?_
  refine lv_iload_n hx hb dJ7_copyOfRangeByte_39247_1 rfl (lv_at hl 2 rfl) ?_
  refine zc_Sv (As := [.int (nI (i)), .int (nI (j))]) (rest := []) ⟨hx, hb, hml, hown, hts⟩ (j_ckl l G i j hij (by omega)) (cwS 2 hts (zgS wm_J7_343 wu_J7_checkLength_df160) rfl rfl rfl (by decide +kernel) ⟨Nat.le_of_ble_eq_true rfl, Nat.le_of_ble_eq_true rfl⟩) hK trivial rfl hl.1 rfl (Nat.le_of_ble_eq_true rfl) dJ7_copyOfRangeByte_39247_2 ⟨by show 0 ≤ 1; omega, by show 0 ≤ j - i; omega⟩ ?_
  refine lv_iload_n hx hb dJ7_copyOfRangeByte_39247_5 rfl (lv_at hl 2 rfl) ?_
  refine lv_iload_n hx hb dJ7_copyOfRangeByte_39247_6 rfl (lv_at hl 1 rfl) ?_
  refine zi_sub hx hb (by omega) dJ7_copyOfRangeByte_39247_7 ?_
  refine lv_istore_n (lv' := [(3, .int (nI (j - i))), (0, .ref (bv)), (1, .int (nI (i))), (2, .int (nI (j)))]) hx hb dJ7_copyOfRangeByte_39247_8 rfl hl (by decide) rfl (fun ls hl => ?_)
  refine lv_iload_n hx hb dJ7_copyOfRangeByte_39247_9 rfl (lv_at hl 0 rfl) ?_
  refine zx_newB hx hb (hz _ wAb) hK (by omega) (by show 0 + 1 ≤ 1; omega) (by show 0 + (j - i) ≤ j - i; omega) hS dJ7_copyOfRangeByte_39247_10 (fun b1 H he_b1 hz9 hA_b1 hk9 hS => ?_)
  have hB := hB.keep hk9 (by first | exact id | exact rfl | omega | (dsimp only; omega))
  refine lv_astore (lv' := [(4, .ref (b1)), (3, .int (nI (j - i))), (0, .ref (bv)), (1, .int (nI (i))), (2, .int (nI (j)))]) hx hb dJ7_copyOfRangeByte_39247_12 hl (by decide) rfl (fun ls hl => ?_)
  refine lv_aload_n hx hb dJ7_copyOfRangeByte_39247_14 rfl (lv_at hl 2 rfl) ?_
  refine lv_iload_n hx hb dJ7_copyOfRangeByte_39247_15 rfl (lv_at hl 3 rfl) ?_
  refine lv_aload hx hb dJ7_copyOfRangeByte_39247_16 (lv_at hl 0 rfl) ?_
  refine lv_iconst (v := nI 0) hx hb dJ7_copyOfRangeByte_39247_18 (by decide) ?_
  refine lv_aload_n hx hb dJ7_copyOfRangeByte_39247_19 rfl (lv_at hl 2 rfl) ?_
  refine zi_lenB hx hb hK hB dJ7_copyOfRangeByte_39247_20 ?_
  refine lv_iload_n hx hb dJ7_copyOfRangeByte_39247_21 rfl (lv_at hl 3 rfl) ?_
  refine zi_sub hx hb (by omega) dJ7_copyOfRangeByte_39247_22 ?_
  refine lv_iload_n hx hb dJ7_copyOfRangeByte_39247_23 rfl (lv_at hl 1 rfl) ?_
  refine va_mmin hx hb (hml.trans hl.1.symm) hown (hz _ wm_J7_304) (hz _ wt_J9_min_7cf53) (hz _ wi_J9) (hz _ wc_min) (by show 1 ≤ _; exact Nat.le_of_ble_eq_true rfl) (by show _ ≤ _; exact Nat.le_of_ble_eq_true rfl) (by show 0 + 1 ≤ 1; omega) (by show 0 + (j - i) ≤ j - i; omega) dJ7_copyOfRangeByte_39247_24 ?_
  rw [min_nI (by omega) (by omega)]
  refine zx_copyB (sp := i) (n := min (N - i) (j - i)) hx hb (hml.trans hl.1.symm) hown (hz _ wYl) (hz _ wYn) (hz _ wYs) (hz _ wi_J10) hK hB hA_b1 (by omega) (by omega) (by omega) (by omega) (by show 1 ≤ _; exact Nat.le_of_ble_eq_true rfl) (by show _ ≤ _; exact Nat.le_of_ble_eq_true rfl) (by first | omega | (dsimp only; omega)) hS dJ7_copyOfRangeByte_39247_27 (fun H locs hz9 hA_b1 hk9 hS => ?_)
  have hB := hB.keep hk9 (by first | exact id | exact rfl | omega | (dsimp only; omega))
  refine lv_aload hx hb dJ7_copyOfRangeByte_39247_30 (lv_at hl 0 rfl) ?_
  exact zx_a hx hb hr (by first | exact Or.inl ⟨_, rfl⟩ | exact Or.inr ⟨_, rfl⟩) hlocks (Or.inr ⟨_, rfl⟩) (by show 0 + 1 ≤ 1; omega) (by show 0 + (j - i) ≤ j - i; omega) (⟨b1, rfl, by omega, by omega, hA_b1.ext (fun q hq => if_pos (by omega))⟩) hS dJ7_copyOfRangeByte_39247_32

set_option maxHeartbeats 4000000 in
set_option maxRecDepth 100000 in
theorem j_cor (l : Launch) (G : zG) (n0 bv N i j : Nat) (t : Nat → Nat) (hij : i ≤ j) (hjN : j ≤ N) (hN : N < 2 ^ 20) (hno : i ≠ 0 ∨ j ≠ N) : Met l yJ7_copyOfRange_39247 wsJ7_copyOfRange_39247 ({ frames := 2, cells := 1, slots := j - i, locals := 84 }) (zP G [.ref (bv), .int (nI (i)), .int (nI (j))] (fun H => zB G H bv N t ∧ H.size = n0)) (zX (fun q => n0 ≤ q) (fun r9 H => ∃ b : Nat, r9 = some (.ref b) ∧ n0 ≤ b ∧ b < H.size ∧ zB G H b (j - i) (fun k => t (i + k)))) (1) (j - i) (fun q => n0 ≤ q) := by
  refine Met.ofW (cc := cJ7_copyOfRange_39247) (maxL := 3) (ret := (some (.array .byte))) (by decide) rfl ?_
  intro p en s m args below meth c s₁ B hml hv
  obtain ⟨rfl, hP, hK⟩ := hv
  have hx := B.exec
  have hb := B.bytes
  have hr := B.returns
  have hts := atoms_spec (ws := wsJ7_copyOfRange_39247) B.pre
  have hz : ∀ w ∈ zW, w.before _ s = true := fun w h => hts w (List.mem_cons_of_mem _ h)
  have hown : s.vm.findClass RJ7 = some m.cls := findClass_of_methodNamed B.named
  have hlocks := B.notSynchronized
  obtain ⟨hB, hn0⟩ := id hP
  have hS : va_S (fun q => n0 ≤ q) s.heap s.heap [] := va_S.rf
  have hl := lv_entry ([.ref (bv), .int (nI (i)), .int (nI (j))]) (n := 3) (Nat.le_of_ble_eq_true rfl)
  rw [lg_entry_eq]
  generalize (lg_sl ([.ref (bv), .int (nI (i)), .int (nI (j))]) ++ List.replicate (3 - (lg_sl ([.ref (bv), .int (nI (i)), .int (nI (j))])).length) Slot.unset).toArray = ls at hl ⊢
  have hl : lv_has ls 3 [(0, .ref (bv)), (1, .int (nI (i))), (2, .int (nI (j)))] := hl
  refine lv_iload_n hx hb dJ7_copyOfRange_39247_0 rfl (lv_at hl 1 rfl) ?_
  refine zi_if_ne (tgt := 10) hx hb dJ7_copyOfRange_39247_1 (by decide) (by omega) (fun c_1 => ?_) (fun c_1 => ?_)
  · refine lv_aload_n hx hb dJ7_copyOfRange_39247_10 rfl (lv_at hl 0 rfl) ?_
    refine lv_iload_n hx hb dJ7_copyOfRange_39247_11 rfl (lv_at hl 1 rfl) ?_
    refine lv_iload_n hx hb dJ7_copyOfRange_39247_12 rfl (lv_at hl 2 rfl) ?_
    refine zx_S (As := [.ref (bv), .int (nI (i)), .int (nI (j))]) (rest := []) ⟨hx, hb, hml, hown, hts⟩ (j_crb l G n0 bv N i j t hij hjN hN) (cwS 3 hts (zgS wm_J7_339 wu_J7_copyOfRangeByte_39247) rfl rfl rfl (by decide +kernel) ⟨Nat.le_of_ble_eq_true rfl, Nat.le_of_ble_eq_true rfl⟩) hK hP rfl hl.1 rfl (Nat.le_of_ble_eq_true rfl) dJ7_copyOfRange_39247_13 ⟨by show 0 + 1 ≤ 1; omega, by show 0 + (j - i) ≤ j - i; omega⟩ hS (by intro q hq; first | omega | (dsimp only at hq ⊢; omega)) (fun r9 H locs hPo hz9 hk9 hS => ?_)
    obtain ⟨b, rfl, hb1, hb2, hB2⟩ := hPo
    refine W.eq (g2 := F0 m 16 ls ([.ref (b)])) rfl ?_
    exact zx_a hx hb hr (by first | exact Or.inl ⟨_, rfl⟩ | exact Or.inr ⟨_, rfl⟩) hlocks (Or.inr ⟨_, rfl⟩) (by show 0 + 1 ≤ 1; omega) (by show 0 + (j - i) ≤ j - i; omega) (⟨b, rfl, by omega, by omega, hB2⟩) hS dJ7_copyOfRange_39247_16
  · refine lv_iload_n hx hb dJ7_copyOfRange_39247_4 rfl (lv_at hl 2 rfl) ?_
    refine lv_aload_n hx hb dJ7_copyOfRange_39247_5 rfl (lv_at hl 0 rfl) ?_
    refine zi_lenB hx hb hK hB dJ7_copyOfRange_39247_6 ?_
    refine zi_icmp_eq (tgt := 17) hx hb dJ7_copyOfRange_39247_7 (by decide) (by omega) (by omega) (fun c_7 => ?_) (fun c_7 => ?_)
    · exfalso; omega
    · refine lv_aload_n hx hb dJ7_copyOfRange_39247_10 rfl (lv_at hl 0 rfl) ?_
      refine lv_iload_n hx hb dJ7_copyOfRange_39247_11 rfl (lv_at hl 1 rfl) ?_
      refine lv_iload_n hx hb dJ7_copyOfRange_39247_12 rfl (lv_at hl 2 rfl) ?_
      refine zx_S (As := [.ref (bv), .int (nI (i)), .int (nI (j))]) (rest := []) ⟨hx, hb, hml, hown, hts⟩ (j_crb l G n0 bv N i j t hij hjN hN) (cwS 3 hts (zgS wm_J7_339 wu_J7_copyOfRangeByte_39247) rfl rfl rfl (by decide +kernel) ⟨Nat.le_of_ble_eq_true rfl, Nat.le_of_ble_eq_true rfl⟩) hK hP rfl hl.1 rfl (Nat.le_of_ble_eq_true rfl) dJ7_copyOfRange_39247_13 ⟨by show 0 + 1 ≤ 1; omega, by show 0 + (j - i) ≤ j - i; omega⟩ hS (by intro q hq; first | omega | (dsimp only at hq ⊢; omega)) (fun r9 H locs hPo hz9 hk9 hS => ?_)
      obtain ⟨b, rfl, hb1, hb2, hB2⟩ := hPo
      refine W.eq (g2 := F0 m 16 ls ([.ref (b)])) rfl ?_
      exact zx_a hx hb hr (by first | exact Or.inl ⟨_, rfl⟩ | exact Or.inr ⟨_, rfl⟩) hlocks (Or.inr ⟨_, rfl⟩) (by show 0 + 1 ≤ 1; omega) (by show 0 + (j - i) ≤ j - i; omega) (⟨b, rfl, by omega, by omega, hB2⟩) hS dJ7_copyOfRange_39247_16

set_option maxHeartbeats 4000000 in
set_option maxRecDepth 100000 in
theorem j_init2 (l : Launch) (G : zG) (th bv : Nat) : Met l yJ0_init_031fb wsJ0_init_031fb ({ frames := 1, cells := 0, slots := 0, locals := 21 }) (zP G [.ref (th), .ref (bv), .int (nI (0))] (fun H => zO G H th 0 [.null, .int (nI 0), .int (nI 0), .int (nI 0)])) (zX (fun q => q = th) (fun r9 H => r9 = none ∧ zO G H th 0 [.ref bv, .int (nI 0), .int (nI 0), .int (nI 0)])) (0) (0) (fun q => q = th) := by
  refine Met.ofW (cc := cJ0_init_031fb) (maxL := 3) (ret := none) (by decide) rfl ?_
  intro p en s m args below meth c s₁ B hml hv
  obtain ⟨rfl, hP, hK⟩ := hv
  have hx := B.exec
  have hb := B.bytes
  have hr := B.returns
  have hts := atoms_spec (ws := wsJ0_init_031fb) B.pre
  have hz : ∀ w ∈ zW, w.before _ s = true := fun w h => hts w (List.mem_cons_of_mem _ h)
  have hown : s.vm.findClass RJ0 = some m.cls := findClass_of_methodNamed B.named
  have hlocks := B.notSynchronized
  have hS : va_S (fun q => q = th) s.heap s.heap [] := va_S.rf
  have hl := lv_entry ([.ref (th), .ref (bv), .int (nI (0))]) (n := 3) (Nat.le_of_ble_eq_true rfl)
  rw [lg_entry_eq]
  generalize (lg_sl ([.ref (th), .ref (bv), .int (nI (0))]) ++ List.replicate (3 - (lg_sl ([.ref (th), .ref (bv), .int (nI (0))])).length) Slot.unset).toArray = ls at hl ⊢
  have hl : lv_has ls 3 [(0, .ref (th)), (1, .ref (bv)), (2, .int (nI (0)))] := hl
  refine lv_aload_n hx hb dJ0_init_031fb_0 rfl (lv_at hl 0 rfl) ?_
  refine W.objInit hx hb hown (hz _ wm_J0_1) (hz _ wOn) (hz _ wOc) rfl (hl.1.trans hml.symm) rfl dJ0_init_031fb_1 (by show 1 ≤ _; exact Nat.le_of_ble_eq_true rfl) (by show _ ≤ _; exact Nat.le_of_ble_eq_true rfl) ?_
  refine W.eq (g2 := F0 m 4 ls ([])) rfl ?_
  refine lv_aload_n hx hb dJ0_init_031fb_4 rfl (lv_at hl 0 rfl) ?_
  refine lv_aload_n hx hb dJ0_init_031fb_5 rfl (lv_at hl 1 rfl) ?_
  refine zx_put (C := RJ0) (T := TJ0) (N := 4) (v := .ref (bv)) hx hb hz wo_J0 tyJ0 tyJ0_ok nmJ0 hown hK hP rfl 0 (by decide) (hz _ wf_J0_9) (fun _ h9 => h9) (Or.inr ⟨rfl, (name_of_methodNamed B.named B.method).1, rfl⟩) rfl rfl (Nat.le_of_ble_eq_true rfl) (by first | exact rfl | omega | (dsimp only; omega)) hS dJ0_init_031fb_6 (fun H locs hz9 hP hk9 hS => ?_)
  have hP : zO G H (th) 0 [.ref (bv), .int (nI (0)), .int (nI (0)), .int (nI (0))] := hP
  refine lv_aload_n hx hb dJ0_init_031fb_9 rfl (lv_at hl 0 rfl) ?_
  refine lv_iload_n hx hb dJ0_init_031fb_10 rfl (lv_at hl 2 rfl) ?_
  refine zx_put (C := RJ0) (T := TJ0) (N := 4) (v := .int (nI (0))) hx hb hz wo_J0 tyJ0 tyJ0_ok nmJ0 hown hK hP rfl 1 (by decide) (hz _ wf_J0_15) (fun _ h9 => h9) (Or.inr ⟨rfl, (name_of_methodNamed B.named B.method).1, rfl⟩) rfl rfl (Nat.le_of_ble_eq_true rfl) (by first | exact rfl | omega | (dsimp only; omega)) hS dJ0_init_031fb_11 (fun H locs hz9 hP hk9 hS => ?_)
  have hP : zO G H (th) 0 [.ref (bv), .int (nI (0)), .int (nI (0)), .int (nI (0))] := hP
  exact zx_v hx hb hr hlocks (by show 0 ≤ 0; omega) (by show 0 ≤ 0; omega) (⟨rfl, hP⟩) hS dJ0_init_031fb_14

set_option maxHeartbeats 4000000 in
set_option maxRecDepth 100000 in
theorem j_newS (l : Launch) (G : zG) (n0 bv N i k : Nat) (w : List Nat) (hik : i + k ≤ N) (hwl : w.length = N) (hN : N < 2 ^ 20) (hno : i ≠ 0 ∨ i + k ≠ N) (h8 : ∀ q, w.getD q 0 < 256) : Met l yJ1_newString_b4f7a wsJ1_newString_b4f7a ({ frames := 3, cells := 2, slots := 4 + k, locals := 106 }) (zP G [.ref (bv), .int (nI (i)), .int (nI (k))] (fun H => zB G H bv N (fun q => w.getD q 0) ∧ CH G H ∧ H.size = n0)) (zX (fun q => n0 ≤ q) (fun r9 H => ∃ a1 : Nat, r9 = some (.ref a1) ∧ StrZ G H (zRg G n0 H.size) a1 (subL w i (i + k)))) (2) (4 + k) (fun q => n0 ≤ q) := by
  refine Met.ofW (cc := cJ1_newString_b4f7a) (maxL := 3) (ret := (some (.object "java/lang/String"))) (by decide) rfl ?_
  intro p en s m args below meth c s₁ B hml hv
  obtain ⟨rfl, hP, hK⟩ := hv
  have hx := B.exec
  have hb := B.bytes
  have hr := B.returns
  have hts := atoms_spec (ws := wsJ1_newString_b4f7a) B.pre
  have hz : ∀ w ∈ zW, w.before _ s = true := fun w h => hts w (List.mem_cons_of_mem _ h)
  have hown : s.vm.findClass RJ1 = some m.cls := findClass_of_methodNamed B.named
  have hlocks := B.notSynchronized
  obtain ⟨hB, hCH, hn0⟩ := id hP
  have hS : va_S (fun q => n0 ≤ q) s.heap s.heap [] := va_S.rf
  have hbl := hB.lt
  have hcb := hCH.2.2.2.2.2
  have hl := lv_entry ([.ref (bv), .int (nI (i)), .int (nI (k))]) (n := 3) (Nat.le_of_ble_eq_true rfl)
  rw [lg_entry_eq]
  generalize (lg_sl ([.ref (bv), .int (nI (i)), .int (nI (k))]) ++ List.replicate (3 - (lg_sl ([.ref (bv), .int (nI (i)), .int (nI (k))])).length) Slot.unset).toArray = ls at hl ⊢
  have hl : lv_has ls 3 [(0, .ref (bv)), (1, .int (nI (i))), (2, .int (nI (k)))] := hl
  refine lv_iload_n hx hb dJ1_newString_b4f7a_0 rfl (lv_at hl 2 rfl) ?_
  refine zi_if_ne (tgt := 7) hx hb dJ1_newString_b4f7a_1 (by decide) (by omega) (fun c_1 => ?_) (fun c_1 => ?_)
  · refine zx_new (C := RJ0) (T := TJ0) (N := 4) (ci := 0) (fs := [.null, .int (nI (0)), .int (nI (0)), .int (nI (0))]) hx hb hz wo_J0 tyJ0 tyJ0_ok hown (hz _ wl_J1_1) (hz _ wa_J0) (hz _ wi_J0) hK rfl df_J0 (by show 0 + 1 ≤ 2; omega) (by show 0 + 4 ≤ 4 + k; omega) hS dJ1_newString_b4f7a_7 (fun sa H he_sa hz9 hO_sa hk9 hS => ?_)
    have hB := hB.keep hk9 (by first | exact id | exact rfl | omega | (dsimp only; omega))
    have hCH := hCH.keep hk9 ⟨by intro q hq; first | exact id | omega | (dsimp only; omega), by omega⟩
    refine lv_dup hx hb dJ1_newString_b4f7a_10 rfl ?_
    refine lv_aload_n hx hb dJ1_newString_b4f7a_11 rfl (lv_at hl 0 rfl) ?_
    refine lv_iload_n hx hb dJ1_newString_b4f7a_12 rfl (lv_at hl 1 rfl) ?_
    refine lv_iload_n hx hb dJ1_newString_b4f7a_13 rfl (lv_at hl 1 rfl) ?_
    refine lv_iload_n hx hb dJ1_newString_b4f7a_14 rfl (lv_at hl 2 rfl) ?_
    refine zi_add hx hb dJ1_newString_b4f7a_15 ?_
    refine zx_S (As := [.ref (bv), .int (nI (i)), .int (nI (i + k))]) (rest := [.ref (sa), .ref (sa)]) ⟨hx, hb, hml, hown, hts⟩ (j_cor l G H.size bv N i (i + k) (fun q => w.getD q 0) (by omega) hik hN hno) (va_cwS 3 hts (zgX wm_J1_232 wu_J7_copyOfRange_39247) rfl rfl rfl (by decide +kernel) ⟨Nat.le_of_ble_eq_true rfl, Nat.le_of_ble_eq_true rfl⟩) hK ⟨hB, rfl⟩ rfl hl.1 rfl (Nat.le_of_ble_eq_true rfl) dJ1_newString_b4f7a_16 ⟨by show 0 + 1 + 1 ≤ 2; omega, by show 0 + 4 + (i + k - i) ≤ 4 + k; omega⟩ hS (by intro q hq; first | omega | (dsimp only at hq ⊢; omega)) (fun r9 H locs hPo hz9 hk9 hS => ?_)
    have hB := hB.keep hk9 (by first | exact id | exact rfl | omega | (dsimp only; omega))
    have hCH := hCH.keep hk9 ⟨by intro q hq; first | exact id | omega | (dsimp only; omega), by omega⟩
    have hO_sa := hO_sa.keep hk9 (by first | exact id | exact rfl | omega | (dsimp only; omega))
    obtain ⟨b, rfl, hb1, hb2, hB2⟩ := hPo
    refine W.eq (g2 := F0 m 19 ls ([.ref (b), .ref (sa), .ref (sa)])) rfl ?_
    refine lv_iconst (v := nI 0) hx hb dJ1_newString_b4f7a_19 (by decide) ?_
    refine zx_I (As := [.ref (b), .int (nI (0))]) (rest := [.ref (sa)]) (b := sa) ⟨hx, hb, hml, hown, hts⟩ (j_init2 l G sa b) (cwI 2 hts (zgN wc_J0_init_031fb) rfl rfl rfl (hz _ wi_J0) (hz _ wm_J1_112) (hz _ wn_J0_init_031fb) rfl (by decide +kernel) ⟨Nat.le_of_ble_eq_true rfl, Nat.le_of_ble_eq_true rfl⟩) hK hO_sa rfl hl.1 rfl (Nat.le_of_ble_eq_true rfl) dJ1_newString_b4f7a_20 ⟨by show 0 + 1 + 1 + 0 ≤ 2; omega, by show 0 + 4 + (i + k - i) + 0 ≤ 4 + k; omega⟩ hS (by intro q hq; first | omega | (dsimp only at hq ⊢; omega)) (fun r9 H locs hPo hz9 hk9 hS => ?_)
    have hB := hB.keep hk9 (by first | exact id | exact rfl | omega | (dsimp only; omega))
    have hCH := hCH.keep hk9 ⟨by intro q hq; first | exact id | omega | (dsimp only; omega), by omega⟩
    have hB2 := hB2.keep hk9 (by first | exact id | exact rfl | omega | (dsimp only; omega))
    obtain ⟨rfl, hO_sa⟩ := hPo
    refine W.eq (g2 := F0 m 23 ls ([.ref (sa)])) rfl ?_
    exact zx_a hx hb hr (by first | exact Or.inl ⟨_, rfl⟩ | exact Or.inr ⟨_, rfl⟩) hlocks (Or.inr ⟨_, rfl⟩) (by show 0 + 1 + 1 + 0 ≤ 2; omega) (by show 0 + 4 + (i + k - i) + 0 ≤ 4 + k; omega) (⟨sa, rfl, mkStr2 hO_sa hB2 (by rw [subL_len (by omega) (by omega)]) (fun q hq => by rw [subL_get hq]) (subL_lt h8) (by omega) (Or.inl ⟨by omega, by omega⟩) (Or.inl ⟨by omega, by omega⟩)⟩) hS dJ1_newString_b4f7a_23
  · refine va_ldcS hx hb hown (hK.2.2.1 ("java/lang/StringLatin1", 151, "") (by decide)) dJ1_newString_b4f7a_4 ?_
    exact zx_a hx hb hr (by first | exact Or.inl ⟨_, rfl⟩ | exact Or.inr ⟨_, rfl⟩) hlocks (Or.inr ⟨_, rfl⟩) (by show 0 ≤ 2; omega) (by show 0 ≤ 4 + k; omega) (⟨_, rfl, by rw [subL_nil (by omega)]; exact hCH.emp (fun q hq => Or.inr hq)⟩) hS dJ1_newString_b4f7a_6

set_option maxHeartbeats 4000000 in
set_option maxRecDepth 100000 in
theorem j_substr (l : Launch) (G : zG) (n0 a i j : Nat) (w : List Nat) (Z : Nat → Prop) (hij : i ≤ j) (hjN : j ≤ w.length) (hN : w.length < 2 ^ 20) : Met l yJ0_substring_37a41 wsJ0_substring_37a41 ({ frames := 4, cells := 2, slots := 4 + (j - i), locals := 128 }) (zP G [.ref (a), .int (nI (i)), .int (nI (j))] (fun H => StrZ G H Z a w ∧ CH G H ∧ H.size = n0)) (zX (fun q => n0 ≤ q) (fun r9 H => ∃ a1 : Nat, r9 = some (.ref a1) ∧ StrZ G H (fun q => Z q ∨ zRg G n0 H.size q) a1 (subL w i j))) (2) (4 + (j - i)) (fun q => n0 ≤ q) := by
  refine Met.ofW (cc := cJ0_substring_37a41) (maxL := 5) (ret := (some (.object "java/lang/String"))) (by decide) rfl ?_
  intro p en s m args below meth c s₁ B hml hv
  obtain ⟨rfl, hP, hK⟩ := hv
  have hx := B.exec
  have hb := B.bytes
  have hr := B.returns
  have hts := atoms_spec (ws := wsJ0_substring_37a41) B.pre
  have hz : ∀ w ∈ zW, w.before _ s = true := fun w h => hts w (List.mem_cons_of_mem _ h)
  have hown : s.vm.findClass RJ0 = some m.cls := findClass_of_methodNamed B.named
  have hlocks := B.notSynchronized
  obtain ⟨hSt, hCH, hn0⟩ := id hP
  have hS : va_S (fun q => n0 ≤ q) s.heap s.heap [] := va_S.rf
  obtain ⟨v, hs, hz9, -, -, hSa⟩ := id hSt
  obtain ⟨x9, hI⟩ := hCH.2.1
  have hw8 : ∀ i, w.getD i 0 < 256 := hSa.2.2.1
  have hl := lv_entry ([.ref (a), .int (nI (i)), .int (nI (j))]) (n := 5) (Nat.le_of_ble_eq_true rfl)
  rw [lg_entry_eq]
  generalize (lg_sl ([.ref (a), .int (nI (i)), .int (nI (j))]) ++ List.replicate (5 - (lg_sl ([.ref (a), .int (nI (i)), .int (nI (j))])).length) Slot.unset).toArray = ls at hl ⊢
  have hl : lv_has ls 5 [(0, .ref (a)), (1, .int (nI (i))), (2, .int (nI (j)))] := hl
  refine lv_aload_n hx hb dJ0_substring_37a41_0 rfl (lv_at hl 0 rfl) ?_
  refine zc_Vw (As := []) (rest := []) ⟨hx, hb, hml, hown, hts⟩ (j_length l G a v w.length (fun i => w.getD i 0) hs hz9) (cwV 0 hts (zgV wm_J0_505 wv_J0_length_8abf5) rfl rfl rfl (by decide +kernel) ⟨Nat.le_of_ble_eq_true rfl, Nat.le_of_ble_eq_true rfl⟩) hK hSa.1 rfl ⟨hSa, hCH.1⟩ rfl hl.1 rfl (Nat.le_of_ble_eq_true rfl) dJ0_substring_37a41_1 ⟨by show 0 ≤ 2; omega, by show 0 ≤ 4 + (j - i); omega⟩ ?_
  refine lv_istore_n (lv' := [(3, .int (nI (w.length))), (0, .ref (a)), (1, .int (nI (i))), (2, .int (nI (j)))]) hx hb dJ0_substring_37a41_4 rfl hl (by decide) rfl (fun ls hl => ?_)
  refine lv_iload_n hx hb dJ0_substring_37a41_5 rfl (lv_at hl 2 rfl) ?_
  refine lv_iload_n hx hb dJ0_substring_37a41_6 rfl (lv_at hl 3 rfl) ?_
  refine lv_iload_n hx hb dJ0_substring_37a41_7 rfl (lv_at hl 0 rfl) ?_
  refine zc_Sv (As := [.int (nI (i)), .int (nI (j)), .int (nI (w.length))]) (rest := []) ⟨hx, hb, hml, hown, hts⟩ (j_cbe l G i j w.length x9 hij hjN (by omega)) (cwS 3 hts (zgS wm_J0_521 wu_J0_checkBoundsBeginEnd_23922) rfl rfl rfl (by decide +kernel) ⟨Nat.le_of_ble_eq_true rfl, Nat.le_of_ble_eq_true rfl⟩) hK hI rfl hl.1 rfl (Nat.le_of_ble_eq_true rfl) dJ0_substring_37a41_8 ⟨by show 0 ≤ 2; omega, by show 0 ≤ 4 + (j - i); omega⟩ ?_
  refine lv_iload_n hx hb dJ0_substring_37a41_11 rfl (lv_at hl 2 rfl) ?_
  refine zi_if_ne (tgt := 22) hx hb dJ0_substring_37a41_12 (by decide) (by omega) (fun c_12 => ?_) (fun c_12 => ?_)
  · refine lv_iload_n hx hb dJ0_substring_37a41_22 rfl (lv_at hl 3 rfl) ?_
    refine lv_iload_n hx hb dJ0_substring_37a41_23 rfl (lv_at hl 2 rfl) ?_
    refine zi_sub hx hb (by omega) dJ0_substring_37a41_24 ?_
    refine lv_istore (lv' := [(4, .int (nI (j - i))), (3, .int (nI (w.length))), (0, .ref (a)), (1, .int (nI (i))), (2, .int (nI (j)))]) hx hb dJ0_substring_37a41_25 hl (by decide) rfl (fun ls hl => ?_)
    refine lv_aload_n hx hb dJ0_substring_37a41_27 rfl (lv_at hl 2 rfl) ?_
    refine zc_Vw (As := []) (rest := []) ⟨hx, hb, hml, hown, hts⟩ (j_isLatin1 l G a v w.length (fun i => w.getD i 0) hs hz9) (cwV 0 hts (zgV wm_J0_492 wv_J0_isLatin1_aae02) rfl rfl rfl (by decide +kernel) ⟨Nat.le_of_ble_eq_true rfl, Nat.le_of_ble_eq_true rfl⟩) hK hSa.1 rfl ⟨hSa, hCH.1⟩ rfl hl.1 rfl (Nat.le_of_ble_eq_true rfl) dJ0_substring_37a41_28 ⟨by show 0 ≤ 2; omega, by show 0 ≤ 4 + (j - i); omega⟩ ?_
    refine zb_if_eq (tgt := 47) hx hb dJ0_substring_37a41_31 (by decide) (fun c_31 => ?_) (fun c_31 => ?_)
    · exact absurd c_31 (by decide)
    · refine lv_aload_n hx hb dJ0_substring_37a41_34 rfl (lv_at hl 2 rfl) ?_
      refine zi_getw (C := RJ0) (T := TJ0) (N := 4) (v := .ref (v)) hx hb hz wo_J0 hown hK hSa.1 rfl 0 (by decide) (hz _ wf_J0_9) (fun _ h9 => h9) rfl dJ0_substring_37a41_35 ?_
      refine lv_iload_n hx hb dJ0_substring_37a41_38 rfl (lv_at hl 3 rfl) ?_
      refine lv_iload hx hb dJ0_substring_37a41_39 (lv_at hl 0 rfl) ?_
      refine zx_S (As := [.ref (v), .int (nI (i)), .int (nI (j - i))]) (rest := []) ⟨hx, hb, hml, hown, hts⟩ (j_newS l G n0 v w.length i (j - i) w (by omega) rfl hN (by omega) hw8) (va_cwS 3 hts (zgX wm_J0_685 wu_J1_newString_b4f7a) rfl rfl rfl (by decide +kernel) ⟨Nat.le_of_ble_eq_true rfl, Nat.le_of_ble_eq_true rfl⟩) hK ⟨hSa.2.1, hCH, hn0⟩ rfl hl.1 rfl (Nat.le_of_ble_eq_true rfl) dJ0_substring_37a41_41 ⟨by show 0 + 2 ≤ 2; omega, by show 0 + (4 + (j - i)) ≤ 4 + (j - i); omega⟩ hS (by intro q hq; first | omega | (dsimp only at hq ⊢; omega)) (fun r9 H locs hPo hz9 hk9 hS => ?_)
      obtain ⟨a1, rfl, hZ⟩ := hPo
      refine W.eq (g2 := F0 m 44 ls ([.ref (a1)])) rfl ?_
      refine lv_goto (tgt := 57) hx hb dJ0_substring_37a41_44 (by decide) ?_
      exact zx_a hx hb hr (by first | exact Or.inl ⟨_, rfl⟩ | exact Or.inr ⟨_, rfl⟩) hlocks (Or.inr ⟨_, rfl⟩) (by show 0 + 2 ≤ 2; omega) (by show 0 + (4 + (j - i)) ≤ 4 + (j - i); omega) (⟨a1, rfl, by rw [show i + (j - i) = j by omega] at hZ; exact hZ.mono (fun q hq => Or.inr hq)⟩) hS dJ0_substring_37a41_57
  · refine lv_iload_n hx hb dJ0_substring_37a41_15 rfl (lv_at hl 3 rfl) ?_
    refine lv_iload_n hx hb dJ0_substring_37a41_16 rfl (lv_at hl 0 rfl) ?_
    refine zi_icmp_ne (tgt := 22) hx hb dJ0_substring_37a41_17 (by decide) (by omega) (by omega) (fun c_17 => ?_) (fun c_17 => ?_)
    · refine lv_iload_n hx hb dJ0_substring_37a41_22 rfl (lv_at hl 3 rfl) ?_
      refine lv_iload_n hx hb dJ0_substring_37a41_23 rfl (lv_at hl 2 rfl) ?_
      refine zi_sub hx hb (by omega) dJ0_substring_37a41_24 ?_
      refine lv_istore (lv' := [(4, .int (nI (j - i))), (3, .int (nI (w.length))), (0, .ref (a)), (1, .int (nI (i))), (2, .int (nI (j)))]) hx hb dJ0_substring_37a41_25 hl (by decide) rfl (fun ls hl => ?_)
      refine lv_aload_n hx hb dJ0_substring_37a41_27 rfl (lv_at hl 2 rfl) ?_
      refine zc_Vw (As := []) (rest := []) ⟨hx, hb, hml, hown, hts⟩ (j_isLatin1 l G a v w.length (fun i => w.getD i 0) hs hz9) (cwV 0 hts (zgV wm_J0_492 wv_J0_isLatin1_aae02) rfl rfl rfl (by decide +kernel) ⟨Nat.le_of_ble_eq_true rfl, Nat.le_of_ble_eq_true rfl⟩) hK hSa.1 rfl ⟨hSa, hCH.1⟩ rfl hl.1 rfl (Nat.le_of_ble_eq_true rfl) dJ0_substring_37a41_28 ⟨by show 0 ≤ 2; omega, by show 0 ≤ 4 + (j - i); omega⟩ ?_
      refine zb_if_eq (tgt := 47) hx hb dJ0_substring_37a41_31 (by decide) (fun c_31 => ?_) (fun c_31 => ?_)
      · exact absurd c_31 (by decide)
      · refine lv_aload_n hx hb dJ0_substring_37a41_34 rfl (lv_at hl 2 rfl) ?_
        refine zi_getw (C := RJ0) (T := TJ0) (N := 4) (v := .ref (v)) hx hb hz wo_J0 hown hK hSa.1 rfl 0 (by decide) (hz _ wf_J0_9) (fun _ h9 => h9) rfl dJ0_substring_37a41_35 ?_
        refine lv_iload_n hx hb dJ0_substring_37a41_38 rfl (lv_at hl 3 rfl) ?_
        refine lv_iload hx hb dJ0_substring_37a41_39 (lv_at hl 0 rfl) ?_
        refine zx_S (As := [.ref (v), .int (nI (i)), .int (nI (j - i))]) (rest := []) ⟨hx, hb, hml, hown, hts⟩ (j_newS l G n0 v w.length i (j - i) w (by omega) rfl hN (by omega) hw8) (va_cwS 3 hts (zgX wm_J0_685 wu_J1_newString_b4f7a) rfl rfl rfl (by decide +kernel) ⟨Nat.le_of_ble_eq_true rfl, Nat.le_of_ble_eq_true rfl⟩) hK ⟨hSa.2.1, hCH, hn0⟩ rfl hl.1 rfl (Nat.le_of_ble_eq_true rfl) dJ0_substring_37a41_41 ⟨by show 0 + 2 ≤ 2; omega, by show 0 + (4 + (j - i)) ≤ 4 + (j - i); omega⟩ hS (by intro q hq; first | omega | (dsimp only at hq ⊢; omega)) (fun r9 H locs hPo hz9 hk9 hS => ?_)
        obtain ⟨a1, rfl, hZ⟩ := hPo
        refine W.eq (g2 := F0 m 44 ls ([.ref (a1)])) rfl ?_
        refine lv_goto (tgt := 57) hx hb dJ0_substring_37a41_44 (by decide) ?_
        exact zx_a hx hb hr (by first | exact Or.inl ⟨_, rfl⟩ | exact Or.inr ⟨_, rfl⟩) hlocks (Or.inr ⟨_, rfl⟩) (by show 0 + 2 ≤ 2; omega) (by show 0 + (4 + (j - i)) ≤ 4 + (j - i); omega) (⟨a1, rfl, by rw [show i + (j - i) = j by omega] at hZ; exact hZ.mono (fun q hq => Or.inr hq)⟩) hS dJ0_substring_37a41_57
    · refine lv_aload_n hx hb dJ0_substring_37a41_20 rfl (lv_at hl 1 rfl) ?_
      exact zx_a hx hb hr (by first | exact Or.inl ⟨_, rfl⟩ | exact Or.inr ⟨_, rfl⟩) hlocks (Or.inr ⟨_, rfl⟩) (by show 0 ≤ 2; omega) (by show 0 ≤ 4 + (j - i); omega) (⟨a, rfl, by rw [c_12, c_17, subL_all]; exact hSt.mono (fun q hq => Or.inl hq)⟩) hS dJ0_substring_37a41_21
