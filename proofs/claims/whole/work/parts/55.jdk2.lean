set_option maxHeartbeats 4000000 in
set_option maxRecDepth 100000 in
theorem j_pcheck_n (l : Launch) (G : zG)  (i k b9 : Nat) (hik : i < k) (hk9 : k < 2 ^ 31) : Met l yJ3_checkIndex_8e157 wsJ3_checkIndex_8e157 ({ frames := 0, cells := 0, slots := 0, locals := 0 }) (zP G [.int (nI (i)), .int (nI (k)), .null] (fun H => True)) (zR (.int (nI i))) 0 0 (fun _ => False) := by
  refine Met.ofW (cc := cJ3_checkIndex_8e157) (maxL := 3) (ret := (some .int)) (by decide) rfl ?_
  intro p en s m args below meth c s₁ B hml hv
  obtain ⟨rfl, hP, hK⟩ := hv
  have hx := B.exec
  have hb := B.bytes
  have hr := B.returns
  have hts := atoms_spec (ws := wsJ3_checkIndex_8e157) B.pre
  have hz : ∀ w ∈ zW, w.before _ s = true := fun w h => hts w (List.mem_cons_of_mem _ h)
  have hown : s.vm.findClass RJ3 = some m.cls := findClass_of_methodNamed B.named
  have hlocks := B.notSynchronized
  have hl := lv_entry ([.int (nI (i)), .int (nI (k)), .null]) (n := 3) (Nat.le_of_ble_eq_true rfl)
  rw [lg_entry_eq]
  generalize (lg_sl ([.int (nI (i)), .int (nI (k)), .null]) ++ List.replicate (3 - (lg_sl ([.int (nI (i)), .int (nI (k)), .null])).length) Slot.unset).toArray = ls at hl ⊢
  have hl : lv_has ls 3 [(0, .int (nI (i))), (1, .int (nI (k))), (2, .null)] := hl
  refine lv_iload_n hx hb dJ3_checkIndex_8e157_0 rfl (lv_at hl 0 rfl) ?_
  refine zi_if_lt (tgt := 9) hx hb dJ3_checkIndex_8e157_1 (by decide) (by omega) ?_
  refine lv_iload_n hx hb dJ3_checkIndex_8e157_4 rfl (lv_at hl 0 rfl) ?_
  refine lv_iload_n hx hb dJ3_checkIndex_8e157_5 rfl (lv_at hl 1 rfl) ?_
  refine zi_icmp_lt (tgt := 16) hx hb dJ3_checkIndex_8e157_6 (by decide) (by omega) (by omega) (fun c_6 => ?_) (fun c_6 => ?_)
  · refine lv_iload_n hx hb dJ3_checkIndex_8e157_16 rfl (lv_at hl 0 rfl) ?_
    exact zr_i hx hb hr hlocks (rfl) dJ3_checkIndex_8e157_17
  · exfalso; omega

set_option maxHeartbeats 4000000 in
set_option maxRecDepth 100000 in
theorem j_pcheck_r (l : Launch) (G : zG)  (i k b9 : Nat) (hik : i < k) (hk9 : k < 2 ^ 31) : Met l yJ3_checkIndex_8e157 wsJ3_checkIndex_8e157 ({ frames := 0, cells := 0, slots := 0, locals := 0 }) (zP G [.int (nI (i)), .int (nI (k)), .ref (b9)] (fun H => True)) (zR (.int (nI i))) 0 0 (fun _ => False) := by
  refine Met.ofW (cc := cJ3_checkIndex_8e157) (maxL := 3) (ret := (some .int)) (by decide) rfl ?_
  intro p en s m args below meth c s₁ B hml hv
  obtain ⟨rfl, hP, hK⟩ := hv
  have hx := B.exec
  have hb := B.bytes
  have hr := B.returns
  have hts := atoms_spec (ws := wsJ3_checkIndex_8e157) B.pre
  have hz : ∀ w ∈ zW, w.before _ s = true := fun w h => hts w (List.mem_cons_of_mem _ h)
  have hown : s.vm.findClass RJ3 = some m.cls := findClass_of_methodNamed B.named
  have hlocks := B.notSynchronized
  have hl := lv_entry ([.int (nI (i)), .int (nI (k)), .ref (b9)]) (n := 3) (Nat.le_of_ble_eq_true rfl)
  rw [lg_entry_eq]
  generalize (lg_sl ([.int (nI (i)), .int (nI (k)), .ref (b9)]) ++ List.replicate (3 - (lg_sl ([.int (nI (i)), .int (nI (k)), .ref (b9)])).length) Slot.unset).toArray = ls at hl ⊢
  have hl : lv_has ls 3 [(0, .int (nI (i))), (1, .int (nI (k))), (2, .ref (b9))] := hl
  refine lv_iload_n hx hb dJ3_checkIndex_8e157_0 rfl (lv_at hl 0 rfl) ?_
  refine zi_if_lt (tgt := 9) hx hb dJ3_checkIndex_8e157_1 (by decide) (by omega) ?_
  refine lv_iload_n hx hb dJ3_checkIndex_8e157_4 rfl (lv_at hl 0 rfl) ?_
  refine lv_iload_n hx hb dJ3_checkIndex_8e157_5 rfl (lv_at hl 1 rfl) ?_
  refine zi_icmp_lt (tgt := 16) hx hb dJ3_checkIndex_8e157_6 (by decide) (by omega) (by omega) (fun c_6 => ?_) (fun c_6 => ?_)
  · refine lv_iload_n hx hb dJ3_checkIndex_8e157_16 rfl (lv_at hl 0 rfl) ?_
    exact zr_i hx hb hr hlocks (rfl) dJ3_checkIndex_8e157_17
  · exfalso; omega

theorem j_pcheck (l : Launch) (G : zG) (i k : Nat) (x9 : Option Nat) (hik : i < k) (hk9 : k < 2 ^ 31) : Met l yJ3_checkIndex_8e157 wsJ3_checkIndex_8e157 ({ frames := 0, cells := 0, slots := 0, locals := 0 }) (zP G [.int (nI (i)), .int (nI (k)), va_rf x9] (fun H => True)) (zR (.int (nI i))) 0 0 (fun _ => False) := by
  cases x9 with
  | none => exact j_pcheck_n l G i k 0 hik hk9
  | some b => exact j_pcheck_r l G i k b hik hk9

set_option maxHeartbeats 4000000 in
set_option maxRecDepth 100000 in
theorem j_check (l : Launch) (G : zG)  (i k : Nat) (x9 : Option Nat) (hik : i < k) (hk9 : k < 2 ^ 31) : Met l yJ0_checkIndex_df160 wsJ0_checkIndex_df160 ({ frames := 1, cells := 0, slots := 0, locals := 22 }) (zP G [.int (nI (i)), .int (nI (k))] (fun H => zSh G qSI (va_rf x9) H)) zRv 0 0 (fun _ => False) := by
  refine Met.ofW (cc := cJ0_checkIndex_df160) (maxL := 2) (ret := none) (by decide) rfl ?_
  intro p en s m args below meth c s₁ B hml hv
  obtain ⟨rfl, hP, hK⟩ := hv
  have hx := B.exec
  have hb := B.bytes
  have hr := B.returns
  have hts := atoms_spec (ws := wsJ0_checkIndex_df160) B.pre
  have hz : ∀ w ∈ zW, w.before _ s = true := fun w h => hts w (List.mem_cons_of_mem _ h)
  have hown : s.vm.findClass RJ0 = some m.cls := findClass_of_methodNamed B.named
  have hlocks := B.notSynchronized
  have hl := lv_entry ([.int (nI (i)), .int (nI (k))]) (n := 2) (Nat.le_of_ble_eq_true rfl)
  rw [lg_entry_eq]
  generalize (lg_sl ([.int (nI (i)), .int (nI (k))]) ++ List.replicate (2 - (lg_sl ([.int (nI (i)), .int (nI (k))])).length) Slot.unset).toArray = ls at hl ⊢
  have hl : lv_has ls 2 [(0, .int (nI (i))), (1, .int (nI (k)))] := hl
  refine lv_iload_n hx hb dJ0_checkIndex_df160_0 rfl (lv_at hl 0 rfl) ?_
  refine lv_iload_n hx hb dJ0_checkIndex_df160_1 rfl (lv_at hl 1 rfl) ?_
  refine zi_gets (q := qSI) hx hb hK (by decide) hP hown (hz _ wf_J0_1053) dJ0_checkIndex_df160_2 ?_
  refine zc_S (As := [.int (nI (i)), .int (nI (k)), va_rf (x9)]) (rest := []) ⟨hx, hb, hml, hown, hts⟩ (j_pcheck l G i k x9 hik hk9) (va_cwS 3 hts (zgX wm_J0_1059 wu_J3_checkIndex_8e157) rfl rfl rfl (by decide +kernel) ⟨Nat.le_of_ble_eq_true rfl, Nat.le_of_ble_eq_true rfl⟩) hK trivial rfl hl.1 rfl (Nat.le_of_ble_eq_true rfl) dJ0_checkIndex_df160_5 ⟨Nat.zero_le _, Nat.zero_le _⟩ ?_
  refine lv_pop hx hb dJ0_checkIndex_df160_8 rfl ?_
  exact zr_vo hx hb hr hlocks dJ0_checkIndex_df160_9

set_option maxHeartbeats 4000000 in
set_option maxRecDepth 100000 in
theorem j_lcharAt (l : Launch) (G : zG)  (v k i : Nat) (t : Nat → Nat) (x9 : Option Nat) (hik : i < k) : Met l yJ1_charAt_3b067 wsJ1_charAt_3b067 ({ frames := 2, cells := 0, slots := 0, locals := 43 }) (zP G [.ref (v), .int (nI (i))] (fun H => zB G H v k t ∧ (∀ i, t i < 256) ∧ k < 2 ^ 31 ∧ zSh G qSI (va_rf x9) H)) (zR (.int (nI (t i)))) 0 0 (fun _ => False) := by
  refine Met.ofW (cc := cJ1_charAt_3b067) (maxL := 2) (ret := (some .char)) (by decide) rfl ?_
  intro p en s m args below meth c s₁ B hml hv
  obtain ⟨rfl, hP, hK⟩ := hv
  have hx := B.exec
  have hb := B.bytes
  have hr := B.returns
  have hts := atoms_spec (ws := wsJ1_charAt_3b067) B.pre
  have hz : ∀ w ∈ zW, w.before _ s = true := fun w h => hts w (List.mem_cons_of_mem _ h)
  have hown : s.vm.findClass RJ1 = some m.cls := findClass_of_methodNamed B.named
  have hlocks := B.notSynchronized
  obtain ⟨hA, h8, hkl, hI⟩ := id hP
  have hl := lv_entry ([.ref (v), .int (nI (i))]) (n := 2) (Nat.le_of_ble_eq_true rfl)
  rw [lg_entry_eq]
  generalize (lg_sl ([.ref (v), .int (nI (i))]) ++ List.replicate (2 - (lg_sl ([.ref (v), .int (nI (i))])).length) Slot.unset).toArray = ls at hl ⊢
  have hl : lv_has ls 2 [(0, .ref (v)), (1, .int (nI (i)))] := hl
  refine lv_iload_n hx hb dJ1_charAt_3b067_0 rfl (lv_at hl 1 rfl) ?_
  refine lv_aload_n hx hb dJ1_charAt_3b067_1 rfl (lv_at hl 0 rfl) ?_
  refine zi_lenB hx hb hK hA dJ1_charAt_3b067_2 ?_
  refine zc_Sv (As := [.int (nI (i)), .int (nI (k))]) (rest := []) ⟨hx, hb, hml, hown, hts⟩ (j_check l G i k x9 hik hkl) (va_cwS 2 hts (zgX wm_J1_9 wu_J0_checkIndex_df160) rfl rfl rfl (by decide +kernel) ⟨Nat.le_of_ble_eq_true rfl, Nat.le_of_ble_eq_true rfl⟩) hK hI rfl hl.1 rfl (Nat.le_of_ble_eq_true rfl) dJ1_charAt_3b067_3 ⟨Nat.zero_le _, Nat.zero_le _⟩ ?_
  refine lv_aload_n hx hb dJ1_charAt_3b067_6 rfl (lv_at hl 0 rfl) ?_
  refine lv_iload_n hx hb dJ1_charAt_3b067_7 rfl (lv_at hl 1 rfl) ?_
  refine zi_bald hx hb hK hA hik hkl dJ1_charAt_3b067_8 ?_
  refine lv_sipush (v := nI 255) hx hb dJ1_charAt_3b067_9 (by decide) ?_
  refine lv_iand hx hb dJ1_charAt_3b067_12 ?_
  rw [show sb_b (t i) &&& nI 255 = nI (t i) from (sb_byte _ (h8 i)).1]
  refine W.eq (g2 := F0 m 13 ls ([.int (nI (t i))])) rfl ?_
  refine lv_i2c (v := nI (t i)) hx hb dJ1_charAt_3b067_13 (z_i2c (h8 i)) ?_
  exact zr_t hx hb hr hlocks (z_chr (h8 i)) (rfl) dJ1_charAt_3b067_14

set_option maxHeartbeats 4000000 in
set_option maxRecDepth 100000 in
theorem j_charAt (l : Launch) (G : zG) (a v k : Nat) (t : Nat → Nat) (hs hz9 : Value) (x9 : Option Nat) (i : Nat) (hik : i < k) : Met l yJ0_charAt_5068e wsJ0_charAt_5068e ({ frames := 3, cells := 0, slots := 0, locals := 64 }) (zP G [.ref (a), .int (nI (i))] (fun H => zS G a v k t hs hz9 H ∧ zSh G qCS (.int (nI 1)) H ∧ zSh G qSI (va_rf x9) H)) (zR (.int (nI (t i)))) 0 0 (fun _ => False) := by
  refine Met.ofW (cc := cJ0_charAt_5068e) (maxL := 2) (ret := (some .char)) (by decide) rfl ?_
  intro p en s m args below meth c s₁ B hml hv
  obtain ⟨rfl, hP, hK⟩ := hv
  have hx := B.exec
  have hb := B.bytes
  have hr := B.returns
  have hts := atoms_spec (ws := wsJ0_charAt_5068e) B.pre
  have hz : ∀ w ∈ zW, w.before _ s = true := fun w h => hts w (List.mem_cons_of_mem _ h)
  have hown : s.vm.findClass RJ0 = some m.cls := findClass_of_methodNamed B.named
  have hlocks := B.notSynchronized
  obtain ⟨⟨hO, hA, h8, hkl⟩, hC, hI⟩ := id hP
  have hl := lv_entry ([.ref (a), .int (nI (i))]) (n := 2) (Nat.le_of_ble_eq_true rfl)
  rw [lg_entry_eq]
  generalize (lg_sl ([.ref (a), .int (nI (i))]) ++ List.replicate (2 - (lg_sl ([.ref (a), .int (nI (i))])).length) Slot.unset).toArray = ls at hl ⊢
  have hl : lv_has ls 2 [(0, .ref (a)), (1, .int (nI (i)))] := hl
  refine lv_aload_n hx hb dJ0_charAt_5068e_0 rfl (lv_at hl 0 rfl) ?_
  refine zc_Vw (As := []) (rest := []) ⟨hx, hb, hml, hown, hts⟩ (j_isLatin1 l G a v k t hs hz9) (cwV 0 hts (zgV wm_J0_492 wv_J0_isLatin1_aae02) rfl rfl rfl (by decide +kernel) ⟨Nat.le_of_ble_eq_true rfl, Nat.le_of_ble_eq_true rfl⟩) hK hO rfl ⟨hP.1, hP.2.1⟩ rfl hl.1 rfl (Nat.le_of_ble_eq_true rfl) dJ0_charAt_5068e_1 ⟨Nat.zero_le _, Nat.zero_le _⟩ ?_
  refine zb_if_eq (tgt := 16) hx hb dJ0_charAt_5068e_4 (by decide) (fun c_4 => ?_) (fun c_4 => ?_)
  · exact absurd c_4 (by decide)
  · refine lv_aload_n hx hb dJ0_charAt_5068e_7 rfl (lv_at hl 0 rfl) ?_
    refine zi_getw (C := RJ0) (T := TJ0) (N := 4) (v := .ref (v)) hx hb hz wo_J0 hown hK hO rfl 0 (by decide) (hz _ wf_J0_9) (fun _ h9 => h9) rfl dJ0_charAt_5068e_8 ?_
    refine lv_iload_n hx hb dJ0_charAt_5068e_11 rfl (lv_at hl 1 rfl) ?_
    refine zc_S (As := [.ref (v), .int (nI (i))]) (rest := []) ⟨hx, hb, hml, hown, hts⟩ (j_lcharAt l G v k i t x9 hik) (va_cwS 2 hts (zgX wm_J0_495 wu_J1_charAt_3b067) rfl rfl rfl (by decide +kernel) ⟨Nat.le_of_ble_eq_true rfl, Nat.le_of_ble_eq_true rfl⟩) hK ⟨hA, h8, hkl, hI⟩ rfl hl.1 rfl (Nat.le_of_ble_eq_true rfl) dJ0_charAt_5068e_12 ⟨Nat.zero_le _, Nat.zero_le _⟩ ?_
    exact zr_t hx hb hr hlocks (z_chr (h8 i)) (rfl) dJ0_charAt_5068e_15

set_option maxHeartbeats 4000000 in
set_option maxRecDepth 100000 in
theorem j_lequals (l : Launch) (G : zG)  (v v2 : Nat) (w u : List Nat) : Met l yJ1_equals_b5fdf wsJ1_equals_b5fdf ({ frames := 0, cells := 0, slots := 0, locals := 0 }) (zP G [.ref (v), .ref (v2)] (fun H => zB G H v w.length (fun i => w.getD i 0) ∧ zB G H v2 u.length (fun i => u.getD i 0) ∧ (∀ i, w.getD i 0 < 256) ∧ (∀ i, u.getD i 0 < 256) ∧ w.length < 2 ^ 31 ∧ u.length < 2 ^ 31)) (zR (.int (nI (nB (decide (w = u)))))) 0 0 (fun _ => False) := by
  refine Met.ofW (cc := cJ1_equals_b5fdf) (maxL := 3) (ret := (some .boolean)) (by decide) rfl ?_
  intro p en s m args below meth c s₁ B hml hv
  obtain ⟨rfl, hP, hK⟩ := hv
  have hx := B.exec
  have hb := B.bytes
  have hr := B.returns
  have hts := atoms_spec (ws := wsJ1_equals_b5fdf) B.pre
  have hz : ∀ w ∈ zW, w.before _ s = true := fun w h => hts w (List.mem_cons_of_mem _ h)
  have hown : s.vm.findClass RJ1 = some m.cls := findClass_of_methodNamed B.named
  have hlocks := B.notSynchronized
  obtain ⟨hA, hA2, h8, h82, hkl, hkl2⟩ := id hP
  have hl := lv_entry ([.ref (v), .ref (v2)]) (n := 3) (Nat.le_of_ble_eq_true rfl)
  rw [lg_entry_eq]
  generalize (lg_sl ([.ref (v), .ref (v2)]) ++ List.replicate (3 - (lg_sl ([.ref (v), .ref (v2)])).length) Slot.unset).toArray = ls at hl ⊢
  have hl : lv_has ls 3 [(0, .ref (v)), (1, .ref (v2))] := hl
  refine lv_aload_n hx hb dJ1_equals_b5fdf_0 rfl (lv_at hl 0 rfl) ?_
  refine zi_lenB hx hb hK hA dJ1_equals_b5fdf_1 ?_
  refine lv_aload_n hx hb dJ1_equals_b5fdf_2 rfl (lv_at hl 1 rfl) ?_
  refine zi_lenB hx hb hK hA2 dJ1_equals_b5fdf_3 ?_
  refine zi_icmp_ne (tgt := 34) hx hb dJ1_equals_b5fdf_4 (by decide) hkl hkl2 (fun c_4 => ?_) (fun c_4 => ?_)
  · refine lv_iconst (v := nI 0) hx hb dJ1_equals_b5fdf_34 (by decide) ?_
    exact zr_z hx hb hr hlocks (by rw [decide_eq_false (fun z => c_4 (by rw [z]))]; rfl) dJ1_equals_b5fdf_35
  · refine lv_iconst (v := nI 0) hx hb dJ1_equals_b5fdf_7 (by decide) ?_
    refine lv_istore_n (lv' := [(2, .int (nI (0))), (0, .ref (v)), (1, .ref (v2))]) hx hb dJ1_equals_b5fdf_8 rfl hl (by decide) rfl (fun ls hl => ?_)
    have L9 : ∀ (n_ : Nat) (k : Nat), w.length - k < n_ → (k ≤ w.length) → (∀ i, i < k → w.getD i 0 = u.getD i 0) → ∀ ls : Array Slot, lv_has ls 3 [(0, .ref (v)), (1, .ref (v2)), (2, .int (nI (k)))] → W p l en (headSpec wsJ1_equals_b5fdf ({ frames := 0, cells := 0, slots := 0, locals := 0 })).room s m ([.ref (v), .ref (v2)] : List Value).toArray below meth c s.heap [] 0 0 (MQ below (zR (.int (nI (nB (decide (w = u)))))) ([.ref (v), .ref (v2)] : List Value).toArray s 0 0 (fun _ => False)) (F0 m 9 ls []) := by
      intro n_
      induction n_ with
      | zero => intro k hm_; exact absurd hm_ (Nat.not_lt_zero _)
      | succ n_ ih_ =>
        intro k hm_ hkk hs ls hl
        refine lv_iload_n hx hb dJ1_equals_b5fdf_9 rfl (lv_at hl 2 rfl) ?_
        refine lv_aload_n hx hb dJ1_equals_b5fdf_10 rfl (lv_at hl 0 rfl) ?_
        refine zi_lenB hx hb hK hA dJ1_equals_b5fdf_11 ?_
        refine zi_icmp_ge (tgt := 32) hx hb dJ1_equals_b5fdf_12 (by decide) (by omega) hkl (fun c_12 => ?_) (fun c_12 => ?_)
        · refine lv_iconst (v := nI 1) hx hb dJ1_equals_b5fdf_32 (by decide) ?_
          exact zr_z hx hb hr hlocks (by rw [decide_eq_true (getD_ext c_4 (fun i hi => hs i (by omega)))]; rfl) dJ1_equals_b5fdf_33
        · refine lv_aload_n hx hb dJ1_equals_b5fdf_15 rfl (lv_at hl 0 rfl) ?_
          refine lv_iload_n hx hb dJ1_equals_b5fdf_16 rfl (lv_at hl 2 rfl) ?_
          refine zi_bald hx hb hK hA (by omega) hkl dJ1_equals_b5fdf_17 ?_
          refine lv_aload_n hx hb dJ1_equals_b5fdf_18 rfl (lv_at hl 1 rfl) ?_
          refine lv_iload_n hx hb dJ1_equals_b5fdf_19 rfl (lv_at hl 2 rfl) ?_
          refine zi_bald hx hb hK hA2 (by omega) hkl2 dJ1_equals_b5fdf_20 ?_
          refine lv_icmp_eq (tgt := 26) hx hb dJ1_equals_b5fdf_21 (by decide) (fun c_21 => ?_) (fun c_21 => ?_)
          · refine lv_iinc (v := nI (k + 1)) (lv' := [(2, .int (nI (k + 1))), (0, .ref (v)), (1, .ref (v2))]) hx hb dJ1_equals_b5fdf_26 hl (k := 2) rfl (nI_add _ _) (by decide) rfl (fun ls hl => ?_)
            refine lv_goto (tgt := 9) hx hb dJ1_equals_b5fdf_29 (by decide) ?_
            exact ih_ (k + 1) (by omega) (by omega) (fun i hi => (Nat.lt_or_ge i k).elim (fun z => hs i z) (fun z => by rw [show i = k by omega]; exact sb_inj _ (h8 k) _ (h82 k) c_21)) ls (lv_sub hl [1, 2, 0] rfl)
          · refine lv_iconst (v := nI 0) hx hb dJ1_equals_b5fdf_24 (by decide) ?_
            exact zr_z hx hb hr hlocks (by rw [decide_eq_false (fun z => c_21 (by rw [z]))]; rfl) dJ1_equals_b5fdf_25
    exact L9 ((w.length - 0) + 1) 0 (Nat.lt_succ_self _) (Nat.zero_le _) (fun i hi => absurd hi (Nat.not_lt_zero _)) ls (lv_sub hl [1, 2, 0] rfl)

set_option maxHeartbeats 4000000 in
set_option maxRecDepth 100000 in
theorem j_equals (l : Launch) (G : zG)  (a b : Nat) (w u : List Nat) (Z Z2 : Nat → Prop) : Met l yJ0_equals_9ea2d wsJ0_equals_9ea2d ({ frames := 1, cells := 0, slots := 0, locals := 22 }) (zP G [.ref (a), .ref (b)] (fun H => StrZ G H Z a w ∧ StrZ G H Z2 b u ∧ CH G H)) (zR (.int (nI (nB (decide (w = u)))))) 0 0 (fun _ => False) := by
  refine Met.ofW (cc := cJ0_equals_9ea2d) (maxL := 3) (ret := (some .boolean)) (by decide) rfl ?_
  intro p en s m args below meth c s₁ B hml hv
  obtain ⟨rfl, hP, hK⟩ := hv
  have hx := B.exec
  have hb := B.bytes
  have hr := B.returns
  have hts := atoms_spec (ws := wsJ0_equals_9ea2d) B.pre
  have hz : ∀ w ∈ zW, w.before _ s = true := fun w h => hts w (List.mem_cons_of_mem _ h)
  have hown : s.vm.findClass RJ0 = some m.cls := findClass_of_methodNamed B.named
  have hlocks := B.notSynchronized
  obtain ⟨⟨v, hs, hz9, -, -, hO, hA, h8, hkl⟩, ⟨v2, hs2, hz2, -, -, hO2, hA2, h82, hkl2⟩, hCH⟩ := id hP
  have hC := hCH.1
  have hl := lv_entry ([.ref (a), .ref (b)]) (n := 3) (Nat.le_of_ble_eq_true rfl)
  rw [lg_entry_eq]
  generalize (lg_sl ([.ref (a), .ref (b)]) ++ List.replicate (3 - (lg_sl ([.ref (a), .ref (b)])).length) Slot.unset).toArray = ls at hl ⊢
  have hl : lv_has ls 3 [(0, .ref (a)), (1, .ref (b))] := hl
  refine lv_aload_n hx hb dJ0_equals_9ea2d_0 rfl (lv_at hl 0 rfl) ?_
  refine lv_aload_n hx hb dJ0_equals_9ea2d_1 rfl (lv_at hl 1 rfl) ?_
  refine zi_acmp_ne (tgt := 7) hx hb dJ0_equals_9ea2d_2 (by decide) (fun c_2 => ?_) (fun c_2 => ?_)
  · refine lv_aload_n hx hb dJ0_equals_9ea2d_7 rfl (lv_at hl 1 rfl) ?_
    refine zi_instw (C := RJ0) (T := TJ0) (N := 4) hx hb hown (hz _ wl_J0_10) hK hO2 rfl dJ0_equals_9ea2d_8 ?_
    refine zi_if_eq (tgt := 54) hx hb dJ0_equals_9ea2d_11 (by decide) (by omega) (fun c_11 => absurd c_11 (by decide)) (fun c_11 => ?_)
    refine lv_aload_n hx hb dJ0_equals_9ea2d_14 rfl (lv_at hl 1 rfl) ?_
    refine zi_cstw (C := RJ0) (T := TJ0) (N := 4) hx hb hown (hz _ wl_J0_10) hK hO2 rfl dJ0_equals_9ea2d_15 ?_
    refine lv_astore_n (lv' := [(2, .ref (b)), (0, .ref (a)), (1, .ref (b))]) hx hb dJ0_equals_9ea2d_18 rfl hl (by decide) rfl (fun ls hl => ?_)
    refine zi_gets (q := qCS) hx hb hK (by decide) hC hown (hz _ wf_J0_38) dJ0_equals_9ea2d_19 ?_
    refine zi_if_eq (tgt := 36) hx hb dJ0_equals_9ea2d_22 (by decide) (by omega) (fun c_22 => absurd c_22 (by decide)) (fun c_22 => ?_)
    refine lv_aload_n hx hb dJ0_equals_9ea2d_25 rfl (lv_at hl 1 rfl) ?_
    refine zi_getw (C := RJ0) (T := TJ0) (N := 4) (v := .int (nI (0))) hx hb hz wo_J0 hown hK hO rfl 1 (by decide) (hz _ wf_J0_15) (fun _ h9 => h9) rfl dJ0_equals_9ea2d_26 ?_
    refine lv_aload_n hx hb dJ0_equals_9ea2d_29 rfl (lv_at hl 0 rfl) ?_
    refine zi_getw (C := RJ0) (T := TJ0) (N := 4) (v := .int (nI (0))) hx hb hz wo_J0 hown hK hO2 rfl 1 (by decide) (hz _ wf_J0_15) (fun _ h9 => h9) rfl dJ0_equals_9ea2d_30 ?_
    refine zi_icmp_ne (tgt := 54) hx hb dJ0_equals_9ea2d_33 (by decide) (by omega) (by omega) (fun c_33 => absurd c_33 (by decide)) (fun c_33 => ?_)
    refine lv_aload_n hx hb dJ0_equals_9ea2d_36 rfl (lv_at hl 1 rfl) ?_
    refine zi_getw (C := RJ0) (T := TJ0) (N := 4) (v := .ref (v)) hx hb hz wo_J0 hown hK hO rfl 0 (by decide) (hz _ wf_J0_9) (fun _ h9 => h9) rfl dJ0_equals_9ea2d_37 ?_
    refine lv_aload_n hx hb dJ0_equals_9ea2d_40 rfl (lv_at hl 0 rfl) ?_
    refine zi_getw (C := RJ0) (T := TJ0) (N := 4) (v := .ref (v2)) hx hb hz wo_J0 hown hK hO2 rfl 0 (by decide) (hz _ wf_J0_9) (fun _ h9 => h9) rfl dJ0_equals_9ea2d_41 ?_
    refine zc_S (As := [.ref (v), .ref (v2)]) (rest := []) ⟨hx, hb, hml, hown, hts⟩ (j_lequals l G v v2 w u) (va_cwS 2 hts (zgX wm_J0_541 wu_J1_equals_b5fdf) rfl rfl rfl (by decide +kernel) ⟨Nat.le_of_ble_eq_true rfl, Nat.le_of_ble_eq_true rfl⟩) hK ⟨hA, hA2, h8, h82, hkl, hkl2⟩ rfl hl.1 rfl (Nat.le_of_ble_eq_true rfl) dJ0_equals_9ea2d_44 ⟨Nat.zero_le _, Nat.zero_le _⟩ ?_
    refine zb_if_eq (tgt := 54) hx hb dJ0_equals_9ea2d_47 (by decide) (fun c_47 => ?_) (fun c_47 => ?_)
    · refine lv_iconst (v := nI 0) hx hb dJ0_equals_9ea2d_54 (by decide) ?_
      exact zr_z hx hb hr hlocks (by rw [c_47]; rfl) dJ0_equals_9ea2d_55
    · refine lv_iconst (v := nI 1) hx hb dJ0_equals_9ea2d_50 (by decide) ?_
      refine lv_goto (tgt := 55) hx hb dJ0_equals_9ea2d_51 (by decide) ?_
      exact zr_z hx hb hr hlocks (by rw [c_47]; rfl) dJ0_equals_9ea2d_55
  · subst c_2
    have hwu : w = u := Str_fn (Z1 := Z) (Z2 := Z2) hP.1 hP.2.1
    refine lv_iconst (v := nI 1) hx hb dJ0_equals_9ea2d_5 (by decide) ?_
    exact zr_z hx hb hr hlocks (by rw [decide_eq_true hwu]; rfl) dJ0_equals_9ea2d_6
