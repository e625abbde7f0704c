set_option maxHeartbeats 4000000 in
set_option maxRecDepth 100000 in
theorem j_icmp (l : Launch) (G : zG)  (x y : Nat) (hx9 : x < 2 ^ 31) (hy9 : y < 2 ^ 31) : Met l yJ6_compare_7cf53 wsJ6_compare_7cf53 ({ frames := 0, cells := 0, slots := 0, locals := 0 }) (zP G [.int (nI (x)), .int (nI (y))] (fun H => True)) (zR (.int (oI (cNa x y)))) 0 0 (fun _ => False) := by
  refine Met.ofW (cc := cJ6_compare_7cf53) (maxL := 2) (ret := (some .int)) (by decide) rfl ?_
  intro p en s m args below meth c s₁ B hml hv
  obtain ⟨rfl, hP, hK⟩ := hv
  have hx := B.exec
  have hb := B.bytes
  have hr := B.returns
  have hts := atoms_spec (ws := wsJ6_compare_7cf53) B.pre
  have hz : ∀ w ∈ zW, w.before _ s = true := fun w h => hts w (List.mem_cons_of_mem _ h)
  have hown : s.vm.findClass RJ6 = some m.cls := findClass_of_methodNamed B.named
  have hlocks := B.notSynchronized
  have hl := lv_entry ([.int (nI (x)), .int (nI (y))]) (n := 2) (Nat.le_of_ble_eq_true rfl)
  rw [lg_entry_eq]
  generalize (lg_sl ([.int (nI (x)), .int (nI (y))]) ++ List.replicate (2 - (lg_sl ([.int (nI (x)), .int (nI (y))])).length) Slot.unset).toArray = ls at hl ⊢
  have hl : lv_has ls 2 [(0, .int (nI (x))), (1, .int (nI (y)))] := hl
  refine lv_iload_n hx hb dJ6_compare_7cf53_0 rfl (lv_at hl 0 rfl) ?_
  refine lv_iload_n hx hb dJ6_compare_7cf53_1 rfl (lv_at hl 1 rfl) ?_
  refine zi_icmp_ge (tgt := 9) hx hb dJ6_compare_7cf53_2 (by decide) (by omega) (by omega) (fun c_2 => ?_) (fun c_2 => ?_)
  · refine lv_iload_n hx hb dJ6_compare_7cf53_9 rfl (lv_at hl 0 rfl) ?_
    refine lv_iload_n hx hb dJ6_compare_7cf53_10 rfl (lv_at hl 1 rfl) ?_
    refine zi_icmp_ne (tgt := 18) hx hb dJ6_compare_7cf53_11 (by decide) (by omega) (by omega) (fun c_11 => ?_) (fun c_11 => ?_)
    · refine lv_iconst (v := nI 1) hx hb dJ6_compare_7cf53_18 (by decide) ?_
      exact zr_i hx hb hr hlocks ((cNa_oI_gt (by omega)).symm) dJ6_compare_7cf53_19
    · refine lv_iconst (v := nI 0) hx hb dJ6_compare_7cf53_14 (by decide) ?_
      refine lv_goto (tgt := 19) hx hb dJ6_compare_7cf53_15 (by decide) ?_
      exact zr_i hx hb hr hlocks ((cNa_oI_eq c_11).symm) dJ6_compare_7cf53_19
  · refine lv_iconst (v := (-1)) hx hb dJ6_compare_7cf53_5 (by decide) ?_
    refine lv_goto (tgt := 19) hx hb dJ6_compare_7cf53_6 (by decide) ?_
    exact zr_i hx hb hr hlocks ((cNa_oI_lt c_2).symm) dJ6_compare_7cf53_19

set_option maxHeartbeats 4000000 in
set_option maxRecDepth 100000 in
theorem j_lcmp (l : Launch) (G : zG)  (x y : Int64) : Met l yJ13_compare_74951 wsJ13_compare_74951 ({ frames := 0, cells := 0, slots := 0, locals := 0 }) (zP G [.long (x), .long (y)] (fun H => True)) (zR (.int (oI (c64 x y)))) 0 0 (fun _ => False) := by
  refine Met.ofW (cc := cJ13_compare_74951) (maxL := 4) (ret := (some .int)) (by decide) rfl ?_
  intro p en s m args below meth c s₁ B hml hv
  obtain ⟨rfl, hP, hK⟩ := hv
  have hx := B.exec
  have hb := B.bytes
  have hr := B.returns
  have hts := atoms_spec (ws := wsJ13_compare_74951) B.pre
  have hz : ∀ w ∈ zW, w.before _ s = true := fun w h => hts w (List.mem_cons_of_mem _ h)
  have hown : s.vm.findClass RJ13 = some m.cls := findClass_of_methodNamed B.named
  have hlocks := B.notSynchronized
  have hl := lv_entry ([.long (x), .long (y)]) (n := 4) (Nat.le_of_ble_eq_true rfl)
  rw [lg_entry_eq]
  generalize (lg_sl ([.long (x), .long (y)]) ++ List.replicate (4 - (lg_sl ([.long (x), .long (y)])).length) Slot.unset).toArray = ls at hl ⊢
  have hl : lv_has ls 4 [(0, .long (x)), (2, .long (y))] := hl
  refine lv_lload_n hx hb dJ13_compare_74951_0 rfl (lv_at hl 0 rfl) ?_
  refine lv_lload_n hx hb dJ13_compare_74951_1 rfl (lv_at hl 1 rfl) ?_
  refine W.lcmp hx hb dJ13_compare_74951_2 ?_
  refine lv_if_ge (tgt := 10) hx hb dJ13_compare_74951_3 (by decide) (fun c_3 => ?_) (fun c_3 => ?_)
  · refine lv_lload_n hx hb dJ13_compare_74951_10 rfl (lv_at hl 0 rfl) ?_
    refine lv_lload_n hx hb dJ13_compare_74951_11 rfl (lv_at hl 1 rfl) ?_
    refine W.lcmp hx hb dJ13_compare_74951_12 ?_
    refine lv_if_ne (tgt := 20) hx hb dJ13_compare_74951_13 (by decide) (fun c_13 => ?_) (fun c_13 => ?_)
    · refine lv_iconst (v := nI 1) hx hb dJ13_compare_74951_20 (by decide) ?_
      exact zr_i hx hb hr hlocks (by rw [c64_gt (Int64.lt_of_le_of_ne ((lg_cmp_ge _ _).mp c_3) (fun q => c_13 ((lg_cmp_eq _ _).mpr q.symm)))]; decide) dJ13_compare_74951_21
    · refine lv_iconst (v := nI 0) hx hb dJ13_compare_74951_16 (by decide) ?_
      refine lv_goto (tgt := 21) hx hb dJ13_compare_74951_17 (by decide) ?_
      exact zr_i hx hb hr hlocks (by have h7 := (lg_cmp_eq _ _).mp c_13; subst h7; rw [c64_eq (Int64.lt_irrefl) (Int64.lt_irrefl)]; decide) dJ13_compare_74951_21
  · refine lv_iconst (v := (-1)) hx hb dJ13_compare_74951_6 (by decide) ?_
    refine lv_goto (tgt := 21) hx hb dJ13_compare_74951_7 (by decide) ?_
    exact zr_i hx hb hr hlocks (by rw [c64_lt (Int64.not_le.mp (fun q => c_3 ((lg_cmp_ge _ _).mpr q)))]; rfl) dJ13_compare_74951_21

set_option maxHeartbeats 4000000 in
set_option maxRecDepth 100000 in
theorem j_coder (l : Launch) (G : zG) (a v k : Nat) (t : Nat → Nat) (hs hz9 : Value) : Met l yJ0_coder_7d493 wsJ0_coder_7d493 ({ frames := 0, cells := 0, slots := 0, locals := 0 }) (zP G [.ref (a)] (fun H => zS G a v k t hs hz9 H ∧ zSh G qCS (.int (nI 1)) H)) (zR (.int (nI 0))) 0 0 (fun _ => False) := by
  refine Met.ofW (cc := cJ0_coder_7d493) (maxL := 1) (ret := (some .byte)) (by decide) rfl ?_
  intro p en s m args below meth c s₁ B hml hv
  obtain ⟨rfl, hP, hK⟩ := hv
  have hx := B.exec
  have hb := B.bytes
  have hr := B.returns
  have hts := atoms_spec (ws := wsJ0_coder_7d493) B.pre
  have hz : ∀ w ∈ zW, w.before _ s = true := fun w h => hts w (List.mem_cons_of_mem _ h)
  have hown : s.vm.findClass RJ0 = some m.cls := findClass_of_methodNamed B.named
  have hlocks := B.notSynchronized
  obtain ⟨⟨hO, hA, h8, hkl⟩, hC⟩ := id hP
  have hl := lv_entry ([.ref (a)]) (n := 1) (Nat.le_of_ble_eq_true rfl)
  rw [lg_entry_eq]
  generalize (lg_sl ([.ref (a)]) ++ List.replicate (1 - (lg_sl ([.ref (a)])).length) Slot.unset).toArray = ls at hl ⊢
  have hl : lv_has ls 1 [(0, .ref (a))] := hl
  refine zi_gets (q := qCS) hx hb hK (by decide) hC hown (hz _ wf_J0_38) dJ0_coder_7d493_0 ?_
  refine zi_if_eq (tgt := 13) hx hb dJ0_coder_7d493_3 (by decide) (by omega) (fun c_3 => absurd c_3 (by decide)) (fun c_3 => ?_)
  refine lv_aload_n hx hb dJ0_coder_7d493_6 rfl (lv_at hl 0 rfl) ?_
  refine zi_getw (C := RJ0) (T := TJ0) (N := 4) (v := .int (nI (0))) hx hb hz wo_J0 hown hK hO rfl 1 (by decide) (hz _ wf_J0_15) (fun _ h9 => h9) rfl dJ0_coder_7d493_7 ?_
  refine lv_goto (tgt := 14) hx hb dJ0_coder_7d493_10 (by decide) ?_
  exact zr_t hx hb hr hlocks (rfl) (rfl) dJ0_coder_7d493_14

set_option maxHeartbeats 4000000 in
set_option maxRecDepth 100000 in
theorem j_isLatin1 (l : Launch) (G : zG) (a v k : Nat) (t : Nat → Nat) (hs hz9 : Value) : Met l yJ0_isLatin1_aae02 wsJ0_isLatin1_aae02 ({ frames := 0, cells := 0, slots := 0, locals := 0 }) (zP G [.ref (a)] (fun H => zS G a v k t hs hz9 H ∧ zSh G qCS (.int (nI 1)) H)) (zR (.int (nI (nB true)))) 0 0 (fun _ => False) := by
  refine Met.ofW (cc := cJ0_isLatin1_aae02) (maxL := 1) (ret := (some .boolean)) (by decide) rfl ?_
  intro p en s m args below meth c s₁ B hml hv
  obtain ⟨rfl, hP, hK⟩ := hv
  have hx := B.exec
  have hb := B.bytes
  have hr := B.returns
  have hts := atoms_spec (ws := wsJ0_isLatin1_aae02) B.pre
  have hz : ∀ w ∈ zW, w.before _ s = true := fun w h => hts w (List.mem_cons_of_mem _ h)
  have hown : s.vm.findClass RJ0 = some m.cls := findClass_of_methodNamed B.named
  have hlocks := B.notSynchronized
  obtain ⟨⟨hO, hA, h8, hkl⟩, hC⟩ := id hP
  have hl := lv_entry ([.ref (a)]) (n := 1) (Nat.le_of_ble_eq_true rfl)
  rw [lg_entry_eq]
  generalize (lg_sl ([.ref (a)]) ++ List.replicate (1 - (lg_sl ([.ref (a)])).length) Slot.unset).toArray = ls at hl ⊢
  have hl : lv_has ls 1 [(0, .ref (a))] := hl
  refine zi_gets (q := qCS) hx hb hK (by decide) hC hown (hz _ wf_J0_38) dJ0_isLatin1_aae02_0 ?_
  refine zi_if_eq (tgt := 17) hx hb dJ0_isLatin1_aae02_3 (by decide) (by omega) (fun c_3 => absurd c_3 (by decide)) (fun c_3 => ?_)
  refine lv_aload_n hx hb dJ0_isLatin1_aae02_6 rfl (lv_at hl 0 rfl) ?_
  refine zi_getw (C := RJ0) (T := TJ0) (N := 4) (v := .int (nI (0))) hx hb hz wo_J0 hown hK hO rfl 1 (by decide) (hz _ wf_J0_15) (fun _ h9 => h9) rfl dJ0_isLatin1_aae02_7 ?_
  refine zi_if_ne (tgt := 17) hx hb dJ0_isLatin1_aae02_10 (by decide) (by omega) (fun c_10 => absurd c_10 (by decide)) (fun c_10 => ?_)
  refine lv_iconst (v := nI 1) hx hb dJ0_isLatin1_aae02_13 (by decide) ?_
  refine lv_goto (tgt := 18) hx hb dJ0_isLatin1_aae02_14 (by decide) ?_
  exact zr_z hx hb hr hlocks (rfl) dJ0_isLatin1_aae02_18

set_option maxHeartbeats 4000000 in
set_option maxRecDepth 100000 in
theorem j_length (l : Launch) (G : zG) (a v k : Nat) (t : Nat → Nat) (hs hz9 : Value) : Met l yJ0_length_8abf5 wsJ0_length_8abf5 ({ frames := 1, cells := 0, slots := 0, locals := 20 }) (zP G [.ref (a)] (fun H => zS G a v k t hs hz9 H ∧ zSh G qCS (.int (nI 1)) H)) (zR (.int (nI k))) 0 0 (fun _ => False) := by
  refine Met.ofW (cc := cJ0_length_8abf5) (maxL := 1) (ret := (some .int)) (by decide) rfl ?_
  intro p en s m args below meth c s₁ B hml hv
  obtain ⟨rfl, hP, hK⟩ := hv
  have hx := B.exec
  have hb := B.bytes
  have hr := B.returns
  have hts := atoms_spec (ws := wsJ0_length_8abf5) B.pre
  have hz : ∀ w ∈ zW, w.before _ s = true := fun w h => hts w (List.mem_cons_of_mem _ h)
  have hown : s.vm.findClass RJ0 = some m.cls := findClass_of_methodNamed B.named
  have hlocks := B.notSynchronized
  obtain ⟨⟨hO, hA, h8, hkl⟩, hC⟩ := id hP
  have hl := lv_entry ([.ref (a)]) (n := 1) (Nat.le_of_ble_eq_true rfl)
  rw [lg_entry_eq]
  generalize (lg_sl ([.ref (a)]) ++ List.replicate (1 - (lg_sl ([.ref (a)])).length) Slot.unset).toArray = ls at hl ⊢
  have hl : lv_has ls 1 [(0, .ref (a))] := hl
  refine lv_aload_n hx hb dJ0_length_8abf5_0 rfl (lv_at hl 0 rfl) ?_
  refine zi_getw (C := RJ0) (T := TJ0) (N := 4) (v := .ref (v)) hx hb hz wo_J0 hown hK hO rfl 0 (by decide) (hz _ wf_J0_9) (fun _ h9 => h9) rfl dJ0_length_8abf5_1 ?_
  refine zi_lenB hx hb hK hA dJ0_length_8abf5_4 ?_
  refine lv_aload_n hx hb dJ0_length_8abf5_5 rfl (lv_at hl 0 rfl) ?_
  refine zc_Vw (As := []) (rest := [.int (nI (k))]) ⟨hx, hb, hml, hown, hts⟩ (j_coder l G a v k t hs hz9) (cwV 0 hts (zgV wm_J0_335 wv_J0_coder_7d493) rfl rfl rfl (by decide +kernel) ⟨Nat.le_of_ble_eq_true rfl, Nat.le_of_ble_eq_true rfl⟩) hK hO rfl hP rfl hl.1 rfl (Nat.le_of_ble_eq_true rfl) dJ0_length_8abf5_6 ⟨Nat.zero_le _, Nat.zero_le _⟩ ?_
  refine lv_ishr hx hb dJ0_length_8abf5_9 ?_
  rw [show nI k >>> (nI 0 &&& 31) = nI k from sc_shr0 hkl]
  refine W.eq (g2 := F0 m 10 ls ([.int (nI (k))])) rfl ?_
  exact zr_i hx hb hr hlocks (rfl) dJ0_length_8abf5_10

set_option maxHeartbeats 4000000 in
set_option maxRecDepth 100000 in
theorem j_isEmpty (l : Launch) (G : zG) (a v k : Nat) (t : Nat → Nat) (hs hz9 : Value) : Met l yJ0_isEmpty_aae02 wsJ0_isEmpty_aae02 ({ frames := 0, cells := 0, slots := 0, locals := 0 }) (zP G [.ref (a)] (fun H => zS G a v k t hs hz9 H ∧ zSh G qCS (.int (nI 1)) H)) (zR (.int (nI (nB (decide (k = 0)))))) 0 0 (fun _ => False) := by
  refine Met.ofW (cc := cJ0_isEmpty_aae02) (maxL := 1) (ret := (some .boolean)) (by decide) rfl ?_
  intro p en s m args below meth c s₁ B hml hv
  obtain ⟨rfl, hP, hK⟩ := hv
  have hx := B.exec
  have hb := B.bytes
  have hr := B.returns
  have hts := atoms_spec (ws := wsJ0_isEmpty_aae02) B.pre
  have hz : ∀ w ∈ zW, w.before _ s = true := fun w h => hts w (List.mem_cons_of_mem _ h)
  have hown : s.vm.findClass RJ0 = some m.cls := findClass_of_methodNamed B.named
  have hlocks := B.notSynchronized
  obtain ⟨⟨hO, hA, h8, hkl⟩, hC⟩ := id hP
  have hl := lv_entry ([.ref (a)]) (n := 1) (Nat.le_of_ble_eq_true rfl)
  rw [lg_entry_eq]
  generalize (lg_sl ([.ref (a)]) ++ List.replicate (1 - (lg_sl ([.ref (a)])).length) Slot.unset).toArray = ls at hl ⊢
  have hl : lv_has ls 1 [(0, .ref (a))] := hl
  refine lv_aload_n hx hb dJ0_isEmpty_aae02_0 rfl (lv_at hl 0 rfl) ?_
  refine zi_getw (C := RJ0) (T := TJ0) (N := 4) (v := .ref (v)) hx hb hz wo_J0 hown hK hO rfl 0 (by decide) (hz _ wf_J0_9) (fun _ h9 => h9) rfl dJ0_isEmpty_aae02_1 ?_
  refine zi_lenB hx hb hK hA dJ0_isEmpty_aae02_4 ?_
  refine zi_if_ne (tgt := 12) hx hb dJ0_isEmpty_aae02_5 (by decide) hkl (fun c_5 => ?_) (fun c_5 => ?_)
  · refine lv_iconst (v := nI 0) hx hb dJ0_isEmpty_aae02_12 (by decide) ?_
    exact zr_z hx hb hr hlocks (by rw [decide_eq_false c_5]; rfl) dJ0_isEmpty_aae02_13
  · refine lv_iconst (v := nI 1) hx hb dJ0_isEmpty_aae02_8 (by decide) ?_
    refine lv_goto (tgt := 13) hx hb dJ0_isEmpty_aae02_9 (by decide) ?_
    exact zr_z hx hb hr hlocks (by rw [decide_eq_true c_5]; rfl) dJ0_isEmpty_aae02_13
