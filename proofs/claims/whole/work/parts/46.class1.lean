set_option maxHeartbeats 4000000 in
set_option maxRecDepth 100000 in
theorem c_classOf (l : Launch) (G : zG)  (k : Nat) (hk : k < 2 ^ 31) : Met l yX3_classOf wsX3_classOf ({ frames := 0, cells := 0, slots := 0, locals := 0 }) (zP G [.int (nI (k))] (fun H => True)) (zR (.int (nI (clO k)))) 0 0 (fun _ => False) := by
  refine Met.ofW (cc := cX3_classOf) (maxL := 1) (ret := (some .int)) (by decide) rfl ?_
  intro p en s m args below meth c s₁ B hml hv
  obtain ⟨rfl, hP, hK⟩ := hv
  have hx := B.exec
  have hb := B.bytes
  have hr := B.returns
  have hts := atoms_spec (ws := wsX3_classOf) B.pre
  have hz : ∀ w ∈ zW, w.before _ s = true := fun w h => hts w (List.mem_cons_of_mem _ h)
  have hown : s.vm.findClass RX3 = some m.cls := findClass_of_methodNamed B.named
  have hlocks := B.notSynchronized
  have hl := lv_entry ([.int (nI (k))]) (n := 1) (Nat.le_of_ble_eq_true rfl)
  rw [lg_entry_eq]
  generalize (lg_sl ([.int (nI (k))]) ++ List.replicate (1 - (lg_sl ([.int (nI (k))])).length) Slot.unset).toArray = ls at hl ⊢
  have hl : lv_has ls 1 [(0, .int (nI (k)))] := hl
  refine lv_iload_n hx hb dX3_classOf_0 rfl (lv_at hl 0 rfl) ?_
  by_cases c_1_2 : k = 2
  · refine zi_tab hx hb dX3_classOf_1 (by omega) 88 (by rw [c_1_2]; decide) ?_
    refine lv_iconst (v := nI 3) hx hb dX3_classOf_88 (by decide) ?_
    exact zr_i hx hb hr hlocks (by simp [clO, *]) dX3_classOf_89
  by_cases c_1_3 : k = 3
  · refine zi_tab hx hb dX3_classOf_1 (by omega) 90 (by rw [c_1_3]; decide) ?_
    refine lv_iconst (v := nI 4) hx hb dX3_classOf_90 (by decide) ?_
    exact zr_i hx hb hr hlocks (by simp [clO, *]) dX3_classOf_91
  by_cases c_1_4 : k = 4
  · refine zi_tab hx hb dX3_classOf_1 (by omega) 92 (by rw [c_1_4]; decide) ?_
    refine lv_iconst (v := nI 5) hx hb dX3_classOf_92 (by decide) ?_
    exact zr_i hx hb hr hlocks (by simp [clO, *]) dX3_classOf_93
  by_cases c_1_8 : k = 8
  · refine zi_tab hx hb dX3_classOf_1 (by omega) 94 (by rw [c_1_8]; decide) ?_
    refine lv_bipush (v := nI 6) hx hb dX3_classOf_94 (by decide) ?_
    exact zr_i hx hb hr hlocks (by simp [clO, *]) dX3_classOf_96
  by_cases c_1_10 : k = 10
  · refine zi_tab hx hb dX3_classOf_1 (by omega) 84 (by rw [c_1_10]; decide) ?_
    refine lv_iconst (v := nI 1) hx hb dX3_classOf_84 (by decide) ?_
    exact zr_i hx hb hr hlocks (by simp [clO, *]) dX3_classOf_85
  by_cases c_1_16 : k = 16
  · refine zi_tab hx hb dX3_classOf_1 (by omega) 86 (by rw [c_1_16]; decide) ?_
    refine lv_iconst (v := nI 2) hx hb dX3_classOf_86 (by decide) ?_
    exact zr_i hx hb hr hlocks (by simp [clO, *]) dX3_classOf_87
  by_cases c_1_18 : k = 18
  · refine zi_tab hx hb dX3_classOf_1 (by omega) 86 (by rw [c_1_18]; decide) ?_
    refine lv_iconst (v := nI 2) hx hb dX3_classOf_86 (by decide) ?_
    exact zr_i hx hb hr hlocks (by simp [clO, *]) dX3_classOf_87
  refine zi_tab hx hb dX3_classOf_1 (by omega) 97 ((zTab_d [2, 3, 4, 8, 10, 16, 18] (by decide +kernel) (by simp only [List.mem_cons, List.not_mem_nil, or_false, not_or]; exact ⟨c_1_2, c_1_3, c_1_4, c_1_8, c_1_10, c_1_16, c_1_18⟩)).trans (by decide)) ?_
  refine lv_iconst (v := nI 0) hx hb dX3_classOf_97 (by decide) ?_
  exact zr_i hx hb hr hlocks (by simp [clO, *]) dX3_classOf_98

set_option maxHeartbeats 4000000 in
set_option maxRecDepth 100000 in
theorem c_hasRoom (l : Launch) (G : zG) (tp qb cn : Nat) (f : Nat → Nat) (hc : cn ≤ 2000) : Met l yX8_hasRoom wsX8_hasRoom ({ frames := 0, cells := 0, slots := 0, locals := 0 }) (zP G [.ref (tp)] (fun H => TP G tp qb cn f H)) (zR (.int (nI (nB (decide (cn + 20 ≤ 2000)))))) 0 0 (fun _ => False) := by
  refine Met.ofW (cc := cX8_hasRoom) (maxL := 1) (ret := (some .boolean)) (by decide) rfl ?_
  intro p en s m args below meth c s₁ B hml hv
  obtain ⟨rfl, hP, hK⟩ := hv
  have hx := B.exec
  have hb := B.bytes
  have hr := B.returns
  have hts := atoms_spec (ws := wsX8_hasRoom) B.pre
  have hz : ∀ w ∈ zW, w.before _ s = true := fun w h => hts w (List.mem_cons_of_mem _ h)
  have hown : s.vm.findClass RX8 = some m.cls := findClass_of_methodNamed B.named
  have hlocks := B.notSynchronized
  obtain ⟨hO, hA, h8⟩ := id hP
  have hl := lv_entry ([.ref (tp)]) (n := 1) (Nat.le_of_ble_eq_true rfl)
  rw [lg_entry_eq]
  generalize (lg_sl ([.ref (tp)]) ++ List.replicate (1 - (lg_sl ([.ref (tp)])).length) Slot.unset).toArray = ls at hl ⊢
  have hl : lv_has ls 1 [(0, .ref (tp))] := hl
  refine lv_aload_n hx hb dX8_hasRoom_0 rfl (lv_at hl 0 rfl) ?_
  refine zi_get (C := RX8) (T := TX8) (N := 2) (v := .int (nI (cn))) hx hb hz wo_X8 hown hK hO rfl 1 (by decide) (hz _ wf_X8_15) (fun _ h9 => h9) rfl dX8_hasRoom_1 ?_
  refine lv_bipush (v := nI 20) hx hb dX8_hasRoom_4 (by decide) ?_
  refine zi_add hx hb dX8_hasRoom_6 ?_
  refine lv_sipush (v := nI 2000) hx hb dX8_hasRoom_7 (by decide) ?_
  refine zi_icmp_gt (tgt := 17) hx hb dX8_hasRoom_10 (by decide) (by omega) (by omega) (fun c_10 => ?_) (fun c_10 => ?_)
  · refine lv_iconst (v := nI 0) hx hb dX8_hasRoom_17 (by decide) ?_
    exact zr_z hx hb hr hlocks (by first | (rw [decide_eq_true c_10]; rfl) | (rw [decide_eq_false (Nat.not_le.mpr c_10)]; rfl)) dX8_hasRoom_18
  · refine lv_iconst (v := nI 1) hx hb dX8_hasRoom_13 (by decide) ?_
    refine lv_goto (tgt := 18) hx hb dX8_hasRoom_14 (by decide) ?_
    exact zr_z hx hb hr hlocks (by first | (rw [decide_eq_true c_10]; rfl) | (rw [decide_eq_false (Nat.not_le.mpr c_10)]; rfl)) dX8_hasRoom_18

set_option maxHeartbeats 4000000 in
set_option maxRecDepth 100000 in
theorem c_has (l : Launch) (G : zG) (tp qb cn : Nat) (f : Nat → Nat) (x : Int32) : Met l yX8_has wsX8_has ({ frames := 0, cells := 0, slots := 0, locals := 0 }) (zP G [.ref (tp), .int (x)] (fun H => TP G tp qb cn f H)) (zR (.int (nI (nB (decide (¬ x < 0 ∧ x ≤ nI cn)))))) 0 0 (fun _ => False) := by
  refine Met.ofW (cc := cX8_has) (maxL := 2) (ret := (some .boolean)) (by decide) rfl ?_
  intro p en s m args below meth c s₁ B hml hv
  obtain ⟨rfl, hP, hK⟩ := hv
  have hx := B.exec
  have hb := B.bytes
  have hr := B.returns
  have hts := atoms_spec (ws := wsX8_has) B.pre
  have hz : ∀ w ∈ zW, w.before _ s = true := fun w h => hts w (List.mem_cons_of_mem _ h)
  have hown : s.vm.findClass RX8 = some m.cls := findClass_of_methodNamed B.named
  have hlocks := B.notSynchronized
  obtain ⟨hO, hA, h8⟩ := id hP
  have hl := lv_entry ([.ref (tp), .int (x)]) (n := 2) (Nat.le_of_ble_eq_true rfl)
  rw [lg_entry_eq]
  generalize (lg_sl ([.ref (tp), .int (x)]) ++ List.replicate (2 - (lg_sl ([.ref (tp), .int (x)])).length) Slot.unset).toArray = ls at hl ⊢
  have hl : lv_has ls 2 [(0, .ref (tp)), (1, .int (x))] := hl
  refine lv_iload_n hx hb dX8_has_0 rfl (lv_at hl 1 rfl) ?_
  refine lv_if_lt (tgt := 16) hx hb dX8_has_1 (by decide) (fun c_1 => ?_) (fun c_1 => ?_)
  · refine lv_iconst (v := nI 0) hx hb dX8_has_16 (by decide) ?_
    exact zr_z hx hb hr hlocks (by rw [decide_eq_false (fun z => z.1 c_1)]; rfl) dX8_has_17
  · refine lv_iload_n hx hb dX8_has_4 rfl (lv_at hl 1 rfl) ?_
    refine lv_aload_n hx hb dX8_has_5 rfl (lv_at hl 0 rfl) ?_
    refine zi_get (C := RX8) (T := TX8) (N := 2) (v := .int (nI (cn))) hx hb hz wo_X8 hown hK hO rfl 1 (by decide) (hz _ wf_X8_15) (fun _ h9 => h9) rfl dX8_has_6 ?_
    refine lv_icmp_gt (tgt := 16) hx hb dX8_has_9 (by decide) (fun c_9 => ?_) (fun c_9 => ?_)
    · refine lv_iconst (v := nI 0) hx hb dX8_has_16 (by decide) ?_
      exact zr_z hx hb hr hlocks (by rw [decide_eq_false (fun z => Int32.not_le.mpr c_9 z.2)]; rfl) dX8_has_17
    · refine lv_iconst (v := nI 1) hx hb dX8_has_12 (by decide) ?_
      refine lv_goto (tgt := 17) hx hb dX8_has_13 (by decide) ?_
      exact zr_z hx hb hr hlocks (by rw [decide_eq_true ⟨c_1, Int32.not_lt.mp c_9⟩]; rfl) dX8_has_17

set_option maxHeartbeats 4000000 in
set_option maxRecDepth 100000 in
theorem c_byteAt (l : Launch) (G : zG) (tp qb cn : Nat) (f : Nat → Nat) (a : Nat) (ha : a < 2 ^ 31) : Met l yX8_byteAt wsX8_byteAt ({ frames := 0, cells := 0, slots := 0, locals := 0 }) (zP G [.ref (tp), .int (nI (a))] (fun H => TP G tp qb cn f H)) (zR (.int (nI (bA f a)))) 0 0 (fun _ => False) := by
  refine Met.ofW (cc := cX8_byteAt) (maxL := 2) (ret := (some .int)) (by decide) rfl ?_
  intro p en s m args below meth c s₁ B hml hv
  obtain ⟨rfl, hP, hK⟩ := hv
  have hx := B.exec
  have hb := B.bytes
  have hr := B.returns
  have hts := atoms_spec (ws := wsX8_byteAt) B.pre
  have hz : ∀ w ∈ zW, w.before _ s = true := fun w h => hts w (List.mem_cons_of_mem _ h)
  have hown : s.vm.findClass RX8 = some m.cls := findClass_of_methodNamed B.named
  have hlocks := B.notSynchronized
  obtain ⟨hO, hA, h8⟩ := id hP
  have hl := lv_entry ([.ref (tp), .int (nI (a))]) (n := 2) (Nat.le_of_ble_eq_true rfl)
  rw [lg_entry_eq]
  generalize (lg_sl ([.ref (tp), .int (nI (a))]) ++ List.replicate (2 - (lg_sl ([.ref (tp), .int (nI (a))])).length) Slot.unset).toArray = ls at hl ⊢
  have hl : lv_has ls 2 [(0, .ref (tp)), (1, .int (nI (a)))] := hl
  refine lv_iload_n hx hb dX8_byteAt_0 rfl (lv_at hl 1 rfl) ?_
  refine zi_if_lt (tgt := 22) hx hb dX8_byteAt_1 (by decide) (by omega) ?_
  refine lv_iload_n hx hb dX8_byteAt_4 rfl (lv_at hl 1 rfl) ?_
  refine lv_aload_n hx hb dX8_byteAt_5 rfl (lv_at hl 0 rfl) ?_
  refine zi_get (C := RX8) (T := TX8) (N := 2) (v := .ref (qb)) hx hb hz wo_X8 hown hK hO rfl 0 (by decide) (hz _ wf_X8_9) (fun _ h9 => h9) rfl dX8_byteAt_6 ?_
  refine zi_len hx hb hK hA dX8_byteAt_9 ?_
  refine zi_icmp_ge (tgt := 22) hx hb dX8_byteAt_10 (by decide) (by omega) (by omega) (fun c_10 => ?_) (fun c_10 => ?_)
  · refine lv_iconst (v := nI 0) hx hb dX8_byteAt_22 (by decide) ?_
    exact zr_i hx hb hr hlocks (by rw [bA, if_neg (by omega)]) dX8_byteAt_23
  · refine lv_aload_n hx hb dX8_byteAt_13 rfl (lv_at hl 0 rfl) ?_
    refine zi_get (C := RX8) (T := TX8) (N := 2) (v := .ref (qb)) hx hb hz wo_X8 hown hK hO rfl 0 (by decide) (hz _ wf_X8_9) (fun _ h9 => h9) rfl dX8_byteAt_14 ?_
    refine lv_iload_n hx hb dX8_byteAt_17 rfl (lv_at hl 1 rfl) ?_
    refine zi_ald hx hb hK hA (by omega) (by decide) dX8_byteAt_18 ?_
    refine lv_goto (tgt := 23) hx hb dX8_byteAt_19 (by decide) ?_
    exact zr_i hx hb hr hlocks (by rw [bA, if_pos c_10]) dX8_byteAt_23

set_option maxHeartbeats 4000000 in
set_option maxRecDepth 100000 in
theorem c_followers (l : Launch) (G : zG) (o : Nat) (fs : List Value) (b : Nat) (hb9 : b < 256) : Met l yX0_followers wsX0_followers ({ frames := 0, cells := 0, slots := 0, locals := 0 }) (zP G [.ref (o), .int (nI (b))] (fun H => zO G H o 1 fs)) (zR (.int (flw b))) 0 0 (fun _ => False) := by
  refine Met.ofW (cc := cX0_followers) (maxL := 2) (ret := (some .int)) (by decide) rfl ?_
  intro p en s m args below meth c s₁ B hml hv
  obtain ⟨rfl, hP, hK⟩ := hv
  have hx := B.exec
  have hb := B.bytes
  have hr := B.returns
  have hts := atoms_spec (ws := wsX0_followers) B.pre
  have hz : ∀ w ∈ zW, w.before _ s = true := fun w h => hts w (List.mem_cons_of_mem _ h)
  have hown : s.vm.findClass RX0 = some m.cls := findClass_of_methodNamed B.named
  have hlocks := B.notSynchronized
  have hl := lv_entry ([.ref (o), .int (nI (b))]) (n := 2) (Nat.le_of_ble_eq_true rfl)
  rw [lg_entry_eq]
  generalize (lg_sl ([.ref (o), .int (nI (b))]) ++ List.replicate (2 - (lg_sl ([.ref (o), .int (nI (b))])).length) Slot.unset).toArray = ls at hl ⊢
  have hl : lv_has ls 2 [(0, .ref (o)), (1, .int (nI (b)))] := hl
  refine lv_iload_n hx hb dX0_followers_0 rfl (lv_at hl 1 rfl) ?_
  refine lv_sipush (v := nI 128) hx hb dX0_followers_1 (by decide) ?_
  refine zi_icmp_ge (tgt := 9) hx hb dX0_followers_4 (by decide) (by omega) (by omega) (fun c_4 => ?_) (fun c_4 => ?_)
  · refine lv_iload_n hx hb dX0_followers_9 rfl (lv_at hl 1 rfl) ?_
    refine lv_sipush (v := nI 192) hx hb dX0_followers_10 (by decide) ?_
    refine zi_icmp_lt (tgt := 23) hx hb dX0_followers_13 (by decide) (by omega) (by omega) (fun c_13 => ?_) (fun c_13 => ?_)
    · refine lv_iconst (v := (-1)) hx hb dX0_followers_23 (by decide) ?_
      exact zr_i hx hb hr hlocks (by unfold flw; (repeat' split) <;> first | rfl | decide | (exfalso; omega)) dX0_followers_24
    · refine lv_iload_n hx hb dX0_followers_16 rfl (lv_at hl 1 rfl) ?_
      refine lv_sipush (v := nI 247) hx hb dX0_followers_17 (by decide) ?_
      refine zi_icmp_le (tgt := 25) hx hb dX0_followers_20 (by decide) (by omega) (by omega) (fun c_20 => ?_) (fun c_20 => ?_)
      · refine lv_iload_n hx hb dX0_followers_25 rfl (lv_at hl 1 rfl) ?_
        refine lv_sipush (v := nI 224) hx hb dX0_followers_26 (by decide) ?_
        refine zi_icmp_ge (tgt := 36) hx hb dX0_followers_29 (by decide) (by omega) (by omega) (fun c_29 => ?_) (fun c_29 => ?_)
        · refine lv_iload_n hx hb dX0_followers_36 rfl (lv_at hl 1 rfl) ?_
          refine lv_sipush (v := nI 240) hx hb dX0_followers_37 (by decide) ?_
          refine zi_icmp_ge (tgt := 47) hx hb dX0_followers_40 (by decide) (by omega) (by omega) (fun c_40 => ?_) (fun c_40 => ?_)
          · refine lv_iconst (v := nI 3) hx hb dX0_followers_47 (by decide) ?_
            exact zr_i hx hb hr hlocks (by unfold flw; (repeat' split) <;> first | rfl | decide | (exfalso; omega)) dX0_followers_48
          · refine lv_iconst (v := nI 2) hx hb dX0_followers_43 (by decide) ?_
            refine lv_goto (tgt := 48) hx hb dX0_followers_44 (by decide) ?_
            exact zr_i hx hb hr hlocks (by unfold flw; (repeat' split) <;> first | rfl | decide | (exfalso; omega)) dX0_followers_48
        · refine lv_iconst (v := nI 1) hx hb dX0_followers_32 (by decide) ?_
          refine lv_goto (tgt := 48) hx hb dX0_followers_33 (by decide) ?_
          exact zr_i hx hb hr hlocks (by unfold flw; (repeat' split) <;> first | rfl | decide | (exfalso; omega)) dX0_followers_48
      · refine lv_iconst (v := (-1)) hx hb dX0_followers_23 (by decide) ?_
        exact zr_i hx hb hr hlocks (by unfold flw; (repeat' split) <;> first | rfl | decide | (exfalso; omega)) dX0_followers_24
  · refine lv_iconst (v := nI 0) hx hb dX0_followers_7 (by decide) ?_
    exact zr_i hx hb hr hlocks (by unfold flw; (repeat' split) <;> first | rfl | decide | (exfalso; omega)) dX0_followers_8

set_option maxHeartbeats 4000000 in
set_option maxRecDepth 100000 in
theorem c_isCharacter (l : Launch) (G : zG) (o : Nat) (fs : List Value) (v lo : Nat) (hv : v < 2 ^ 31) (hlo : lo < 2 ^ 31) : Met l yX0_isCharacter wsX0_isCharacter ({ frames := 0, cells := 0, slots := 0, locals := 0 }) (zP G [.ref (o), .int (nI (v)), .int (nI (lo))] (fun H => zO G H o 1 fs)) (zR (.int (nI (nB (decide (okc v lo)))))) 0 0 (fun _ => False) := by
  refine Met.ofW (cc := cX0_isCharacter) (maxL := 4) (ret := (some .boolean)) (by decide) rfl ?_
  intro p en s m args below meth c s₁ B hml hv
  obtain ⟨rfl, hP, hK⟩ := hv
  have hx := B.exec
  have hb := B.bytes
  have hr := B.returns
  have hts := atoms_spec (ws := wsX0_isCharacter) B.pre
  have hz : ∀ w ∈ zW, w.before _ s = true := fun w h => hts w (List.mem_cons_of_mem _ h)
  have hown : s.vm.findClass RX0 = some m.cls := findClass_of_methodNamed B.named
  have hlocks := B.notSynchronized
  have hl := lv_entry ([.ref (o), .int (nI (v)), .int (nI (lo))]) (n := 4) (Nat.le_of_ble_eq_true rfl)
  rw [lg_entry_eq]
  generalize (lg_sl ([.ref (o), .int (nI (v)), .int (nI (lo))]) ++ List.replicate (4 - (lg_sl ([.ref (o), .int (nI (v)), .int (nI (lo))])).length) Slot.unset).toArray = ls at hl ⊢
  have hl : lv_has ls 4 [(0, .ref (o)), (1, .int (nI (v))), (2, .int (nI (lo)))] := hl
  refine lv_iload_n hx hb dX0_isCharacter_0 rfl (lv_at hl 1 rfl) ?_
  refine lv_ldc (v := 55296) hx hb hown (hz _ wk_X0_130) dX0_isCharacter_1 ?_
  refine W.eq (g2 := F0 m 3 ls ([.int (nI (55296)), .int (nI (v))])) rfl ?_
  refine zi_icmp_lt (tgt := 16) hx hb dX0_isCharacter_3 (by decide) (by omega) (by omega) (fun c_3 => ?_) (fun c_3 => ?_)
  · refine lv_iconst (v := nI 0) hx hb dX0_isCharacter_16 (by decide) ?_
    refine lv_istore_n (lv' := [(3, .int (nI (0))), (0, .ref (o)), (1, .int (nI (v))), (2, .int (nI (lo)))]) hx hb dX0_isCharacter_17 rfl hl (by decide) rfl (fun ls hl => ?_)
    refine lv_iload_n hx hb dX0_isCharacter_18 rfl (lv_at hl 2 rfl) ?_
    refine lv_iload_n hx hb dX0_isCharacter_19 rfl (lv_at hl 3 rfl) ?_
    refine zi_icmp_lt (tgt := 37) hx hb dX0_isCharacter_20 (by decide) (by omega) (by omega) (fun c_20 => ?_) (fun c_20 => ?_)
    · refine lv_iconst (v := nI 0) hx hb dX0_isCharacter_37 (by decide) ?_
      exact zr_z hx hb hr hlocks (by first | (rw [decide_eq_true (show okc v lo from ⟨by omega, by omega, by omega⟩)]; rfl) | (rw [decide_eq_false (show ¬ okc v lo from fun z => by have := z.1; have := z.2.1; have := z.2.2; omega)]; rfl)) dX0_isCharacter_38
    · refine lv_iload_n hx hb dX0_isCharacter_23 rfl (lv_at hl 2 rfl) ?_
      refine lv_ldc (v := 1114111) hx hb hown (hz _ wk_X0_132) dX0_isCharacter_24 ?_
      refine W.eq (g2 := F0 m 26 ls ([.int (nI (1114111)), .int (nI (v))])) rfl ?_
      refine zi_icmp_gt (tgt := 37) hx hb dX0_isCharacter_26 (by decide) (by omega) (by omega) (fun c_26 => ?_) (fun c_26 => ?_)
      · refine lv_iconst (v := nI 0) hx hb dX0_isCharacter_37 (by decide) ?_
        exact zr_z hx hb hr hlocks (by first | (rw [decide_eq_true (show okc v lo from ⟨by omega, by omega, by omega⟩)]; rfl) | (rw [decide_eq_false (show ¬ okc v lo from fun z => by have := z.1; have := z.2.1; have := z.2.2; omega)]; rfl)) dX0_isCharacter_38
      · refine lv_iload_n hx hb dX0_isCharacter_29 rfl (lv_at hl 0 rfl) ?_
        refine zi_if_ne (tgt := 37) hx hb dX0_isCharacter_30 (by decide) (by omega) (fun c_30 => absurd c_30 (by decide)) (fun c_30 => ?_)
        refine lv_iconst (v := nI 1) hx hb dX0_isCharacter_33 (by decide) ?_
        refine lv_goto (tgt := 38) hx hb dX0_isCharacter_34 (by decide) ?_
        exact zr_z hx hb hr hlocks (by first | (rw [decide_eq_true (show okc v lo from ⟨by omega, by omega, by omega⟩)]; rfl) | (rw [decide_eq_false (show ¬ okc v lo from fun z => by have := z.1; have := z.2.1; have := z.2.2; omega)]; rfl)) dX0_isCharacter_38
  · refine lv_iload_n hx hb dX0_isCharacter_6 rfl (lv_at hl 1 rfl) ?_
    refine lv_ldc (v := 57343) hx hb hown (hz _ wk_X0_131) dX0_isCharacter_7 ?_
    refine W.eq (g2 := F0 m 9 ls ([.int (nI (57343)), .int (nI (v))])) rfl ?_
    refine zi_icmp_gt (tgt := 16) hx hb dX0_isCharacter_9 (by decide) (by omega) (by omega) (fun c_9 => ?_) (fun c_9 => ?_)
    · refine lv_iconst (v := nI 0) hx hb dX0_isCharacter_16 (by decide) ?_
      refine lv_istore_n (lv' := [(3, .int (nI (0))), (0, .ref (o)), (1, .int (nI (v))), (2, .int (nI (lo)))]) hx hb dX0_isCharacter_17 rfl hl (by decide) rfl (fun ls hl => ?_)
      refine lv_iload_n hx hb dX0_isCharacter_18 rfl (lv_at hl 2 rfl) ?_
      refine lv_iload_n hx hb dX0_isCharacter_19 rfl (lv_at hl 3 rfl) ?_
      refine zi_icmp_lt (tgt := 37) hx hb dX0_isCharacter_20 (by decide) (by omega) (by omega) (fun c_20 => ?_) (fun c_20 => ?_)
      · refine lv_iconst (v := nI 0) hx hb dX0_isCharacter_37 (by decide) ?_
        exact zr_z hx hb hr hlocks (by first | (rw [decide_eq_true (show okc v lo from ⟨by omega, by omega, by omega⟩)]; rfl) | (rw [decide_eq_false (show ¬ okc v lo from fun z => by have := z.1; have := z.2.1; have := z.2.2; omega)]; rfl)) dX0_isCharacter_38
      · refine lv_iload_n hx hb dX0_isCharacter_23 rfl (lv_at hl 2 rfl) ?_
        refine lv_ldc (v := 1114111) hx hb hown (hz _ wk_X0_132) dX0_isCharacter_24 ?_
        refine W.eq (g2 := F0 m 26 ls ([.int (nI (1114111)), .int (nI (v))])) rfl ?_
        refine zi_icmp_gt (tgt := 37) hx hb dX0_isCharacter_26 (by decide) (by omega) (by omega) (fun c_26 => ?_) (fun c_26 => ?_)
        · refine lv_iconst (v := nI 0) hx hb dX0_isCharacter_37 (by decide) ?_
          exact zr_z hx hb hr hlocks (by first | (rw [decide_eq_true (show okc v lo from ⟨by omega, by omega, by omega⟩)]; rfl) | (rw [decide_eq_false (show ¬ okc v lo from fun z => by have := z.1; have := z.2.1; have := z.2.2; omega)]; rfl)) dX0_isCharacter_38
        · refine lv_iload_n hx hb dX0_isCharacter_29 rfl (lv_at hl 0 rfl) ?_
          refine zi_if_ne (tgt := 37) hx hb dX0_isCharacter_30 (by decide) (by omega) (fun c_30 => absurd c_30 (by decide)) (fun c_30 => ?_)
          refine lv_iconst (v := nI 1) hx hb dX0_isCharacter_33 (by decide) ?_
          refine lv_goto (tgt := 38) hx hb dX0_isCharacter_34 (by decide) ?_
          exact zr_z hx hb hr hlocks (by first | (rw [decide_eq_true (show okc v lo from ⟨by omega, by omega, by omega⟩)]; rfl) | (rw [decide_eq_false (show ¬ okc v lo from fun z => by have := z.1; have := z.2.1; have := z.2.2; omega)]; rfl)) dX0_isCharacter_38
    · refine lv_iconst (v := nI 1) hx hb dX0_isCharacter_12 (by decide) ?_
      refine lv_goto (tgt := 17) hx hb dX0_isCharacter_13 (by decide) ?_
      refine lv_istore_n (lv' := [(3, .int (nI (1))), (0, .ref (o)), (1, .int (nI (v))), (2, .int (nI (lo)))]) hx hb dX0_isCharacter_17 rfl hl (by decide) rfl (fun ls hl => ?_)
      refine lv_iload_n hx hb dX0_isCharacter_18 rfl (lv_at hl 2 rfl) ?_
      refine lv_iload_n hx hb dX0_isCharacter_19 rfl (lv_at hl 3 rfl) ?_
      refine zi_icmp_lt (tgt := 37) hx hb dX0_isCharacter_20 (by decide) (by omega) (by omega) (fun c_20 => ?_) (fun c_20 => ?_)
      · refine lv_iconst (v := nI 0) hx hb dX0_isCharacter_37 (by decide) ?_
        exact zr_z hx hb hr hlocks (by first | (rw [decide_eq_true (show okc v lo from ⟨by omega, by omega, by omega⟩)]; rfl) | (rw [decide_eq_false (show ¬ okc v lo from fun z => by have := z.1; have := z.2.1; have := z.2.2; omega)]; rfl)) dX0_isCharacter_38
      · refine lv_iload_n hx hb dX0_isCharacter_23 rfl (lv_at hl 2 rfl) ?_
        refine lv_ldc (v := 1114111) hx hb hown (hz _ wk_X0_132) dX0_isCharacter_24 ?_
        refine W.eq (g2 := F0 m 26 ls ([.int (nI (1114111)), .int (nI (v))])) rfl ?_
        refine zi_icmp_gt (tgt := 37) hx hb dX0_isCharacter_26 (by decide) (by omega) (by omega) (fun c_26 => ?_) (fun c_26 => ?_)
        · refine lv_iconst (v := nI 0) hx hb dX0_isCharacter_37 (by decide) ?_
          exact zr_z hx hb hr hlocks (by first | (rw [decide_eq_true (show okc v lo from ⟨by omega, by omega, by omega⟩)]; rfl) | (rw [decide_eq_false (show ¬ okc v lo from fun z => by have := z.1; have := z.2.1; have := z.2.2; omega)]; rfl)) dX0_isCharacter_38
        · refine lv_iload_n hx hb dX0_isCharacter_29 rfl (lv_at hl 0 rfl) ?_
          refine zi_if_ne (tgt := 37) hx hb dX0_isCharacter_30 (by decide) (by omega) (fun c_30 => ?_) (fun c_30 => absurd c_30 (by decide))
          refine lv_iconst (v := nI 0) hx hb dX0_isCharacter_37 (by decide) ?_
          exact zr_z hx hb hr hlocks (by first | (rw [decide_eq_true (show okc v lo from ⟨by omega, by omega, by omega⟩)]; rfl) | (rw [decide_eq_false (show ¬ okc v lo from fun z => by have := z.1; have := z.2.1; have := z.2.2; omega)]; rfl)) dX0_isCharacter_38

set_option maxHeartbeats 4000000 in
set_option maxRecDepth 100000 in
theorem c_leastCode (l : Launch) (G : zG) (o : Nat) (fs : List Value) (k : Nat) (hk : k < 2 ^ 31) : Met l yX0_leastCode wsX0_leastCode ({ frames := 0, cells := 0, slots := 0, locals := 0 }) (zP G [.ref (o), .int (nI (k))] (fun H => zO G H o 1 fs)) (zR (.int (nI (if k = 1 then 128 else if k = 2 then 2048 else if k = 3 then 65536 else 0)))) 0 0 (fun _ => False) := by
  refine Met.ofW (cc := cX0_leastCode) (maxL := 2) (ret := (some .int)) (by decide) rfl ?_
  intro p en s m args below meth c s₁ B hml hv
  obtain ⟨rfl, hP, hK⟩ := hv
  have hx := B.exec
  have hb := B.bytes
  have hr := B.returns
  have hts := atoms_spec (ws := wsX0_leastCode) B.pre
  have hz : ∀ w ∈ zW, w.before _ s = true := fun w h => hts w (List.mem_cons_of_mem _ h)
  have hown : s.vm.findClass RX0 = some m.cls := findClass_of_methodNamed B.named
  have hlocks := B.notSynchronized
  have hl := lv_entry ([.ref (o), .int (nI (k))]) (n := 2) (Nat.le_of_ble_eq_true rfl)
  rw [lg_entry_eq]
  generalize (lg_sl ([.ref (o), .int (nI (k))]) ++ List.replicate (2 - (lg_sl ([.ref (o), .int (nI (k))])).length) Slot.unset).toArray = ls at hl ⊢
  have hl : lv_has ls 2 [(0, .ref (o)), (1, .int (nI (k)))] := hl
  refine lv_iload_n hx hb dX0_leastCode_0 rfl (lv_at hl 1 rfl) ?_
  by_cases c_1_1 : k = 1
  · refine zi_tab hx hb dX0_leastCode_1 (by omega) 28 (by rw [c_1_1]; decide) ?_
    refine lv_sipush (v := nI 128) hx hb dX0_leastCode_28 (by decide) ?_
    exact zr_i hx hb hr hlocks (by simp [*]) dX0_leastCode_31
  by_cases c_1_2 : k = 2
  · refine zi_tab hx hb dX0_leastCode_1 (by omega) 32 (by rw [c_1_2]; decide) ?_
    refine lv_sipush (v := nI 2048) hx hb dX0_leastCode_32 (by decide) ?_
    exact zr_i hx hb hr hlocks (by simp [*]) dX0_leastCode_35
  by_cases c_1_3 : k = 3
  · refine zi_tab hx hb dX0_leastCode_1 (by omega) 36 (by rw [c_1_3]; decide) ?_
    refine lv_ldc (v := 65536) hx hb hown (hz _ wk_X0_129) dX0_leastCode_36 ?_
    refine W.eq (g2 := F0 m 38 ls ([.int (nI (65536))])) rfl ?_
    exact zr_i hx hb hr hlocks (by simp [*]) dX0_leastCode_38
  refine zi_tab hx hb dX0_leastCode_1 (by omega) 39 ((zTab_d [1, 2, 3] (by decide +kernel) (by simp only [List.mem_cons, List.not_mem_nil, or_false, not_or]; exact ⟨c_1_1, c_1_2, c_1_3⟩)).trans (by decide)) ?_
  refine lv_iconst (v := nI 0) hx hb dX0_leastCode_39 (by decide) ?_
  exact zr_i hx hb hr hlocks (by simp [*]) dX0_leastCode_40

set_option maxHeartbeats 4000000 in
set_option maxRecDepth 100000 in
theorem c_zeroFrom (l : Launch) (G : zG) (o tp qb cn : Nat) (at9 : Value) (f : Nat → Nat) (a last : Nat) (hla : last < 2 ^ 31) (haa : a < 2 ^ 31) : Met l yX0_zeroFrom wsX0_zeroFrom ({ frames := 1, cells := 0, slots := 0, locals := 21 }) (zP G [.ref (o), .int (nI (a)), .int (nI (last))] (fun H => zO G H o 1 [.ref tp, at9] ∧ TP G tp qb cn f H)) (zR (.int (zrF f (last - a + 1) a last))) 0 0 (fun _ => False) := by
  refine Met.ofW (cc := cX0_zeroFrom) (maxL := 4) (ret := (some .int)) (by decide) rfl ?_
  intro p en s m args below meth c s₁ B hml hv
  obtain ⟨rfl, hP, hK⟩ := hv
  have hx := B.exec
  have hb := B.bytes
  have hr := B.returns
  have hts := atoms_spec (ws := wsX0_zeroFrom) B.pre
  have hz : ∀ w ∈ zW, w.before _ s = true := fun w h => hts w (List.mem_cons_of_mem _ h)
  have hown : s.vm.findClass RX0 = some m.cls := findClass_of_methodNamed B.named
  have hlocks := B.notSynchronized
  obtain ⟨hO, hT⟩ := id hP
  have hl := lv_entry ([.ref (o), .int (nI (a)), .int (nI (last))]) (n := 4) (Nat.le_of_ble_eq_true rfl)
  rw [lg_entry_eq]
  generalize (lg_sl ([.ref (o), .int (nI (a)), .int (nI (last))]) ++ List.replicate (4 - (lg_sl ([.ref (o), .int (nI (a)), .int (nI (last))])).length) Slot.unset).toArray = ls at hl ⊢
  have hl : lv_has ls 4 [(0, .ref (o)), (1, .int (nI (a))), (2, .int (nI (last)))] := hl
  refine lv_iload_n hx hb dX0_zeroFrom_0 rfl (lv_at hl 1 rfl) ?_
  refine lv_istore_n (lv' := [(3, .int (nI (a))), (0, .ref (o)), (1, .int (nI (a))), (2, .int (nI (last)))]) hx hb dX0_zeroFrom_1 rfl hl (by decide) rfl (fun ls hl => ?_)
  have L2 : ∀ (n_ : Nat) (k : Nat), last - k < n_ → (k < 2 ^ 31) → (zrF f (last - a + 1) a last = zrF f (last - k + 1) k last) → ∀ ls : Array Slot, lv_has ls 4 [(0, .ref (o)), (2, .int (nI (last))), (3, .int (nI (k)))] → W p l en (headSpec wsX0_zeroFrom ({ frames := 1, cells := 0, slots := 0, locals := 21 })).room s m ([.ref (o), .int (nI (a)), .int (nI (last))] : List Value).toArray below meth c s.heap [] 0 0 (MQ below (zR (.int (zrF f (last - a + 1) a last))) ([.ref (o), .int (nI (a)), .int (nI (last))] : List Value).toArray s 0 0 (fun _ => False)) (F0 m 2 ls []) := by
    intro n_
    induction n_ with
    | zero => intro k hm_; exact absurd hm_ (Nat.not_lt_zero _)
    | succ n_ ih_ =>
      intro k hm_ hkl hs ls hl
      refine lv_iload_n hx hb dX0_zeroFrom_2 rfl (lv_at hl 2 rfl) ?_
      refine lv_iload_n hx hb dX0_zeroFrom_3 rfl (lv_at hl 1 rfl) ?_
      refine zi_icmp_ge (tgt := 26) hx hb dX0_zeroFrom_4 (by decide) (by omega) (by omega) (fun c_4 => ?_) (fun c_4 => ?_)
      · refine lv_iconst (v := (-1)) hx hb dX0_zeroFrom_26 (by decide) ?_
        exact zr_i hx hb hr hlocks (by rw [hs, zrF, if_neg (by omega)]) dX0_zeroFrom_27
      · refine lv_aload_n hx hb dX0_zeroFrom_7 rfl (lv_at hl 0 rfl) ?_
        refine zi_get (C := RX0) (T := TX0) (N := 2) (v := .ref (tp)) hx hb hz wo_X0 hown hK hO rfl 0 (by decide) (hz _ wf_X0_9) (fun _ h9 => h9) rfl dX0_zeroFrom_8 ?_
        refine lv_iload_n hx hb dX0_zeroFrom_11 rfl (lv_at hl 2 rfl) ?_
        refine zc_VN (As := [.int (nI (k))]) (rest := []) ⟨hx, hb, hml, hown, hts⟩ (c_byteAt l G tp qb cn f k (by omega)) ⟨va_cnB 1 hts (zgN wc_X8_byteAt) rfl rfl rfl (hK.2.1 _ wm_X0_48) (hz _ wi_X8) (by decide +kernel) ⟨Nat.le_of_ble_eq_true rfl, Nat.le_of_ble_eq_true rfl⟩, hz _ wn_X8_byteAt, hz _ we_X8_byteAt⟩ hK hT.1 rfl hT rfl hl.1 rfl (Nat.le_of_ble_eq_true rfl) dX0_zeroFrom_12 ⟨Nat.zero_le _, Nat.zero_le _⟩ ?_
        refine zi_if_ne (tgt := 20) hx hb dX0_zeroFrom_15 (by decide) (Nat.lt_trans (bA_lt hT.2.2 k) (by decide)) (fun c_15 => ?_) (fun c_15 => ?_)
        · refine lv_iinc (v := nI (k + 1)) (lv' := [(3, .int (nI (k + 1))), (0, .ref (o)), (2, .int (nI (last)))]) hx hb dX0_zeroFrom_20 hl (k := 2) rfl (nI_add _ _) (by decide) rfl (fun ls hl => ?_)
          refine lv_goto (tgt := 2) hx hb dX0_zeroFrom_23 (by decide) ?_
          exact ih_ (k + 1) (by omega) (by omega) (by rw [hs, zrF, if_pos c_4, if_neg c_15, show last - k = last - (k + 1) + 1 by omega]) ls (lv_sub hl [1, 2, 0] rfl)
        · refine lv_iload_n hx hb dX0_zeroFrom_18 rfl (lv_at hl 2 rfl) ?_
          exact zr_i hx hb hr hlocks (by rw [hs, zrF, if_pos c_4, if_pos c_15]) dX0_zeroFrom_19
  exact L2 ((last - a) + 1) a (Nat.lt_succ_self _) haa rfl ls (lv_sub hl [1, 3, 0] rfl)
