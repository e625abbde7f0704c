theorem c_byteAt2 (l : Launch) (G : zG) (tp qb cn : Nat) (f : Nat → Nat) (a : Nat) (ha : a < 2000) : Met l yX8_byteAt wsX8_byteAt ({ frames := 0, cells := 0, slots := 0, locals := 0 }) (zP G [.ref (tp), .int (nI (a))] (fun H => TP G tp qb cn f H)) (zR (.int (nI (f a)))) 0 0 (fun _ => False) := by
  have h := c_byteAt l G tp qb cn f a (by omega)
  rw [bA, if_pos ha] at h
  exact h

set_option maxHeartbeats 4000000 in
set_option maxRecDepth 100000 in
theorem c_lead1 (l : Launch) (G : zG) (o : Nat) (fs : List Value) (b : Nat) (hb9 : b < 256) (h1 : 192 ≤ b) (h2 : b < 224) : Met l yX0_leadingBits wsX0_leadingBits ({ frames := 0, cells := 0, slots := 0, locals := 0 }) (zP G [.ref (o), .int (nI (b)), .int (nI (1))] (fun H => zO G H o 1 fs)) (zR (.int (nI (b - 192)))) 0 0 (fun _ => False) := by
  refine Met.ofW (cc := cX0_leadingBits) (maxL := 3) (ret := (some .int)) (by decide) rfl ?_
  intro p en s m args below meth c s₁ B hml hv
  obtain ⟨rfl, hP, hK⟩ := hv
  have hx := B.exec
  have hb := B.bytes
  have hr := B.returns
  have hts := atoms_spec (ws := wsX0_leadingBits) B.pre
  have hz : ∀ w ∈ zW, w.before _ s = true := fun w h => hts w (List.mem_cons_of_mem _ h)
  have hown : s.vm.findClass RX0 = some m.cls := findClass_of_methodNamed B.named
  have hlocks := B.notSynchronized
  have hl := lv_entry ([.ref (o), .int (nI (b)), .int (nI (1))]) (n := 3) (Nat.le_of_ble_eq_true rfl)
  rw [lg_entry_eq]
  generalize (lg_sl ([.ref (o), .int (nI (b)), .int (nI (1))]) ++ List.replicate (3 - (lg_sl ([.ref (o), .int (nI (b)), .int (nI (1))])).length) Slot.unset).toArray = ls at hl ⊢
  have hl : lv_has ls 3 [(0, .ref (o)), (1, .int (nI (b))), (2, .int (nI (1)))] := hl
  refine lv_iload_n hx hb dX0_leadingBits_0 rfl (lv_at hl 2 rfl) ?_
  refine zi_if_gt (tgt := 8) hx hb dX0_leadingBits_1 (by decide) (by omega) (fun c_1 => ?_) (fun c_1 => absurd c_1 (by decide))
  refine lv_iload_n hx hb dX0_leadingBits_8 rfl (lv_at hl 1 rfl) ?_
  refine lv_bipush (v := nI 63) hx hb dX0_leadingBits_9 (by decide) ?_
  refine lv_iload_n hx hb dX0_leadingBits_11 rfl (lv_at hl 2 rfl) ?_
  refine lv_ishr hx hb dX0_leadingBits_12 ?_
  rw [show nI 63 >>> (nI 1 &&& 31) = nI 31 by decide]
  refine W.eq (g2 := F0 m 13 ls ([.int (nI (31)), .int (nI (b))])) rfl ?_
  refine lv_iand hx hb dX0_leadingBits_13 ?_
  rw [lead1 b hb9 h1 h2]
  refine W.eq (g2 := F0 m 14 ls ([.int (nI (b - 192))])) rfl ?_
  exact zr_i hx hb hr hlocks (rfl) dX0_leadingBits_14

set_option maxHeartbeats 4000000 in
set_option maxRecDepth 100000 in
theorem c_lead2 (l : Launch) (G : zG) (o : Nat) (fs : List Value) (b : Nat) (hb9 : b < 256) (h1 : 224 ≤ b) (h2 : b < 240) : Met l yX0_leadingBits wsX0_leadingBits ({ frames := 0, cells := 0, slots := 0, locals := 0 }) (zP G [.ref (o), .int (nI (b)), .int (nI (2))] (fun H => zO G H o 1 fs)) (zR (.int (nI (b - 224)))) 0 0 (fun _ => False) := by
  refine Met.ofW (cc := cX0_leadingBits) (maxL := 3) (ret := (some .int)) (by decide) rfl ?_
  intro p en s m args below meth c s₁ B hml hv
  obtain ⟨rfl, hP, hK⟩ := hv
  have hx := B.exec
  have hb := B.bytes
  have hr := B.returns
  have hts := atoms_spec (ws := wsX0_leadingBits) B.pre
  have hz : ∀ w ∈ zW, w.before _ s = true := fun w h => hts w (List.mem_cons_of_mem _ h)
  have hown : s.vm.findClass RX0 = some m.cls := findClass_of_methodNamed B.named
  have hlocks := B.notSynchronized
  have hl := lv_entry ([.ref (o), .int (nI (b)), .int (nI (2))]) (n := 3) (Nat.le_of_ble_eq_true rfl)
  rw [lg_entry_eq]
  generalize (lg_sl ([.ref (o), .int (nI (b)), .int (nI (2))]) ++ List.replicate (3 - (lg_sl ([.ref (o), .int (nI (b)), .int (nI (2))])).length) Slot.unset).toArray = ls at hl ⊢
  have hl : lv_has ls 3 [(0, .ref (o)), (1, .int (nI (b))), (2, .int (nI (2)))] := hl
  refine lv_iload_n hx hb dX0_leadingBits_0 rfl (lv_at hl 2 rfl) ?_
  refine zi_if_gt (tgt := 8) hx hb dX0_leadingBits_1 (by decide) (by omega) (fun c_1 => ?_) (fun c_1 => absurd c_1 (by decide))
  refine lv_iload_n hx hb dX0_leadingBits_8 rfl (lv_at hl 1 rfl) ?_
  refine lv_bipush (v := nI 63) hx hb dX0_leadingBits_9 (by decide) ?_
  refine lv_iload_n hx hb dX0_leadingBits_11 rfl (lv_at hl 2 rfl) ?_
  refine lv_ishr hx hb dX0_leadingBits_12 ?_
  rw [show nI 63 >>> (nI 2 &&& 31) = nI 15 by decide]
  refine W.eq (g2 := F0 m 13 ls ([.int (nI (15)), .int (nI (b))])) rfl ?_
  refine lv_iand hx hb dX0_leadingBits_13 ?_
  rw [lead2 b hb9 h1 h2]
  refine W.eq (g2 := F0 m 14 ls ([.int (nI (b - 224))])) rfl ?_
  exact zr_i hx hb hr hlocks (rfl) dX0_leadingBits_14

set_option maxHeartbeats 4000000 in
set_option maxRecDepth 100000 in
theorem c_lead3 (l : Launch) (G : zG) (o : Nat) (fs : List Value) (b : Nat) (hb9 : b < 256) (h1 : 240 ≤ b) (h2 : b ≤ 247) : Met l yX0_leadingBits wsX0_leadingBits ({ frames := 0, cells := 0, slots := 0, locals := 0 }) (zP G [.ref (o), .int (nI (b)), .int (nI (3))] (fun H => zO G H o 1 fs)) (zR (.int (nI (b - 240)))) 0 0 (fun _ => False) := by
  refine Met.ofW (cc := cX0_leadingBits) (maxL := 3) (ret := (some .int)) (by decide) rfl ?_
  intro p en s m args below meth c s₁ B hml hv
  obtain ⟨rfl, hP, hK⟩ := hv
  have hx := B.exec
  have hb := B.bytes
  have hr := B.returns
  have hts := atoms_spec (ws := wsX0_leadingBits) B.pre
  have hz : ∀ w ∈ zW, w.before _ s = true := fun w h => hts w (List.mem_cons_of_mem _ h)
  have hown : s.vm.findClass RX0 = some m.cls := findClass_of_methodNamed B.named
  have hlocks := B.notSynchronized
  have hl := lv_entry ([.ref (o), .int (nI (b)), .int (nI (3))]) (n := 3) (Nat.le_of_ble_eq_true rfl)
  rw [lg_entry_eq]
  generalize (lg_sl ([.ref (o), .int (nI (b)), .int (nI (3))]) ++ List.replicate (3 - (lg_sl ([.ref (o), .int (nI (b)), .int (nI (3))])).length) Slot.unset).toArray = ls at hl ⊢
  have hl : lv_has ls 3 [(0, .ref (o)), (1, .int (nI (b))), (2, .int (nI (3)))] := hl
  refine lv_iload_n hx hb dX0_leadingBits_0 rfl (lv_at hl 2 rfl) ?_
  refine zi_if_gt (tgt := 8) hx hb dX0_leadingBits_1 (by decide) (by omega) (fun c_1 => ?_) (fun c_1 => absurd c_1 (by decide))
  refine lv_iload_n hx hb dX0_leadingBits_8 rfl (lv_at hl 1 rfl) ?_
  refine lv_bipush (v := nI 63) hx hb dX0_leadingBits_9 (by decide) ?_
  refine lv_iload_n hx hb dX0_leadingBits_11 rfl (lv_at hl 2 rfl) ?_
  refine lv_ishr hx hb dX0_leadingBits_12 ?_
  rw [show nI 63 >>> (nI 3 &&& 31) = nI 7 by decide]
  refine W.eq (g2 := F0 m 13 ls ([.int (nI (7)), .int (nI (b))])) rfl ?_
  refine lv_iand hx hb dX0_leadingBits_13 ?_
  rw [lead3 b hb9 h1 h2]
  refine W.eq (g2 := F0 m 14 ls ([.int (nI (b - 240))])) rfl ?_
  exact zr_i hx hb hr hlocks (rfl) dX0_leadingBits_14

set_option maxHeartbeats 4000000 in
set_option maxRecDepth 100000 in
theorem c_leadM (l : Launch) (G : zG) (o : Nat) (fs : List Value) (b : Nat) (hb9 : b < 256) : Met l yX0_leadingBits wsX0_leadingBits ({ frames := 0, cells := 0, slots := 0, locals := 0 }) (zP G [.ref (o), .int (nI (b)), .int ((-1))] (fun H => zO G H o 1 fs)) (zR (.int (nI b))) 0 0 (fun _ => False) := by
  refine Met.ofW (cc := cX0_leadingBits) (maxL := 3) (ret := (some .int)) (by decide) rfl ?_
  intro p en s m args below meth c s₁ B hml hv
  obtain ⟨rfl, hP, hK⟩ := hv
  have hx := B.exec
  have hb := B.bytes
  have hr := B.returns
  have hts := atoms_spec (ws := wsX0_leadingBits) B.pre
  have hz : ∀ w ∈ zW, w.before _ s = true := fun w h => hts w (List.mem_cons_of_mem _ h)
  have hown : s.vm.findClass RX0 = some m.cls := findClass_of_methodNamed B.named
  have hlocks := B.notSynchronized
  have hl := lv_entry ([.ref (o), .int (nI (b)), .int ((-1))]) (n := 3) (Nat.le_of_ble_eq_true rfl)
  rw [lg_entry_eq]
  generalize (lg_sl ([.ref (o), .int (nI (b)), .int ((-1))]) ++ List.replicate (3 - (lg_sl ([.ref (o), .int (nI (b)), .int ((-1))])).length) Slot.unset).toArray = ls at hl ⊢
  have hl : lv_has ls 3 [(0, .ref (o)), (1, .int (nI (b))), (2, .int ((-1)))] := hl
  refine lv_iload_n hx hb dX0_leadingBits_0 rfl (lv_at hl 2 rfl) ?_
  refine lv_if_gt (tgt := 8) hx hb dX0_leadingBits_1 (by decide) (fun c_1 => absurd c_1 (by decide)) (fun c_1 => ?_)
  refine lv_iload_n hx hb dX0_leadingBits_4 rfl (lv_at hl 1 rfl) ?_
  refine lv_goto (tgt := 14) hx hb dX0_leadingBits_5 (by decide) ?_
  exact zr_i hx hb hr hlocks (rfl) dX0_leadingBits_14

set_option maxHeartbeats 4000000 in
set_option maxRecDepth 100000 in
theorem c_lead0 (l : Launch) (G : zG) (o : Nat) (fs : List Value) (b : Nat) (hb9 : b < 256) : Met l yX0_leadingBits wsX0_leadingBits ({ frames := 0, cells := 0, slots := 0, locals := 0 }) (zP G [.ref (o), .int (nI (b)), .int (nI (0))] (fun H => zO G H o 1 fs)) (zR (.int (nI b))) 0 0 (fun _ => False) := by
  refine Met.ofW (cc := cX0_leadingBits) (maxL := 3) (ret := (some .int)) (by decide) rfl ?_
  intro p en s m args below meth c s₁ B hml hv
  obtain ⟨rfl, hP, hK⟩ := hv
  have hx := B.exec
  have hb := B.bytes
  have hr := B.returns
  have hts := atoms_spec (ws := wsX0_leadingBits) B.pre
  have hz : ∀ w ∈ zW, w.before _ s = true := fun w h => hts w (List.mem_cons_of_mem _ h)
  have hown : s.vm.findClass RX0 = some m.cls := findClass_of_methodNamed B.named
  have hlocks := B.notSynchronized
  have hl := lv_entry ([.ref (o), .int (nI (b)), .int (nI (0))]) (n := 3) (Nat.le_of_ble_eq_true rfl)
  rw [lg_entry_eq]
  generalize (lg_sl ([.ref (o), .int (nI (b)), .int (nI (0))]) ++ List.replicate (3 - (lg_sl ([.ref (o), .int (nI (b)), .int (nI (0))])).length) Slot.unset).toArray = ls at hl ⊢
  have hl : lv_has ls 3 [(0, .ref (o)), (1, .int (nI (b))), (2, .int (nI (0)))] := hl
  refine lv_iload_n hx hb dX0_leadingBits_0 rfl (lv_at hl 2 rfl) ?_
  refine zi_if_gt (tgt := 8) hx hb dX0_leadingBits_1 (by decide) (by omega) (fun c_1 => absurd c_1 (by decide)) (fun c_1 => ?_)
  refine lv_iload_n hx hb dX0_leadingBits_4 rfl (lv_at hl 1 rfl) ?_
  refine lv_goto (tgt := 14) hx hb dX0_leadingBits_5 (by decide) ?_
  exact zr_i hx hb hr hlocks (rfl) dX0_leadingBits_14

set_option maxHeartbeats 4000000 in
set_option maxRecDepth 100000 in
theorem c_leastM (l : Launch) (G : zG) (o : Nat) (fs : List Value) : Met l yX0_leastCode wsX0_leastCode ({ frames := 0, cells := 0, slots := 0, locals := 0 }) (zP G [.ref (o), .int ((-1))] (fun H => zO G H o 1 fs)) (zR (.int (nI 0))) 0 0 (fun _ => False) := by
  refine Met.ofW (cc := cX0_leastCode) (maxL := 2) (ret := (some .int)) (by decide) rfl ?_
  intro p en s m args below meth c s₁ B hml hv
  obtain ⟨rfl, hP, hK⟩ := hv
  have hx := B.exec
  have hb := B.bytes
  have hr := B.returns
  have hts := atoms_spec (ws := wsX0_leastCode) B.pre
  have hz : ∀ w ∈ zW, w.before _ s = true := fun w h => hts w (List.mem_cons_of_mem _ h)
  have hown : s.vm.findClass RX0 = some m.cls := findClass_of_methodNamed B.named
  have hlocks := B.notSynchronized
  have hl := lv_entry ([.ref (o), .int ((-1))]) (n := 2) (Nat.le_of_ble_eq_true rfl)
  rw [lg_entry_eq]
  generalize (lg_sl ([.ref (o), .int ((-1))]) ++ List.replicate (2 - (lg_sl ([.ref (o), .int ((-1))])).length) Slot.unset).toArray = ls at hl ⊢
  have hl : lv_has ls 2 [(0, .ref (o)), (1, .int ((-1)))] := hl
  refine lv_iload_n hx hb dX0_leastCode_0 rfl (lv_at hl 1 rfl) ?_
  refine lv_tableOut (tgt := 39) hx hb dX0_leastCode_1 (Or.inl (by decide)) (by decide) ?_
  refine lv_iconst (v := nI 0) hx hb dX0_leastCode_39 (by decide) ?_
  exact zr_i hx hb hr hlocks (rfl) dX0_leastCode_40

set_option maxHeartbeats 4000000 in
set_option maxRecDepth 100000 in
theorem c_utf8 (l : Launch) (G : zG) (o : Nat) (tp qb cn : Nat) (at9 : Value) (f : Nat → Nat) (a to9 : Nat) (hto : to9 ≤ 2000) (ha9 : a ≤ 3000) : Met l yX0_isRightUtf8 wsX0_isRightUtf8 ({ frames := 1, cells := 0, slots := 0, locals := 23 }) (zP G [.ref (o), .int (nI (a)), .int (nI (to9))] (fun H => zO G H o 1 [.ref tp, at9] ∧ TP G tp qb cn f H)) (zR (.int (nI (nB (uS f (to9 - a + 1) a to9 0 0 0))))) 0 0 (fun _ => False) := by
  refine Met.ofW (cc := cX0_isRightUtf8) (maxL := 8) (ret := (some .boolean)) (by decide) rfl ?_
  intro p en s m args below meth c s₁ B hml hv
  obtain ⟨rfl, hP, hK⟩ := hv
  have hx := B.exec
  have hb := B.bytes
  have hr := B.returns
  have hts := atoms_spec (ws := wsX0_isRightUtf8) B.pre
  have hz : ∀ w ∈ zW, w.before _ s = true := fun w h => hts w (List.mem_cons_of_mem _ h)
  have hown : s.vm.findClass RX0 = some m.cls := findClass_of_methodNamed B.named
  have hlocks := B.notSynchronized
  obtain ⟨hO, hT⟩ := id hP
  have hf8 := hT.2.2
  have hl := lv_entry ([.ref (o), .int (nI (a)), .int (nI (to9))]) (n := 8) (Nat.le_of_ble_eq_true rfl)
  rw [lg_entry_eq]
  generalize (lg_sl ([.ref (o), .int (nI (a)), .int (nI (to9))]) ++ List.replicate (8 - (lg_sl ([.ref (o), .int (nI (a)), .int (nI (to9))])).length) Slot.unset).toArray = ls at hl ⊢
  have hl : lv_has ls 8 [(0, .ref (o)), (1, .int (nI (a))), (2, .int (nI (to9)))] := hl
  refine lv_iconst (v := nI 0) hx hb dX0_isRightUtf8_0 (by decide) ?_
  refine lv_istore_n (lv' := [(3, .int (nI (0))), (0, .ref (o)), (1, .int (nI (a))), (2, .int (nI (to9)))]) hx hb dX0_isRightUtf8_1 rfl hl (by decide) rfl (fun ls hl => ?_)
  refine lv_iconst (v := nI 0) hx hb dX0_isRightUtf8_2 (by decide) ?_
  refine lv_istore (lv' := [(4, .int (nI (0))), (3, .int (nI (0))), (0, .ref (o)), (1, .int (nI (a))), (2, .int (nI (to9)))]) hx hb dX0_isRightUtf8_3 hl (by decide) rfl (fun ls hl => ?_)
  refine lv_iconst (v := nI 0) hx hb dX0_isRightUtf8_5 (by decide) ?_
  refine lv_istore (lv' := [(5, .int (nI (0))), (4, .int (nI (0))), (3, .int (nI (0))), (0, .ref (o)), (1, .int (nI (a))), (2, .int (nI (to9)))]) hx hb dX0_isRightUtf8_6 hl (by decide) rfl (fun ls hl => ?_)
  refine lv_iload_n hx hb dX0_isRightUtf8_8 rfl (lv_at hl 4 rfl) ?_
  refine lv_istore (lv' := [(6, .int (nI (a))), (5, .int (nI (0))), (4, .int (nI (0))), (3, .int (nI (0))), (0, .ref (o)), (1, .int (nI (a))), (2, .int (nI (to9)))]) hx hb dX0_isRightUtf8_9 hl (by decide) rfl (fun ls hl => ?_)
  have L11 : ∀ (n_ : Nat) (k : Nat) (c9 : Nat) (l9 : Nat) (w9 : Nat), to9 - k < n_ → (k ≤ 3000) → ((w9 = 3 → c9 < 8) ∧ (w9 = 2 → c9 < 512) ∧ (w9 = 1 → c9 < 32768) ∧ c9 < 4194304) → (l9 < 100000) → (w9 < 4) → (uS f (to9 - a + 1) a to9 0 0 0 = uS f (to9 - k + 1) k to9 c9 l9 w9) → ∀ ls : Array Slot, lv_has ls 8 [(0, .ref (o)), (2, .int (nI (to9))), (3, .int (nI (c9))), (4, .int (nI (l9))), (5, .int (nI (w9))), (6, .int (nI (k)))] → W p l en (headSpec wsX0_isRightUtf8 ({ frames := 1, cells := 0, slots := 0, locals := 23 })).room s m ([.ref (o), .int (nI (a)), .int (nI (to9))] : List Value).toArray below meth c s.heap [] 0 0 (MQ below (zR (.int (nI (nB (uS f (to9 - a + 1) a to9 0 0 0))))) ([.ref (o), .int (nI (a)), .int (nI (to9))] : List Value).toArray s 0 0 (fun _ => False)) (F0 m 11 ls []) := by
    intro n_
    induction n_ with
    | zero => intro k c9 l9 w9 hm_; exact absurd hm_ (Nat.not_lt_zero _)
    | succ n_ ih_ =>
      intro k c9 l9 w9 hm_ hk9 hc9 hl9 hw9 hs9 ls hl
      refine lv_iload hx hb dX0_isRightUtf8_11 (lv_at hl 5 rfl) ?_
      refine lv_iload_n hx hb dX0_isRightUtf8_13 rfl (lv_at hl 1 rfl) ?_
      refine zi_icmp_ge (tgt := 122) hx hb dX0_isRightUtf8_14 (by decide) (by omega) (by omega) (fun c_14 => ?_) (fun c_14 => ?_)
      · refine lv_iload hx hb dX0_isRightUtf8_122 (lv_at hl 4 rfl) ?_
        refine zi_if_ne (tgt := 131) hx hb dX0_isRightUtf8_124 (by decide) (by omega) (fun c_124 => ?_) (fun c_124 => ?_)
        · refine lv_iconst (v := nI 0) hx hb dX0_isRightUtf8_131 (by decide) ?_
          exact zr_z hx hb hr hlocks (by rw [hs9, uS_w (by omega), decide_eq_false c_124]; rfl) dX0_isRightUtf8_132
        · refine lv_iconst (v := nI 1) hx hb dX0_isRightUtf8_127 (by decide) ?_
          refine lv_goto (tgt := 132) hx hb dX0_isRightUtf8_128 (by decide) ?_
          exact zr_z hx hb hr hlocks (by rw [hs9, uS_w (by omega), decide_eq_true c_124]; rfl) dX0_isRightUtf8_132
      · refine lv_aload_n hx hb dX0_isRightUtf8_17 rfl (lv_at hl 0 rfl) ?_
        refine zi_get (C := RX0) (T := TX0) (N := 2) (v := .ref (tp)) hx hb hz wo_X0 hown hK hO rfl 0 (by decide) (hz _ wf_X0_9) (fun _ h9 => h9) rfl dX0_isRightUtf8_18 ?_
        refine lv_iload hx hb dX0_isRightUtf8_21 (lv_at hl 5 rfl) ?_
        refine zc_VN (As := [.int (nI (k))]) (rest := []) ⟨hx, hb, hml, hown, hts⟩ (c_byteAt2 l G tp qb cn f k (by omega)) ⟨va_cnB 1 hts (zgN wc_X8_byteAt) rfl rfl rfl (hK.2.1 _ wm_X0_48) (hz _ wi_X8) (by decide +kernel) ⟨Nat.le_of_ble_eq_true rfl, Nat.le_of_ble_eq_true rfl⟩, hz _ wn_X8_byteAt, hz _ we_X8_byteAt⟩ hK hT.1 rfl hT rfl hl.1 rfl (Nat.le_of_ble_eq_true rfl) dX0_isRightUtf8_23 ⟨Nat.zero_le _, Nat.zero_le _⟩ ?_
        refine lv_istore (lv' := [(7, .int (nI (f k))), (0, .ref (o)), (2, .int (nI (to9))), (3, .int (nI (c9))), (4, .int (nI (l9))), (5, .int (nI (w9))), (6, .int (nI (k)))]) hx hb dX0_isRightUtf8_26 hl (by decide) rfl (fun ls hl => ?_)
        refine lv_iload hx hb dX0_isRightUtf8_28 (lv_at hl 5 rfl) ?_
        refine zi_if_ne (tgt := 61) hx hb dX0_isRightUtf8_30 (by decide) (by omega) (fun c_30 => ?_) (fun c_30 => ?_)
        · refine lv_iload hx hb dX0_isRightUtf8_61 (lv_at hl 0 rfl) ?_
          refine lv_sipush (v := nI 192) hx hb dX0_isRightUtf8_63 (by decide) ?_
          refine lv_iand hx hb dX0_isRightUtf8_66 ?_
          rw [and192 (f k) (hf8 k)]
          refine W.eq (g2 := F0 m 67 ls ([.int (nI (64 * (f k / 64)))])) rfl ?_
          refine lv_sipush (v := nI 128) hx hb dX0_isRightUtf8_67 (by decide) ?_
          refine zi_icmp_ne (tgt := 80) hx hb dX0_isRightUtf8_70 (by decide) (by have := hf8 k; omega) (by omega) (fun c_70 => ?_) (fun c_70 => ?_)
          · refine lv_iconst (v := (-1)) hx hb dX0_isRightUtf8_80 (by decide) ?_
            refine lv_istore (lv' := [(5, .int ((-1))), (7, .int (nI (f k))), (0, .ref (o)), (2, .int (nI (to9))), (3, .int (nI (c9))), (4, .int (nI (l9))), (6, .int (nI (k)))]) hx hb dX0_isRightUtf8_81 hl (by decide) rfl (fun ls hl => ?_)
            refine lv_iload_n hx hb dX0_isRightUtf8_83 rfl (lv_at hl 4 rfl) ?_
            refine lv_bipush (v := nI 6) hx hb dX0_isRightUtf8_84 (by decide) ?_
            refine lv_ishl hx hb dX0_isRightUtf8_86 ?_
            rw [shl6 (by omega)]
            refine W.eq (g2 := F0 m 87 ls ([.int (nI (c9 * 64))])) rfl ?_
            refine lv_iload hx hb dX0_isRightUtf8_87 (lv_at hl 1 rfl) ?_
            refine lv_bipush (v := nI 63) hx hb dX0_isRightUtf8_89 (by decide) ?_
            refine lv_iand hx hb dX0_isRightUtf8_91 ?_
            rw [and63 (f k) (hf8 k)]
            refine W.eq (g2 := F0 m 92 ls ([.int (nI (f k % 64)), .int (nI (c9 * 64))])) rfl ?_
            refine lv_ior hx hb dX0_isRightUtf8_92 ?_
            rw [or6 (by omega) (Nat.mod_lt _ (by decide))]
            refine W.eq (g2 := F0 m 93 ls ([.int (nI (c9 * 64 + f k % 64))])) rfl ?_
            refine lv_istore_n (lv' := [(3, .int (nI (c9 * 64 + f k % 64))), (5, .int ((-1))), (7, .int (nI (f k))), (0, .ref (o)), (2, .int (nI (to9))), (4, .int (nI (l9))), (6, .int (nI (k)))]) hx hb dX0_isRightUtf8_93 rfl hl (by decide) rfl (fun ls hl => ?_)
            refine lv_iload hx hb dX0_isRightUtf8_94 (lv_at hl 1 rfl) ?_
            refine lv_if_lt (tgt := 114) hx hb dX0_isRightUtf8_96 (by decide) (fun c_96 => ?_) (fun c_96 => absurd c_96 (by decide))
            refine lv_iconst (v := nI 0) hx hb dX0_isRightUtf8_114 (by decide) ?_
            exact zr_z hx hb hr hlocks (by rw [hs9, show to9 - k = to9 - (k + 1) + 1 by omega, uS_no c_14 c_30 (fun z => c_70 (by have := z.1; have := z.2; omega))]; rfl) dX0_isRightUtf8_115
          · refine lv_iload hx hb dX0_isRightUtf8_73 (lv_at hl 5 rfl) ?_
            refine lv_iconst (v := nI 1) hx hb dX0_isRightUtf8_75 (by decide) ?_
            refine zi_sub hx hb (by omega) dX0_isRightUtf8_76 ?_
            refine lv_goto (tgt := 81) hx hb dX0_isRightUtf8_77 (by decide) ?_
            refine lv_istore (lv' := [(5, .int (nI (w9 - 1))), (7, .int (nI (f k))), (0, .ref (o)), (2, .int (nI (to9))), (3, .int (nI (c9))), (4, .int (nI (l9))), (6, .int (nI (k)))]) hx hb dX0_isRightUtf8_81 hl (by decide) rfl (fun ls hl => ?_)
            refine lv_iload_n hx hb dX0_isRightUtf8_83 rfl (lv_at hl 4 rfl) ?_
            refine lv_bipush (v := nI 6) hx hb dX0_isRightUtf8_84 (by decide) ?_
            refine lv_ishl hx hb dX0_isRightUtf8_86 ?_
            rw [shl6 (by omega)]
            refine W.eq (g2 := F0 m 87 ls ([.int (nI (c9 * 64))])) rfl ?_
            refine lv_iload hx hb dX0_isRightUtf8_87 (lv_at hl 1 rfl) ?_
            refine lv_bipush (v := nI 63) hx hb dX0_isRightUtf8_89 (by decide) ?_
            refine lv_iand hx hb dX0_isRightUtf8_91 ?_
            rw [and63 (f k) (hf8 k)]
            refine W.eq (g2 := F0 m 92 ls ([.int (nI (f k % 64)), .int (nI (c9 * 64))])) rfl ?_
            refine lv_ior hx hb dX0_isRightUtf8_92 ?_
            rw [or6 (by omega) (Nat.mod_lt _ (by decide))]
            refine W.eq (g2 := F0 m 93 ls ([.int (nI (c9 * 64 + f k % 64))])) rfl ?_
            refine lv_istore_n (lv' := [(3, .int (nI (c9 * 64 + f k % 64))), (5, .int (nI (w9 - 1))), (7, .int (nI (f k))), (0, .ref (o)), (2, .int (nI (to9))), (4, .int (nI (l9))), (6, .int (nI (k)))]) hx hb dX0_isRightUtf8_93 rfl hl (by decide) rfl (fun ls hl => ?_)
            refine lv_iload hx hb dX0_isRightUtf8_94 (lv_at hl 1 rfl) ?_
            refine zi_if_lt (tgt := 114) hx hb dX0_isRightUtf8_96 (by decide) (by omega) ?_
            refine lv_iload hx hb dX0_isRightUtf8_99 (lv_at hl 1 rfl) ?_
            refine zi_if_ne (tgt := 116) hx hb dX0_isRightUtf8_101 (by decide) (by omega) (fun c_101 => ?_) (fun c_101 => ?_)
            · refine lv_iinc (v := nI (k + 1)) (lv' := [(6, .int (nI (k + 1))), (3, .int (nI (c9 * 64 + f k % 64))), (5, .int (nI (w9 - 1))), (7, .int (nI (f k))), (0, .ref (o)), (2, .int (nI (to9))), (4, .int (nI (l9)))]) hx hb dX0_isRightUtf8_116 hl (k := 6) rfl (nI_add _ _) (by decide) rfl (fun ls hl => ?_)
              refine lv_goto (tgt := 11) hx hb dX0_isRightUtf8_119 (by decide) ?_
              exact ih_ (k + 1) (c9 * 64 + f k % 64) l9 (w9 - 1) (by omega) (by omega) (by have := hf8 k; omega) (by omega) (by omega) (by rw [hs9, show to9 - k = to9 - (k + 1) + 1 by omega, uS_ct c_14 c_30 ⟨by omega, by omega⟩ (by omega), show 64 * c9 + (f k - 128) = c9 * 64 + f k % 64 by omega]) ls (lv_sub hl [4, 5, 1, 6, 2, 0] rfl)
            · refine lv_aload_n hx hb dX0_isRightUtf8_104 rfl (lv_at hl 3 rfl) ?_
              refine lv_iload_n hx hb dX0_isRightUtf8_105 rfl (lv_at hl 0 rfl) ?_
              refine lv_iload hx hb dX0_isRightUtf8_106 (lv_at hl 5 rfl) ?_
              refine zc_V (As := [.int (nI (c9 * 64 + f k % 64)), .int (nI (l9))]) (rest := []) ⟨hx, hb, hml, hown, hts⟩ (c_isCharacter l G o [.ref tp, at9] (c9 * 64 + f k % 64) (l9) (by have := hf8 k; omega) (by omega)) (cwV 2 hts (zgV wm_X0_126 wv_X0_isCharacter) rfl rfl rfl (by decide +kernel) ⟨Nat.le_of_ble_eq_true rfl, Nat.le_of_ble_eq_true rfl⟩) hK hO rfl hO rfl hl.1 rfl (Nat.le_of_ble_eq_true rfl) dX0_isRightUtf8_108 ⟨Nat.zero_le _, Nat.zero_le _⟩ ?_
              refine zb_if_ne (tgt := 116) hx hb dX0_isRightUtf8_111 (by decide) (fun c_111 => ?_) (fun c_111 => ?_)
              · refine lv_iinc (v := nI (k + 1)) (lv' := [(6, .int (nI (k + 1))), (3, .int (nI (c9 * 64 + f k % 64))), (5, .int (nI (w9 - 1))), (7, .int (nI (f k))), (0, .ref (o)), (2, .int (nI (to9))), (4, .int (nI (l9)))]) hx hb dX0_isRightUtf8_116 hl (k := 6) rfl (nI_add _ _) (by decide) rfl (fun ls hl => ?_)
                refine lv_goto (tgt := 11) hx hb dX0_isRightUtf8_119 (by decide) ?_
                exact ih_ (k + 1) (c9 * 64 + f k % 64) l9 (w9 - 1) (by omega) (by omega) (by have := hf8 k; omega) (by omega) (by omega) (by rw [hs9, show to9 - k = to9 - (k + 1) + 1 by omega, uS_c1 c_14 ⟨by omega, by omega⟩ (by omega), show 64 * c9 + (f k - 128) = c9 * 64 + f k % 64 by omega, if_pos (of_decide_eq_true c_111), c_101]) ls (lv_sub hl [4, 5, 1, 6, 2, 0] rfl)
              · refine lv_iconst (v := nI 0) hx hb dX0_isRightUtf8_114 (by decide) ?_
                exact zr_z hx hb hr hlocks (by rw [hs9, show to9 - k = to9 - (k + 1) + 1 by omega, uS_c1 c_14 ⟨by omega, by omega⟩ (by omega), show 64 * c9 + (f k - 128) = c9 * 64 + f k % 64 by omega, if_neg (of_decide_eq_false c_111)]; rfl) dX0_isRightUtf8_115
        · refine lv_aload_n hx hb dX0_isRightUtf8_33 rfl (lv_at hl 1 rfl) ?_
          refine lv_iload hx hb dX0_isRightUtf8_34 (lv_at hl 0 rfl) ?_
          refine zc_V (As := [.int (nI (f k))]) (rest := []) ⟨hx, hb, hml, hown, hts⟩ (c_followers l G o [.ref tp, at9] (f k) (hf8 k)) (cwV 1 hts (zgV wm_X0_117 wv_X0_followers) rfl rfl rfl (by decide +kernel) ⟨Nat.le_of_ble_eq_true rfl, Nat.le_of_ble_eq_true rfl⟩) hK hO rfl hO rfl hl.1 rfl (Nat.le_of_ble_eq_true rfl) dX0_isRightUtf8_36 ⟨Nat.zero_le _, Nat.zero_le _⟩ ?_
          rcases flw5 (hf8 k) with ⟨hq, hfl⟩ | ⟨hq, hfl⟩ | ⟨hq, hfl⟩ | ⟨hq, hfl⟩ | ⟨hq, hfl⟩
          · rw [hfl]
            refine W.eq (g2 := F0 m 39 ls ([.int (nI (0))])) rfl ?_
            refine lv_istore (lv' := [(5, .int (nI (0))), (7, .int (nI (f k))), (0, .ref (o)), (2, .int (nI (to9))), (3, .int (nI (c9))), (4, .int (nI (l9))), (6, .int (nI (k)))]) hx hb dX0_isRightUtf8_39 hl (by decide) rfl (fun ls hl => ?_)
            refine lv_aload_n hx hb dX0_isRightUtf8_41 rfl (lv_at hl 2 rfl) ?_
            refine lv_iload hx hb dX0_isRightUtf8_42 (lv_at hl 1 rfl) ?_
            refine lv_iload hx hb dX0_isRightUtf8_44 (lv_at hl 0 rfl) ?_
            refine zc_V (As := [.int (nI (f k)), .int (nI (0))]) (rest := []) ⟨hx, hb, hml, hown, hts⟩ (c_lead0 l G o [.ref tp, at9] (f k) (hf8 k)) (cwV 2 hts (zgV wm_X0_120 wv_X0_leadingBits) rfl rfl rfl (by decide +kernel) ⟨Nat.le_of_ble_eq_true rfl, Nat.le_of_ble_eq_true rfl⟩) hK hO rfl hO rfl hl.1 rfl (Nat.le_of_ble_eq_true rfl) dX0_isRightUtf8_46 ⟨Nat.zero_le _, Nat.zero_le _⟩ ?_
            refine lv_istore_n (lv' := [(3, .int (nI (f k))), (5, .int (nI (0))), (7, .int (nI (f k))), (0, .ref (o)), (2, .int (nI (to9))), (4, .int (nI (l9))), (6, .int (nI (k)))]) hx hb dX0_isRightUtf8_49 rfl hl (by decide) rfl (fun ls hl => ?_)
            refine lv_aload_n hx hb dX0_isRightUtf8_50 rfl (lv_at hl 3 rfl) ?_
            refine lv_iload hx hb dX0_isRightUtf8_51 (lv_at hl 1 rfl) ?_
            refine zc_V (As := [.int (nI (0))]) (rest := []) ⟨hx, hb, hml, hown, hts⟩ (c_leastCode l G o [.ref tp, at9] 0 (by decide)) (cwV 1 hts (zgV wm_X0_123 wv_X0_leastCode) rfl rfl rfl (by decide +kernel) ⟨Nat.le_of_ble_eq_true rfl, Nat.le_of_ble_eq_true rfl⟩) hK hO rfl hO rfl hl.1 rfl (Nat.le_of_ble_eq_true rfl) dX0_isRightUtf8_53 ⟨Nat.zero_le _, Nat.zero_le _⟩ ?_
            refine lv_istore (lv' := [(4, .int (nI (0))), (3, .int (nI (f k))), (5, .int (nI (0))), (7, .int (nI (f k))), (0, .ref (o)), (2, .int (nI (to9))), (6, .int (nI (k)))]) hx hb dX0_isRightUtf8_56 hl (by decide) rfl (fun ls hl => ?_)
            refine lv_goto (tgt := 94) hx hb dX0_isRightUtf8_58 (by decide) ?_
            refine lv_iload hx hb dX0_isRightUtf8_94 (lv_at hl 2 rfl) ?_
            refine zi_if_lt (tgt := 114) hx hb dX0_isRightUtf8_96 (by decide) (by omega) ?_
            refine lv_iload hx hb dX0_isRightUtf8_99 (lv_at hl 2 rfl) ?_
            refine zi_if_ne (tgt := 116) hx hb dX0_isRightUtf8_101 (by decide) (by omega) (fun c_101 => absurd c_101 (by decide)) (fun c_101 => ?_)
            refine lv_aload_n hx hb dX0_isRightUtf8_104 rfl (lv_at hl 4 rfl) ?_
            refine lv_iload_n hx hb dX0_isRightUtf8_105 rfl (lv_at hl 1 rfl) ?_
            refine lv_iload hx hb dX0_isRightUtf8_106 (lv_at hl 0 rfl) ?_
            refine zc_V (As := [.int (nI (f k)), .int (nI (0))]) (rest := []) ⟨hx, hb, hml, hown, hts⟩ (c_isCharacter l G o [.ref tp, at9] (f k) (0) (by have := hf8 k; omega) (by omega)) (cwV 2 hts (zgV wm_X0_126 wv_X0_isCharacter) rfl rfl rfl (by decide +kernel) ⟨Nat.le_of_ble_eq_true rfl, Nat.le_of_ble_eq_true rfl⟩) hK hO rfl hO rfl hl.1 rfl (Nat.le_of_ble_eq_true rfl) dX0_isRightUtf8_108 ⟨Nat.zero_le _, Nat.zero_le _⟩ ?_
            refine zb_if_ne (tgt := 116) hx hb dX0_isRightUtf8_111 (by decide) (fun c_111 => ?_) (fun c_111 => ?_)
            · refine lv_iinc (v := nI (k + 1)) (lv' := [(6, .int (nI (k + 1))), (4, .int (nI (0))), (3, .int (nI (f k))), (5, .int (nI (0))), (7, .int (nI (f k))), (0, .ref (o)), (2, .int (nI (to9)))]) hx hb dX0_isRightUtf8_116 hl (k := 6) rfl (nI_add _ _) (by decide) rfl (fun ls hl => ?_)
              refine lv_goto (tgt := 11) hx hb dX0_isRightUtf8_119 (by decide) ?_
              exact ih_ (k + 1) (f k) 0 0 (by omega) (by omega) (by have := hf8 k; omega) (by omega) (by omega) (by rw [hs9, c_30, show to9 - k = to9 - (k + 1) + 1 by omega, uS_a c_14 hq]) ls (lv_sub hl [5, 6, 2, 1, 3, 0] rfl)
            · refine lv_iconst (v := nI 0) hx hb dX0_isRightUtf8_114 (by decide) ?_
              exact zr_z hx hb hr hlocks (absurd (show okc (f k) 0 from ⟨by omega, by omega, by omega⟩) (of_decide_eq_false c_111)) dX0_isRightUtf8_115
          · rw [hfl]
            refine W.eq (g2 := F0 m 39 ls ([.int ((-1))])) rfl ?_
            refine lv_istore (lv' := [(5, .int ((-1))), (7, .int (nI (f k))), (0, .ref (o)), (2, .int (nI (to9))), (3, .int (nI (c9))), (4, .int (nI (l9))), (6, .int (nI (k)))]) hx hb dX0_isRightUtf8_39 hl (by decide) rfl (fun ls hl => ?_)
            refine lv_aload_n hx hb dX0_isRightUtf8_41 rfl (lv_at hl 2 rfl) ?_
            refine lv_iload hx hb dX0_isRightUtf8_42 (lv_at hl 1 rfl) ?_
            refine lv_iload hx hb dX0_isRightUtf8_44 (lv_at hl 0 rfl) ?_
            refine zc_V (As := [.int (nI (f k)), .int ((-1))]) (rest := []) ⟨hx, hb, hml, hown, hts⟩ (c_leadM l G o [.ref tp, at9] (f k) (hf8 k)) (cwV 2 hts (zgV wm_X0_120 wv_X0_leadingBits) rfl rfl rfl (by decide +kernel) ⟨Nat.le_of_ble_eq_true rfl, Nat.le_of_ble_eq_true rfl⟩) hK hO rfl hO rfl hl.1 rfl (Nat.le_of_ble_eq_true rfl) dX0_isRightUtf8_46 ⟨Nat.zero_le _, Nat.zero_le _⟩ ?_
            refine lv_istore_n (lv' := [(3, .int (nI (f k))), (5, .int ((-1))), (7, .int (nI (f k))), (0, .ref (o)), (2, .int (nI (to9))), (4, .int (nI (l9))), (6, .int (nI (k)))]) hx hb dX0_isRightUtf8_49 rfl hl (by decide) rfl (fun ls hl => ?_)
            refine lv_aload_n hx hb dX0_isRightUtf8_50 rfl (lv_at hl 3 rfl) ?_
            refine lv_iload hx hb dX0_isRightUtf8_51 (lv_at hl 1 rfl) ?_
            refine zc_V (As := [.int ((-1))]) (rest := []) ⟨hx, hb, hml, hown, hts⟩ (c_leastM l G o [.ref tp, at9]) (cwV 1 hts (zgV wm_X0_123 wv_X0_leastCode) rfl rfl rfl (by decide +kernel) ⟨Nat.le_of_ble_eq_true rfl, Nat.le_of_ble_eq_true rfl⟩) hK hO rfl hO rfl hl.1 rfl (Nat.le_of_ble_eq_true rfl) dX0_isRightUtf8_53 ⟨Nat.zero_le _, Nat.zero_le _⟩ ?_
            refine lv_istore (lv' := [(4, .int (nI (0))), (3, .int (nI (f k))), (5, .int ((-1))), (7, .int (nI (f k))), (0, .ref (o)), (2, .int (nI (to9))), (6, .int (nI (k)))]) hx hb dX0_isRightUtf8_56 hl (by decide) rfl (fun ls hl => ?_)
            refine lv_goto (tgt := 94) hx hb dX0_isRightUtf8_58 (by decide) ?_
            refine lv_iload hx hb dX0_isRightUtf8_94 (lv_at hl 2 rfl) ?_
            refine lv_if_lt (tgt := 114) hx hb dX0_isRightUtf8_96 (by decide) (fun c_96 => ?_) (fun c_96 => absurd c_96 (by decide))
            refine lv_iconst (v := nI 0) hx hb dX0_isRightUtf8_114 (by decide) ?_
            exact zr_z hx hb hr hlocks (by rw [hs9, c_30, show to9 - k = to9 - (k + 1) + 1 by omega, uS_b c_14 hq.1 hq.2]; rfl) dX0_isRightUtf8_115
          · rw [hfl]
            refine W.eq (g2 := F0 m 39 ls ([.int (nI (1))])) rfl ?_
            refine lv_istore (lv' := [(5, .int (nI (1))), (7, .int (nI (f k))), (0, .ref (o)), (2, .int (nI (to9))), (3, .int (nI (c9))), (4, .int (nI (l9))), (6, .int (nI (k)))]) hx hb dX0_isRightUtf8_39 hl (by decide) rfl (fun ls hl => ?_)
            refine lv_aload_n hx hb dX0_isRightUtf8_41 rfl (lv_at hl 2 rfl) ?_
            refine lv_iload hx hb dX0_isRightUtf8_42 (lv_at hl 1 rfl) ?_
            refine lv_iload hx hb dX0_isRightUtf8_44 (lv_at hl 0 rfl) ?_
            refine zc_V (As := [.int (nI (f k)), .int (nI (1))]) (rest := []) ⟨hx, hb, hml, hown, hts⟩ (c_lead1 l G o [.ref tp, at9] (f k) (hf8 k) hq.1 hq.2) (cwV 2 hts (zgV wm_X0_120 wv_X0_leadingBits) rfl rfl rfl (by decide +kernel) ⟨Nat.le_of_ble_eq_true rfl, Nat.le_of_ble_eq_true rfl⟩) hK hO rfl hO rfl hl.1 rfl (Nat.le_of_ble_eq_true rfl) dX0_isRightUtf8_46 ⟨Nat.zero_le _, Nat.zero_le _⟩ ?_
            refine lv_istore_n (lv' := [(3, .int (nI (f k - 192))), (5, .int (nI (1))), (7, .int (nI (f k))), (0, .ref (o)), (2, .int (nI (to9))), (4, .int (nI (l9))), (6, .int (nI (k)))]) hx hb dX0_isRightUtf8_49 rfl hl (by decide) rfl (fun ls hl => ?_)
            refine lv_aload_n hx hb dX0_isRightUtf8_50 rfl (lv_at hl 3 rfl) ?_
            refine lv_iload hx hb dX0_isRightUtf8_51 (lv_at hl 1 rfl) ?_
            refine zc_V (As := [.int (nI (1))]) (rest := []) ⟨hx, hb, hml, hown, hts⟩ (c_leastCode l G o [.ref tp, at9] 1 (by decide)) (cwV 1 hts (zgV wm_X0_123 wv_X0_leastCode) rfl rfl rfl (by decide +kernel) ⟨Nat.le_of_ble_eq_true rfl, Nat.le_of_ble_eq_true rfl⟩) hK hO rfl hO rfl hl.1 rfl (Nat.le_of_ble_eq_true rfl) dX0_isRightUtf8_53 ⟨Nat.zero_le _, Nat.zero_le _⟩ ?_
            refine lv_istore (lv' := [(4, .int (nI (128))), (3, .int (nI (f k - 192))), (5, .int (nI (1))), (7, .int (nI (f k))), (0, .ref (o)), (2, .int (nI (to9))), (6, .int (nI (k)))]) hx hb dX0_isRightUtf8_56 hl (by decide) rfl (fun ls hl => ?_)
            refine lv_goto (tgt := 94) hx hb dX0_isRightUtf8_58 (by decide) ?_
            refine lv_iload hx hb dX0_isRightUtf8_94 (lv_at hl 2 rfl) ?_
            refine zi_if_lt (tgt := 114) hx hb dX0_isRightUtf8_96 (by decide) (by omega) ?_
            refine lv_iload hx hb dX0_isRightUtf8_99 (lv_at hl 2 rfl) ?_
            refine zi_if_ne (tgt := 116) hx hb dX0_isRightUtf8_101 (by decide) (by omega) (fun c_101 => ?_) (fun c_101 => absurd c_101 (by decide))
            refine lv_iinc (v := nI (k + 1)) (lv' := [(6, .int (nI (k + 1))), (4, .int (nI (128))), (3, .int (nI (f k - 192))), (5, .int (nI (1))), (7, .int (nI (f k))), (0, .ref (o)), (2, .int (nI (to9)))]) hx hb dX0_isRightUtf8_116 hl (k := 6) rfl (nI_add _ _) (by decide) rfl (fun ls hl => ?_)
            refine lv_goto (tgt := 11) hx hb dX0_isRightUtf8_119 (by decide) ?_
            exact ih_ (k + 1) (f k - 192) 128 1 (by omega) (by omega) (by have := hf8 k; omega) (by omega) (by omega) (by rw [hs9, c_30, show to9 - k = to9 - (k + 1) + 1 by omega, uS_2 c_14 hq.1 hq.2]) ls (lv_sub hl [5, 6, 2, 1, 3, 0] rfl)
          · rw [hfl]
            refine W.eq (g2 := F0 m 39 ls ([.int (nI (2))])) rfl ?_
            refine lv_istore (lv' := [(5, .int (nI (2))), (7, .int (nI (f k))), (0, .ref (o)), (2, .int (nI (to9))), (3, .int (nI (c9))), (4, .int (nI (l9))), (6, .int (nI (k)))]) hx hb dX0_isRightUtf8_39 hl (by decide) rfl (fun ls hl => ?_)
            refine lv_aload_n hx hb dX0_isRightUtf8_41 rfl (lv_at hl 2 rfl) ?_
            refine lv_iload hx hb dX0_isRightUtf8_42 (lv_at hl 1 rfl) ?_
            refine lv_iload hx hb dX0_isRightUtf8_44 (lv_at hl 0 rfl) ?_
            refine zc_V (As := [.int (nI (f k)), .int (nI (2))]) (rest := []) ⟨hx, hb, hml, hown, hts⟩ (c_lead2 l G o [.ref tp, at9] (f k) (hf8 k) hq.1 hq.2) (cwV 2 hts (zgV wm_X0_120 wv_X0_leadingBits) rfl rfl rfl (by decide +kernel) ⟨Nat.le_of_ble_eq_true rfl, Nat.le_of_ble_eq_true rfl⟩) hK hO rfl hO rfl hl.1 rfl (Nat.le_of_ble_eq_true rfl) dX0_isRightUtf8_46 ⟨Nat.zero_le _, Nat.zero_le _⟩ ?_
            refine lv_istore_n (lv' := [(3, .int (nI (f k - 224))), (5, .int (nI (2))), (7, .int (nI (f k))), (0, .ref (o)), (2, .int (nI (to9))), (4, .int (nI (l9))), (6, .int (nI (k)))]) hx hb dX0_isRightUtf8_49 rfl hl (by decide) rfl (fun ls hl => ?_)
            refine lv_aload_n hx hb dX0_isRightUtf8_50 rfl (lv_at hl 3 rfl) ?_
            refine lv_iload hx hb dX0_isRightUtf8_51 (lv_at hl 1 rfl) ?_
            refine zc_V (As := [.int (nI (2))]) (rest := []) ⟨hx, hb, hml, hown, hts⟩ (c_leastCode l G o [.ref tp, at9] 2 (by decide)) (cwV 1 hts (zgV wm_X0_123 wv_X0_leastCode) rfl rfl rfl (by decide +kernel) ⟨Nat.le_of_ble_eq_true rfl, Nat.le_of_ble_eq_true rfl⟩) hK hO rfl hO rfl hl.1 rfl (Nat.le_of_ble_eq_true rfl) dX0_isRightUtf8_53 ⟨Nat.zero_le _, Nat.zero_le _⟩ ?_
            refine lv_istore (lv' := [(4, .int (nI (2048))), (3, .int (nI (f k - 224))), (5, .int (nI (2))), (7, .int (nI (f k))), (0, .ref (o)), (2, .int (nI (to9))), (6, .int (nI (k)))]) hx hb dX0_isRightUtf8_56 hl (by decide) rfl (fun ls hl => ?_)
            refine lv_goto (tgt := 94) hx hb dX0_isRightUtf8_58 (by decide) ?_
            refine lv_iload hx hb dX0_isRightUtf8_94 (lv_at hl 2 rfl) ?_
            refine zi_if_lt (tgt := 114) hx hb dX0_isRightUtf8_96 (by decide) (by omega) ?_
            refine lv_iload hx hb dX0_isRightUtf8_99 (lv_at hl 2 rfl) ?_
            refine zi_if_ne (tgt := 116) hx hb dX0_isRightUtf8_101 (by decide) (by omega) (fun c_101 => ?_) (fun c_101 => absurd c_101 (by decide))
            refine lv_iinc (v := nI (k + 1)) (lv' := [(6, .int (nI (k + 1))), (4, .int (nI (2048))), (3, .int (nI (f k - 224))), (5, .int (nI (2))), (7, .int (nI (f k))), (0, .ref (o)), (2, .int (nI (to9)))]) hx hb dX0_isRightUtf8_116 hl (k := 6) rfl (nI_add _ _) (by decide) rfl (fun ls hl => ?_)
            refine lv_goto (tgt := 11) hx hb dX0_isRightUtf8_119 (by decide) ?_
            exact ih_ (k + 1) (f k - 224) 2048 2 (by omega) (by omega) (by have := hf8 k; omega) (by omega) (by omega) (by rw [hs9, c_30, show to9 - k = to9 - (k + 1) + 1 by omega, uS_3 c_14 hq.1 hq.2]) ls (lv_sub hl [5, 6, 2, 1, 3, 0] rfl)
          · rw [hfl]
            refine W.eq (g2 := F0 m 39 ls ([.int (nI (3))])) rfl ?_
            refine lv_istore (lv' := [(5, .int (nI (3))), (7, .int (nI (f k))), (0, .ref (o)), (2, .int (nI (to9))), (3, .int (nI (c9))), (4, .int (nI (l9))), (6, .int (nI (k)))]) hx hb dX0_isRightUtf8_39 hl (by decide) rfl (fun ls hl => ?_)
            refine lv_aload_n hx hb dX0_isRightUtf8_41 rfl (lv_at hl 2 rfl) ?_
            refine lv_iload hx hb dX0_isRightUtf8_42 (lv_at hl 1 rfl) ?_
            refine lv_iload hx hb dX0_isRightUtf8_44 (lv_at hl 0 rfl) ?_
            refine zc_V (As := [.int (nI (f k)), .int (nI (3))]) (rest := []) ⟨hx, hb, hml, hown, hts⟩ (c_lead3 l G o [.ref tp, at9] (f k) (hf8 k) hq.1 hq.2) (cwV 2 hts (zgV wm_X0_120 wv_X0_leadingBits) rfl rfl rfl (by decide +kernel) ⟨Nat.le_of_ble_eq_true rfl, Nat.le_of_ble_eq_true rfl⟩) hK hO rfl hO rfl hl.1 rfl (Nat.le_of_ble_eq_true rfl) dX0_isRightUtf8_46 ⟨Nat.zero_le _, Nat.zero_le _⟩ ?_
            refine lv_istore_n (lv' := [(3, .int (nI (f k - 240))), (5, .int (nI (3))), (7, .int (nI (f k))), (0, .ref (o)), (2, .int (nI (to9))), (4, .int (nI (l9))), (6, .int (nI (k)))]) hx hb dX0_isRightUtf8_49 rfl hl (by decide) rfl (fun ls hl => ?_)
            refine lv_aload_n hx hb dX0_isRightUtf8_50 rfl (lv_at hl 3 rfl) ?_
            refine lv_iload hx hb dX0_isRightUtf8_51 (lv_at hl 1 rfl) ?_
            refine zc_V (As := [.int (nI (3))]) (rest := []) ⟨hx, hb, hml, hown, hts⟩ (c_leastCode l G o [.ref tp, at9] 3 (by decide)) (cwV 1 hts (zgV wm_X0_123 wv_X0_leastCode) rfl rfl rfl (by decide +kernel) ⟨Nat.le_of_ble_eq_true rfl, Nat.le_of_ble_eq_true rfl⟩) hK hO rfl hO rfl hl.1 rfl (Nat.le_of_ble_eq_true rfl) dX0_isRightUtf8_53 ⟨Nat.zero_le _, Nat.zero_le _⟩ ?_
            refine lv_istore (lv' := [(4, .int (nI (65536))), (3, .int (nI (f k - 240))), (5, .int (nI (3))), (7, .int (nI (f k))), (0, .ref (o)), (2, .int (nI (to9))), (6, .int (nI (k)))]) hx hb dX0_isRightUtf8_56 hl (by decide) rfl (fun ls hl => ?_)
            refine lv_goto (tgt := 94) hx hb dX0_isRightUtf8_58 (by decide) ?_
            refine lv_iload hx hb dX0_isRightUtf8_94 (lv_at hl 2 rfl) ?_
            refine zi_if_lt (tgt := 114) hx hb dX0_isRightUtf8_96 (by decide) (by omega) ?_
            refine lv_iload hx hb dX0_isRightUtf8_99 (lv_at hl 2 rfl) ?_
            refine zi_if_ne (tgt := 116) hx hb dX0_isRightUtf8_101 (by decide) (by omega) (fun c_101 => ?_) (fun c_101 => absurd c_101 (by decide))
            refine lv_iinc (v := nI (k + 1)) (lv' := [(6, .int (nI (k + 1))), (4, .int (nI (65536))), (3, .int (nI (f k - 240))), (5, .int (nI (3))), (7, .int (nI (f k))), (0, .ref (o)), (2, .int (nI (to9)))]) hx hb dX0_isRightUtf8_116 hl (k := 6) rfl (nI_add _ _) (by decide) rfl (fun ls hl => ?_)
            refine lv_goto (tgt := 11) hx hb dX0_isRightUtf8_119 (by decide) ?_
            exact ih_ (k + 1) (f k - 240) 65536 3 (by omega) (by omega) (by have := hf8 k; omega) (by omega) (by omega) (by rw [hs9, c_30, show to9 - k = to9 - (k + 1) + 1 by omega, uS_4 c_14 hq.1 hq.2]) ls (lv_sub hl [5, 6, 2, 1, 3, 0] rfl)
  exact L11 ((to9 - a) + 1) a 0 0 0 (Nat.lt_succ_self _) ha9 (by omega) (by decide) (by decide) rfl ls (lv_sub hl [4, 6, 3, 2, 1, 0] rfl)

set_option maxHeartbeats 4000000 in
set_option maxRecDepth 100000 in
theorem c_isDec (l : Launch) (G : zG) (o : Nat) (fs : List Value) (a : Nat) (w : List Nat) (Z : Nat → Prop) (v9 : Nat) (hv9 : v9 < 10000) (hw30 : w.length < 2 ^ 30) : Met l yX0_isDecimal wsX0_isDecimal ({ frames := 4, cells := 0, slots := 0, locals := 85 }) (zP G [.ref (o), .ref (a), .int (nI (v9))] (fun H => zO G H o 1 fs ∧ StrZ G H Z a w ∧ CH G H)) (zR (.int (nI (nB (decide (w = dgl v9)))))) 0 0 (fun _ => False) := by
  refine Met.ofW (cc := cX0_isDecimal) (maxL := 5) (ret := (some .boolean)) (by decide) rfl ?_
  intro p en s m args below meth c s₁ B hml hv
  obtain ⟨rfl, hP, hK⟩ := hv
  have hx := B.exec
  have hb := B.bytes
  have hr := B.returns
  have hts := atoms_spec (ws := wsX0_isDecimal) B.pre
  have hz : ∀ w ∈ zW, w.before _ s = true := fun w h => hts w (List.mem_cons_of_mem _ h)
  have hown : s.vm.findClass RX0 = some m.cls := findClass_of_methodNamed B.named
  have hlocks := B.notSynchronized
  obtain ⟨hO, ⟨v, hs, hz9, -, -, hSa⟩, hC, ⟨x9, hI⟩, hCH⟩ := id hP
  have hwl := hSa.2.2.2
  have hw8 : ∀ i, w.getD i 0 < 256 := hSa.2.2.1
  have hl := lv_entry ([.ref (o), .ref (a), .int (nI (v9))]) (n := 5) (Nat.le_of_ble_eq_true rfl)
  rw [lg_entry_eq]
  generalize (lg_sl ([.ref (o), .ref (a), .int (nI (v9))]) ++ List.replicate (5 - (lg_sl ([.ref (o), .ref (a), .int (nI (v9))])).length) Slot.unset).toArray = ls at hl ⊢
  have hl : lv_has ls 5 [(0, .ref (o)), (1, .ref (a)), (2, .int (nI (v9)))] := hl
  refine lv_iload_n hx hb dX0_isDecimal_0 rfl (lv_at hl 2 rfl) ?_
  refine lv_istore_n (lv' := [(3, .int (nI (v9))), (0, .ref (o)), (1, .ref (a)), (2, .int (nI (v9)))]) hx hb dX0_isDecimal_1 rfl hl (by decide) rfl (fun ls hl => ?_)
  refine lv_aload_n hx hb dX0_isDecimal_2 rfl (lv_at hl 2 rfl) ?_
  refine zc_Vw (As := []) (rest := []) ⟨hx, hb, hml, hown, hts⟩ (j_length l G a v w.length (fun i => w.getD i 0) hs hz9) (cwV 0 hts (zgV wm_X0_104 wv_J0_length_8abf5) rfl rfl rfl (by decide +kernel) ⟨Nat.le_of_ble_eq_true rfl, Nat.le_of_ble_eq_true rfl⟩) hK hSa.1 rfl ⟨hSa, hC⟩ rfl hl.1 rfl (Nat.le_of_ble_eq_true rfl) dX0_isDecimal_3 ⟨Nat.zero_le _, Nat.zero_le _⟩ ?_
  refine lv_iconst (v := nI 1) hx hb dX0_isDecimal_6 (by decide) ?_
  refine lv_isub hx hb dX0_isDecimal_7 ?_
  refine lv_istore (lv' := [(4, .int (nI (w.length) - nI (1))), (3, .int (nI (v9))), (0, .ref (o)), (1, .ref (a)), (2, .int (nI (v9)))]) hx hb dX0_isDecimal_8 hl (by decide) rfl (fun ls hl => ?_)
  have L10 : ∀ (n_ : Nat) (x : Nat) (j : Nat) (r9 : Nat), x < n_ → (x + j = w.length) → (r9 = v9 / 10 ^ j) → (j = 0 ∨ 1 ≤ v9 / 10 ^ j) → (∀ m, m < j → w.getD (w.length - 1 - m) 0 = 48 + v9 / 10 ^ m % 10) → (w.length < 2 ^ 30) → (r9 < 10000) → ∀ ls : Array Slot, lv_has ls 5 [(0, .ref (o)), (1, .ref (a)), (3, .int (nI (r9))), (4, .int (nI (x) - nI (1)))] → W p l en (headSpec wsX0_isDecimal ({ frames := 4, cells := 0, slots := 0, locals := 85 })).room s m ([.ref (o), .ref (a), .int (nI (v9))] : List Value).toArray below meth c s.heap [] 0 0 (MQ below (zR (.int (nI (nB (decide (w = dgl v9)))))) ([.ref (o), .ref (a), .int (nI (v9))] : List Value).toArray s 0 0 (fun _ => False)) (F0 m 10 ls []) := by
    intro n_
    induction n_ with
    | zero => intro x j r9 hm_; exact absurd hm_ (Nat.not_lt_zero _)
    | succ n_ ih_ =>
      intro x j r9 hm_ hxj hr9 hj9 hm9 hw31 hrl ls hl
      refine lv_iload hx hb dX0_isDecimal_10 (lv_at hl 3 rfl) ?_
      refine lv_if_lt (tgt := 61) hx hb dX0_isDecimal_12 (by decide) (fun c_12 => ?_) (fun c_12 => ?_)
      · refine lv_iconst (v := nI 0) hx hb dX0_isDecimal_61 (by decide) ?_
        exact zr_z hx hb hr hlocks (by rw [decide_eq_false (dc_f3 (j := j) hv9 (by have := (dec_lt (x := x) (by omega)).mp c_12; omega) hj9)]; rfl) dX0_isDecimal_62
      · obtain ⟨x1, rfl⟩ : ∃ x1, x = x1 + 1 := ⟨x - 1, by have := mt (dec_lt (x := x) (by omega)).mpr c_12; omega⟩
        have hl : lv_has ls 5 [(0, .ref (o)), (1, .ref (a)), (3, .int (nI (r9))), (4, .int (nI (x1)))] := by rw [show nI (x1 + 1) - nI 1 = nI x1 from pk_sub (by omega)] at hl; exact hl
        refine lv_aload_n hx hb dX0_isDecimal_15 rfl (lv_at hl 1 rfl) ?_
        refine lv_iload hx hb dX0_isDecimal_16 (lv_at hl 3 rfl) ?_
        refine zc_Vw (As := [.int (nI (x1))]) (rest := []) ⟨hx, hb, hml, hown, hts⟩ (j_charAt l G a v w.length (fun i => w.getD i 0) hs hz9 x9 x1 (by omega)) (cwV 1 hts (zgV wm_X0_110 wv_J0_charAt_5068e) rfl rfl rfl (by decide +kernel) ⟨Nat.le_of_ble_eq_true rfl, Nat.le_of_ble_eq_true rfl⟩) hK hSa.1 rfl ⟨hSa, hC, hI⟩ rfl hl.1 rfl (Nat.le_of_ble_eq_true rfl) dX0_isDecimal_18 ⟨Nat.zero_le _, Nat.zero_le _⟩ ?_
        refine lv_bipush (v := nI 48) hx hb dX0_isDecimal_21 (by decide) ?_
        refine lv_iload_n hx hb dX0_isDecimal_23 rfl (lv_at hl 2 rfl) ?_
        refine lv_bipush (v := nI 10) hx hb dX0_isDecimal_24 (by decide) ?_
        refine zi_rem hx hb (by omega) (by decide) (by decide) dX0_isDecimal_26 ?_
        refine zi_add hx hb dX0_isDecimal_27 ?_
        refine zi_icmp_eq (tgt := 33) hx hb dX0_isDecimal_28 (by decide) (Nat.lt_trans (hw8 x1) (by decide)) (by omega) (fun c_28 => ?_) (fun c_28 => ?_)
        · refine lv_iload_n hx hb dX0_isDecimal_33 rfl (lv_at hl 2 rfl) ?_
          refine lv_bipush (v := nI 10) hx hb dX0_isDecimal_34 (by decide) ?_
          refine zi_icmp_ge (tgt := 50) hx hb dX0_isDecimal_36 (by decide) (by omega) (by omega) (fun c_36 => ?_) (fun c_36 => ?_)
          · refine lv_iload_n hx hb dX0_isDecimal_50 rfl (lv_at hl 2 rfl) ?_
            refine lv_bipush (v := nI 10) hx hb dX0_isDecimal_51 (by decide) ?_
            refine zi_div hx hb (by omega) (by decide) (by decide) dX0_isDecimal_53 ?_
            refine lv_istore_n (lv' := [(3, .int (nI (r9 / 10))), (0, .ref (o)), (1, .ref (a)), (4, .int (nI (x1)))]) hx hb dX0_isDecimal_54 rfl hl (by decide) rfl (fun ls hl => ?_)
            refine lv_iinc (v := nI (x1) - nI (1)) (lv' := [(4, .int (nI (x1) - nI (1))), (3, .int (nI (r9 / 10))), (0, .ref (o)), (1, .ref (a))]) hx hb dX0_isDecimal_55 hl (k := 3) rfl (dec_m1 x1) (by decide) rfl (fun ls hl => ?_)
            refine lv_goto (tgt := 10) hx hb dX0_isDecimal_58 (by decide) ?_
            exact ih_ x1 (j + 1) (r9 / 10) (by omega) (by omega) (by rw [hr9, Nat.div_div_eq_div_mul, ← Nat.pow_succ]) (Or.inr (by rw [Nat.pow_succ, ← Nat.div_div_eq_div_mul, ← hr9]; omega)) (dc_step hm9 hxj c_28 hr9) hw31 (by omega) ls (lv_sub hl [2, 3, 1, 0] rfl)
          · refine lv_iload hx hb dX0_isDecimal_39 (lv_at hl 3 rfl) ?_
            refine zi_if_ne (tgt := 48) hx hb dX0_isDecimal_41 (by decide) (by omega) (fun c_41 => ?_) (fun c_41 => ?_)
            · refine lv_iconst (v := nI 0) hx hb dX0_isDecimal_48 (by decide) ?_
              exact zr_z hx hb hr hlocks (by rw [decide_eq_false (dc_f2 (i := x1) (j := j) hv9 (by omega) (by rw [← hr9]; exact c_36) hj9 c_41)]; rfl) dX0_isDecimal_49
            · refine lv_iconst (v := nI 1) hx hb dX0_isDecimal_44 (by decide) ?_
              refine lv_goto (tgt := 49) hx hb dX0_isDecimal_45 (by decide) ?_
              exact zr_z hx hb hr hlocks (by subst c_41; rw [decide_eq_true (dc_t (j := j) hv9 (by omega) (by rw [← hr9]; exact c_36) hj9 (dc_step hm9 hxj c_28 hr9))]; rfl) dX0_isDecimal_49
        · refine lv_iconst (v := nI 0) hx hb dX0_isDecimal_31 (by decide) ?_
          exact zr_z hx hb hr hlocks (by rw [decide_eq_false (dc_f1 (i := x1) (j := j) (by omega) (by rw [← hr9]; exact c_28))]; rfl) dX0_isDecimal_32
  exact L10 ((w.length) + 1) w.length 0 v9 (Nat.lt_succ_self _) (by omega) (by simp) (Or.inl rfl) (fun m hm => absurd hm (Nat.not_lt_zero _)) hw30 hv9 ls (lv_sub hl [2, 3, 1, 0] rfl)
