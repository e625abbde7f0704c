theorem c_utf8b (l : Launch) (G : zG) (o tp qb cn : Nat) (at9 : Value) (f : Nat → Nat) (a to9 : Nat) (hto : to9 ≤ 2000) (ha9 : a ≤ 3000) : Met l yX0_isRightUtf8 wsX0_isRightUtf8 ({ frames := 1, cells := 0, slots := 0, locals := 23 }) (zP G [.ref (o), .int (nI (a)), .int (nI (to9))] (fun H => zO G H o 1 [.ref tp, at9] ∧ TP G tp qb cn f H)) (zR (.int (nI (nB (decide (bd f a to9 < 0)))))) 0 0 (fun _ => False) := by
  have h := c_utf8 l G o tp qb cn at9 f a to9 hto ha9
  rw [utf_ok hto] at h
  exact h

set_option maxHeartbeats 4000000 in
set_option maxRecDepth 100000 in
theorem c_rtruth (l : Launch) (G : zG) (rd tp qb cn el : Nat) (f : Nat → Nat) (at9 e9 : Nat) (pl : Int32) (nm tx : Nat) (hne : tp ≠ rd ∧ qb ≠ rd ∧ tp ≠ el ∧ qb ≠ el ∧ el ≠ rd) (hae : at9 ≤ e9) (he2 : e9 ≤ 2000) : Met l yX0_readTruth wsX0_readTruth ({ frames := 2, cells := 0, slots := 0, locals := 45 }) (zP G [.ref (rd), .ref (el), .int (nI (e9))] (fun H => zO G H rd 1 [.ref tp, .int (nI at9)] ∧ TP G tp qb cn f H ∧ zO G H el 8 (vF 8 pl nm tx 0 none none none 0))) (zX (fun q => q = rd ∨ q = el) (fun r9 H => r9 = some (.int (nI (nB (decide (vaF f 8 at9 e9 = 0))))) ∧ (vaF f 8 at9 e9 = 0 → zO G H rd 1 [.ref tp, .int (nI (at9 + 1))] ∧ zO G H el 8 (vF 8 pl nm tx (lN (f at9)) none none none 0)))) (0) (0) (fun q => q = rd ∨ q = el) := by
  refine Met.ofW (cc := cX0_readTruth) (maxL := 3) (ret := (some .boolean)) (by decide) rfl ?_
  intro p en s m args below meth c s₁ B hml hv
  obtain ⟨rfl, hP, hK⟩ := hv
  have hx := B.exec
  have hb := B.bytes
  have hr := B.returns
  have hts := atoms_spec (ws := wsX0_readTruth) B.pre
  have hz : ∀ w ∈ zW, w.before _ s = true := fun w h => hts w (List.mem_cons_of_mem _ h)
  have hown : s.vm.findClass RX0 = some m.cls := findClass_of_methodNamed B.named
  have hlocks := B.notSynchronized
  obtain ⟨hRd, hT, hEl⟩ := id hP
  have hS : va_S (fun q => q = rd ∨ q = el) s.heap s.heap [] := va_S.rf
  have h8 := hT.2.2
  have hk31 : 8 < 2 ^ 31 := by decide
  have hl := lv_entry ([.ref (rd), .ref (el), .int (nI (e9))]) (n := 3) (Nat.le_of_ble_eq_true rfl)
  rw [lg_entry_eq]
  generalize (lg_sl ([.ref (rd), .ref (el), .int (nI (e9))]) ++ List.replicate (3 - (lg_sl ([.ref (rd), .ref (el), .int (nI (e9))])).length) Slot.unset).toArray = ls at hl ⊢
  have hl : lv_has ls 3 [(0, .ref (rd)), (1, .ref (el)), (2, .int (nI (e9)))] := hl
  refine lv_iload_n hx hb dX0_readTruth_0 rfl (lv_at hl 2 rfl) ?_
  refine lv_aload_n hx hb dX0_readTruth_1 rfl (lv_at hl 0 rfl) ?_
  refine zi_get (C := RX0) (T := TX0) (N := 2) (v := .int (nI (at9))) hx hb hz wo_X0 hown hK hRd rfl 1 (by decide) (hz _ wf_X0_15) (fun _ h9 => h9) rfl dX0_readTruth_2 ?_
  refine zi_sub hx hb (by omega) dX0_readTruth_5 ?_
  refine lv_iconst (v := nI 1) hx hb dX0_readTruth_6 (by decide) ?_
  refine zi_icmp_lt (tgt := 25) hx hb dX0_readTruth_7 (by decide) (by omega) (by omega) (fun c_7 => ?_) (fun c_7 => ?_)
  · refine lv_iconst (v := nI 0) hx hb dX0_readTruth_25 (by decide) ?_
    exact zx_z hx hb hr hlocks (decide (vaF f 8 at9 e9 = 0)) (by rw [decide_eq_false (fun z => by have := va8_0.mp z; omega)]; rfl) (by show 0 ≤ 0; omega) (by show 0 ≤ 0; omega) (⟨rfl, fun z => absurd z (fun z => by have := va8_0.mp z; omega)⟩) hS dX0_readTruth_26
  · refine lv_aload_n hx hb dX0_readTruth_10 rfl (lv_at hl 0 rfl) ?_
    refine zi_get (C := RX0) (T := TX0) (N := 2) (v := .ref (tp)) hx hb hz wo_X0 hown hK hRd rfl 0 (by decide) (hz _ wf_X0_9) (fun _ h9 => h9) rfl dX0_readTruth_11 ?_
    refine lv_aload_n hx hb dX0_readTruth_14 rfl (lv_at hl 0 rfl) ?_
    refine zi_get (C := RX0) (T := TX0) (N := 2) (v := .int (nI (at9))) hx hb hz wo_X0 hown hK hRd rfl 1 (by decide) (hz _ wf_X0_15) (fun _ h9 => h9) rfl dX0_readTruth_15 ?_
    refine zc_VN (As := [.int (nI (at9))]) (rest := []) ⟨hx, hb, hml, hown, hts⟩ (c_byteAt2 l G tp qb cn f (at9) (by omega)) ⟨va_cnB 1 hts (zgN wc_X8_byteAt) rfl rfl rfl (hK.2.1 _ wm_X0_48) (hz _ wi_X8) (by decide +kernel) ⟨Nat.le_of_ble_eq_true rfl, Nat.le_of_ble_eq_true rfl⟩, hz _ wn_X8_byteAt, hz _ we_X8_byteAt⟩ hK hT.1 rfl hT rfl hl.1 rfl (Nat.le_of_ble_eq_true rfl) dX0_readTruth_18 ⟨by show 0 ≤ 0; omega, by show 0 ≤ 0; omega⟩ ?_
    refine lv_iconst (v := nI 1) hx hb dX0_readTruth_21 (by decide) ?_
    refine zi_icmp_le (tgt := 27) hx hb dX0_readTruth_22 (by decide) (Nat.lt_trans (h8 _) (by decide)) (by omega) (fun c_22 => ?_) (fun c_22 => ?_)
    · refine lv_aload_n hx hb dX0_readTruth_27 rfl (lv_at hl 1 rfl) ?_
      refine lv_aload_n hx hb dX0_readTruth_28 rfl (lv_at hl 0 rfl) ?_
      refine lv_iconst (v := nI 1) hx hb dX0_readTruth_29 (by decide) ?_
      refine zx_V (As := [.int (nI (1))]) (rest := [.ref (el)]) ⟨hx, hb, hml, hown, hts⟩ (c_rnum l G rd tp qb cn f at9 1 (by decide) (by omega) ⟨hne.1, hne.2.1⟩) (cwV 1 hts (zgV wm_X0_32 wv_X0_readNumber) rfl rfl rfl (by decide +kernel) ⟨Nat.le_of_ble_eq_true rfl, Nat.le_of_ble_eq_true rfl⟩) hK hRd rfl ⟨hRd, hT⟩ rfl hl.1 rfl (Nat.le_of_ble_eq_true rfl) dX0_readTruth_30 ⟨by show 0 + 0 ≤ 0; omega, by show 0 + 0 ≤ 0; omega⟩ hS (by intro q hq; first | omega | (dsimp only at hq ⊢; omega)) (fun r9 H locs hPo hz9 hk9 hS => ?_)
      have hT := hT.keep hk9 ⟨by first | exact id | exact rfl | omega | (dsimp only; omega), by first | exact id | exact rfl | omega | (dsimp only; omega)⟩
      have hEl := hEl.keep hk9 (by first | exact id | exact rfl | omega | (dsimp only; omega))
      obtain ⟨rfl, hRd⟩ := hPo
      refine W.eq (g2 := F0 m 33 ls ([.long (lN (sb8 f at9 0 1)), .ref (el)])) rfl ?_
      refine zx_putN (C := RX9) (T := TX9) (N := 9) (v := .long (lN (sb8 f at9 0 1))) hx hb hz wo_X9 tyX9 tyX9_ok nmX9 hown hK hEl rfl 4 (by decide) wf_X0_82 (fun _ h9 => h9) rfl rfl rfl (Nat.le_of_ble_eq_true rfl) (by first | exact rfl | omega | (dsimp only; omega)) hS dX0_readTruth_33 (fun H locs hz9 hEl hk9 hS => ?_)
      have hEl : zO G H (el) 8 [.int (nI (8)), .int (pl), .ref (nm), .ref (tx), .long (lN (sb8 f at9 0 1)), .null, .null, .null, .int (nI (0))] := hEl
      have hRd := hRd.keep hk9 (by first | exact id | exact rfl | omega | (dsimp only; omega))
      have hT := hT.keep hk9 ⟨by first | exact id | exact rfl | omega | (dsimp only; omega), by first | exact id | exact rfl | omega | (dsimp only; omega)⟩
      refine lv_iconst (v := nI 1) hx hb dX0_readTruth_36 (by decide) ?_
      exact zx_z hx hb hr hlocks (decide (vaF f 8 at9 e9 = 0)) (by rw [decide_eq_true (va8_0.mpr ⟨by omega, by omega⟩)]; rfl) (by show 0 + 0 ≤ 0; omega) (by show 0 + 0 ≤ 0; omega) (⟨rfl, fun _ => by rw [sb8_1] at hEl; exact ⟨hRd, hEl⟩⟩) hS dX0_readTruth_37
    · refine lv_iconst (v := nI 0) hx hb dX0_readTruth_25 (by decide) ?_
      exact zx_z hx hb hr hlocks (decide (vaF f 8 at9 e9 = 0)) (by rw [decide_eq_false (fun z => by have := va8_0.mp z; omega)]; rfl) (by show 0 ≤ 0; omega) (by show 0 ≤ 0; omega) (⟨rfl, fun z => absurd z (fun z => by have := va8_0.mp z; omega)⟩) hS dX0_readTruth_26

set_option maxHeartbeats 4000000 in
set_option maxRecDepth 100000 in
theorem c_rwn16 (l : Launch) (G : zG) (rd tp qb cn el : Nat) (f : Nat → Nat) (at9 e9 : Nat) (pl : Int32) (nm tx : Nat) (hne : tp ≠ rd ∧ qb ≠ rd ∧ tp ≠ el ∧ qb ≠ el ∧ el ≠ rd) (hae : at9 ≤ e9) (he2 : e9 ≤ 2000) : Met l yX0_readWholeNumber wsX0_readWholeNumber ({ frames := 2, cells := 0, slots := 0, locals := 45 }) (zP G [.ref (rd), .ref (el), .int (nI (4)), .int (nI (e9))] (fun H => zO G H rd 1 [.ref tp, .int (nI at9)] ∧ TP G tp qb cn f H ∧ zO G H el 8 (vF 16 pl nm tx 0 none none none 0))) (zX (fun q => q = rd ∨ q = el) (fun r9 H => r9 = some (.int (nI (nB (decide (vaF f 16 at9 e9 = 0))))) ∧ (vaF f 16 at9 e9 = 0 → zO G H rd 1 [.ref tp, .int (nI (at9 + 4))] ∧ zO G H el 8 (vF 16 pl nm tx ((nI (wh f at9)).toInt64) none none none 0)))) (0) (0) (fun q => q = rd ∨ q = el) := by
  refine Met.ofW (cc := cX0_readWholeNumber) (maxL := 6) (ret := (some .boolean)) (by decide) rfl ?_
  intro p en s m args below meth c s₁ B hml hv
  obtain ⟨rfl, hP, hK⟩ := hv
  have hx := B.exec
  have hb := B.bytes
  have hr := B.returns
  have hts := atoms_spec (ws := wsX0_readWholeNumber) B.pre
  have hz : ∀ w ∈ zW, w.before _ s = true := fun w h => hts w (List.mem_cons_of_mem _ h)
  have hown : s.vm.findClass RX0 = some m.cls := findClass_of_methodNamed B.named
  have hlocks := B.notSynchronized
  obtain ⟨hRd, hT, hEl⟩ := id hP
  have hS : va_S (fun q => q = rd ∨ q = el) s.heap s.heap [] := va_S.rf
  have h8 := hT.2.2
  have hk31 : 16 < 2 ^ 31 := by decide
  have hl := lv_entry ([.ref (rd), .ref (el), .int (nI (4)), .int (nI (e9))]) (n := 6) (Nat.le_of_ble_eq_true rfl)
  rw [lg_entry_eq]
  generalize (lg_sl ([.ref (rd), .ref (el), .int (nI (4)), .int (nI (e9))]) ++ List.replicate (6 - (lg_sl ([.ref (rd), .ref (el), .int (nI (4)), .int (nI (e9))])).length) Slot.unset).toArray = ls at hl ⊢
  have hl : lv_has ls 6 [(0, .ref (rd)), (1, .ref (el)), (2, .int (nI (4))), (3, .int (nI (e9)))] := hl
  refine lv_iload_n hx hb dX0_readWholeNumber_0 rfl (lv_at hl 3 rfl) ?_
  refine lv_aload_n hx hb dX0_readWholeNumber_1 rfl (lv_at hl 0 rfl) ?_
  refine zi_get (C := RX0) (T := TX0) (N := 2) (v := .int (nI (at9))) hx hb hz wo_X0 hown hK hRd rfl 1 (by decide) (hz _ wf_X0_15) (fun _ h9 => h9) rfl dX0_readWholeNumber_2 ?_
  refine zi_sub hx hb (by omega) dX0_readWholeNumber_5 ?_
  refine lv_iload_n hx hb dX0_readWholeNumber_6 rfl (lv_at hl 2 rfl) ?_
  refine zi_icmp_ge (tgt := 12) hx hb dX0_readWholeNumber_7 (by decide) (by omega) (by omega) (fun c_7 => ?_) (fun c_7 => ?_)
  · refine lv_aload_n hx hb dX0_readWholeNumber_12 rfl (lv_at hl 0 rfl) ?_
    refine lv_iload_n hx hb dX0_readWholeNumber_13 rfl (lv_at hl 2 rfl) ?_
    refine zx_V (As := [.int (nI (4))]) (rest := []) ⟨hx, hb, hml, hown, hts⟩ (c_rnum l G rd tp qb cn f at9 4 (by decide) (by omega) ⟨hne.1, hne.2.1⟩) (cwV 1 hts (zgV wm_X0_32 wv_X0_readNumber) rfl rfl rfl (by decide +kernel) ⟨Nat.le_of_ble_eq_true rfl, Nat.le_of_ble_eq_true rfl⟩) hK hRd rfl ⟨hRd, hT⟩ rfl hl.1 rfl (Nat.le_of_ble_eq_true rfl) dX0_readWholeNumber_14 ⟨by show 0 + 0 ≤ 0; omega, by show 0 + 0 ≤ 0; omega⟩ hS (by intro q hq; first | omega | (dsimp only at hq ⊢; omega)) (fun r9 H locs hPo hz9 hk9 hS => ?_)
    have hT := hT.keep hk9 ⟨by first | exact id | exact rfl | omega | (dsimp only; omega), by first | exact id | exact rfl | omega | (dsimp only; omega)⟩
    have hEl := hEl.keep hk9 (by first | exact id | exact rfl | omega | (dsimp only; omega))
    obtain ⟨rfl, hRd⟩ := hPo
    refine W.eq (g2 := F0 m 17 ls ([.long (lN (sb8 f at9 0 4))])) rfl ?_
    refine lv_lstore (lv' := [(4, .long (lN (sb8 f at9 0 4))), (0, .ref (rd)), (1, .ref (el)), (2, .int (nI (4))), (3, .int (nI (e9)))]) hx hb dX0_readWholeNumber_17 hl (by decide) rfl (fun ls hl => ?_)
    refine lv_aload_n hx hb dX0_readWholeNumber_19 rfl (lv_at hl 2 rfl) ?_
    refine lv_iload_n hx hb dX0_readWholeNumber_20 rfl (lv_at hl 3 rfl) ?_
    refine lv_iconst (v := nI 4) hx hb dX0_readWholeNumber_21 (by decide) ?_
    refine zi_icmp_ne (tgt := 32) hx hb dX0_readWholeNumber_22 (by decide) (by omega) (by omega) (fun c_22 => absurd c_22 (by decide)) (fun c_22 => ?_)
    refine lv_lload hx hb dX0_readWholeNumber_25 (lv_at hl 0 rfl) ?_
    refine lv_l2i (v := nI (wh f at9)) hx hb dX0_readWholeNumber_27 (by rw [lN_wh, lN_i]) ?_
    refine lv_i2l (v := (nI (wh f at9)).toInt64) hx hb dX0_readWholeNumber_28 (rfl) ?_
    refine lv_goto (tgt := 34) hx hb dX0_readWholeNumber_29 (by decide) ?_
    refine zx_putN (C := RX9) (T := TX9) (N := 9) (v := .long ((nI (wh f at9)).toInt64)) hx hb hz wo_X9 tyX9 tyX9_ok nmX9 hown hK hEl rfl 4 (by decide) wf_X0_82 (fun _ h9 => h9) rfl rfl rfl (Nat.le_of_ble_eq_true rfl) (by first | exact rfl | omega | (dsimp only; omega)) hS dX0_readWholeNumber_34 (fun H locs hz9 hEl hk9 hS => ?_)
    have hEl : zO G H (el) 8 [.int (nI (16)), .int (pl), .ref (nm), .ref (tx), .long ((nI (wh f at9)).toInt64), .null, .null, .null, .int (nI (0))] := hEl
    have hRd := hRd.keep hk9 (by first | exact id | exact rfl | omega | (dsimp only; omega))
    have hT := hT.keep hk9 ⟨by first | exact id | exact rfl | omega | (dsimp only; omega), by first | exact id | exact rfl | omega | (dsimp only; omega)⟩
    refine lv_iconst (v := nI 1) hx hb dX0_readWholeNumber_37 (by decide) ?_
    exact zx_z hx hb hr hlocks (decide (vaF f 16 at9 e9 = 0)) (by rw [decide_eq_true (va16_0.mpr (by omega))]; rfl) (by show 0 + 0 ≤ 0; omega) (by show 0 + 0 ≤ 0; omega) (⟨rfl, fun _ => ⟨hRd, hEl⟩⟩) hS dX0_readWholeNumber_38
  · refine lv_iconst (v := nI 0) hx hb dX0_readWholeNumber_10 (by decide) ?_
    exact zx_z hx hb hr hlocks (decide (vaF f 16 at9 e9 = 0)) (by rw [decide_eq_false (fun z => by have := va16_0.mp z; omega)]; rfl) (by show 0 ≤ 0; omega) (by show 0 ≤ 0; omega) (⟨rfl, fun z => absurd z (fun z => by have := va16_0.mp z; omega)⟩) hS dX0_readWholeNumber_11

set_option maxHeartbeats 4000000 in
set_option maxRecDepth 100000 in
theorem c_rwn18 (l : Launch) (G : zG) (rd tp qb cn el : Nat) (f : Nat → Nat) (at9 e9 : Nat) (pl : Int32) (nm tx : Nat) (hne : tp ≠ rd ∧ qb ≠ rd ∧ tp ≠ el ∧ qb ≠ el ∧ el ≠ rd) (hae : at9 ≤ e9) (he2 : e9 ≤ 2000) : Met l yX0_readWholeNumber wsX0_readWholeNumber ({ frames := 2, cells := 0, slots := 0, locals := 45 }) (zP G [.ref (rd), .ref (el), .int (nI (8)), .int (nI (e9))] (fun H => zO G H rd 1 [.ref tp, .int (nI at9)] ∧ TP G tp qb cn f H ∧ zO G H el 8 (vF 18 pl nm tx 0 none none none 0))) (zX (fun q => q = rd ∨ q = el) (fun r9 H => r9 = some (.int (nI (nB (decide (vaF f 18 at9 e9 = 0))))) ∧ (vaF f 18 at9 e9 = 0 → zO G H rd 1 [.ref tp, .int (nI (at9 + 8))] ∧ zO G H el 8 (vF 18 pl nm tx (lN (wh f at9 + 4294967296 * wh f (at9 + 4))) none none none 0)))) (0) (0) (fun q => q = rd ∨ q = el) := by
  refine Met.ofW (cc := cX0_readWholeNumber) (maxL := 6) (ret := (some .boolean)) (by decide) rfl ?_
  intro p en s m args below meth c s₁ B hml hv
  obtain ⟨rfl, hP, hK⟩ := hv
  have hx := B.exec
  have hb := B.bytes
  have hr := B.returns
  have hts := atoms_spec (ws := wsX0_readWholeNumber) B.pre
  have hz : ∀ w ∈ zW, w.before _ s = true := fun w h => hts w (List.mem_cons_of_mem _ h)
  have hown : s.vm.findClass RX0 = some m.cls := findClass_of_methodNamed B.named
  have hlocks := B.notSynchronized
  obtain ⟨hRd, hT, hEl⟩ := id hP
  have hS : va_S (fun q => q = rd ∨ q = el) s.heap s.heap [] := va_S.rf
  have h8 := hT.2.2
  have hk31 : 18 < 2 ^ 31 := by decide
  have hl := lv_entry ([.ref (rd), .ref (el), .int (nI (8)), .int (nI (e9))]) (n := 6) (Nat.le_of_ble_eq_true rfl)
  rw [lg_entry_eq]
  generalize (lg_sl ([.ref (rd), .ref (el), .int (nI (8)), .int (nI (e9))]) ++ List.replicate (6 - (lg_sl ([.ref (rd), .ref (el), .int (nI (8)), .int (nI (e9))])).length) Slot.unset).toArray = ls at hl ⊢
  have hl : lv_has ls 6 [(0, .ref (rd)), (1, .ref (el)), (2, .int (nI (8))), (3, .int (nI (e9)))] := hl
  refine lv_iload_n hx hb dX0_readWholeNumber_0 rfl (lv_at hl 3 rfl) ?_
  refine lv_aload_n hx hb dX0_readWholeNumber_1 rfl (lv_at hl 0 rfl) ?_
  refine zi_get (C := RX0) (T := TX0) (N := 2) (v := .int (nI (at9))) hx hb hz wo_X0 hown hK hRd rfl 1 (by decide) (hz _ wf_X0_15) (fun _ h9 => h9) rfl dX0_readWholeNumber_2 ?_
  refine zi_sub hx hb (by omega) dX0_readWholeNumber_5 ?_
  refine lv_iload_n hx hb dX0_readWholeNumber_6 rfl (lv_at hl 2 rfl) ?_
  refine zi_icmp_ge (tgt := 12) hx hb dX0_readWholeNumber_7 (by decide) (by omega) (by omega) (fun c_7 => ?_) (fun c_7 => ?_)
  · refine lv_aload_n hx hb dX0_readWholeNumber_12 rfl (lv_at hl 0 rfl) ?_
    refine lv_iload_n hx hb dX0_readWholeNumber_13 rfl (lv_at hl 2 rfl) ?_
    refine zx_V (As := [.int (nI (8))]) (rest := []) ⟨hx, hb, hml, hown, hts⟩ (c_rnum l G rd tp qb cn f at9 8 (by decide) (by omega) ⟨hne.1, hne.2.1⟩) (cwV 1 hts (zgV wm_X0_32 wv_X0_readNumber) rfl rfl rfl (by decide +kernel) ⟨Nat.le_of_ble_eq_true rfl, Nat.le_of_ble_eq_true rfl⟩) hK hRd rfl ⟨hRd, hT⟩ rfl hl.1 rfl (Nat.le_of_ble_eq_true rfl) dX0_readWholeNumber_14 ⟨by show 0 + 0 ≤ 0; omega, by show 0 + 0 ≤ 0; omega⟩ hS (by intro q hq; first | omega | (dsimp only at hq ⊢; omega)) (fun r9 H locs hPo hz9 hk9 hS => ?_)
    have hT := hT.keep hk9 ⟨by first | exact id | exact rfl | omega | (dsimp only; omega), by first | exact id | exact rfl | omega | (dsimp only; omega)⟩
    have hEl := hEl.keep hk9 (by first | exact id | exact rfl | omega | (dsimp only; omega))
    obtain ⟨rfl, hRd⟩ := hPo
    refine W.eq (g2 := F0 m 17 ls ([.long (lN (sb8 f at9 0 8))])) rfl ?_
    refine lv_lstore (lv' := [(4, .long (lN (sb8 f at9 0 8))), (0, .ref (rd)), (1, .ref (el)), (2, .int (nI (8))), (3, .int (nI (e9)))]) hx hb dX0_readWholeNumber_17 hl (by decide) rfl (fun ls hl => ?_)
    refine lv_aload_n hx hb dX0_readWholeNumber_19 rfl (lv_at hl 2 rfl) ?_
    refine lv_iload_n hx hb dX0_readWholeNumber_20 rfl (lv_at hl 3 rfl) ?_
    refine lv_iconst (v := nI 4) hx hb dX0_readWholeNumber_21 (by decide) ?_
    refine zi_icmp_ne (tgt := 32) hx hb dX0_readWholeNumber_22 (by decide) (by omega) (by omega) (fun c_22 => ?_) (fun c_22 => absurd c_22 (by decide))
    refine lv_lload hx hb dX0_readWholeNumber_32 (lv_at hl 0 rfl) ?_
    refine zx_putN (C := RX9) (T := TX9) (N := 9) (v := .long (lN (sb8 f at9 0 8))) hx hb hz wo_X9 tyX9 tyX9_ok nmX9 hown hK hEl rfl 4 (by decide) wf_X0_82 (fun _ h9 => h9) rfl rfl rfl (Nat.le_of_ble_eq_true rfl) (by first | exact rfl | omega | (dsimp only; omega)) hS dX0_readWholeNumber_34 (fun H locs hz9 hEl hk9 hS => ?_)
    have hEl : zO G H (el) 8 [.int (nI (18)), .int (pl), .ref (nm), .ref (tx), .long (lN (sb8 f at9 0 8)), .null, .null, .null, .int (nI (0))] := hEl
    have hRd := hRd.keep hk9 (by first | exact id | exact rfl | omega | (dsimp only; omega))
    have hT := hT.keep hk9 ⟨by first | exact id | exact rfl | omega | (dsimp only; omega), by first | exact id | exact rfl | omega | (dsimp only; omega)⟩
    refine lv_iconst (v := nI 1) hx hb dX0_readWholeNumber_37 (by decide) ?_
    exact zx_z hx hb hr hlocks (decide (vaF f 18 at9 e9 = 0)) (by rw [decide_eq_true (va18_0.mpr (by omega))]; rfl) (by show 0 + 0 ≤ 0; omega) (by show 0 + 0 ≤ 0; omega) (⟨rfl, fun _ => by rw [sb8_all] at hEl; exact ⟨hRd, hEl⟩⟩) hS dX0_readWholeNumber_38
  · refine lv_iconst (v := nI 0) hx hb dX0_readWholeNumber_10 (by decide) ?_
    exact zx_z hx hb hr hlocks (decide (vaF f 18 at9 e9 = 0)) (by rw [decide_eq_false (fun z => by have := va18_0.mp z; omega)]; rfl) (by show 0 ≤ 0; omega) (by show 0 ≤ 0; omega) (⟨rfl, fun z => absurd z (fun z => by have := va18_0.mp z; omega)⟩) hS dX0_readWholeNumber_11

set_option maxHeartbeats 4000000 in
set_option maxRecDepth 100000 in
theorem c_rtext (l : Launch) (G : zG) (n0 : Nat) (rd tp qb cn el : Nat) (f : Nat → Nat) (at9 e9 : Nat) (pl : Int32) (nm tx : Nat) (hne : tp ≠ rd ∧ qb ≠ rd ∧ tp ≠ el ∧ qb ≠ el ∧ el ≠ rd) (hae : at9 ≤ e9) (he2 : e9 ≤ 2000) : Met l yX0_readText wsX0_readText ({ frames := 5, cells := 3, slots := 2 * uT f at9 e9 + 4, locals := 121 }) (zP G [.ref (rd), .ref (el), .int (nI (e9))] (fun H => zO G H rd 1 [.ref tp, .int (nI at9)] ∧ TP G tp qb cn f H ∧ zO G H el 8 (vF 2 pl nm tx 0 none none none 0) ∧ CH G H ∧ H.size = n0 ∧ cB G ≤ rd ∧ cB G ≤ el)) (zX (fun q => q = rd ∨ q = el ∨ n0 ≤ q) (fun r9 H => r9 = some (.int (nI (nB (decide (vaF f 2 at9 e9 = 0))))) ∧ (vaF f 2 at9 e9 = 0 → ∃ tx1 : Nat, zO G H rd 1 [.ref tp, .int (nI (at9 + (4 + wh f at9)))] ∧ zO G H el 8 (vF 2 pl nm tx1 0 none none none 0) ∧ StrZ G H (zRg G n0 H.size) tx1 (txL f 2 at9)))) (3) (2 * uT f at9 e9 + 4) (fun q => q = rd ∨ q = el ∨ n0 ≤ q) := by
  refine Met.ofW (cc := cX0_readText) (maxL := 5) (ret := (some .boolean)) (by decide) rfl ?_
  intro p en s m args below meth c s₁ B hml hv
  obtain ⟨rfl, hP, hK⟩ := hv
  have hx := B.exec
  have hb := B.bytes
  have hr := B.returns
  have hts := atoms_spec (ws := wsX0_readText) B.pre
  have hz : ∀ w ∈ zW, w.before _ s = true := fun w h => hts w (List.mem_cons_of_mem _ h)
  have hown : s.vm.findClass RX0 = some m.cls := findClass_of_methodNamed B.named
  have hlocks := B.notSynchronized
  obtain ⟨hRd, hT, hEl, hCH, hn0, hcr, hce⟩ := id hP
  have hS : va_S (fun q => q = rd ∨ q = el ∨ n0 ≤ q) s.heap s.heap [] := va_S.rf
  have h8 := hT.2.2
  have hk31 : 2 < 2 ^ 31 := by decide
  have hw32 := wh_lt h8 at9
  have hrl := hRd.lt
  have hel := hEl.lt
  have htl := hT.1.lt
  have hql := hT.2.1.lt
  have hl := lv_entry ([.ref (rd), .ref (el), .int (nI (e9))]) (n := 5) (Nat.le_of_ble_eq_true rfl)
  rw [lg_entry_eq]
  generalize (lg_sl ([.ref (rd), .ref (el), .int (nI (e9))]) ++ List.replicate (5 - (lg_sl ([.ref (rd), .ref (el), .int (nI (e9))])).length) Slot.unset).toArray = ls at hl ⊢
  have hl : lv_has ls 5 [(0, .ref (rd)), (1, .ref (el)), (2, .int (nI (e9)))] := hl
  refine lv_iload_n hx hb dX0_readText_0 rfl (lv_at hl 2 rfl) ?_
  refine lv_aload_n hx hb dX0_readText_1 rfl (lv_at hl 0 rfl) ?_
  refine zi_get (C := RX0) (T := TX0) (N := 2) (v := .int (nI (at9))) hx hb hz wo_X0 hown hK hRd rfl 1 (by decide) (hz _ wf_X0_15) (fun _ h9 => h9) rfl dX0_readText_2 ?_
  refine zi_sub hx hb (by omega) dX0_readText_5 ?_
  refine lv_iconst (v := nI 4) hx hb dX0_readText_6 (by decide) ?_
  refine zi_icmp_ge (tgt := 12) hx hb dX0_readText_7 (by decide) (by omega) (by omega) (fun c_7 => ?_) (fun c_7 => ?_)
  · refine lv_aload_n hx hb dX0_readText_12 rfl (lv_at hl 0 rfl) ?_
    refine lv_iconst (v := nI 4) hx hb dX0_readText_13 (by decide) ?_
    refine zx_V (As := [.int (nI (4))]) (rest := []) ⟨hx, hb, hml, hown, hts⟩ (c_rnum l G rd tp qb cn f at9 4 (by decide) (by omega) ⟨hne.1, hne.2.1⟩) (cwV 1 hts (zgV wm_X0_32 wv_X0_readNumber) rfl rfl rfl (by decide +kernel) ⟨Nat.le_of_ble_eq_true rfl, Nat.le_of_ble_eq_true rfl⟩) hK hRd rfl ⟨hRd, hT⟩ rfl hl.1 rfl (Nat.le_of_ble_eq_true rfl) dX0_readText_14 ⟨by show 0 + 0 ≤ 3; omega, by show 0 + 0 ≤ 2 * uT f at9 e9 + 4; omega⟩ hS (by intro q hq; first | omega | (dsimp only at hq ⊢; omega)) (fun r9 H locs hPo hz9 hk9 hS => ?_)
    have hT := hT.keep hk9 ⟨by first | exact id | exact rfl | omega | (dsimp only; omega), by first | exact id | exact rfl | omega | (dsimp only; omega)⟩
    have hEl := hEl.keep hk9 (by first | exact id | exact rfl | omega | (dsimp only; omega))
    have hCH := hCH.keep hk9 ⟨by intro q hq; first | exact id | omega | (dsimp only; omega), by omega⟩
    obtain ⟨rfl, hRd⟩ := hPo
    refine W.eq (g2 := F0 m 17 ls ([.long (lN (sb8 f at9 0 4))])) rfl ?_
    refine lv_l2i (v := nI (wh f at9)) hx hb dX0_readText_17 (by rw [lN_wh, lN_i]) ?_
    by_cases hw31 : wh f at9 < 2 ^ 31
    · refine W.eq (g2 := F0 m 18 ls ([.int (nI (wh f at9))])) rfl ?_
      refine lv_istore_n (lv' := [(3, .int (nI (wh f at9))), (0, .ref (rd)), (1, .ref (el)), (2, .int (nI (e9)))]) hx hb dX0_readText_18 rfl hl (by decide) rfl (fun ls hl => ?_)
      refine lv_iload_n hx hb dX0_readText_19 rfl (lv_at hl 0 rfl) ?_
      refine lv_iconst (v := nI 1) hx hb dX0_readText_20 (by decide) ?_
      refine zi_icmp_lt (tgt := 34) hx hb dX0_readText_21 (by decide) hw31 (by omega) (fun c_21 => ?_) (fun c_21 => ?_)
      · refine lv_iconst (v := nI 0) hx hb dX0_readText_34 (by decide) ?_
        exact zx_z hx hb hr hlocks (decide (vaF f 2 at9 e9 = 0)) (by rw [decide_eq_false (fun z => by have := (va2_0.mp z).2.1; have := (va2_0.mp z).2.2.1; omega)]; rfl) (by show 0 + 0 ≤ 3; omega) (by show 0 + 0 ≤ 2 * uT f at9 e9 + 4; omega) (⟨rfl, fun z => absurd z (fun z => by have := (va2_0.mp z).2.1; have := (va2_0.mp z).2.2.1; omega)⟩) hS dX0_readText_35
      · refine lv_iload_n hx hb dX0_readText_24 rfl (lv_at hl 0 rfl) ?_
        refine lv_iload_n hx hb dX0_readText_25 rfl (lv_at hl 3 rfl) ?_
        refine lv_aload_n hx hb dX0_readText_26 rfl (lv_at hl 1 rfl) ?_
        refine zi_get (C := RX0) (T := TX0) (N := 2) (v := .int (nI (at9 + 4))) hx hb hz wo_X0 hown hK hRd rfl 1 (by decide) (hz _ wf_X0_15) (fun _ h9 => h9) rfl dX0_readText_27 ?_
        refine zi_sub hx hb (by omega) dX0_readText_30 ?_
        refine zi_icmp_le (tgt := 36) hx hb dX0_readText_31 (by decide) hw31 (by omega) (fun c_31 => ?_) (fun c_31 => ?_)
        · refine lv_aload_n hx hb dX0_readText_36 rfl (lv_at hl 1 rfl) ?_
          refine zi_get (C := RX0) (T := TX0) (N := 2) (v := .int (nI (at9 + 4))) hx hb hz wo_X0 hown hK hRd rfl 1 (by decide) (hz _ wf_X0_15) (fun _ h9 => h9) rfl dX0_readText_37 ?_
          refine lv_iload_n hx hb dX0_readText_40 rfl (lv_at hl 0 rfl) ?_
          refine zi_add hx hb dX0_readText_41 ?_
          refine lv_iconst (v := nI 1) hx hb dX0_readText_42 (by decide) ?_
          refine zi_sub hx hb (by omega) dX0_readText_43 ?_
          refine lv_istore (lv' := [(4, .int (nI (at9 + 4 + (wh f at9) - 1))), (3, .int (nI (wh f at9))), (0, .ref (rd)), (1, .ref (el)), (2, .int (nI (e9)))]) hx hb dX0_readText_44 hl (by decide) rfl (fun ls hl => ?_)
          refine lv_aload_n hx hb dX0_readText_46 rfl (lv_at hl 2 rfl) ?_
          refine zi_get (C := RX0) (T := TX0) (N := 2) (v := .ref (tp)) hx hb hz wo_X0 hown hK hRd rfl 0 (by decide) (hz _ wf_X0_9) (fun _ h9 => h9) rfl dX0_readText_47 ?_
          refine lv_iload hx hb dX0_readText_50 (lv_at hl 0 rfl) ?_
          refine zc_VN (As := [.int (nI (at9 + 4 + (wh f at9) - 1))]) (rest := []) ⟨hx, hb, hml, hown, hts⟩ (c_byteAt2 l G tp qb cn f (at9 + 4 + wh f at9 - 1) (by omega)) ⟨va_cnB 1 hts (zgN wc_X8_byteAt) rfl rfl rfl (hK.2.1 _ wm_X0_48) (hz _ wi_X8) (by decide +kernel) ⟨Nat.le_of_ble_eq_true rfl, Nat.le_of_ble_eq_true rfl⟩, hz _ wn_X8_byteAt, hz _ we_X8_byteAt⟩ hK hT.1 rfl hT rfl hl.1 rfl (Nat.le_of_ble_eq_true rfl) dX0_readText_52 ⟨by show 0 + 0 ≤ 3; omega, by show 0 + 0 ≤ 2 * uT f at9 e9 + 4; omega⟩ ?_
          refine zi_if_ne (tgt := 71) hx hb dX0_readText_55 (by decide) (Nat.lt_trans (h8 _) (by decide)) (fun c_55 => ?_) (fun c_55 => ?_)
          · refine lv_iconst (v := nI 0) hx hb dX0_readText_71 (by decide) ?_
            exact zx_z hx hb hr hlocks (decide (vaF f 2 at9 e9 = 0)) (by rw [decide_eq_false (fun z => c_55 (va2_0.mp z).2.2.2.1)]; rfl) (by show 0 + 0 ≤ 3; omega) (by show 0 + 0 ≤ 2 * uT f at9 e9 + 4; omega) (⟨rfl, fun z => absurd z (fun z => c_55 (va2_0.mp z).2.2.2.1)⟩) hS dX0_readText_72
          · refine lv_aload_n hx hb dX0_readText_58 rfl (lv_at hl 2 rfl) ?_
            refine lv_aload_n hx hb dX0_readText_59 rfl (lv_at hl 2 rfl) ?_
            refine zi_get (C := RX0) (T := TX0) (N := 2) (v := .int (nI (at9 + 4))) hx hb hz wo_X0 hown hK hRd rfl 1 (by decide) (hz _ wf_X0_15) (fun _ h9 => h9) rfl dX0_readText_60 ?_
            refine lv_iload hx hb dX0_readText_63 (lv_at hl 0 rfl) ?_
            refine zc_V (As := [.int (nI (at9 + 4)), .int (nI (at9 + 4 + (wh f at9) - 1))]) (rest := []) ⟨hx, hb, hml, hown, hts⟩ (c_utf8b l G rd tp qb cn (.int (nI (at9 + 4))) f (at9 + 4) (at9 + 4 + wh f at9 - 1) (by omega) (by omega)) (cwV 2 hts (zgV wm_X0_58 wv_X0_isRightUtf8) rfl rfl rfl (by decide +kernel) ⟨Nat.le_of_ble_eq_true rfl, Nat.le_of_ble_eq_true rfl⟩) hK hRd rfl ⟨hRd, hT⟩ rfl hl.1 rfl (Nat.le_of_ble_eq_true rfl) dX0_readText_65 ⟨by show 0 + 0 ≤ 3; omega, by show 0 + 0 ≤ 2 * uT f at9 e9 + 4; omega⟩ ?_
            refine zb_if_ne (tgt := 73) hx hb dX0_readText_68 (by decide) (fun c_68 => ?_) (fun c_68 => ?_)
            · have hva : vaF f 2 at9 e9 = 0 := va2_0.mpr ⟨by omega, by omega, by omega, c_55, of_decide_eq_true c_68⟩
              have huT : uT f at9 e9 = wh f at9 := if_pos hva
              refine lv_aload_n hx hb dX0_readText_73 rfl (lv_at hl 3 rfl) ?_
              refine lv_aload_n hx hb dX0_readText_74 rfl (lv_at hl 2 rfl) ?_
              refine lv_aload_n hx hb dX0_readText_75 rfl (lv_at hl 2 rfl) ?_
              refine zi_get (C := RX0) (T := TX0) (N := 2) (v := .int (nI (at9 + 4))) hx hb hz wo_X0 hown hK hRd rfl 1 (by decide) (hz _ wf_X0_15) (fun _ h9 => h9) rfl dX0_readText_76 ?_
              refine lv_iload hx hb dX0_readText_79 (lv_at hl 0 rfl) ?_
              refine zx_V (As := [.int (nI (at9 + 4)), .int (nI (at9 + 4 + (wh f at9) - 1))]) (rest := [.ref (el)]) ⟨hx, hb, hml, hown, hts⟩ (c_textOf l G H.size rd tp qb cn (.int (nI (at9 + 4))) f (at9 + 4) (at9 + 4 + wh f at9 - 1) (by omega) (by omega)) (cwV 2 hts (zgV wm_X0_62 wv_X0_textOf) rfl rfl rfl (by decide +kernel) ⟨Nat.le_of_ble_eq_true rfl, Nat.le_of_ble_eq_true rfl⟩) hK hRd rfl ⟨hRd, hT, hCH, rfl⟩ rfl hl.1 rfl (Nat.le_of_ble_eq_true rfl) dX0_readText_81 ⟨by show 0 + 0 + 3 ≤ 3; omega, by show 0 + 0 + (2 * (at9 + 4 + wh f at9 - 1 - (at9 + 4)) + 4) ≤ 2 * uT f at9 e9 + 4; omega⟩ hS (by intro q hq; first | omega | (dsimp only at hq ⊢; omega)) (fun r9 H locs hPo hz9 hk9 hS => ?_)
              have hRd := hRd.keep hk9 (by first | exact id | exact rfl | omega | (dsimp only; omega))
              have hT := hT.keep hk9 ⟨by first | exact id | exact rfl | omega | (dsimp only; omega), by first | exact id | exact rfl | omega | (dsimp only; omega)⟩
              have hEl := hEl.keep hk9 (by first | exact id | exact rfl | omega | (dsimp only; omega))
              have hCH := hCH.keep hk9 ⟨by intro q hq; first | exact id | omega | (dsimp only; omega), by omega⟩
              obtain ⟨tx1, rfl, hZ⟩ := hPo
              refine W.eq (g2 := F0 m 84 ls ([.ref (tx1), .ref (el)])) rfl ?_
              refine zx_putN (C := RX9) (T := TX9) (N := 9) (v := .ref (tx1)) hx hb hz wo_X9 tyX9 tyX9_ok nmX9 hown hK hEl rfl 3 (by decide) wf_X0_86 (fun _ h9 => h9) rfl rfl rfl (Nat.le_of_ble_eq_true rfl) (by first | exact rfl | omega | (dsimp only; omega)) hS dX0_readText_84 (fun H locs hz9 hEl hk9 hS => ?_)
              have hEl : zO G H (el) 8 [.int (nI (2)), .int (pl), .ref (nm), .ref (tx1), .long (0), .null, .null, .null, .int (nI (0))] := hEl
              have hRd := hRd.keep hk9 (by first | exact id | exact rfl | omega | (dsimp only; omega))
              have hT := hT.keep hk9 ⟨by first | exact id | exact rfl | omega | (dsimp only; omega), by first | exact id | exact rfl | omega | (dsimp only; omega)⟩
              have hCH := hCH.keep hk9 ⟨by intro q hq; first | exact id | omega | (dsimp only; omega), by omega⟩
              have hZ := hZ.keep hk9 (by intro q hq; first | exact id | (simp only [Zr, zRg] at hq ⊢; omega))
              refine lv_aload_n hx hb dX0_readText_87 rfl (lv_at hl 2 rfl) ?_
              refine lv_iload hx hb dX0_readText_88 (lv_at hl 0 rfl) ?_
              refine lv_iconst (v := nI 1) hx hb dX0_readText_90 (by decide) ?_
              refine zi_add hx hb dX0_readText_91 ?_
              refine zx_put (C := RX0) (T := TX0) (N := 2) (v := .int (nI (at9 + 4 + (wh f at9) - 1 + 1))) hx hb hz wo_X0 tyX0 tyX0_ok nmX0 hown hK hRd rfl 1 (by decide) (hz _ wf_X0_15) (fun _ h9 => h9) (Or.inl rfl) rfl rfl (Nat.le_of_ble_eq_true rfl) (by first | exact rfl | omega | (dsimp only; omega)) hS dX0_readText_92 (fun H locs hz9 hRd hk9 hS => ?_)
              have hRd : zO G H (rd) 1 [.ref (tp), .int (nI (at9 + 4 + (wh f at9) - 1 + 1))] := hRd
              have hT := hT.keep hk9 ⟨by first | exact id | exact rfl | omega | (dsimp only; omega), by first | exact id | exact rfl | omega | (dsimp only; omega)⟩
              have hEl := hEl.keep hk9 (by first | exact id | exact rfl | omega | (dsimp only; omega))
              have hCH := hCH.keep hk9 ⟨by intro q hq; first | exact id | omega | (dsimp only; omega), by omega⟩
              have hZ := hZ.keep hk9 (by intro q hq; first | exact id | (simp only [Zr, zRg] at hq ⊢; omega))
              refine lv_iconst (v := nI 1) hx hb dX0_readText_95 (by decide) ?_
              exact zx_z hx hb hr hlocks (decide (vaF f 2 at9 e9 = 0)) (by rw [decide_eq_true (hva)]; rfl) (by show 0 + 0 + 3 ≤ 3; omega) (by show 0 + 0 + (2 * (at9 + 4 + wh f at9 - 1 - (at9 + 4)) + 4) ≤ 2 * uT f at9 e9 + 4; omega) (⟨rfl, fun _ => ⟨tx1, by rw [show at9 + (4 + wh f at9) = at9 + 4 + wh f at9 - 1 + 1 by omega]; exact hRd, hEl, (hZ.mono (fun q hq => by simp only [zRg] at hq ⊢; omega)).to (by unfold txL; rw [if_pos rfl, show at9 + 4 + wh f at9 - 1 - (at9 + 4) = wh f at9 - 1 by omega])⟩⟩) hS dX0_readText_96
            · refine lv_iconst (v := nI 0) hx hb dX0_readText_71 (by decide) ?_
              exact zx_z hx hb hr hlocks (decide (vaF f 2 at9 e9 = 0)) (by rw [decide_eq_false (fun z => (of_decide_eq_false c_68) (va2_0.mp z).2.2.2.2)]; rfl) (by show 0 + 0 ≤ 3; omega) (by show 0 + 0 ≤ 2 * uT f at9 e9 + 4; omega) (⟨rfl, fun z => absurd z (fun z => (of_decide_eq_false c_68) (va2_0.mp z).2.2.2.2)⟩) hS dX0_readText_72
        · refine lv_iconst (v := nI 0) hx hb dX0_readText_34 (by decide) ?_
          exact zx_z hx hb hr hlocks (decide (vaF f 2 at9 e9 = 0)) (by rw [decide_eq_false (fun z => by have := (va2_0.mp z).2.1; have := (va2_0.mp z).2.2.1; omega)]; rfl) (by show 0 + 0 ≤ 3; omega) (by show 0 + 0 ≤ 2 * uT f at9 e9 + 4; omega) (⟨rfl, fun z => absurd z (fun z => by have := (va2_0.mp z).2.1; have := (va2_0.mp z).2.2.1; omega)⟩) hS dX0_readText_35
    · refine W.eq (g2 := F0 m 18 ls ([.int (nI (wh f at9))])) rfl ?_
      refine lv_istore_n (lv' := [(3, .int (nI (wh f at9))), (0, .ref (rd)), (1, .ref (el)), (2, .int (nI (e9)))]) hx hb dX0_readText_18 rfl hl (by decide) rfl (fun ls hl => ?_)
      refine lv_iload_n hx hb dX0_readText_19 rfl (lv_at hl 0 rfl) ?_
      refine lv_iconst (v := nI 1) hx hb dX0_readText_20 (by decide) ?_
      refine lv_icmp_lt (tgt := 34) hx hb dX0_readText_21 (by decide) (fun c_21 => ?_) (fun c_21 => ?_)
      · refine lv_iconst (v := nI 0) hx hb dX0_readText_34 (by decide) ?_
        exact zx_z hx hb hr hlocks (decide (vaF f 2 at9 e9 = 0)) (by rw [decide_eq_false (fun z => by have := (va2_0.mp z).2.2.1; omega)]; rfl) (by show 0 + 0 ≤ 3; omega) (by show 0 + 0 ≤ 2 * uT f at9 e9 + 4; omega) (⟨rfl, fun z => absurd z (fun z => by have := (va2_0.mp z).2.2.1; omega)⟩) hS dX0_readText_35
      · exact absurd (big_lt hw31 hw32 (by decide)) c_21
  · refine lv_iconst (v := nI 0) hx hb dX0_readText_10 (by decide) ?_
    exact zx_z hx hb hr hlocks (decide (vaF f 2 at9 e9 = 0)) (by rw [decide_eq_false (fun z => by have := va2_0.mp z; omega)]; rfl) (by show 0 ≤ 3; omega) (by show 0 ≤ 2 * uT f at9 e9 + 4; omega) (⟨rfl, fun z => absurd z (fun z => by have := va2_0.mp z; omega)⟩) hS dX0_readText_11
