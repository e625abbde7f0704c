set_option maxHeartbeats 4000000 in
set_option maxRecDepth 100000 in
theorem c_feed (l : Launch) (G : zG) (x tp mt sl fa : Nat) (pl : Int32) (qb cn : Nat) (f : Nat → Nat) (v1 v2 v3 v4 v5 : Int32) (hc : cn + 20 ≤ 2000) (hne : tp ≠ qb) (hxt : x ≠ tp) (hxq : x ≠ qb) : Met l yX10_feed wsX10_feed ({ frames := 1, cells := 0, slots := 0, locals := 22 }) (zP G [.ref (x), .int (v1), .int (v2), .int (v3), .int (v4), .int (v5)] (fun H => zO G H x 9 [.ref tp, .ref mt, .ref sl, .ref fa, .int pl] ∧ TP G tp qb cn f H)) (zX (fun q => q = tp ∨ q = qb) (fun r9 H => r9 = some (.int (nI (cn + 20))) ∧ TP G tp qb (cn + 20) (put4 (put4 (put4 (put4 (put4 (f) (cn) v1) (cn + 4) v2) (cn + 4 + 4) v3) (cn + 4 + 4 + 4) v4) (cn + 4 + 4 + 4 + 4) v5) H)) (0) (0) (fun q => q = tp ∨ q = qb) := by
  refine Met.ofW (cc := cX10_feed) (maxL := 6) (ret := (some .int)) (by decide) rfl ?_
  intro p en s m args below meth c s₁ B hml hv
  obtain ⟨rfl, hP, hK⟩ := hv
  have hx := B.exec
  have hb := B.bytes
  have hr := B.returns
  have hts := atoms_spec (ws := wsX10_feed) B.pre
  have hz : ∀ w ∈ zW, w.before _ s = true := fun w h => hts w (List.mem_cons_of_mem _ h)
  have hown : s.vm.findClass RX10 = some m.cls := findClass_of_methodNamed B.named
  have hlocks := B.notSynchronized
  obtain ⟨hX, hT⟩ := id hP
  have hS : va_S (fun q => q = tp ∨ q = qb) s.heap s.heap [] := va_S.rf
  have hl := lv_entry ([.ref (x), .int (v1), .int (v2), .int (v3), .int (v4), .int (v5)]) (n := 6) (Nat.le_of_ble_eq_true rfl)
  rw [lg_entry_eq]
  generalize (lg_sl ([.ref (x), .int (v1), .int (v2), .int (v3), .int (v4), .int (v5)]) ++ List.replicate (6 - (lg_sl ([.ref (x), .int (v1), .int (v2), .int (v3), .int (v4), .int (v5)])).length) Slot.unset).toArray = ls at hl ⊢
  have hl : lv_has ls 6 [(0, .ref (x)), (1, .int (v1)), (2, .int (v2)), (3, .int (v3)), (4, .int (v4)), (5, .int (v5))] := hl
  refine lv_aload_n hx hb dX10_feed_0 rfl (lv_at hl 0 rfl) ?_
  refine zi_get (C := RX10) (T := TX10) (N := 5) (v := .ref (tp)) hx hb hz wo_X10 hown hK hX rfl 0 (by decide) (hz _ wf_X10_10) (fun _ h9 => h9) rfl dX10_feed_1 ?_
  refine zc_VN (As := []) (rest := []) ⟨hx, hb, hml, hown, hts⟩ (c_hasRoom l G tp qb cn f (by omega)) ⟨va_cnB 0 hts (zgN wc_X8_hasRoom) rfl rfl rfl (hK.2.1 _ wm_X10_49) (hz _ wi_X8) (by decide +kernel) ⟨Nat.le_of_ble_eq_true rfl, Nat.le_of_ble_eq_true rfl⟩, hz _ wn_X8_hasRoom, hz _ we_X8_hasRoom⟩ hK hT.1 rfl hT rfl hl.1 rfl (Nat.le_of_ble_eq_true rfl) dX10_feed_4 ⟨by show 0 ≤ 0; omega, by show 0 ≤ 0; omega⟩ ?_
  refine zb_if_ne (tgt := 12) hx hb dX10_feed_7 (by decide) (fun c_7 => ?_) (fun c_7 => ?_)
  · refine lv_aload_n hx hb dX10_feed_12 rfl (lv_at hl 0 rfl) ?_
    refine zi_get (C := RX10) (T := TX10) (N := 5) (v := .ref (tp)) hx hb hz wo_X10 hown hK hX rfl 0 (by decide) (hz _ wf_X10_10) (fun _ h9 => h9) rfl dX10_feed_13 ?_
    refine lv_iload_n hx hb dX10_feed_16 rfl (lv_at hl 1 rfl) ?_
    refine zx_VN (As := [.int (v1)]) (rest := []) ⟨hx, hb, hml, hown, hts⟩ (c_put l G tp qb (cn) (f) v1 (by omega) hne hT.2.2) ⟨va_cnB 1 hts (zgN wc_X8_put) rfl rfl rfl (hK.2.1 _ wm_X10_53) (hz _ wi_X8) (by decide +kernel) ⟨Nat.le_of_ble_eq_true rfl, Nat.le_of_ble_eq_true rfl⟩, hz _ wn_X8_put, hz _ we_X8_put⟩ hK hT.1 rfl hT rfl hl.1 rfl (Nat.le_of_ble_eq_true rfl) dX10_feed_17 ⟨by show 0 + 0 ≤ 0; omega, by show 0 + 0 ≤ 0; omega⟩ hS (by intro q hq; first | omega | (dsimp only at hq ⊢; omega)) (fun r9 H locs hPo hz9 hk9 hS => ?_)
    have hX := hX.keep hk9 (by first | exact id | exact rfl | omega | (dsimp only; omega))
    obtain ⟨rfl, hT⟩ := hPo
    refine W.eq (g2 := F0 m 20 ls ([])) rfl ?_
    refine lv_aload_n hx hb dX10_feed_20 rfl (lv_at hl 0 rfl) ?_
    refine zi_get (C := RX10) (T := TX10) (N := 5) (v := .ref (tp)) hx hb hz wo_X10 hown hK hX rfl 0 (by decide) (hz _ wf_X10_10) (fun _ h9 => h9) rfl dX10_feed_21 ?_
    refine lv_iload_n hx hb dX10_feed_24 rfl (lv_at hl 2 rfl) ?_
    refine zx_VN (As := [.int (v2)]) (rest := []) ⟨hx, hb, hml, hown, hts⟩ (c_put l G tp qb (cn + 4) (put4 (f) (cn) v1) v2 (by omega) hne hT.2.2) ⟨va_cnB 1 hts (zgN wc_X8_put) rfl rfl rfl (hK.2.1 _ wm_X10_53) (hz _ wi_X8) (by decide +kernel) ⟨Nat.le_of_ble_eq_true rfl, Nat.le_of_ble_eq_true rfl⟩, hz _ wn_X8_put, hz _ we_X8_put⟩ hK hT.1 rfl hT rfl hl.1 rfl (Nat.le_of_ble_eq_true rfl) dX10_feed_25 ⟨by show 0 + 0 + 0 ≤ 0; omega, by show 0 + 0 + 0 ≤ 0; omega⟩ hS (by intro q hq; first | omega | (dsimp only at hq ⊢; omega)) (fun r9 H locs hPo hz9 hk9 hS => ?_)
    have hX := hX.keep hk9 (by first | exact id | exact rfl | omega | (dsimp only; omega))
    obtain ⟨rfl, hT⟩ := hPo
    refine W.eq (g2 := F0 m 28 ls ([])) rfl ?_
    refine lv_aload_n hx hb dX10_feed_28 rfl (lv_at hl 0 rfl) ?_
    refine zi_get (C := RX10) (T := TX10) (N := 5) (v := .ref (tp)) hx hb hz wo_X10 hown hK hX rfl 0 (by decide) (hz _ wf_X10_10) (fun _ h9 => h9) rfl dX10_feed_29 ?_
    refine lv_iload_n hx hb dX10_feed_32 rfl (lv_at hl 3 rfl) ?_
    refine zx_VN (As := [.int (v3)]) (rest := []) ⟨hx, hb, hml, hown, hts⟩ (c_put l G tp qb (cn + 4 + 4) (put4 (put4 (f) (cn) v1) (cn + 4) v2) v3 (by omega) hne hT.2.2) ⟨va_cnB 1 hts (zgN wc_X8_put) rfl rfl rfl (hK.2.1 _ wm_X10_53) (hz _ wi_X8) (by decide +kernel) ⟨Nat.le_of_ble_eq_true rfl, Nat.le_of_ble_eq_true rfl⟩, hz _ wn_X8_put, hz _ we_X8_put⟩ hK hT.1 rfl hT rfl hl.1 rfl (Nat.le_of_ble_eq_true rfl) dX10_feed_33 ⟨by show 0 + 0 + 0 + 0 ≤ 0; omega, by show 0 + 0 + 0 + 0 ≤ 0; omega⟩ hS (by intro q hq; first | omega | (dsimp only at hq ⊢; omega)) (fun r9 H locs hPo hz9 hk9 hS => ?_)
    have hX := hX.keep hk9 (by first | exact id | exact rfl | omega | (dsimp only; omega))
    obtain ⟨rfl, hT⟩ := hPo
    refine W.eq (g2 := F0 m 36 ls ([])) rfl ?_
    refine lv_aload_n hx hb dX10_feed_36 rfl (lv_at hl 0 rfl) ?_
    refine zi_get (C := RX10) (T := TX10) (N := 5) (v := .ref (tp)) hx hb hz wo_X10 hown hK hX rfl 0 (by decide) (hz _ wf_X10_10) (fun _ h9 => h9) rfl dX10_feed_37 ?_
    refine lv_iload hx hb dX10_feed_40 (lv_at hl 4 rfl) ?_
    refine zx_VN (As := [.int (v4)]) (rest := []) ⟨hx, hb, hml, hown, hts⟩ (c_put l G tp qb (cn + 4 + 4 + 4) (put4 (put4 (put4 (f) (cn) v1) (cn + 4) v2) (cn + 4 + 4) v3) v4 (by omega) hne hT.2.2) ⟨va_cnB 1 hts (zgN wc_X8_put) rfl rfl rfl (hK.2.1 _ wm_X10_53) (hz _ wi_X8) (by decide +kernel) ⟨Nat.le_of_ble_eq_true rfl, Nat.le_of_ble_eq_true rfl⟩, hz _ wn_X8_put, hz _ we_X8_put⟩ hK hT.1 rfl hT rfl hl.1 rfl (Nat.le_of_ble_eq_true rfl) dX10_feed_42 ⟨by show 0 + 0 + 0 + 0 + 0 ≤ 0; omega, by show 0 + 0 + 0 + 0 + 0 ≤ 0; omega⟩ hS (by intro q hq; first | omega | (dsimp only at hq ⊢; omega)) (fun r9 H locs hPo hz9 hk9 hS => ?_)
    have hX := hX.keep hk9 (by first | exact id | exact rfl | omega | (dsimp only; omega))
    obtain ⟨rfl, hT⟩ := hPo
    refine W.eq (g2 := F0 m 45 ls ([])) rfl ?_
    refine lv_aload_n hx hb dX10_feed_45 rfl (lv_at hl 0 rfl) ?_
    refine zi_get (C := RX10) (T := TX10) (N := 5) (v := .ref (tp)) hx hb hz wo_X10 hown hK hX rfl 0 (by decide) (hz _ wf_X10_10) (fun _ h9 => h9) rfl dX10_feed_46 ?_
    refine lv_iload hx hb dX10_feed_49 (lv_at hl 5 rfl) ?_
    refine zx_VN (As := [.int (v5)]) (rest := []) ⟨hx, hb, hml, hown, hts⟩ (c_put l G tp qb (cn + 4 + 4 + 4 + 4) (put4 (put4 (put4 (put4 (f) (cn) v1) (cn + 4) v2) (cn + 4 + 4) v3) (cn + 4 + 4 + 4) v4) v5 (by omega) hne hT.2.2) ⟨va_cnB 1 hts (zgN wc_X8_put) rfl rfl rfl (hK.2.1 _ wm_X10_53) (hz _ wi_X8) (by decide +kernel) ⟨Nat.le_of_ble_eq_true rfl, Nat.le_of_ble_eq_true rfl⟩, hz _ wn_X8_put, hz _ we_X8_put⟩ hK hT.1 rfl hT rfl hl.1 rfl (Nat.le_of_ble_eq_true rfl) dX10_feed_51 ⟨by show 0 + 0 + 0 + 0 + 0 + 0 ≤ 0; omega, by show 0 + 0 + 0 + 0 + 0 + 0 ≤ 0; omega⟩ hS (by intro q hq; first | omega | (dsimp only at hq ⊢; omega)) (fun r9 H locs hPo hz9 hk9 hS => ?_)
    have hX := hX.keep hk9 (by first | exact id | exact rfl | omega | (dsimp only; omega))
    obtain ⟨rfl, hT⟩ := hPo
    refine W.eq (g2 := F0 m 54 ls ([])) rfl ?_
    refine lv_aload_n hx hb dX10_feed_54 rfl (lv_at hl 0 rfl) ?_
    refine zi_get (C := RX10) (T := TX10) (N := 5) (v := .ref (tp)) hx hb hz wo_X10 hown hK hX rfl 0 (by decide) (hz _ wf_X10_10) (fun _ h9 => h9) rfl dX10_feed_55 ?_
    refine zi_getN (C := RX8) (T := TX8) (N := 2) (v := .int (nI (cn + 4 + 4 + 4 + 4 + 4))) hx hb hz wo_X8 hown hK hT.1 rfl 1 (by decide) wf_X10_57 (fun _ h9 => h9) rfl dX10_feed_58 ?_
    exact zx_i hx hb hr hlocks (by show 0 + 0 + 0 + 0 + 0 + 0 ≤ 0; omega) (by show 0 + 0 + 0 + 0 + 0 + 0 ≤ 0; omega) (⟨by rw [show cn + 20 = cn + 4 + 4 + 4 + 4 + 4 by omega], by rw [show cn + 20 = cn + 4 + 4 + 4 + 4 + 4 by omega]; exact hT⟩) hS dX10_feed_61
  · exact absurd c_7 (by rw [decide_eq_true hc]; decide)

set_option maxHeartbeats 4000000 in
set_option maxRecDepth 100000 in
theorem c_feed_n (l : Launch) (G : zG) (x tp mt sl fa : Nat) (pl : Int32) (qb cn : Nat) (f : Nat → Nat) (v1 v2 v3 v4 v5 : Int32) (hc : ¬ cn + 20 ≤ 2000) (hc2 : cn ≤ 2000) : Met l yX10_feed wsX10_feed ({ frames := 1, cells := 0, slots := 0, locals := 20 }) (zP G [.ref (x), .int (v1), .int (v2), .int (v3), .int (v4), .int (v5)] (fun H => zO G H x 9 [.ref tp, .ref mt, .ref sl, .ref fa, .int pl] ∧ TP G tp qb cn f H)) (zR (.int (-1))) 0 0 (fun _ => False) := by
  refine Met.ofW (cc := cX10_feed) (maxL := 6) (ret := (some .int)) (by decide) rfl ?_
  intro p en s m args below meth c s₁ B hml hv
  obtain ⟨rfl, hP, hK⟩ := hv
  have hx := B.exec
  have hb := B.bytes
  have hr := B.returns
  have hts := atoms_spec (ws := wsX10_feed) B.pre
  have hz : ∀ w ∈ zW, w.before _ s = true := fun w h => hts w (List.mem_cons_of_mem _ h)
  have hown : s.vm.findClass RX10 = some m.cls := findClass_of_methodNamed B.named
  have hlocks := B.notSynchronized
  obtain ⟨hX, hT⟩ := id hP
  have hl := lv_entry ([.ref (x), .int (v1), .int (v2), .int (v3), .int (v4), .int (v5)]) (n := 6) (Nat.le_of_ble_eq_true rfl)
  rw [lg_entry_eq]
  generalize (lg_sl ([.ref (x), .int (v1), .int (v2), .int (v3), .int (v4), .int (v5)]) ++ List.replicate (6 - (lg_sl ([.ref (x), .int (v1), .int (v2), .int (v3), .int (v4), .int (v5)])).length) Slot.unset).toArray = ls at hl ⊢
  have hl : lv_has ls 6 [(0, .ref (x)), (1, .int (v1)), (2, .int (v2)), (3, .int (v3)), (4, .int (v4)), (5, .int (v5))] := hl
  refine lv_aload_n hx hb dX10_feed_0 rfl (lv_at hl 0 rfl) ?_
  refine zi_get (C := RX10) (T := TX10) (N := 5) (v := .ref (tp)) hx hb hz wo_X10 hown hK hX rfl 0 (by decide) (hz _ wf_X10_10) (fun _ h9 => h9) rfl dX10_feed_1 ?_
  refine zc_VN (As := []) (rest := []) ⟨hx, hb, hml, hown, hts⟩ (c_hasRoom l G tp qb cn f hc2) ⟨va_cnB 0 hts (zgN wc_X8_hasRoom) rfl rfl rfl (hK.2.1 _ wm_X10_49) (hz _ wi_X8) (by decide +kernel) ⟨Nat.le_of_ble_eq_true rfl, Nat.le_of_ble_eq_true rfl⟩, hz _ wn_X8_hasRoom, hz _ we_X8_hasRoom⟩ hK hT.1 rfl hT rfl hl.1 rfl (Nat.le_of_ble_eq_true rfl) dX10_feed_4 ⟨Nat.zero_le _, Nat.zero_le _⟩ ?_
  refine zb_if_ne (tgt := 12) hx hb dX10_feed_7 (by decide) (fun c_7 => ?_) (fun c_7 => ?_)
  · exact absurd c_7 (by rw [decide_eq_false hc]; decide)
  · refine lv_iconst (v := (-1)) hx hb dX10_feed_10 (by decide) ?_
    exact zr_i hx hb hr hlocks (rfl) dX10_feed_11

set_option maxHeartbeats 4000000 in
set_option maxRecDepth 100000 in
theorem c_read_n1 (l : Launch) (G : zG) (x tp mt sl fa : Nat) (pl : Int32) (sv fv : Nat → Nat) (qb cn : Nat) (f : Nat → Nat) (y z : Int32) (hy : is4i y = false) : Met l yX10_read wsX10_read ({ frames := 1, cells := 0, slots := 0, locals := 21 }) (zP G [.ref (x), .int (y), .int (z)] (fun H => zO G H x 9 [.ref tp, .ref mt, .ref sl, .ref fa, .int pl] ∧ TP G tp qb cn f H ∧ zE G 3 H sl 4 (fun j => some (sv j)) ∧ zE G 4 H fa 4 (fun j => some (fv j)))) (zR (.int (-2))) 0 0 (fun _ => False) := by
  refine Met.ofW (cc := cX10_read) (maxL := 4) (ret := (some .int)) (by decide) rfl ?_
  intro p en s m args below meth c s₁ B hml hv
  obtain ⟨rfl, hP, hK⟩ := hv
  have hx := B.exec
  have hb := B.bytes
  have hr := B.returns
  have hts := atoms_spec (ws := wsX10_read) B.pre
  have hz : ∀ w ∈ zW, w.before _ s = true := fun w h => hts w (List.mem_cons_of_mem _ h)
  have hown : s.vm.findClass RX10 = some m.cls := findClass_of_methodNamed B.named
  have hlocks := B.notSynchronized
  obtain ⟨hX, hT, hSl, hFa⟩ := id hP
  have hl := lv_entry ([.ref (x), .int (y), .int (z)]) (n := 4) (Nat.le_of_ble_eq_true rfl)
  rw [lg_entry_eq]
  generalize (lg_sl ([.ref (x), .int (y), .int (z)]) ++ List.replicate (4 - (lg_sl ([.ref (x), .int (y), .int (z)])).length) Slot.unset).toArray = ls at hl ⊢
  have hl : lv_has ls 4 [(0, .ref (x)), (1, .int (y)), (2, .int (z))] := hl
  refine lv_aload_n hx hb dX10_read_0 rfl (lv_at hl 0 rfl) ?_
  refine lv_iload_n hx hb dX10_read_1 rfl (lv_at hl 1 rfl) ?_
  refine zc_V (As := [.int (y)]) (rest := []) ⟨hx, hb, hml, hown, hts⟩ (c_slot_n l G x tp mt sl fa pl (fun j => some (sv j)) y hy) (cwV 1 hts (zgV wm_X10_60 wv_X10_slotAt) rfl rfl rfl (by decide +kernel) ⟨Nat.le_of_ble_eq_true rfl, Nat.le_of_ble_eq_true rfl⟩) hK hX rfl ⟨hX, hSl⟩ rfl hl.1 rfl (Nat.le_of_ble_eq_true rfl) dX10_read_2 ⟨Nat.zero_le _, Nat.zero_le _⟩ ?_
  refine lv_ifnullN (tgt := 19) hx hb dX10_read_5 (by decide) ?_
  refine lv_bipush (v := (-2)) hx hb dX10_read_19 (by decide) ?_
  exact zr_i hx hb hr hlocks (rfl) dX10_read_21

set_option maxHeartbeats 4000000 in
set_option maxRecDepth 100000 in
theorem c_read_n2 (l : Launch) (G : zG) (x tp mt sl fa : Nat) (pl : Int32) (sv fv : Nat → Nat) (qb cn : Nat) (f : Nat → Nat) (i : Nat) (z : Int32) (hi : i < 4) (hz9 : ¬ (¬ z < 0 ∧ z ≤ nI cn)) : Met l yX10_read wsX10_read ({ frames := 1, cells := 0, slots := 0, locals := 21 }) (zP G [.ref (x), .int (nI (i)), .int (z)] (fun H => zO G H x 9 [.ref tp, .ref mt, .ref sl, .ref fa, .int pl] ∧ TP G tp qb cn f H ∧ zE G 3 H sl 4 (fun j => some (sv j)) ∧ zE G 4 H fa 4 (fun j => some (fv j)))) (zR (.int (-2))) 0 0 (fun _ => False) := by
  refine Met.ofW (cc := cX10_read) (maxL := 4) (ret := (some .int)) (by decide) rfl ?_
  intro p en s m args below meth c s₁ B hml hv
  obtain ⟨rfl, hP, hK⟩ := hv
  have hx := B.exec
  have hb := B.bytes
  have hr := B.returns
  have hts := atoms_spec (ws := wsX10_read) B.pre
  have hz : ∀ w ∈ zW, w.before _ s = true := fun w h => hts w (List.mem_cons_of_mem _ h)
  have hown : s.vm.findClass RX10 = some m.cls := findClass_of_methodNamed B.named
  have hlocks := B.notSynchronized
  obtain ⟨hX, hT, hSl, hFa⟩ := id hP
  have hl := lv_entry ([.ref (x), .int (nI (i)), .int (z)]) (n := 4) (Nat.le_of_ble_eq_true rfl)
  rw [lg_entry_eq]
  generalize (lg_sl ([.ref (x), .int (nI (i)), .int (z)]) ++ List.replicate (4 - (lg_sl ([.ref (x), .int (nI (i)), .int (z)])).length) Slot.unset).toArray = ls at hl ⊢
  have hl : lv_has ls 4 [(0, .ref (x)), (1, .int (nI (i))), (2, .int (z))] := hl
  refine lv_aload_n hx hb dX10_read_0 rfl (lv_at hl 0 rfl) ?_
  refine lv_iload_n hx hb dX10_read_1 rfl (lv_at hl 1 rfl) ?_
  refine zc_V (As := [.int (nI (i))]) (rest := []) ⟨hx, hb, hml, hown, hts⟩ (c_slot_y l G x tp mt sl fa pl (fun j => some (sv j)) i hi) (cwV 1 hts (zgV wm_X10_60 wv_X10_slotAt) rfl rfl rfl (by decide +kernel) ⟨Nat.le_of_ble_eq_true rfl, Nat.le_of_ble_eq_true rfl⟩) hK hX rfl ⟨hX, hSl⟩ rfl hl.1 rfl (Nat.le_of_ble_eq_true rfl) dX10_read_2 ⟨Nat.zero_le _, Nat.zero_le _⟩ ?_
  refine lv_ifnull hx hb dX10_read_5 ?_
  refine lv_aload_n hx hb dX10_read_8 rfl (lv_at hl 0 rfl) ?_
  refine zi_get (C := RX10) (T := TX10) (N := 5) (v := .ref (tp)) hx hb hz wo_X10 hown hK hX rfl 0 (by decide) (hz _ wf_X10_10) (fun _ h9 => h9) rfl dX10_read_9 ?_
  refine lv_iload_n hx hb dX10_read_12 rfl (lv_at hl 2 rfl) ?_
  refine zc_VN (As := [.int (z)]) (rest := []) ⟨hx, hb, hml, hown, hts⟩ (c_has l G tp qb cn f z) ⟨va_cnB 1 hts (zgN wc_X8_has) rfl rfl rfl (hK.2.1 _ wm_X10_64) (hz _ wi_X8) (by decide +kernel) ⟨Nat.le_of_ble_eq_true rfl, Nat.le_of_ble_eq_true rfl⟩, hz _ wn_X8_has, hz _ we_X8_has⟩ hK hT.1 rfl hT rfl hl.1 rfl (Nat.le_of_ble_eq_true rfl) dX10_read_13 ⟨Nat.zero_le _, Nat.zero_le _⟩ ?_
  refine zb_if_ne (tgt := 22) hx hb dX10_read_16 (by decide) (fun c_16 => ?_) (fun c_16 => ?_)
  · exact absurd c_16 (by rw [decide_eq_false hz9]; decide)
  · refine lv_bipush (v := (-2)) hx hb dX10_read_19 (by decide) ?_
    exact zr_i hx hb hr hlocks (rfl) dX10_read_21

set_option maxHeartbeats 4000000 in
set_option maxRecDepth 100000 in
theorem c_filter_n1 (l : Launch) (G : zG) (x tp mt sl fa : Nat) (pl : Int32) (sv fv : Nat → Nat) (qb cn : Nat) (f : Nat → Nat) (y z : Int32) (hy : is4i y = false) : Met l yX10_filter wsX10_filter ({ frames := 1, cells := 0, slots := 0, locals := 21 }) (zP G [.ref (x), .int (y), .int (z)] (fun H => zO G H x 9 [.ref tp, .ref mt, .ref sl, .ref fa, .int pl] ∧ TP G tp qb cn f H ∧ zE G 3 H sl 4 (fun j => some (sv j)) ∧ zE G 4 H fa 4 (fun j => some (fv j)))) (zR (.int (-2))) 0 0 (fun _ => False) := by
  refine Met.ofW (cc := cX10_filter) (maxL := 5) (ret := (some .int)) (by decide) rfl ?_
  intro p en s m args below meth c s₁ B hml hv
  obtain ⟨rfl, hP, hK⟩ := hv
  have hx := B.exec
  have hb := B.bytes
  have hr := B.returns
  have hts := atoms_spec (ws := wsX10_filter) B.pre
  have hz : ∀ w ∈ zW, w.before _ s = true := fun w h => hts w (List.mem_cons_of_mem _ h)
  have hown : s.vm.findClass RX10 = some m.cls := findClass_of_methodNamed B.named
  have hlocks := B.notSynchronized
  obtain ⟨hX, hT, hSl, hFa⟩ := id hP
  have hl := lv_entry ([.ref (x), .int (y), .int (z)]) (n := 5) (Nat.le_of_ble_eq_true rfl)
  rw [lg_entry_eq]
  generalize (lg_sl ([.ref (x), .int (y), .int (z)]) ++ List.replicate (5 - (lg_sl ([.ref (x), .int (y), .int (z)])).length) Slot.unset).toArray = ls at hl ⊢
  have hl : lv_has ls 5 [(0, .ref (x)), (1, .int (y)), (2, .int (z))] := hl
  refine lv_aload_n hx hb dX10_filter_0 rfl (lv_at hl 0 rfl) ?_
  refine lv_iload_n hx hb dX10_filter_1 rfl (lv_at hl 1 rfl) ?_
  refine zc_V (As := [.int (y)]) (rest := []) ⟨hx, hb, hml, hown, hts⟩ (c_filt_n l G x tp mt sl fa pl (fun j => some (fv j)) y hy) (cwV 1 hts (zgV wm_X10_71 wv_X10_filterAt) rfl rfl rfl (by decide +kernel) ⟨Nat.le_of_ble_eq_true rfl, Nat.le_of_ble_eq_true rfl⟩) hK hX rfl ⟨hX, hFa⟩ rfl hl.1 rfl (Nat.le_of_ble_eq_true rfl) dX10_filter_2 ⟨Nat.zero_le _, Nat.zero_le _⟩ ?_
  refine lv_ifnullN (tgt := 19) hx hb dX10_filter_5 (by decide) ?_
  refine lv_bipush (v := (-2)) hx hb dX10_filter_19 (by decide) ?_
  exact zr_i hx hb hr hlocks (rfl) dX10_filter_21

set_option maxHeartbeats 4000000 in
set_option maxRecDepth 100000 in
theorem c_filter_n2 (l : Launch) (G : zG) (x tp mt sl fa : Nat) (pl : Int32) (sv fv : Nat → Nat) (qb cn : Nat) (f : Nat → Nat) (i : Nat) (z : Int32) (hi : i < 4) (hz9 : ¬ (¬ z < 0 ∧ z ≤ nI cn)) : Met l yX10_filter wsX10_filter ({ frames := 1, cells := 0, slots := 0, locals := 21 }) (zP G [.ref (x), .int (nI (i)), .int (z)] (fun H => zO G H x 9 [.ref tp, .ref mt, .ref sl, .ref fa, .int pl] ∧ TP G tp qb cn f H ∧ zE G 3 H sl 4 (fun j => some (sv j)) ∧ zE G 4 H fa 4 (fun j => some (fv j)))) (zR (.int (-2))) 0 0 (fun _ => False) := by
  refine Met.ofW (cc := cX10_filter) (maxL := 5) (ret := (some .int)) (by decide) rfl ?_
  intro p en s m args below meth c s₁ B hml hv
  obtain ⟨rfl, hP, hK⟩ := hv
  have hx := B.exec
  have hb := B.bytes
  have hr := B.returns
  have hts := atoms_spec (ws := wsX10_filter) B.pre
  have hz : ∀ w ∈ zW, w.before _ s = true := fun w h => hts w (List.mem_cons_of_mem _ h)
  have hown : s.vm.findClass RX10 = some m.cls := findClass_of_methodNamed B.named
  have hlocks := B.notSynchronized
  obtain ⟨hX, hT, hSl, hFa⟩ := id hP
  have hl := lv_entry ([.ref (x), .int (nI (i)), .int (z)]) (n := 5) (Nat.le_of_ble_eq_true rfl)
  rw [lg_entry_eq]
  generalize (lg_sl ([.ref (x), .int (nI (i)), .int (z)]) ++ List.replicate (5 - (lg_sl ([.ref (x), .int (nI (i)), .int (z)])).length) Slot.unset).toArray = ls at hl ⊢
  have hl : lv_has ls 5 [(0, .ref (x)), (1, .int (nI (i))), (2, .int (z))] := hl
  refine lv_aload_n hx hb dX10_filter_0 rfl (lv_at hl 0 rfl) ?_
  refine lv_iload_n hx hb dX10_filter_1 rfl (lv_at hl 1 rfl) ?_
  refine zc_V (As := [.int (nI (i))]) (rest := []) ⟨hx, hb, hml, hown, hts⟩ (c_filt_y l G x tp mt sl fa pl (fun j => some (fv j)) i hi) (cwV 1 hts (zgV wm_X10_71 wv_X10_filterAt) rfl rfl rfl (by decide +kernel) ⟨Nat.le_of_ble_eq_true rfl, Nat.le_of_ble_eq_true rfl⟩) hK hX rfl ⟨hX, hFa⟩ rfl hl.1 rfl (Nat.le_of_ble_eq_true rfl) dX10_filter_2 ⟨Nat.zero_le _, Nat.zero_le _⟩ ?_
  refine lv_ifnull hx hb dX10_filter_5 ?_
  refine lv_aload_n hx hb dX10_filter_8 rfl (lv_at hl 0 rfl) ?_
  refine zi_get (C := RX10) (T := TX10) (N := 5) (v := .ref (tp)) hx hb hz wo_X10 hown hK hX rfl 0 (by decide) (hz _ wf_X10_10) (fun _ h9 => h9) rfl dX10_filter_9 ?_
  refine lv_iload_n hx hb dX10_filter_12 rfl (lv_at hl 2 rfl) ?_
  refine zc_VN (As := [.int (z)]) (rest := []) ⟨hx, hb, hml, hown, hts⟩ (c_has l G tp qb cn f z) ⟨va_cnB 1 hts (zgN wc_X8_has) rfl rfl rfl (hK.2.1 _ wm_X10_64) (hz _ wi_X8) (by decide +kernel) ⟨Nat.le_of_ble_eq_true rfl, Nat.le_of_ble_eq_true rfl⟩, hz _ wn_X8_has, hz _ we_X8_has⟩ hK hT.1 rfl hT rfl hl.1 rfl (Nat.le_of_ble_eq_true rfl) dX10_filter_13 ⟨Nat.zero_le _, Nat.zero_le _⟩ ?_
  refine zb_if_ne (tgt := 22) hx hb dX10_filter_16 (by decide) (fun c_16 => ?_) (fun c_16 => ?_)
  · exact absurd c_16 (by rw [decide_eq_false hz9]; decide)
  · refine lv_bipush (v := (-2)) hx hb dX10_filter_19 (by decide) ?_
    exact zr_i hx hb hr hlocks (rfl) dX10_filter_21

set_option maxHeartbeats 4000000 in
set_option maxRecDepth 100000 in
theorem c_read (l : Launch) (G : zG) (x tp mt sl fa : Nat) (pl : Int32) (sv fv : Nat → Nat) (qb cn : Nat) (f : Nat → Nat) (n0 i nn : Nat) (hi : i < 4) (hnn : nn ≤ cn) (hcn : cn ≤ 2000) (hxn : x < n0) (htn : tp < n0) (hqn : qb < n0) (hsn : sl < n0) (hfn : fa < n0) (hne : tp ≠ qb) (hxt : x ≠ tp) (hct : cB G ≤ tp) (hcx : cB G ≤ x) (hcs : cB G ≤ sl) (hcf : cB G ≤ fa) (hds : sl ≠ x ∧ sl ≠ tp ∧ sl ≠ qb) (hdf : fa ≠ x ∧ fa ≠ tp ∧ fa ≠ qb ∧ fa ≠ sl) (hxq : x ≠ qb) : Met l yX10_read wsX10_read ({ frames := 59, cells := 4 * nn + 2, slots := 10 * nn + 11, locals := 1552 }) (zP G [.ref (x), .int (nI (i)), .int (nI (nn))] (fun H => zO G H x 9 [.ref tp, .ref mt, .ref sl, .ref fa, .int pl] ∧ TP G tp qb cn f H ∧ zE G 3 H sl 4 (fun j => some (sv j)) ∧ zE G 4 H fa 4 (fun j => some (fv j)) ∧ CH G H ∧ H.size = n0)) (zX (fun q => q = tp ∨ q = sl ∨ n0 ≤ q) (fun r9 H => TP G tp qb 0 f H ∧ ((dcB f 0 nn = false ∧ r9 = some (.int (-1)) ∧ zE G 3 H sl 4 (fun j => some (sv j))) ∨ (dcB f 0 nn = true ∧ r9 = some (.int (nI 0)) ∧ ∃ v hv, n0 ≤ v ∧ hv ≤ H.size ∧ zE G 3 H sl 4 (fun j => some (upN sv i v j)) ∧ Nod G H f nI 16 v hv 3 0 [] (-1) none)))) (4 * nn + 2) (10 * nn + 11) (fun q => q = tp ∨ q = sl ∨ n0 ≤ q) := by
  refine Met.ofW (cc := cX10_read) (maxL := 4) (ret := (some .int)) (by decide) rfl ?_
  intro p en s m args below meth c s₁ B hml hv
  obtain ⟨rfl, hP, hK⟩ := hv
  have hx := B.exec
  have hb := B.bytes
  have hr := B.returns
  have hts := atoms_spec (ws := wsX10_read) B.pre
  have hz : ∀ w ∈ zW, w.before _ s = true := fun w h => hts w (List.mem_cons_of_mem _ h)
  have hown : s.vm.findClass RX10 = some m.cls := findClass_of_methodNamed B.named
  have hlocks := B.notSynchronized
  obtain ⟨hX, hT, hSl, hFa, hCH, hn0⟩ := id hP
  have hS : va_S (fun q => q = tp ∨ q = sl ∨ n0 ≤ q) s.heap s.heap [] := va_S.rf
  have hl := lv_entry ([.ref (x), .int (nI (i)), .int (nI (nn))]) (n := 4) (Nat.le_of_ble_eq_true rfl)
  rw [lg_entry_eq]
  generalize (lg_sl ([.ref (x), .int (nI (i)), .int (nI (nn))]) ++ List.replicate (4 - (lg_sl ([.ref (x), .int (nI (i)), .int (nI (nn))])).length) Slot.unset).toArray = ls at hl ⊢
  have hl : lv_has ls 4 [(0, .ref (x)), (1, .int (nI (i))), (2, .int (nI (nn)))] := hl
  refine lv_aload_n hx hb dX10_read_0 rfl (lv_at hl 0 rfl) ?_
  refine lv_iload_n hx hb dX10_read_1 rfl (lv_at hl 1 rfl) ?_
  refine zc_V (As := [.int (nI (i))]) (rest := []) ⟨hx, hb, hml, hown, hts⟩ (c_slot_y l G x tp mt sl fa pl (fun j => some (sv j)) i hi) (cwV 1 hts (zgV wm_X10_60 wv_X10_slotAt) rfl rfl rfl (by decide +kernel) ⟨Nat.le_of_ble_eq_true rfl, Nat.le_of_ble_eq_true rfl⟩) hK hX rfl ⟨hX, hSl⟩ rfl hl.1 rfl (Nat.le_of_ble_eq_true rfl) dX10_read_2 ⟨by show 0 ≤ 4 * nn + 2; omega, by show 0 ≤ 10 * nn + 11; omega⟩ ?_
  refine lv_ifnull hx hb dX10_read_5 ?_
  refine lv_aload_n hx hb dX10_read_8 rfl (lv_at hl 0 rfl) ?_
  refine zi_get (C := RX10) (T := TX10) (N := 5) (v := .ref (tp)) hx hb hz wo_X10 hown hK hX rfl 0 (by decide) (hz _ wf_X10_10) (fun _ h9 => h9) rfl dX10_read_9 ?_
  refine lv_iload_n hx hb dX10_read_12 rfl (lv_at hl 2 rfl) ?_
  refine zc_VN (As := [.int (nI (nn))]) (rest := []) ⟨hx, hb, hml, hown, hts⟩ (c_has l G tp qb cn f (nI nn)) ⟨va_cnB 1 hts (zgN wc_X8_has) rfl rfl rfl (hK.2.1 _ wm_X10_64) (hz _ wi_X8) (by decide +kernel) ⟨Nat.le_of_ble_eq_true rfl, Nat.le_of_ble_eq_true rfl⟩, hz _ wn_X8_has, hz _ we_X8_has⟩ hK hT.1 rfl hT rfl hl.1 rfl (Nat.le_of_ble_eq_true rfl) dX10_read_13 ⟨by show 0 ≤ 4 * nn + 2; omega, by show 0 ≤ 10 * nn + 11; omega⟩ ?_
  refine zb_if_ne (tgt := 22) hx hb dX10_read_16 (by decide) (fun c_16 => ?_) (fun c_16 => ?_)
  · refine lv_aload_n hx hb dX10_read_22 rfl (lv_at hl 0 rfl) ?_
    refine lv_iload_n hx hb dX10_read_23 rfl (lv_at hl 2 rfl) ?_
    refine zx_V (As := [.int (nI (nn))]) (rest := []) ⟨hx, hb, hml, hown, hts⟩ (c_take l G x tp mt sl fa pl n0 qb cn nn f (by omega) hxn htn hqn hne hxt hct) (cwV 1 hts (zgV wm_X10_68 wv_X10_takeDocument) rfl rfl rfl (by decide +kernel) ⟨Nat.le_of_ble_eq_true rfl, Nat.le_of_ble_eq_true rfl⟩) hK hX rfl ⟨hX, hT, hCH, hn0⟩ rfl hl.1 rfl (Nat.le_of_ble_eq_true rfl) dX10_read_24 ⟨by show 0 + (4 * nn + 2) ≤ 4 * nn + 2; omega, by show 0 + (10 * nn + 11) ≤ 10 * nn + 11; omega⟩ hS (by intro q hq; first | omega | (dsimp only at hq ⊢; omega)) (fun r9 H locs hPo hz9 hk9 hS => ?_)
    have hX := hX.keep hk9 (by first | exact id | exact rfl | omega | (dsimp only; omega))
    have hSl := hSl.keep hk9 (by first | exact id | exact rfl | omega | (dsimp only; omega))
    have hFa := hFa.keep hk9 (by first | exact id | exact rfl | omega | (dsimp only; omega))
    have hCH := hCH.keep hk9 ⟨by intro q hq; first | exact id | omega | (dsimp only; omega), by omega⟩
    obtain ⟨o8, rfl, hT, hno, hyes⟩ := hPo
    refine W.eq (g2 := F0 m 27 ls ([va_rf (o8)])) rfl ?_
    refine zo_astore_n (lv' := [(3, va_rf (o8)), (0, .ref (x)), (1, .int (nI (i))), (2, .int (nI (nn)))]) hx hb dX10_read_27 rfl hl (by decide) rfl (fun ls hl => ?_)
    refine zo_aload_n hx hb dX10_read_28 rfl (lv_at hl 0 rfl) ?_
    generalize hov : o8 = ov at hl ⊢
    rcases ov with _ | v
    · have hl : lv_has ls 4 [(3, .null), (0, .ref (x)), (1, .int (nI (i))), (2, .int (nI (nn)))] := hl
      have hdc := hno hov
      refine W.eq (g2 := F0 m 29 ls ([.null])) rfl ?_
      refine lv_ifnonnullN hx hb dX10_read_29 ?_
      refine lv_iconst (v := (-1)) hx hb dX10_read_32 (by decide) ?_
      exact zx_i hx hb hr hlocks (by show 0 + (4 * nn + 2) ≤ 4 * nn + 2; omega) (by show 0 + (10 * nn + 11) ≤ 10 * nn + 11; omega) (⟨hT, Or.inl ⟨hdc, rfl, hSl⟩⟩) hS dX10_read_33
    · have hl : lv_has ls 4 [(3, .ref (v)), (0, .ref (x)), (1, .int (nI (i))), (2, .int (nI (nn)))] := hl
      obtain ⟨hdc, hnv, hv, hhv, hN⟩ := hyes v hov
      obtain ⟨nm, tx, vs, hOv, hSt, hTx, hvh, hkd⟩ := id hN
      have hlen := kidL_len hkd
      rw [if_pos (Or.inl rfl)] at hlen
      refine W.eq (g2 := F0 m 29 ls ([.ref (v)])) rfl ?_
      refine lv_ifnonnull (tgt := 34) hx hb dX10_read_29 (by decide) ?_
      refine lv_aload_n hx hb dX10_read_34 rfl (lv_at hl 1 rfl) ?_
      refine zi_get (C := RX10) (T := TX10) (N := 5) (v := .ref (sl)) hx hb hz wo_X10 hown hK hX rfl 2 (by decide) (hz _ wf_X10_25) (fun _ h9 => h9) rfl dX10_read_35 ?_
      refine lv_iload_n hx hb dX10_read_38 rfl (lv_at hl 2 rfl) ?_
      refine lv_aload_n hx hb dX10_read_39 rfl (lv_at hl 0 rfl) ?_
      refine zx_astE (i := i) hx hb hK (Or.inl rfl) hSl hOv (by omega) (by decide) (by first | exact rfl | omega | (dsimp only; omega)) hS dX10_read_40 (fun H locs hz9 hSl hk9 hS => ?_)
      have hX := hX.keep hk9 (by first | exact id | exact rfl | omega | (dsimp only; omega))
      have hT := hT.keep hk9 ⟨by first | exact id | exact rfl | omega | (dsimp only; omega), by first | exact id | exact rfl | omega | (dsimp only; omega)⟩
      have hFa := hFa.keep hk9 (by first | exact id | exact rfl | omega | (dsimp only; omega))
      have hCH := hCH.keep hk9 ⟨by intro q hq; first | exact id | omega | (dsimp only; omega), by omega⟩
      have hN := hN.keep hk9 (by intro q hq; first | exact id | omega | (dsimp only; omega))
      have hOv := hOv.keep hk9 (by first | exact id | exact rfl | omega | (dsimp only; omega))
      refine lv_iconst (v := nI 0) hx hb dX10_read_41 (by decide) ?_
      exact zx_i hx hb hr hlocks (by show 0 + (4 * nn + 2) ≤ 4 * nn + 2; omega) (by show 0 + (10 * nn + 11) ≤ 10 * nn + 11; omega) (⟨hT, Or.inr ⟨hdc, rfl, v, hv, by omega, by omega, hSl.ext va_up_some, hN⟩⟩) hS dX10_read_42
  · exact absurd c_16 (by rw [has_y hnn hcn]; decide)

set_option maxHeartbeats 4000000 in
set_option maxRecDepth 100000 in
theorem c_filter (l : Launch) (G : zG) (x tp mt sl fa : Nat) (pl : Int32) (sv fv : Nat → Nat) (qb cn : Nat) (f : Nat → Nat) (n0 i nn : Nat) (hi : i < 4) (hnn : nn ≤ cn) (hcn : cn ≤ 2000) (hxn : x < n0) (htn : tp < n0) (hqn : qb < n0) (hsn : sl < n0) (hfn : fa < n0) (hne : tp ≠ qb) (hxt : x ≠ tp) (hct : cB G ≤ tp) (hcx : cB G ≤ x) (hcs : cB G ≤ sl) (hcf : cB G ≤ fa) (hds : sl ≠ x ∧ sl ≠ tp ∧ sl ≠ qb) (hdf : fa ≠ x ∧ fa ≠ tp ∧ fa ≠ qb ∧ fa ≠ sl) (hxq : x ≠ qb) (wa : Nat) : Met l yX10_filter wsX10_filter ({ frames := 102, cells := 44 * nn + 6, slots := 50 * nn + 27, locals := 2700 }) (zP G [.ref (x), .int (nI (i)), .int (nI (nn))] (fun H => zO G H x 9 [.ref tp, .ref mt, .ref sl, .ref fa, .int pl] ∧ TP G tp qb cn f H ∧ zE G 3 H sl 4 (fun j => some (sv j)) ∧ zE G 4 H fa 4 (fun j => some (fv j)) ∧ CH G H ∧ H.size = n0)) (zX (fun q => q = x ∨ q = tp ∨ q = fa ∨ n0 ≤ q) (fun r9 H => TP G tp qb 0 f H ∧ ((dcB f 0 nn = false ∧ r9 = some (.int (-1)) ∧ zO G H x 9 [.ref tp, .ref mt, .ref sl, .ref fa, .int (-1)] ∧ zE G 4 H fa 4 (fun j => some (fv j))) ∨ (dcB f 0 nn = true ∧ ∃ (mk fl rt ca vl hv lo hi fa1 : Nat) (pl1 : Int32), n0 ≤ vl ∧ hi ≤ H.size ∧ MkAll G H f nn mk fl rt ca (els f 0).length vl hv lo hi wa ∧ zO G H mk 3 [.ref fl, .int (nI fa1), .int pl1] ∧ fa1 < 6 ∧ r9 = some (.int (nI fa1)) ∧ zO G H x 9 [.ref tp, .ref mt, .ref sl, .ref fa, .int pl1] ∧ zE G 4 H fa 4 (fun j => some (if fa1 = 0 then upN fv i fl j else fv j)))))) (44 * nn + 6) (50 * nn + 27) (fun q => q = x ∨ q = tp ∨ q = fa ∨ n0 ≤ q) := by
  refine Met.ofW (cc := cX10_filter) (maxL := 5) (ret := (some .int)) (by decide) rfl ?_
  intro p en s m args below meth c s₁ B hml hv
  obtain ⟨rfl, hP, hK⟩ := hv
  have hx := B.exec
  have hb := B.bytes
  have hr := B.returns
  have hts := atoms_spec (ws := wsX10_filter) B.pre
  have hz : ∀ w ∈ zW, w.before _ s = true := fun w h => hts w (List.mem_cons_of_mem _ h)
  have hown : s.vm.findClass RX10 = some m.cls := findClass_of_methodNamed B.named
  have hlocks := B.notSynchronized
  obtain ⟨hX, hT, hSl, hFa, hCH, hn0⟩ := id hP
  have hS : va_S (fun q => q = x ∨ q = tp ∨ q = fa ∨ n0 ≤ q) s.heap s.heap [] := va_S.rf
  have hl := lv_entry ([.ref (x), .int (nI (i)), .int (nI (nn))]) (n := 5) (Nat.le_of_ble_eq_true rfl)
  rw [lg_entry_eq]
  generalize (lg_sl ([.ref (x), .int (nI (i)), .int (nI (nn))]) ++ List.replicate (5 - (lg_sl ([.ref (x), .int (nI (i)), .int (nI (nn))])).length) Slot.unset).toArray = ls at hl ⊢
  have hl : lv_has ls 5 [(0, .ref (x)), (1, .int (nI (i))), (2, .int (nI (nn)))] := hl
  refine lv_aload_n hx hb dX10_filter_0 rfl (lv_at hl 0 rfl) ?_
  refine lv_iload_n hx hb dX10_filter_1 rfl (lv_at hl 1 rfl) ?_
  refine zc_V (As := [.int (nI (i))]) (rest := []) ⟨hx, hb, hml, hown, hts⟩ (c_filt_y l G x tp mt sl fa pl (fun j => some (fv j)) i hi) (cwV 1 hts (zgV wm_X10_71 wv_X10_filterAt) rfl rfl rfl (by decide +kernel) ⟨by show 0 + 1 ≤ _; simp only [headSpec]; omega, by show 8 + (_ + 11) + 0 ≤ _; simp only [headSpec]; omega⟩) hK hX rfl ⟨hX, hFa⟩ rfl hl.1 rfl (Nat.le_of_ble_eq_true rfl) dX10_filter_2 ⟨by show 0 ≤ 44 * nn + 6; omega, by show 0 ≤ 50 * nn + 27; omega⟩ ?_
  refine lv_ifnull hx hb dX10_filter_5 ?_
  refine lv_aload_n hx hb dX10_filter_8 rfl (lv_at hl 0 rfl) ?_
  refine zi_get (C := RX10) (T := TX10) (N := 5) (v := .ref (tp)) hx hb hz wo_X10 hown hK hX rfl 0 (by decide) (hz _ wf_X10_10) (fun _ h9 => h9) rfl dX10_filter_9 ?_
  refine lv_iload_n hx hb dX10_filter_12 rfl (lv_at hl 2 rfl) ?_
  refine zc_VN (As := [.int (nI (nn))]) (rest := []) ⟨hx, hb, hml, hown, hts⟩ (c_has l G tp qb cn f (nI nn)) ⟨va_cnB 1 hts (zgN wc_X8_has) rfl rfl rfl (hK.2.1 _ wm_X10_64) (hz _ wi_X8) (by decide +kernel) ⟨by show 0 + 1 ≤ _; simp only [headSpec]; omega, by show 8 + (_ + 11) + 0 ≤ _; simp only [headSpec]; omega⟩, hz _ wn_X8_has, hz _ we_X8_has⟩ hK hT.1 rfl hT rfl hl.1 rfl (Nat.le_of_ble_eq_true rfl) dX10_filter_13 ⟨by show 0 ≤ 44 * nn + 6; omega, by show 0 ≤ 50 * nn + 27; omega⟩ ?_
  refine zb_if_ne (tgt := 22) hx hb dX10_filter_16 (by decide) (fun c_16 => ?_) (fun c_16 => ?_)
  · refine lv_aload_n hx hb dX10_filter_22 rfl (lv_at hl 0 rfl) ?_
    refine lv_iload_n hx hb dX10_filter_23 rfl (lv_at hl 2 rfl) ?_
    refine zx_V (As := [.int (nI (nn))]) (rest := []) ⟨hx, hb, hml, hown, hts⟩ (c_take l G x tp mt sl fa pl n0 qb cn nn f (by omega) hxn htn hqn hne hxt hct) (cwV 1 hts (zgV wm_X10_68 wv_X10_takeDocument) rfl rfl rfl (by decide +kernel) ⟨by show 58 + 1 ≤ _; simp only [headSpec]; omega, by show 8 + (_ + 11) + 1530 ≤ _; simp only [headSpec]; omega⟩) hK hX rfl ⟨hX, hT, hCH, hn0⟩ rfl hl.1 rfl (Nat.le_of_ble_eq_true rfl) dX10_filter_24 ⟨by show 0 + (4 * nn + 2) ≤ 44 * nn + 6; omega, by show 0 + (10 * nn + 11) ≤ 50 * nn + 27; omega⟩ hS (by intro q hq; first | omega | (dsimp only at hq ⊢; omega)) (fun r9 H locs hPo hz9 hk9 hS => ?_)
    have hX := hX.keep hk9 (by first | exact id | exact rfl | omega | (dsimp only; omega))
    have hSl := hSl.keep hk9 (by first | exact id | exact rfl | omega | (dsimp only; omega))
    have hFa := hFa.keep hk9 (by first | exact id | exact rfl | omega | (dsimp only; omega))
    have hCH := hCH.keep hk9 ⟨by intro q hq; first | exact id | omega | (dsimp only; omega), by omega⟩
    obtain ⟨o8, rfl, hT, hno, hyes⟩ := hPo
    refine W.eq (g2 := F0 m 27 ls ([va_rf (o8)])) rfl ?_
    refine zo_astore_n (lv' := [(3, va_rf (o8)), (0, .ref (x)), (1, .int (nI (i))), (2, .int (nI (nn)))]) hx hb dX10_filter_27 rfl hl (by decide) rfl (fun ls hl => ?_)
    refine zo_aload_n hx hb dX10_filter_28 rfl (lv_at hl 0 rfl) ?_
    generalize hov : o8 = ov at hl ⊢
    rcases ov with _ | v
    · have hl : lv_has ls 5 [(3, .null), (0, .ref (x)), (1, .int (nI (i))), (2, .int (nI (nn)))] := hl
      have hdc := hno hov
      refine W.eq (g2 := F0 m 29 ls ([.null])) rfl ?_
      refine lv_ifnonnullN hx hb dX10_filter_29 ?_
      refine lv_aload_n hx hb dX10_filter_32 rfl (lv_at hl 1 rfl) ?_
      refine lv_iconst (v := (-1)) hx hb dX10_filter_33 (by decide) ?_
      refine zx_put (C := RX10) (T := TX10) (N := 5) (v := .int ((-1))) hx hb hz wo_X10 tyX10 tyX10_ok nmX10 hown hK hX rfl 4 (by decide) (hz _ wf_X10_45) (fun _ h9 => h9) (Or.inl rfl) rfl rfl (Nat.le_of_ble_eq_true rfl) (by first | exact rfl | omega | (dsimp only; omega)) hS dX10_filter_34 (fun H locs hz9 hX hk9 hS => ?_)
      have hX : zO G H (x) 9 [.ref (tp), .ref (mt), .ref (sl), .ref (fa), .int ((-1))] := hX
      have hT := hT.keep hk9 ⟨by first | exact id | exact rfl | omega | (dsimp only; omega), by first | exact id | exact rfl | omega | (dsimp only; omega)⟩
      have hSl := hSl.keep hk9 (by first | exact id | exact rfl | omega | (dsimp only; omega))
      have hFa := hFa.keep hk9 (by first | exact id | exact rfl | omega | (dsimp only; omega))
      have hCH := hCH.keep hk9 ⟨by intro q hq; first | exact id | omega | (dsimp only; omega), by omega⟩
      refine lv_iconst (v := (-1)) hx hb dX10_filter_37 (by decide) ?_
      exact zx_i hx hb hr hlocks (by show 0 + (4 * nn + 2) ≤ 44 * nn + 6; omega) (by show 0 + (10 * nn + 11) ≤ 50 * nn + 27; omega) (⟨hT, Or.inl ⟨hdc, rfl, hX, hFa⟩⟩) hS dX10_filter_38
    · have hl : lv_has ls 5 [(3, .ref (v)), (0, .ref (x)), (1, .int (nI (i))), (2, .int (nI (nn)))] := hl
      obtain ⟨hdc, hnv, hv, hhv, hN⟩ := hyes v hov
      obtain ⟨nm, tx, vs, hOv, hSt, hTx, hvh, hkd⟩ := id hN
      have hlen := kidL_len hkd
      rw [if_pos (Or.inl rfl)] at hlen
      refine W.eq (g2 := F0 m 29 ls ([.ref (v)])) rfl ?_
      refine lv_ifnonnull (tgt := 39) hx hb dX10_filter_29 (by decide) ?_
      refine zx_new (C := RX2) (T := TX2) (N := 3) (ci := 3) (fs := [.null, .int (nI (0)), .int (nI (0))]) hx hb hz wo_X2 tyX2 tyX2_ok hown (hz _ wl_X10_75) (hz _ wa_X2) (hz _ wi_X2) hK rfl df_X2 (by show 0 + (4 * nn + 2) + 1 ≤ 44 * nn + 6; omega) (by show 0 + (10 * nn + 11) + 3 ≤ 50 * nn + 27; omega) hS dX10_filter_39 (fun mk H he_mk hz9 hO_mk hk9 hS => ?_)
      have hX := hX.keep hk9 (by first | exact id | exact rfl | omega | (dsimp only; omega))
      have hT := hT.keep hk9 ⟨by first | exact id | exact rfl | omega | (dsimp only; omega), by first | exact id | exact rfl | omega | (dsimp only; omega)⟩
      have hSl := hSl.keep hk9 (by first | exact id | exact rfl | omega | (dsimp only; omega))
      have hFa := hFa.keep hk9 (by first | exact id | exact rfl | omega | (dsimp only; omega))
      have hCH := hCH.keep hk9 ⟨by intro q hq; first | exact id | omega | (dsimp only; omega), by omega⟩
      have hN := hN.keep hk9 (by intro q hq; first | exact id | omega | (dsimp only; omega))
      have hOv := hOv.keep hk9 (by first | exact id | exact rfl | omega | (dsimp only; omega))
      refine lv_dup hx hb dX10_filter_42 rfl ?_
      refine lv_aload_n hx hb dX10_filter_43 rfl (lv_at hl 0 rfl) ?_
      refine zx_IN (As := [.ref (v)]) (rest := [.ref (mk)]) (b := mk) ⟨hx, hb, hml, hown, hts⟩ (c_fminit l G H.size mk v vs.length wa (-1) nm tx (numv f 3 0) vs.head? vs.getLast? none (by omega) (by omega)) ⟨va_cnB 1 hts (zgN wc_X2_init) rfl rfl rfl (hK.2.1 _ wm_X10_77) (hz _ wi_X2) (by decide +kernel) ⟨by show 3 + 1 ≤ _; simp only [headSpec]; omega, by show 8 + (_ + 11) + 66 ≤ _; simp only [headSpec]; omega⟩, rfl, hz _ wn_X2_init⟩ hK ⟨hO_mk, hOv, rfl⟩ rfl hl.1 rfl (Nat.le_of_ble_eq_true rfl) dX10_filter_44 ⟨by show 0 + (4 * nn + 2) + 1 + 3 ≤ 44 * nn + 6; omega, by show 0 + (10 * nn + 11) + 3 + 13 ≤ 50 * nn + 27; omega⟩ hS (by intro q hq; first | omega | (dsimp only at hq ⊢; omega)) (fun r9 H locs hPo hz9 hk9 hS => ?_)
      have hX := hX.keep hk9 (by first | exact id | exact rfl | omega | (dsimp only; omega))
      have hT := hT.keep hk9 ⟨by first | exact id | exact rfl | omega | (dsimp only; omega), by first | exact id | exact rfl | omega | (dsimp only; omega)⟩
      have hSl := hSl.keep hk9 (by first | exact id | exact rfl | omega | (dsimp only; omega))
      have hFa := hFa.keep hk9 (by first | exact id | exact rfl | omega | (dsimp only; omega))
      have hCH := hCH.keep hk9 ⟨by intro q hq; first | exact id | omega | (dsimp only; omega), by omega⟩
      have hN := hN.keep hk9 (by intro q hq; first | exact id | omega | (dsimp only; omega))
      have hOv := hOv.keep hk9 (by first | exact id | exact rfl | omega | (dsimp only; omega))
      obtain ⟨rfl, fl, rt, ca, hr1, hr2, hr3, hr4, hO_mk, hO_fl, hO_rt, hA_ca⟩ := hPo
      refine W.eq (g2 := F0 m 47 ls ([.ref (mk)])) rfl ?_
      refine lv_astore (lv' := [(4, .ref (mk)), (3, .ref (v)), (0, .ref (x)), (1, .int (nI (i))), (2, .int (nI (nn)))]) hx hb dX10_filter_47 hl (by decide) rfl (fun ls hl => ?_)
      refine lv_aload hx hb dX10_filter_49 (lv_at hl 0 rfl) ?_
      refine zx_VN (As := []) (rest := []) ⟨hx, hb, hml, hown, hts⟩ (c_makeA l G f H.size mk fl rt ca (els f 0).length v hv nn wa hdc (by omega) hT.2.2 (by omega) (by omega) (by omega) hr2 hr3 hr4) ⟨va_cnB 0 hts (zgN wc_X2_make) rfl rfl rfl (hK.2.1 _ wm_X10_78) (hz _ wi_X2) (by decide +kernel) ⟨show 101 + 1 ≤ 102 by omega, show 8 + (1 + 11) + 2670 ≤ 2700 by omega⟩, hz _ wn_X2_make, hz _ we_X2_make⟩ hK hO_mk rfl ⟨hO_mk, hO_fl, by rw [← hlen]; exact hA_ca, hO_rt, hN, hCH, rfl⟩ rfl hl.1 rfl (Nat.le_of_ble_eq_true rfl) dX10_filter_51 ⟨by show 0 + (4 * nn + 2) + 1 + 3 + (40 * nn) ≤ 44 * nn + 6; omega, by show 0 + (10 * nn + 11) + 3 + 13 + (40 * nn) ≤ 50 * nn + 27; omega⟩ hS (by intro q hq; first | omega | (dsimp only at hq ⊢; omega)) (fun r9 H locs hPo hz9 hk9 hS => ?_)
      have hX := hX.keep hk9 (by first | exact id | exact rfl | omega | (dsimp only; omega))
      have hT := hT.keep hk9 ⟨by first | exact id | exact rfl | omega | (dsimp only; omega), by first | exact id | exact rfl | omega | (dsimp only; omega)⟩
      have hSl := hSl.keep hk9 (by first | exact id | exact rfl | omega | (dsimp only; omega))
      have hFa := hFa.keep hk9 (by first | exact id | exact rfl | omega | (dsimp only; omega))
      have hCH := hCH.keep hk9 ⟨by intro q hq; first | exact id | omega | (dsimp only; omega), by omega⟩
      have hN := hN.keep hk9 (by intro q hq; first | exact id | omega | (dsimp only; omega))
      have hOv := hOv.keep hk9 (by first | exact id | exact rfl | omega | (dsimp only; omega))
      have hO_fl := hO_fl.keep hk9 (by first | exact id | exact rfl | omega | (dsimp only; omega))
      obtain ⟨rfl, hAll⟩ := hPo
      obtain ⟨hiE, hhiE⟩ : ∃ z, H.size = z := ⟨_, rfl⟩
      rw [hhiE] at hAll
      have hAl : MkAll G H f nn mk fl rt ca (els f 0).length v hv _ hiE wa := ⟨⟨hvh, by omega, by omega, hr2, hr3, hr4, by omega⟩, hAll⟩
      obtain ⟨lo, hAl⟩ : ∃ lo, MkAll G H f nn mk fl rt ca (els f 0).length v hv lo hiE wa := ⟨_, hAl⟩
      refine W.eq (g2 := F0 m 54 ls ([])) rfl ?_
      obtain ⟨T, hMM, hEq, -⟩ := hAl.2 f 0 (fun j _ => by rw [Nat.zero_add]) (Nat.zero_le _) hT.2.2
      obtain ⟨hMk, hFl, -⟩ := hMM
      have hT6 : T.1 < 6 := by rw [hEq.1]; exact ck_6 f 0 wa
      refine lv_aload_n hx hb dX10_filter_54 rfl (lv_at hl 2 rfl) ?_
      refine lv_aload hx hb dX10_filter_55 (lv_at hl 0 rfl) ?_
      refine zi_getN (C := RX2) (T := TX2) (N := 3) (v := .int (fpS (pfc 0) T)) hx hb hz wo_X2 hown hK hMk rfl 2 (by decide) wf_X10_81 (fun _ h9 => h9) rfl dX10_filter_57 ?_
      refine zx_put (C := RX10) (T := TX10) (N := 5) (v := .int (fpS (pfc 0) T)) hx hb hz wo_X10 tyX10 tyX10_ok nmX10 hown hK hX rfl 4 (by decide) (hz _ wf_X10_45) (fun _ h9 => h9) (Or.inl rfl) rfl rfl (Nat.le_of_ble_eq_true rfl) (by first | exact rfl | omega | (dsimp only; omega)) hS dX10_filter_60 (fun H locs hz9 hX hk9 hS => ?_)
      have hX : zO G H (x) 9 [.ref (tp), .ref (mt), .ref (sl), .ref (fa), .int (fpS (pfc 0) T)] := hX
      have hT := hT.keep hk9 ⟨by first | exact id | exact rfl | omega | (dsimp only; omega), by first | exact id | exact rfl | omega | (dsimp only; omega)⟩
      have hSl := hSl.keep hk9 (by first | exact id | exact rfl | omega | (dsimp only; omega))
      have hFa := hFa.keep hk9 (by first | exact id | exact rfl | omega | (dsimp only; omega))
      have hCH := hCH.keep hk9 ⟨by intro q hq; first | exact id | omega | (dsimp only; omega), by omega⟩
      have hMk := hMk.keep hk9 (by first | exact id | exact rfl | omega | (dsimp only; omega))
      have hFl := hFl.keep hk9 (by first | exact id | exact rfl | omega | (dsimp only; omega))
      have hAl := hAl.keep hk9 (by intro q hq; first | exact id | omega | (dsimp only; omega))
      refine lv_aload hx hb dX10_filter_63 (lv_at hl 0 rfl) ?_
      refine zi_getN (C := RX2) (T := TX2) (N := 3) (v := .int (nI (T.1))) hx hb hz wo_X2 hown hK hMk rfl 1 (by decide) wf_X10_82 (fun _ h9 => h9) rfl dX10_filter_65 ?_
      refine zi_if_ne (tgt := 82) hx hb dX10_filter_68 (by decide) (by omega) (fun c_68 => ?_) (fun c_68 => ?_)
      · refine lv_aload hx hb dX10_filter_82 (lv_at hl 0 rfl) ?_
        refine zi_getN (C := RX2) (T := TX2) (N := 3) (v := .int (nI (T.1))) hx hb hz wo_X2 hown hK hMk rfl 1 (by decide) wf_X10_82 (fun _ h9 => h9) rfl dX10_filter_84 ?_
        exact zx_i hx hb hr hlocks (by show 0 + (4 * nn + 2) + 1 + 3 + (40 * nn) ≤ 44 * nn + 6; omega) (by show 0 + (10 * nn + 11) + 3 + 13 + (40 * nn) ≤ 50 * nn + 27; omega) (⟨hT, Or.inr ⟨hdc, mk, fl, rt, ca, v, hv, lo, hiE, T.1, fpS (pfc 0) T, by omega, by omega, hAl, hMk, hT6, rfl, hX, hFa.ext (fun j => by rw [if_neg c_68])⟩⟩) hS dX10_filter_87
      · refine lv_aload_n hx hb dX10_filter_71 rfl (lv_at hl 2 rfl) ?_
        refine zi_get (C := RX10) (T := TX10) (N := 5) (v := .ref (fa)) hx hb hz wo_X10 hown hK hX rfl 3 (by decide) (hz _ wf_X10_38) (fun _ h9 => h9) rfl dX10_filter_72 ?_
        refine lv_iload_n hx hb dX10_filter_75 rfl (lv_at hl 3 rfl) ?_
        refine lv_aload hx hb dX10_filter_76 (lv_at hl 0 rfl) ?_
        refine zi_getN (C := RX2) (T := TX2) (N := 3) (v := .ref (fl)) hx hb hz wo_X2 hown hK hMk rfl 0 (by decide) wf_X10_85 (fun _ h9 => h9) rfl dX10_filter_78 ?_
        refine zx_astE (i := i) hx hb hK (Or.inr rfl) hFa hFl (by omega) (by decide) (by first | exact rfl | omega | (dsimp only; omega)) hS dX10_filter_81 (fun H locs hz9 hFa hk9 hS => ?_)
        have hX := hX.keep hk9 (by first | exact id | exact rfl | omega | (dsimp only; omega))
        have hT := hT.keep hk9 ⟨by first | exact id | exact rfl | omega | (dsimp only; omega), by first | exact id | exact rfl | omega | (dsimp only; omega)⟩
        have hSl := hSl.keep hk9 (by first | exact id | exact rfl | omega | (dsimp only; omega))
        have hCH := hCH.keep hk9 ⟨by intro q hq; first | exact id | omega | (dsimp only; omega), by omega⟩
        have hMk := hMk.keep hk9 (by first | exact id | exact rfl | omega | (dsimp only; omega))
        have hFl := hFl.keep hk9 (by first | exact id | exact rfl | omega | (dsimp only; omega))
        have hAl := hAl.keep hk9 (by intro q hq; first | exact id | omega | (dsimp only; omega))
        refine lv_aload hx hb dX10_filter_82 (lv_at hl 0 rfl) ?_
        refine zi_getN (C := RX2) (T := TX2) (N := 3) (v := .int (nI (T.1))) hx hb hz wo_X2 hown hK hMk rfl 1 (by decide) wf_X10_82 (fun _ h9 => h9) rfl dX10_filter_84 ?_
        exact zx_i hx hb hr hlocks (by show 0 + (4 * nn + 2) + 1 + 3 + (40 * nn) ≤ 44 * nn + 6; omega) (by show 0 + (10 * nn + 11) + 3 + 13 + (40 * nn) ≤ 50 * nn + 27; omega) (⟨hT, Or.inr ⟨hdc, mk, fl, rt, ca, v, hv, lo, hiE, T.1, fpS (pfc 0) T, by omega, by omega, hAl, hMk, hT6, rfl, hX, hFa.ext (fun j => by rw [if_pos c_68]; exact va_up_some j)⟩⟩) hS dX10_filter_87
  · exact absurd c_16 (by rw [has_y hnn hcn]; decide)
