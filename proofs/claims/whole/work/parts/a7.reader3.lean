theorem le_3 {z : Int32} (h : ¬ z < 0) (h4 : z < nI 4) : ¬ z < 0 ∧ z ≤ 3 := by
  refine ⟨h, ?_⟩
  have h2 := Int32.lt_iff_toInt_lt.mp h4
  rw [show (nI 4).toInt = 4 by decide] at h2
  rw [Int32.le_iff_toInt_le, show (3 : Int32).toInt = 3 by decide]
  omega
theorem hd_t {P : Nat → Bool} {f : Nat → Nat} {v : Nat} (h : ¬ 0 ≤ fI P (els f v) 0) : (els f v).all P = true := (fI_lt (by have := els_len f v; omega)).mp (Int32.not_le.mp h)
theorem hd_f {P : Nat → Bool} {f : Nat → Nat} {v : Nat} (h : 0 ≤ fI P (els f v) 0) : (els f v).all P = false := by
  cases hq : (els f v).all P with
  | false => rfl
  | true => exact absurd ((fI_lt (k := 0) (by have := els_len f v; omega)).mpr hq) (Int32.not_lt.mpr h)
set_option maxHeartbeats 4000000 in
set_option maxRecDepth 100000 in
theorem c_many_n1 (l : Launch) (G : zG) (x tp mt sl fa : Nat) (pl : Int32) (fv : Nat → Nat) (y z : Int32) (hy : is4i y = false) : Met l yX10_many wsX10_many ({ frames := 1, cells := 0, slots := 0, locals := 21 }) (zP G [.ref (x), .int (y), .int (z)] (fun H => zO G H x 9 [.ref tp, .ref mt, .ref sl, .ref fa, .int pl] ∧ zE G 4 H fa 4 (fun j => some (fv j)))) (zR (.int (-1))) 0 0 (fun _ => False) := by
  refine Met.ofW (cc := cX10_many) (maxL := 4) (ret := (some .int)) (by decide) rfl ?_
  intro p en s m args below meth c s₁ B hml hv
  obtain ⟨rfl, hP, hK⟩ := hv
  have hx := B.exec
  have hb := B.bytes
  have hr := B.returns
  have hts := atoms_spec (ws := wsX10_many) B.pre
  have hz : ∀ w ∈ zW, w.before _ s = true := fun w h => hts w (List.mem_cons_of_mem _ h)
  have hown : s.vm.findClass RX10 = some m.cls := findClass_of_methodNamed B.named
  have hlocks := B.notSynchronized
  obtain ⟨hX, hFa⟩ := id hP
  have hl := lv_entry ([.ref (x), .int (y), .int (z)]) (n := 4) (Nat.le_of_ble_eq_true rfl)
  rw [lg_entry_eq]
  generalize (lg_sl ([.ref (x), .int (y), .int (z)]) ++ List.replicate (4 - (lg_sl ([.ref (x), .int (y), .int (z)])).length) Slot.unset).toArray = ls at hl ⊢
  have hl : lv_has ls 4 [(0, .ref (x)), (1, .int (y)), (2, .int (z))] := hl
  refine lv_aload_n hx hb dX10_many_0 rfl (lv_at hl 0 rfl) ?_
  refine lv_iload_n hx hb dX10_many_1 rfl (lv_at hl 1 rfl) ?_
  refine zc_V (As := [.int (y)]) (rest := []) ⟨hx, hb, hml, hown, hts⟩ (c_filt_n l G x tp mt sl fa pl (fun j => some (fv j)) y hy) (cwV 1 hts (zgV wm_X10_71 wv_X10_filterAt) rfl rfl rfl (by decide +kernel) ⟨Nat.le_of_ble_eq_true rfl, Nat.le_of_ble_eq_true rfl⟩) hK hX rfl ⟨hX, hFa⟩ rfl hl.1 rfl (Nat.le_of_ble_eq_true rfl) dX10_many_2 ⟨Nat.zero_le _, Nat.zero_le _⟩ ?_
  refine lv_astore_nN (lv' := [(3, .null), (0, .ref (x)), (1, .int (y)), (2, .int (z))]) hx hb dX10_many_5 rfl hl (by decide) rfl (fun ls hl => ?_)
  refine lv_aload_nN hx hb dX10_many_6 rfl (lv_at hl 0 rfl) ?_
  refine lv_ifnullN (tgt := 23) hx hb dX10_many_7 (by decide) ?_
  refine lv_iconst (v := (-1)) hx hb dX10_many_23 (by decide) ?_
  exact zr_i hx hb hr hlocks (rfl) dX10_many_24

set_option maxHeartbeats 4000000 in
set_option maxRecDepth 100000 in
theorem c_many_y (l : Launch) (G : zG) (x tp mt sl fa : Nat) (pl : Int32) (fv : Nat → Nat) (i rt ca : Nat) (cc : Nat → Nat) (hi : i < 4) (y : Nat) (hy : y < 4) : Met l yX10_many wsX10_many ({ frames := 1, cells := 0, slots := 0, locals := 21 }) (zP G [.ref (x), .int (nI (i)), .int (nI (y))] (fun H => zO G H x 9 [.ref tp, .ref mt, .ref sl, .ref fa, .int pl] ∧ zE G 4 H fa 4 (fun j => some (fv j)) ∧ zO G H (fv i) 2 [.ref rt, .ref ca] ∧ zA G H ca 4 cc)) (zR (.int (nI (cc y)))) 0 0 (fun _ => False) := by
  refine Met.ofW (cc := cX10_many) (maxL := 4) (ret := (some .int)) (by decide) rfl ?_
  intro p en s m args below meth c s₁ B hml hv
  obtain ⟨rfl, hP, hK⟩ := hv
  have hx := B.exec
  have hb := B.bytes
  have hr := B.returns
  have hts := atoms_spec (ws := wsX10_many) B.pre
  have hz : ∀ w ∈ zW, w.before _ s = true := fun w h => hts w (List.mem_cons_of_mem _ h)
  have hown : s.vm.findClass RX10 = some m.cls := findClass_of_methodNamed B.named
  have hlocks := B.notSynchronized
  obtain ⟨hX, hFa, hFl, hCa⟩ := id hP
  have hl := lv_entry ([.ref (x), .int (nI (i)), .int (nI (y))]) (n := 4) (Nat.le_of_ble_eq_true rfl)
  rw [lg_entry_eq]
  generalize (lg_sl ([.ref (x), .int (nI (i)), .int (nI (y))]) ++ List.replicate (4 - (lg_sl ([.ref (x), .int (nI (i)), .int (nI (y))])).length) Slot.unset).toArray = ls at hl ⊢
  have hl : lv_has ls 4 [(0, .ref (x)), (1, .int (nI (i))), (2, .int (nI (y)))] := hl
  refine lv_aload_n hx hb dX10_many_0 rfl (lv_at hl 0 rfl) ?_
  refine lv_iload_n hx hb dX10_many_1 rfl (lv_at hl 1 rfl) ?_
  refine zc_V (As := [.int (nI (i))]) (rest := []) ⟨hx, hb, hml, hown, hts⟩ (c_filt_y l G x tp mt sl fa pl (fun j => some (fv j)) i hi) (cwV 1 hts (zgV wm_X10_71 wv_X10_filterAt) rfl rfl rfl (by decide +kernel) ⟨Nat.le_of_ble_eq_true rfl, Nat.le_of_ble_eq_true rfl⟩) hK hX rfl ⟨hX, hFa⟩ rfl hl.1 rfl (Nat.le_of_ble_eq_true rfl) dX10_many_2 ⟨Nat.zero_le _, Nat.zero_le _⟩ ?_
  refine lv_astore_n (lv' := [(3, .ref (fv i)), (0, .ref (x)), (1, .int (nI (i))), (2, .int (nI (y)))]) hx hb dX10_many_5 rfl hl (by decide) rfl (fun ls hl => ?_)
  refine lv_aload_n hx hb dX10_many_6 rfl (lv_at hl 0 rfl) ?_
  refine lv_ifnull hx hb dX10_many_7 ?_
  refine lv_iload_n hx hb dX10_many_10 rfl (lv_at hl 3 rfl) ?_
  refine zi_if_lt (tgt := 23) hx hb dX10_many_11 (by decide) (by omega) ?_
  refine lv_iload_n hx hb dX10_many_14 rfl (lv_at hl 3 rfl) ?_
  refine lv_aload_n hx hb dX10_many_15 rfl (lv_at hl 0 rfl) ?_
  refine zi_getN (C := RX1) (T := TX1) (N := 2) (v := .ref (ca)) hx hb hz wo_X1 hown hK hFl rfl 1 (by decide) wf_X10_89 (fun _ h9 => h9) rfl dX10_many_16 ?_
  refine zi_len hx hb hK hCa dX10_many_19 ?_
  refine zi_icmp_lt (tgt := 25) hx hb dX10_many_20 (by decide) (by omega) (by omega) (fun c_20 => ?_) (fun c_20 => ?_)
  · refine lv_aload_n hx hb dX10_many_25 rfl (lv_at hl 0 rfl) ?_
    refine zi_getN (C := RX1) (T := TX1) (N := 2) (v := .ref (ca)) hx hb hz wo_X1 hown hK hFl rfl 1 (by decide) wf_X10_89 (fun _ h9 => h9) rfl dX10_many_26 ?_
    refine lv_iload_n hx hb dX10_many_29 rfl (lv_at hl 3 rfl) ?_
    refine zi_ald hx hb hK hCa (by omega) (by decide) dX10_many_30 ?_
    exact zr_i hx hb hr hlocks (rfl) dX10_many_31
  · exfalso; omega

set_option maxHeartbeats 4000000 in
set_option maxRecDepth 100000 in
theorem c_many_n2 (l : Launch) (G : zG) (x tp mt sl fa : Nat) (pl : Int32) (fv : Nat → Nat) (i rt ca : Nat) (cc : Nat → Nat) (hi : i < 4) (z : Int32) (hz9 : ¬ (¬ z < 0 ∧ z ≤ 3)) : Met l yX10_many wsX10_many ({ frames := 1, cells := 0, slots := 0, locals := 21 }) (zP G [.ref (x), .int (nI (i)), .int (z)] (fun H => zO G H x 9 [.ref tp, .ref mt, .ref sl, .ref fa, .int pl] ∧ zE G 4 H fa 4 (fun j => some (fv j)) ∧ zO G H (fv i) 2 [.ref rt, .ref ca] ∧ zA G H ca 4 cc)) (zR (.int (-1))) 0 0 (fun _ => False) := by
  refine Met.ofW (cc := cX10_many) (maxL := 4) (ret := (some .int)) (by decide) rfl ?_
  intro p en s m args below meth c s₁ B hml hv
  obtain ⟨rfl, hP, hK⟩ := hv
  have hx := B.exec
  have hb := B.bytes
  have hr := B.returns
  have hts := atoms_spec (ws := wsX10_many) B.pre
  have hz : ∀ w ∈ zW, w.before _ s = true := fun w h => hts w (List.mem_cons_of_mem _ h)
  have hown : s.vm.findClass RX10 = some m.cls := findClass_of_methodNamed B.named
  have hlocks := B.notSynchronized
  obtain ⟨hX, hFa, hFl, hCa⟩ := id hP
  have hl := lv_entry ([.ref (x), .int (nI (i)), .int (z)]) (n := 4) (Nat.le_of_ble_eq_true rfl)
  rw [lg_entry_eq]
  generalize (lg_sl ([.ref (x), .int (nI (i)), .int (z)]) ++ List.replicate (4 - (lg_sl ([.ref (x), .int (nI (i)), .int (z)])).length) Slot.unset).toArray = ls at hl ⊢
  have hl : lv_has ls 4 [(0, .ref (x)), (1, .int (nI (i))), (2, .int (z))] := hl
  refine lv_aload_n hx hb dX10_many_0 rfl (lv_at hl 0 rfl) ?_
  refine lv_iload_n hx hb dX10_many_1 rfl (lv_at hl 1 rfl) ?_
  refine zc_V (As := [.int (nI (i))]) (rest := []) ⟨hx, hb, hml, hown, hts⟩ (c_filt_y l G x tp mt sl fa pl (fun j => some (fv j)) i hi) (cwV 1 hts (zgV wm_X10_71 wv_X10_filterAt) rfl rfl rfl (by decide +kernel) ⟨Nat.le_of_ble_eq_true rfl, Nat.le_of_ble_eq_true rfl⟩) hK hX rfl ⟨hX, hFa⟩ rfl hl.1 rfl (Nat.le_of_ble_eq_true rfl) dX10_many_2 ⟨Nat.zero_le _, Nat.zero_le _⟩ ?_
  refine lv_astore_n (lv' := [(3, .ref (fv i)), (0, .ref (x)), (1, .int (nI (i))), (2, .int (z))]) hx hb dX10_many_5 rfl hl (by decide) rfl (fun ls hl => ?_)
  refine lv_aload_n hx hb dX10_many_6 rfl (lv_at hl 0 rfl) ?_
  refine lv_ifnull hx hb dX10_many_7 ?_
  refine lv_iload_n hx hb dX10_many_10 rfl (lv_at hl 3 rfl) ?_
  refine lv_if_lt (tgt := 23) hx hb dX10_many_11 (by decide) (fun c_11 => ?_) (fun c_11 => ?_)
  · refine lv_iconst (v := (-1)) hx hb dX10_many_23 (by decide) ?_
    exact zr_i hx hb hr hlocks (rfl) dX10_many_24
  · refine lv_iload_n hx hb dX10_many_14 rfl (lv_at hl 3 rfl) ?_
    refine lv_aload_n hx hb dX10_many_15 rfl (lv_at hl 0 rfl) ?_
    refine zi_getN (C := RX1) (T := TX1) (N := 2) (v := .ref (ca)) hx hb hz wo_X1 hown hK hFl rfl 1 (by decide) wf_X10_89 (fun _ h9 => h9) rfl dX10_many_16 ?_
    refine zi_len hx hb hK hCa dX10_many_19 ?_
    refine lv_icmp_lt (tgt := 25) hx hb dX10_many_20 (by decide) (fun c_20 => ?_) (fun c_20 => ?_)
    · exact absurd (le_3 c_11 c_20) hz9
    · refine lv_iconst (v := (-1)) hx hb dX10_many_23 (by decide) ?_
      exact zr_i hx hb hr hlocks (rfl) dX10_many_24

set_option maxHeartbeats 4000000 in
set_option maxRecDepth 100000 in
theorem c_fails (l : Launch) (G : zG) (x tp mt sl fa : Nat) (pl : Int32) (sv fv : Nat → Nat) (F : Nat → Nat) (pf2 : Nat → Int32) (Z : Nat → Prop) (i rt ca ms vl lo hi9 cf : Nat) (rs : List Nat) (hi : i < 4) (j a hv : Nat) (pf : Nat → Int32) (hj : j < 4) (hok : okV F 16 3 a) (how : okW F 16 3 a) : Met l yX10_fails wsX10_fails ({ frames := 914, cells := 0, slots := 0, locals := 23035 }) (zP G [.ref (x), .int (nI (i)), .int (nI (j))] (fun H => zO G H x 9 [.ref tp, .ref mt, .ref sl, .ref fa, .int pl] ∧ zE G 3 H sl 4 (fun j => some (sv j)) ∧ zE G 4 H fa 4 (fun j => some (fv j)) ∧ zO G H (fv i) 2 [.ref rt, .ref ca] ∧ zO G H mt 4 [.ref ms] ∧ zO G H ms 8 (vF 0 (-1) (G.2.2 "") (G.2.2 "") 0 none none none 0) ∧ CH G H ∧ zO G H rt 5 (rlF 1 false vl none rs.head? rs.getLast? none) ∧ (RuL G H F pf2 Z 17).2 lo hi9 rs (els F cf) ∧ Nod G H F pf 16 (sv j) hv 3 a [] (-1) none)) (zR (.int (fI (fun e => clS F (ecF F (17 - 1)).1 (ecF F (17 - 1)).2 e (a)) (els F cf) 0))) 0 0 (fun _ => False) := by
  refine Met.ofW (cc := cX10_fails) (maxL := 5) (ret := (some .int)) (by decide) rfl ?_
  intro p en s m args below meth c s₁ B hml hv
  obtain ⟨rfl, hP, hK⟩ := hv
  have hx := B.exec
  have hb := B.bytes
  have hr := B.returns
  have hts := atoms_spec (ws := wsX10_fails) B.pre
  have hz : ∀ w ∈ zW, w.before _ s = true := fun w h => hts w (List.mem_cons_of_mem _ h)
  have hown : s.vm.findClass RX10 = some m.cls := findClass_of_methodNamed B.named
  have hlocks := B.notSynchronized
  obtain ⟨hX, hSl, hFa, hFl, hMt, hMs, hCH, hRt, hRu, hN⟩ := id hP
  have hl := lv_entry ([.ref (x), .int (nI (i)), .int (nI (j))]) (n := 5) (Nat.le_of_ble_eq_true rfl)
  rw [lg_entry_eq]
  generalize (lg_sl ([.ref (x), .int (nI (i)), .int (nI (j))]) ++ List.replicate (5 - (lg_sl ([.ref (x), .int (nI (i)), .int (nI (j))])).length) Slot.unset).toArray = ls at hl ⊢
  have hl : lv_has ls 5 [(0, .ref (x)), (1, .int (nI (i))), (2, .int (nI (j)))] := hl
  refine lv_aload_n hx hb dX10_fails_0 rfl (lv_at hl 0 rfl) ?_
  refine lv_iload_n hx hb dX10_fails_1 rfl (lv_at hl 1 rfl) ?_
  refine zc_V (As := [.int (nI (i))]) (rest := []) ⟨hx, hb, hml, hown, hts⟩ (c_filt_y l G x tp mt sl fa pl (fun j => some (fv j)) i hi) (cwV 1 hts (zgV wm_X10_71 wv_X10_filterAt) rfl rfl rfl (by decide +kernel) ⟨Nat.le_of_ble_eq_true rfl, Nat.le_of_ble_eq_true rfl⟩) hK hX rfl ⟨hX, hFa⟩ rfl hl.1 rfl (Nat.le_of_ble_eq_true rfl) dX10_fails_2 ⟨Nat.zero_le _, Nat.zero_le _⟩ ?_
  refine lv_astore_n (lv' := [(3, .ref (fv i)), (0, .ref (x)), (1, .int (nI (i))), (2, .int (nI (j)))]) hx hb dX10_fails_5 rfl hl (by decide) rfl (fun ls hl => ?_)
  refine lv_aload_n hx hb dX10_fails_6 rfl (lv_at hl 1 rfl) ?_
  refine lv_iload_n hx hb dX10_fails_7 rfl (lv_at hl 3 rfl) ?_
  refine zc_V (As := [.int (nI (j))]) (rest := []) ⟨hx, hb, hml, hown, hts⟩ (c_slot_y l G x tp mt sl fa pl (fun j => some (sv j)) j hj) (cwV 1 hts (zgV wm_X10_60 wv_X10_slotAt) rfl rfl rfl (by decide +kernel) ⟨Nat.le_of_ble_eq_true rfl, Nat.le_of_ble_eq_true rfl⟩) hK hX rfl ⟨hX, hSl⟩ rfl hl.1 rfl (Nat.le_of_ble_eq_true rfl) dX10_fails_8 ⟨Nat.zero_le _, Nat.zero_le _⟩ ?_
  refine lv_astore (lv' := [(4, .ref (sv j)), (3, .ref (fv i)), (0, .ref (x)), (1, .int (nI (i))), (2, .int (nI (j)))]) hx hb dX10_fails_11 hl (by decide) rfl (fun ls hl => ?_)
  refine lv_aload_n hx hb dX10_fails_13 rfl (lv_at hl 1 rfl) ?_
  refine lv_ifnull hx hb dX10_fails_14 ?_
  refine lv_aload hx hb dX10_fails_17 (lv_at hl 0 rfl) ?_
  refine lv_ifnonnull (tgt := 25) hx hb dX10_fails_19 (by decide) ?_
  refine lv_aload_n hx hb dX10_fails_25 rfl (lv_at hl 2 rfl) ?_
  refine zi_get (C := RX10) (T := TX10) (N := 5) (v := .ref (mt)) hx hb hz wo_X10 hown hK hX rfl 1 (by decide) (hz _ wf_X10_19) (fun _ h9 => h9) rfl dX10_fails_26 ?_
  refine lv_aload_n hx hb dX10_fails_29 rfl (lv_at hl 1 rfl) ?_
  refine zi_getN (C := RX1) (T := TX1) (N := 2) (v := .ref (rt)) hx hb hz wo_X1 hown hK hFl rfl 0 (by decide) wf_X10_93 (fun _ h9 => h9) rfl dX10_fails_30 ?_
  refine lv_aload hx hb dX10_fails_33 (lv_at hl 0 rfl) ?_
  refine lv_iconst (v := nI 0) hx hb dX10_fails_35 (by decide) ?_
  refine zc_VN (As := [.ref (rt), .ref (sv j), .int (nI (0))]) (rest := []) ⟨hx, hb, hml, hown, hts⟩ ((c_mat_all l G F pf pf2 Z mt ms (ms + 1) 17).2 rt 1 false vl none rs.getLast? none lo hi9 rs cf 16 (sv j) hv a [] (-1) none 0 (by decide) (by decide) hok how) ⟨va_cnB 3 hts (zgN wc_X4_firstFailing) rfl rfl rfl (hK.2.1 _ wm_X10_97) (hz _ wi_X4) (by decide +kernel) ⟨Nat.le_of_ble_eq_true rfl, Nat.le_of_ble_eq_true rfl⟩, hz _ wn_X4_firstFailing, hz _ we_X4_firstFailing⟩ hK hMt rfl ⟨⟨hMt, nod_miss hMs hCH (Nat.lt_succ_self _) F pf, hCH⟩, hRt, hRu, hN⟩ rfl hl.1 rfl (Nat.le_of_ble_eq_true rfl) dX10_fails_36 ⟨Nat.zero_le _, Nat.zero_le _⟩ ?_
  exact zr_i hx hb hr hlocks (rfl) dX10_fails_39

set_option maxHeartbeats 4000000 in
set_option maxRecDepth 100000 in
theorem c_holds (l : Launch) (G : zG) (x tp mt sl fa : Nat) (pl : Int32) (sv fv : Nat → Nat) (F : Nat → Nat) (pf2 : Nat → Int32) (Z : Nat → Prop) (i rt ca ms vl lo hi9 cf : Nat) (rs : List Nat) (hi : i < 4) (j a hv : Nat) (pf : Nat → Int32) (hj : j < 4) (hok : okV F 16 3 a) (how : okW F 16 3 a) : Met l yX10_holds wsX10_holds ({ frames := 914, cells := 0, slots := 0, locals := 23035 }) (zP G [.ref (x), .int (nI (i)), .int (nI (j))] (fun H => zO G H x 9 [.ref tp, .ref mt, .ref sl, .ref fa, .int pl] ∧ zE G 3 H sl 4 (fun j => some (sv j)) ∧ zE G 4 H fa 4 (fun j => some (fv j)) ∧ zO G H (fv i) 2 [.ref rt, .ref ca] ∧ zO G H mt 4 [.ref ms] ∧ zO G H ms 8 (vF 0 (-1) (G.2.2 "") (G.2.2 "") 0 none none none 0) ∧ CH G H ∧ zO G H rt 5 (rlF 1 false vl none rs.head? rs.getLast? none) ∧ (RuL G H F pf2 Z 17).2 lo hi9 rs (els F cf) ∧ Nod G H F pf 16 (sv j) hv 3 a [] (-1) none)) (zR (.int (nI (nB ((els F cf).all (fun e => clS F (ecF F (17 - 1)).1 (ecF F (17 - 1)).2 e (a))))))) 0 0 (fun _ => False) := by
  refine Met.ofW (cc := cX10_holds) (maxL := 5) (ret := (some .int)) (by decide) rfl ?_
  intro p en s m args below meth c s₁ B hml hv
  obtain ⟨rfl, hP, hK⟩ := hv
  have hx := B.exec
  have hb := B.bytes
  have hr := B.returns
  have hts := atoms_spec (ws := wsX10_holds) B.pre
  have hz : ∀ w ∈ zW, w.before _ s = true := fun w h => hts w (List.mem_cons_of_mem _ h)
  have hown : s.vm.findClass RX10 = some m.cls := findClass_of_methodNamed B.named
  have hlocks := B.notSynchronized
  obtain ⟨hX, hSl, hFa, hFl, hMt, hMs, hCH, hRt, hRu, hN⟩ := id hP
  have hl := lv_entry ([.ref (x), .int (nI (i)), .int (nI (j))]) (n := 5) (Nat.le_of_ble_eq_true rfl)
  rw [lg_entry_eq]
  generalize (lg_sl ([.ref (x), .int (nI (i)), .int (nI (j))]) ++ List.replicate (5 - (lg_sl ([.ref (x), .int (nI (i)), .int (nI (j))])).length) Slot.unset).toArray = ls at hl ⊢
  have hl : lv_has ls 5 [(0, .ref (x)), (1, .int (nI (i))), (2, .int (nI (j)))] := hl
  refine lv_aload_n hx hb dX10_holds_0 rfl (lv_at hl 0 rfl) ?_
  refine lv_iload_n hx hb dX10_holds_1 rfl (lv_at hl 1 rfl) ?_
  refine zc_V (As := [.int (nI (i))]) (rest := []) ⟨hx, hb, hml, hown, hts⟩ (c_filt_y l G x tp mt sl fa pl (fun j => some (fv j)) i hi) (cwV 1 hts (zgV wm_X10_71 wv_X10_filterAt) rfl rfl rfl (by decide +kernel) ⟨Nat.le_of_ble_eq_true rfl, Nat.le_of_ble_eq_true rfl⟩) hK hX rfl ⟨hX, hFa⟩ rfl hl.1 rfl (Nat.le_of_ble_eq_true rfl) dX10_holds_2 ⟨Nat.zero_le _, Nat.zero_le _⟩ ?_
  refine lv_astore_n (lv' := [(3, .ref (fv i)), (0, .ref (x)), (1, .int (nI (i))), (2, .int (nI (j)))]) hx hb dX10_holds_5 rfl hl (by decide) rfl (fun ls hl => ?_)
  refine lv_aload_n hx hb dX10_holds_6 rfl (lv_at hl 1 rfl) ?_
  refine lv_iload_n hx hb dX10_holds_7 rfl (lv_at hl 3 rfl) ?_
  refine zc_V (As := [.int (nI (j))]) (rest := []) ⟨hx, hb, hml, hown, hts⟩ (c_slot_y l G x tp mt sl fa pl (fun j => some (sv j)) j hj) (cwV 1 hts (zgV wm_X10_60 wv_X10_slotAt) rfl rfl rfl (by decide +kernel) ⟨Nat.le_of_ble_eq_true rfl, Nat.le_of_ble_eq_true rfl⟩) hK hX rfl ⟨hX, hSl⟩ rfl hl.1 rfl (Nat.le_of_ble_eq_true rfl) dX10_holds_8 ⟨Nat.zero_le _, Nat.zero_le _⟩ ?_
  refine lv_astore (lv' := [(4, .ref (sv j)), (3, .ref (fv i)), (0, .ref (x)), (1, .int (nI (i))), (2, .int (nI (j)))]) hx hb dX10_holds_11 hl (by decide) rfl (fun ls hl => ?_)
  refine lv_aload_n hx hb dX10_holds_13 rfl (lv_at hl 1 rfl) ?_
  refine lv_ifnull hx hb dX10_holds_14 ?_
  refine lv_aload hx hb dX10_holds_17 (lv_at hl 0 rfl) ?_
  refine lv_ifnonnull (tgt := 24) hx hb dX10_holds_19 (by decide) ?_
  refine lv_aload_n hx hb dX10_holds_24 rfl (lv_at hl 2 rfl) ?_
  refine zi_get (C := RX10) (T := TX10) (N := 5) (v := .ref (mt)) hx hb hz wo_X10 hown hK hX rfl 1 (by decide) (hz _ wf_X10_19) (fun _ h9 => h9) rfl dX10_holds_25 ?_
  refine lv_aload_n hx hb dX10_holds_28 rfl (lv_at hl 1 rfl) ?_
  refine zi_getN (C := RX1) (T := TX1) (N := 2) (v := .ref (rt)) hx hb hz wo_X1 hown hK hFl rfl 0 (by decide) wf_X10_93 (fun _ h9 => h9) rfl dX10_holds_29 ?_
  refine lv_aload hx hb dX10_holds_32 (lv_at hl 0 rfl) ?_
  refine lv_iconst (v := nI 0) hx hb dX10_holds_34 (by decide) ?_
  refine zc_VN (As := [.ref (rt), .ref (sv j), .int (nI (0))]) (rest := []) ⟨hx, hb, hml, hown, hts⟩ ((c_mat_all l G F pf pf2 Z mt ms (ms + 1) 17).2 rt 1 false vl none rs.getLast? none lo hi9 rs cf 16 (sv j) hv a [] (-1) none 0 (by decide) (by decide) hok how) ⟨va_cnB 3 hts (zgN wc_X4_firstFailing) rfl rfl rfl (hK.2.1 _ wm_X10_97) (hz _ wi_X4) (by decide +kernel) ⟨Nat.le_of_ble_eq_true rfl, Nat.le_of_ble_eq_true rfl⟩, hz _ wn_X4_firstFailing, hz _ we_X4_firstFailing⟩ hK hMt rfl ⟨⟨hMt, nod_miss hMs hCH (Nat.lt_succ_self _) F pf, hCH⟩, hRt, hRu, hN⟩ rfl hl.1 rfl (Nat.le_of_ble_eq_true rfl) dX10_holds_35 ⟨Nat.zero_le _, Nat.zero_le _⟩ ?_
  refine lv_if_ge (tgt := 45) hx hb dX10_holds_38 (by decide) (fun c_38 => ?_) (fun c_38 => ?_)
  · refine lv_iconst (v := nI 0) hx hb dX10_holds_45 (by decide) ?_
    exact zr_i hx hb hr hlocks (by rw [hd_f c_38]; rfl) dX10_holds_46
  · refine lv_iconst (v := nI 1) hx hb dX10_holds_41 (by decide) ?_
    refine lv_goto (tgt := 46) hx hb dX10_holds_42 (by decide) ?_
    exact zr_i hx hb hr hlocks (by rw [hd_t c_38]; rfl) dX10_holds_46

set_option maxHeartbeats 4000000 in
set_option maxRecDepth 100000 in
theorem c_fails_n1 (l : Launch) (G : zG) (x tp mt sl fa : Nat) (pl : Int32) (sv fv : Nat → Nat) (y : Int32) (j : Nat) (hy : is4i y = false) (hj : j < 4) : Met l yX10_fails wsX10_fails ({ frames := 1, cells := 0, slots := 0, locals := 21 }) (zP G [.ref (x), .int (y), .int (nI (j))] (fun H => zO G H x 9 [.ref tp, .ref mt, .ref sl, .ref fa, .int pl] ∧ zE G 3 H sl 4 (fun j => some (sv j)) ∧ zE G 4 H fa 4 (fun j => some (fv j)))) (zR (.int (-2))) 0 0 (fun _ => False) := by
  refine Met.ofW (cc := cX10_fails) (maxL := 5) (ret := (some .int)) (by decide) rfl ?_
  intro p en s m args below meth c s₁ B hml hv
  obtain ⟨rfl, hP, hK⟩ := hv
  have hx := B.exec
  have hb := B.bytes
  have hr := B.returns
  have hts := atoms_spec (ws := wsX10_fails) B.pre
  have hz : ∀ w ∈ zW, w.before _ s = true := fun w h => hts w (List.mem_cons_of_mem _ h)
  have hown : s.vm.findClass RX10 = some m.cls := findClass_of_methodNamed B.named
  have hlocks := B.notSynchronized
  obtain ⟨hX, hSl, hFa⟩ := id hP
  have hl := lv_entry ([.ref (x), .int (y), .int (nI (j))]) (n := 5) (Nat.le_of_ble_eq_true rfl)
  rw [lg_entry_eq]
  generalize (lg_sl ([.ref (x), .int (y), .int (nI (j))]) ++ List.replicate (5 - (lg_sl ([.ref (x), .int (y), .int (nI (j))])).length) Slot.unset).toArray = ls at hl ⊢
  have hl : lv_has ls 5 [(0, .ref (x)), (1, .int (y)), (2, .int (nI (j)))] := hl
  refine lv_aload_n hx hb dX10_fails_0 rfl (lv_at hl 0 rfl) ?_
  refine lv_iload_n hx hb dX10_fails_1 rfl (lv_at hl 1 rfl) ?_
  refine zc_V (As := [.int (y)]) (rest := []) ⟨hx, hb, hml, hown, hts⟩ (c_filt_n l G x tp mt sl fa pl (fun j => some (fv j)) y hy) (cwV 1 hts (zgV wm_X10_71 wv_X10_filterAt) rfl rfl rfl (by decide +kernel) ⟨Nat.le_of_ble_eq_true rfl, Nat.le_of_ble_eq_true rfl⟩) hK hX rfl ⟨hX, hFa⟩ rfl hl.1 rfl (Nat.le_of_ble_eq_true rfl) dX10_fails_2 ⟨Nat.zero_le _, Nat.zero_le _⟩ ?_
  refine lv_astore_nN (lv' := [(3, .null), (0, .ref (x)), (1, .int (y)), (2, .int (nI (j)))]) hx hb dX10_fails_5 rfl hl (by decide) rfl (fun ls hl => ?_)
  refine lv_aload_n hx hb dX10_fails_6 rfl (lv_at hl 1 rfl) ?_
  refine lv_iload_n hx hb dX10_fails_7 rfl (lv_at hl 3 rfl) ?_
  refine zc_V (As := [.int (nI (j))]) (rest := []) ⟨hx, hb, hml, hown, hts⟩ (c_slot_y l G x tp mt sl fa pl (fun j => some (sv j)) j hj) (cwV 1 hts (zgV wm_X10_60 wv_X10_slotAt) rfl rfl rfl (by decide +kernel) ⟨Nat.le_of_ble_eq_true rfl, Nat.le_of_ble_eq_true rfl⟩) hK hX rfl ⟨hX, hSl⟩ rfl hl.1 rfl (Nat.le_of_ble_eq_true rfl) dX10_fails_8 ⟨Nat.zero_le _, Nat.zero_le _⟩ ?_
  refine lv_astore (lv' := [(4, .ref (sv j)), (3, .null), (0, .ref (x)), (1, .int (y)), (2, .int (nI (j)))]) hx hb dX10_fails_11 hl (by decide) rfl (fun ls hl => ?_)
  refine lv_aload_nN hx hb dX10_fails_13 rfl (lv_at hl 1 rfl) ?_
  refine lv_ifnullN (tgt := 22) hx hb dX10_fails_14 (by decide) ?_
  refine lv_bipush (v := (-2)) hx hb dX10_fails_22 (by decide) ?_
  exact zr_i hx hb hr hlocks (rfl) dX10_fails_24

set_option maxHeartbeats 4000000 in
set_option maxRecDepth 100000 in
theorem c_fails_n2 (l : Launch) (G : zG) (x tp mt sl fa : Nat) (pl : Int32) (sv fv : Nat → Nat) (i : Nat) (z : Int32) (hi : i < 4) (hz9 : is4i z = false) : Met l yX10_fails wsX10_fails ({ frames := 1, cells := 0, slots := 0, locals := 21 }) (zP G [.ref (x), .int (nI (i)), .int (z)] (fun H => zO G H x 9 [.ref tp, .ref mt, .ref sl, .ref fa, .int pl] ∧ zE G 3 H sl 4 (fun j => some (sv j)) ∧ zE G 4 H fa 4 (fun j => some (fv j)))) (zR (.int (-2))) 0 0 (fun _ => False) := by
  refine Met.ofW (cc := cX10_fails) (maxL := 5) (ret := (some .int)) (by decide) rfl ?_
  intro p en s m args below meth c s₁ B hml hv
  obtain ⟨rfl, hP, hK⟩ := hv
  have hx := B.exec
  have hb := B.bytes
  have hr := B.returns
  have hts := atoms_spec (ws := wsX10_fails) B.pre
  have hz : ∀ w ∈ zW, w.before _ s = true := fun w h => hts w (List.mem_cons_of_mem _ h)
  have hown : s.vm.findClass RX10 = some m.cls := findClass_of_methodNamed B.named
  have hlocks := B.notSynchronized
  obtain ⟨hX, hSl, hFa⟩ := id hP
  have hl := lv_entry ([.ref (x), .int (nI (i)), .int (z)]) (n := 5) (Nat.le_of_ble_eq_true rfl)
  rw [lg_entry_eq]
  generalize (lg_sl ([.ref (x), .int (nI (i)), .int (z)]) ++ List.replicate (5 - (lg_sl ([.ref (x), .int (nI (i)), .int (z)])).length) Slot.unset).toArray = ls at hl ⊢
  have hl : lv_has ls 5 [(0, .ref (x)), (1, .int (nI (i))), (2, .int (z))] := hl
  refine lv_aload_n hx hb dX10_fails_0 rfl (lv_at hl 0 rfl) ?_
  refine lv_iload_n hx hb dX10_fails_1 rfl (lv_at hl 1 rfl) ?_
  refine zc_V (As := [.int (nI (i))]) (rest := []) ⟨hx, hb, hml, hown, hts⟩ (c_filt_y l G x tp mt sl fa pl (fun j => some (fv j)) i hi) (cwV 1 hts (zgV wm_X10_71 wv_X10_filterAt) rfl rfl rfl (by decide +kernel) ⟨Nat.le_of_ble_eq_true rfl, Nat.le_of_ble_eq_true rfl⟩) hK hX rfl ⟨hX, hFa⟩ rfl hl.1 rfl (Nat.le_of_ble_eq_true rfl) dX10_fails_2 ⟨Nat.zero_le _, Nat.zero_le _⟩ ?_
  refine lv_astore_n (lv' := [(3, .ref (fv i)), (0, .ref (x)), (1, .int (nI (i))), (2, .int (z))]) hx hb dX10_fails_5 rfl hl (by decide) rfl (fun ls hl => ?_)
  refine lv_aload_n hx hb dX10_fails_6 rfl (lv_at hl 1 rfl) ?_
  refine lv_iload_n hx hb dX10_fails_7 rfl (lv_at hl 3 rfl) ?_
  refine zc_V (As := [.int (z)]) (rest := []) ⟨hx, hb, hml, hown, hts⟩ (c_slot_n l G x tp mt sl fa pl (fun j => some (sv j)) z hz9) (cwV 1 hts (zgV wm_X10_60 wv_X10_slotAt) rfl rfl rfl (by decide +kernel) ⟨Nat.le_of_ble_eq_true rfl, Nat.le_of_ble_eq_true rfl⟩) hK hX rfl ⟨hX, hSl⟩ rfl hl.1 rfl (Nat.le_of_ble_eq_true rfl) dX10_fails_8 ⟨Nat.zero_le _, Nat.zero_le _⟩ ?_
  refine lv_astoreN (lv' := [(4, .null), (3, .ref (fv i)), (0, .ref (x)), (1, .int (nI (i))), (2, .int (z))]) hx hb dX10_fails_11 hl (by decide) rfl (fun ls hl => ?_)
  refine lv_aload_n hx hb dX10_fails_13 rfl (lv_at hl 1 rfl) ?_
  refine lv_ifnull hx hb dX10_fails_14 ?_
  refine lv_aloadN hx hb dX10_fails_17 (lv_at hl 0 rfl) ?_
  refine lv_ifnonnullN hx hb dX10_fails_19 ?_
  refine lv_bipush (v := (-2)) hx hb dX10_fails_22 (by decide) ?_
  exact zr_i hx hb hr hlocks (rfl) dX10_fails_24

set_option maxHeartbeats 4000000 in
set_option maxRecDepth 100000 in
theorem c_fails_n3 (l : Launch) (G : zG) (x tp mt sl fa : Nat) (pl : Int32) (sv fv : Nat → Nat) (y z : Int32) (hy : is4i y = false) (hz9 : is4i z = false) : Met l yX10_fails wsX10_fails ({ frames := 1, cells := 0, slots := 0, locals := 21 }) (zP G [.ref (x), .int (y), .int (z)] (fun H => zO G H x 9 [.ref tp, .ref mt, .ref sl, .ref fa, .int pl] ∧ zE G 3 H sl 4 (fun j => some (sv j)) ∧ zE G 4 H fa 4 (fun j => some (fv j)))) (zR (.int (-2))) 0 0 (fun _ => False) := by
  refine Met.ofW (cc := cX10_fails) (maxL := 5) (ret := (some .int)) (by decide) rfl ?_
  intro p en s m args below meth c s₁ B hml hv
  obtain ⟨rfl, hP, hK⟩ := hv
  have hx := B.exec
  have hb := B.bytes
  have hr := B.returns
  have hts := atoms_spec (ws := wsX10_fails) B.pre
  have hz : ∀ w ∈ zW, w.before _ s = true := fun w h => hts w (List.mem_cons_of_mem _ h)
  have hown : s.vm.findClass RX10 = some m.cls := findClass_of_methodNamed B.named
  have hlocks := B.notSynchronized
  obtain ⟨hX, hSl, hFa⟩ := id hP
  have hl := lv_entry ([.ref (x), .int (y), .int (z)]) (n := 5) (Nat.le_of_ble_eq_true rfl)
  rw [lg_entry_eq]
  generalize (lg_sl ([.ref (x), .int (y), .int (z)]) ++ List.replicate (5 - (lg_sl ([.ref (x), .int (y), .int (z)])).length) Slot.unset).toArray = ls at hl ⊢
  have hl : lv_has ls 5 [(0, .ref (x)), (1, .int (y)), (2, .int (z))] := hl
  refine lv_aload_n hx hb dX10_fails_0 rfl (lv_at hl 0 rfl) ?_
  refine lv_iload_n hx hb dX10_fails_1 rfl (lv_at hl 1 rfl) ?_
  refine zc_V (As := [.int (y)]) (rest := []) ⟨hx, hb, hml, hown, hts⟩ (c_filt_n l G x tp mt sl fa pl (fun j => some (fv j)) y hy) (cwV 1 hts (zgV wm_X10_71 wv_X10_filterAt) rfl rfl rfl (by decide +kernel) ⟨Nat.le_of_ble_eq_true rfl, Nat.le_of_ble_eq_true rfl⟩) hK hX rfl ⟨hX, hFa⟩ rfl hl.1 rfl (Nat.le_of_ble_eq_true rfl) dX10_fails_2 ⟨Nat.zero_le _, Nat.zero_le _⟩ ?_
  refine lv_astore_nN (lv' := [(3, .null), (0, .ref (x)), (1, .int (y)), (2, .int (z))]) hx hb dX10_fails_5 rfl hl (by decide) rfl (fun ls hl => ?_)
  refine lv_aload_n hx hb dX10_fails_6 rfl (lv_at hl 1 rfl) ?_
  refine lv_iload_n hx hb dX10_fails_7 rfl (lv_at hl 3 rfl) ?_
  refine zc_V (As := [.int (z)]) (rest := []) ⟨hx, hb, hml, hown, hts⟩ (c_slot_n l G x tp mt sl fa pl (fun j => some (sv j)) z hz9) (cwV 1 hts (zgV wm_X10_60 wv_X10_slotAt) rfl rfl rfl (by decide +kernel) ⟨Nat.le_of_ble_eq_true rfl, Nat.le_of_ble_eq_true rfl⟩) hK hX rfl ⟨hX, hSl⟩ rfl hl.1 rfl (Nat.le_of_ble_eq_true rfl) dX10_fails_8 ⟨Nat.zero_le _, Nat.zero_le _⟩ ?_
  refine lv_astoreN (lv' := [(4, .null), (3, .null), (0, .ref (x)), (1, .int (y)), (2, .int (z))]) hx hb dX10_fails_11 hl (by decide) rfl (fun ls hl => ?_)
  refine lv_aload_nN hx hb dX10_fails_13 rfl (lv_at hl 1 rfl) ?_
  refine lv_ifnullN (tgt := 22) hx hb dX10_fails_14 (by decide) ?_
  refine lv_bipush (v := (-2)) hx hb dX10_fails_22 (by decide) ?_
  exact zr_i hx hb hr hlocks (rfl) dX10_fails_24

set_option maxHeartbeats 4000000 in
set_option maxRecDepth 100000 in
theorem c_holds_n1 (l : Launch) (G : zG) (x tp mt sl fa : Nat) (pl : Int32) (sv fv : Nat → Nat) (y : Int32) (j : Nat) (hy : is4i y = false) (hj : j < 4) : Met l yX10_holds wsX10_holds ({ frames := 1, cells := 0, slots := 0, locals := 21 }) (zP G [.ref (x), .int (y), .int (nI (j))] (fun H => zO G H x 9 [.ref tp, .ref mt, .ref sl, .ref fa, .int pl] ∧ zE G 3 H sl 4 (fun j => some (sv j)) ∧ zE G 4 H fa 4 (fun j => some (fv j)))) (zR (.int (-1))) 0 0 (fun _ => False) := by
  refine Met.ofW (cc := cX10_holds) (maxL := 5) (ret := (some .int)) (by decide) rfl ?_
  intro p en s m args below meth c s₁ B hml hv
  obtain ⟨rfl, hP, hK⟩ := hv
  have hx := B.exec
  have hb := B.bytes
  have hr := B.returns
  have hts := atoms_spec (ws := wsX10_holds) B.pre
  have hz : ∀ w ∈ zW, w.before _ s = true := fun w h => hts w (List.mem_cons_of_mem _ h)
  have hown : s.vm.findClass RX10 = some m.cls := findClass_of_methodNamed B.named
  have hlocks := B.notSynchronized
  obtain ⟨hX, hSl, hFa⟩ := id hP
  have hl := lv_entry ([.ref (x), .int (y), .int (nI (j))]) (n := 5) (Nat.le_of_ble_eq_true rfl)
  rw [lg_entry_eq]
  generalize (lg_sl ([.ref (x), .int (y), .int (nI (j))]) ++ List.replicate (5 - (lg_sl ([.ref (x), .int (y), .int (nI (j))])).length) Slot.unset).toArray = ls at hl ⊢
  have hl : lv_has ls 5 [(0, .ref (x)), (1, .int (y)), (2, .int (nI (j)))] := hl
  refine lv_aload_n hx hb dX10_holds_0 rfl (lv_at hl 0 rfl) ?_
  refine lv_iload_n hx hb dX10_holds_1 rfl (lv_at hl 1 rfl) ?_
  refine zc_V (As := [.int (y)]) (rest := []) ⟨hx, hb, hml, hown, hts⟩ (c_filt_n l G x tp mt sl fa pl (fun j => some (fv j)) y hy) (cwV 1 hts (zgV wm_X10_71 wv_X10_filterAt) rfl rfl rfl (by decide +kernel) ⟨Nat.le_of_ble_eq_true rfl, Nat.le_of_ble_eq_true rfl⟩) hK hX rfl ⟨hX, hFa⟩ rfl hl.1 rfl (Nat.le_of_ble_eq_true rfl) dX10_holds_2 ⟨Nat.zero_le _, Nat.zero_le _⟩ ?_
  refine lv_astore_nN (lv' := [(3, .null), (0, .ref (x)), (1, .int (y)), (2, .int (nI (j)))]) hx hb dX10_holds_5 rfl hl (by decide) rfl (fun ls hl => ?_)
  refine lv_aload_n hx hb dX10_holds_6 rfl (lv_at hl 1 rfl) ?_
  refine lv_iload_n hx hb dX10_holds_7 rfl (lv_at hl 3 rfl) ?_
  refine zc_V (As := [.int (nI (j))]) (rest := []) ⟨hx, hb, hml, hown, hts⟩ (c_slot_y l G x tp mt sl fa pl (fun j => some (sv j)) j hj) (cwV 1 hts (zgV wm_X10_60 wv_X10_slotAt) rfl rfl rfl (by decide +kernel) ⟨Nat.le_of_ble_eq_true rfl, Nat.le_of_ble_eq_true rfl⟩) hK hX rfl ⟨hX, hSl⟩ rfl hl.1 rfl (Nat.le_of_ble_eq_true rfl) dX10_holds_8 ⟨Nat.zero_le _, Nat.zero_le _⟩ ?_
  refine lv_astore (lv' := [(4, .ref (sv j)), (3, .null), (0, .ref (x)), (1, .int (y)), (2, .int (nI (j)))]) hx hb dX10_holds_11 hl (by decide) rfl (fun ls hl => ?_)
  refine lv_aload_nN hx hb dX10_holds_13 rfl (lv_at hl 1 rfl) ?_
  refine lv_ifnullN (tgt := 22) hx hb dX10_holds_14 (by decide) ?_
  refine lv_iconst (v := (-1)) hx hb dX10_holds_22 (by decide) ?_
  exact zr_i hx hb hr hlocks (rfl) dX10_holds_23

set_option maxHeartbeats 4000000 in
set_option maxRecDepth 100000 in
theorem c_holds_n2 (l : Launch) (G : zG) (x tp mt sl fa : Nat) (pl : Int32) (sv fv : Nat → Nat) (i : Nat) (z : Int32) (hi : i < 4) (hz9 : is4i z = false) : Met l yX10_holds wsX10_holds ({ frames := 1, cells := 0, slots := 0, locals := 21 }) (zP G [.ref (x), .int (nI (i)), .int (z)] (fun H => zO G H x 9 [.ref tp, .ref mt, .ref sl, .ref fa, .int pl] ∧ zE G 3 H sl 4 (fun j => some (sv j)) ∧ zE G 4 H fa 4 (fun j => some (fv j)))) (zR (.int (-1))) 0 0 (fun _ => False) := by
  refine Met.ofW (cc := cX10_holds) (maxL := 5) (ret := (some .int)) (by decide) rfl ?_
  intro p en s m args below meth c s₁ B hml hv
  obtain ⟨rfl, hP, hK⟩ := hv
  have hx := B.exec
  have hb := B.bytes
  have hr := B.returns
  have hts := atoms_spec (ws := wsX10_holds) B.pre
  have hz : ∀ w ∈ zW, w.before _ s = true := fun w h => hts w (List.mem_cons_of_mem _ h)
  have hown : s.vm.findClass RX10 = some m.cls := findClass_of_methodNamed B.named
  have hlocks := B.notSynchronized
  obtain ⟨hX, hSl, hFa⟩ := id hP
  have hl := lv_entry ([.ref (x), .int (nI (i)), .int (z)]) (n := 5) (Nat.le_of_ble_eq_true rfl)
  rw [lg_entry_eq]
  generalize (lg_sl ([.ref (x), .int (nI (i)), .int (z)]) ++ List.replicate (5 - (lg_sl ([.ref (x), .int (nI (i)), .int (z)])).length) Slot.unset).toArray = ls at hl ⊢
  have hl : lv_has ls 5 [(0, .ref (x)), (1, .int (nI (i))), (2, .int (z))] := hl
  refine lv_aload_n hx hb dX10_holds_0 rfl (lv_at hl 0 rfl) ?_
  refine lv_iload_n hx hb dX10_holds_1 rfl (lv_at hl 1 rfl) ?_
  refine zc_V (As := [.int (nI (i))]) (rest := []) ⟨hx, hb, hml, hown, hts⟩ (c_filt_y l G x tp mt sl fa pl (fun j => some (fv j)) i hi) (cwV 1 hts (zgV wm_X10_71 wv_X10_filterAt) rfl rfl rfl (by decide +kernel) ⟨Nat.le_of_ble_eq_true rfl, Nat.le_of_ble_eq_true rfl⟩) hK hX rfl ⟨hX, hFa⟩ rfl hl.1 rfl (Nat.le_of_ble_eq_true rfl) dX10_holds_2 ⟨Nat.zero_le _, Nat.zero_le _⟩ ?_
  refine lv_astore_n (lv' := [(3, .ref (fv i)), (0, .ref (x)), (1, .int (nI (i))), (2, .int (z))]) hx hb dX10_holds_5 rfl hl (by decide) rfl (fun ls hl => ?_)
  refine lv_aload_n hx hb dX10_holds_6 rfl (lv_at hl 1 rfl) ?_
  refine lv_iload_n hx hb dX10_holds_7 rfl (lv_at hl 3 rfl) ?_
  refine zc_V (As := [.int (z)]) (rest := []) ⟨hx, hb, hml, hown, hts⟩ (c_slot_n l G x tp mt sl fa pl (fun j => some (sv j)) z hz9) (cwV 1 hts (zgV wm_X10_60 wv_X10_slotAt) rfl rfl rfl (by decide +kernel) ⟨Nat.le_of_ble_eq_true rfl, Nat.le_of_ble_eq_true rfl⟩) hK hX rfl ⟨hX, hSl⟩ rfl hl.1 rfl (Nat.le_of_ble_eq_true rfl) dX10_holds_8 ⟨Nat.zero_le _, Nat.zero_le _⟩ ?_
  refine lv_astoreN (lv' := [(4, .null), (3, .ref (fv i)), (0, .ref (x)), (1, .int (nI (i))), (2, .int (z))]) hx hb dX10_holds_11 hl (by decide) rfl (fun ls hl => ?_)
  refine lv_aload_n hx hb dX10_holds_13 rfl (lv_at hl 1 rfl) ?_
  refine lv_ifnull hx hb dX10_holds_14 ?_
  refine lv_aloadN hx hb dX10_holds_17 (lv_at hl 0 rfl) ?_
  refine lv_ifnonnullN hx hb dX10_holds_19 ?_
  refine lv_iconst (v := (-1)) hx hb dX10_holds_22 (by decide) ?_
  exact zr_i hx hb hr hlocks (rfl) dX10_holds_23

set_option maxHeartbeats 4000000 in
set_option maxRecDepth 100000 in
theorem c_holds_n3 (l : Launch) (G : zG) (x tp mt sl fa : Nat) (pl : Int32) (sv fv : Nat → Nat) (y z : Int32) (hy : is4i y = false) (hz9 : is4i z = false) : Met l yX10_holds wsX10_holds ({ frames := 1, cells := 0, slots := 0, locals := 21 }) (zP G [.ref (x), .int (y), .int (z)] (fun H => zO G H x 9 [.ref tp, .ref mt, .ref sl, .ref fa, .int pl] ∧ zE G 3 H sl 4 (fun j => some (sv j)) ∧ zE G 4 H fa 4 (fun j => some (fv j)))) (zR (.int (-1))) 0 0 (fun _ => False) := by
  refine Met.ofW (cc := cX10_holds) (maxL := 5) (ret := (some .int)) (by decide) rfl ?_
  intro p en s m args below meth c s₁ B hml hv
  obtain ⟨rfl, hP, hK⟩ := hv
  have hx := B.exec
  have hb := B.bytes
  have hr := B.returns
  have hts := atoms_spec (ws := wsX10_holds) B.pre
  have hz : ∀ w ∈ zW, w.before _ s = true := fun w h => hts w (List.mem_cons_of_mem _ h)
  have hown : s.vm.findClass RX10 = some m.cls := findClass_of_methodNamed B.named
  have hlocks := B.notSynchronized
  obtain ⟨hX, hSl, hFa⟩ := id hP
  have hl := lv_entry ([.ref (x), .int (y), .int (z)]) (n := 5) (Nat.le_of_ble_eq_true rfl)
  rw [lg_entry_eq]
  generalize (lg_sl ([.ref (x), .int (y), .int (z)]) ++ List.replicate (5 - (lg_sl ([.ref (x), .int (y), .int (z)])).length) Slot.unset).toArray = ls at hl ⊢
  have hl : lv_has ls 5 [(0, .ref (x)), (1, .int (y)), (2, .int (z))] := hl
  refine lv_aload_n hx hb dX10_holds_0 rfl (lv_at hl 0 rfl) ?_
  refine lv_iload_n hx hb dX10_holds_1 rfl (lv_at hl 1 rfl) ?_
  refine zc_V (As := [.int (y)]) (rest := []) ⟨hx, hb, hml, hown, hts⟩ (c_filt_n l G x tp mt sl fa pl (fun j => some (fv j)) y hy) (cwV 1 hts (zgV wm_X10_71 wv_X10_filterAt) rfl rfl rfl (by decide +kernel) ⟨Nat.le_of_ble_eq_true rfl, Nat.le_of_ble_eq_true rfl⟩) hK hX rfl ⟨hX, hFa⟩ rfl hl.1 rfl (Nat.le_of_ble_eq_true rfl) dX10_holds_2 ⟨Nat.zero_le _, Nat.zero_le _⟩ ?_
  refine lv_astore_nN (lv' := [(3, .null), (0, .ref (x)), (1, .int (y)), (2, .int (z))]) hx hb dX10_holds_5 rfl hl (by decide) rfl (fun ls hl => ?_)
  refine lv_aload_n hx hb dX10_holds_6 rfl (lv_at hl 1 rfl) ?_
  refine lv_iload_n hx hb dX10_holds_7 rfl (lv_at hl 3 rfl) ?_
  refine zc_V (As := [.int (z)]) (rest := []) ⟨hx, hb, hml, hown, hts⟩ (c_slot_n l G x tp mt sl fa pl (fun j => some (sv j)) z hz9) (cwV 1 hts (zgV wm_X10_60 wv_X10_slotAt) rfl rfl rfl (by decide +kernel) ⟨Nat.le_of_ble_eq_true rfl, Nat.le_of_ble_eq_true rfl⟩) hK hX rfl ⟨hX, hSl⟩ rfl hl.1 rfl (Nat.le_of_ble_eq_true rfl) dX10_holds_8 ⟨Nat.zero_le _, Nat.zero_le _⟩ ?_
  refine lv_astoreN (lv' := [(4, .null), (3, .null), (0, .ref (x)), (1, .int (y)), (2, .int (z))]) hx hb dX10_holds_11 hl (by decide) rfl (fun ls hl => ?_)
  refine lv_aload_nN hx hb dX10_holds_13 rfl (lv_at hl 1 rfl) ?_
  refine lv_ifnullN (tgt := 22) hx hb dX10_holds_14 (by decide) ?_
  refine lv_iconst (v := (-1)) hx hb dX10_holds_22 (by decide) ?_
  exact zr_i hx hb hr hlocks (rfl) dX10_holds_23

set_option maxHeartbeats 4000000 in
set_option maxRecDepth 100000 in
theorem c_which_n (l : Launch) (G : zG) (x tp mt sl fa : Nat) (pl : Int32) (sv fv : Nat → Nat) (y : Int32) (hy : is4i y = false) : Met l yX10_which wsX10_which ({ frames := 1, cells := 0, slots := 0, locals := 21 }) (zP G [.ref (x), .int (y)] (fun H => zO G H x 9 [.ref tp, .ref mt, .ref sl, .ref fa, .int pl] ∧ zE G 3 H sl 4 (fun j => some (sv j)) ∧ zE G 4 H fa 4 (fun j => some (fv j)))) (zR (.int (-1))) 0 0 (fun _ => False) := by
  refine Met.ofW (cc := cX10_which) (maxL := 4) (ret := (some .int)) (by decide) rfl ?_
  intro p en s m args below meth c s₁ B hml hv
  obtain ⟨rfl, hP, hK⟩ := hv
  have hx := B.exec
  have hb := B.bytes
  have hr := B.returns
  have hts := atoms_spec (ws := wsX10_which) B.pre
  have hz : ∀ w ∈ zW, w.before _ s = true := fun w h => hts w (List.mem_cons_of_mem _ h)
  have hown : s.vm.findClass RX10 = some m.cls := findClass_of_methodNamed B.named
  have hlocks := B.notSynchronized
  obtain ⟨hX, hSl, hFa⟩ := id hP
  have hl := lv_entry ([.ref (x), .int (y)]) (n := 4) (Nat.le_of_ble_eq_true rfl)
  rw [lg_entry_eq]
  generalize (lg_sl ([.ref (x), .int (y)]) ++ List.replicate (4 - (lg_sl ([.ref (x), .int (y)])).length) Slot.unset).toArray = ls at hl ⊢
  have hl : lv_has ls 4 [(0, .ref (x)), (1, .int (y))] := hl
  refine lv_aload_n hx hb dX10_which_0 rfl (lv_at hl 0 rfl) ?_
  refine lv_iload_n hx hb dX10_which_1 rfl (lv_at hl 1 rfl) ?_
  refine zc_V (As := [.int (y)]) (rest := []) ⟨hx, hb, hml, hown, hts⟩ (c_filt_n l G x tp mt sl fa pl (fun j => some (fv j)) y hy) (cwV 1 hts (zgV wm_X10_71 wv_X10_filterAt) rfl rfl rfl (by decide +kernel) ⟨Nat.le_of_ble_eq_true rfl, Nat.le_of_ble_eq_true rfl⟩) hK hX rfl ⟨hX, hFa⟩ rfl hl.1 rfl (Nat.le_of_ble_eq_true rfl) dX10_which_2 ⟨Nat.zero_le _, Nat.zero_le _⟩ ?_
  refine lv_ifnonnullN hx hb dX10_which_5 ?_
  refine lv_iconst (v := (-1)) hx hb dX10_which_8 (by decide) ?_
  exact zr_i hx hb hr hlocks (rfl) dX10_which_9

set_option maxHeartbeats 4000000 in
set_option maxRecDepth 100000 in
theorem c_which (l : Launch) (G : zG) (x tp mt sl fa : Nat) (pl : Int32) (sv fv : Nat → Nat) (F : Nat → Nat) (pf2 : Nat → Int32) (Z : Nat → Prop) (i rt ca ms vl lo hi9 cf : Nat) (rs : List Nat) (hi : i < 4) (hvs : Nat → Nat) (pfs : Nat → Nat → Int32) (hok : ∀ j, j < 4 → okV F 16 3 (2000 * j)) (how : ∀ j, j < 4 → okW F 16 3 (2000 * j)) : Met l yX10_which wsX10_which ({ frames := 915, cells := 0, slots := 0, locals := 23059 }) (zP G [.ref (x), .int (nI (i))] (fun H => zO G H x 9 [.ref tp, .ref mt, .ref sl, .ref fa, .int pl] ∧ zE G 3 H sl 4 (fun j => some (sv j)) ∧ zE G 4 H fa 4 (fun j => some (fv j)) ∧ zO G H (fv i) 2 [.ref rt, .ref ca] ∧ zO G H mt 4 [.ref ms] ∧ zO G H ms 8 (vF 0 (-1) (G.2.2 "") (G.2.2 "") 0 none none none 0) ∧ CH G H ∧ zO G H rt 5 (rlF 1 false vl none rs.head? rs.getLast? none) ∧ (RuL G H F pf2 Z 17).2 lo hi9 rs (els F cf) ∧ ∀ j, j < 4 → Nod G H F (pfs j) 16 (sv j) (hvs j) 3 (2000 * j) [] (-1) none)) (zR (.int (nI (wB (fun j => (els F cf).all (fun e => clS F (ecF F (17 - 1)).1 (ecF F (17 - 1)).2 e (2000 * j))))))) 0 0 (fun _ => False) := by
  refine Met.ofW (cc := cX10_which) (maxL := 4) (ret := (some .int)) (by decide) rfl ?_
  intro p en s m args below meth c s₁ B hml hv
  obtain ⟨rfl, hP, hK⟩ := hv
  have hx := B.exec
  have hb := B.bytes
  have hr := B.returns
  have hts := atoms_spec (ws := wsX10_which) B.pre
  have hz : ∀ w ∈ zW, w.before _ s = true := fun w h => hts w (List.mem_cons_of_mem _ h)
  have hown : s.vm.findClass RX10 = some m.cls := findClass_of_methodNamed B.named
  have hlocks := B.notSynchronized
  obtain ⟨hX, hSl, hFa, hFl, hMt, hMs, hCH, hRt, hRu, hN⟩ := id hP
  have hl := lv_entry ([.ref (x), .int (nI (i))]) (n := 4) (Nat.le_of_ble_eq_true rfl)
  rw [lg_entry_eq]
  generalize (lg_sl ([.ref (x), .int (nI (i))]) ++ List.replicate (4 - (lg_sl ([.ref (x), .int (nI (i))])).length) Slot.unset).toArray = ls at hl ⊢
  have hl : lv_has ls 4 [(0, .ref (x)), (1, .int (nI (i)))] := hl
  refine lv_aload_n hx hb dX10_which_0 rfl (lv_at hl 0 rfl) ?_
  refine lv_iload_n hx hb dX10_which_1 rfl (lv_at hl 1 rfl) ?_
  refine zc_V (As := [.int (nI (i))]) (rest := []) ⟨hx, hb, hml, hown, hts⟩ (c_filt_y l G x tp mt sl fa pl (fun j => some (fv j)) i hi) (cwV 1 hts (zgV wm_X10_71 wv_X10_filterAt) rfl rfl rfl (by decide +kernel) ⟨Nat.le_of_ble_eq_true rfl, Nat.le_of_ble_eq_true rfl⟩) hK hX rfl ⟨hX, hFa⟩ rfl hl.1 rfl (Nat.le_of_ble_eq_true rfl) dX10_which_2 ⟨Nat.zero_le _, Nat.zero_le _⟩ ?_
  refine lv_ifnonnull (tgt := 10) hx hb dX10_which_5 (by decide) ?_
  refine lv_iconst (v := nI 0) hx hb dX10_which_10 (by decide) ?_
  refine lv_istore_n (lv' := [(2, .int (nI (0))), (0, .ref (x)), (1, .int (nI (i)))]) hx hb dX10_which_11 rfl hl (by decide) rfl (fun ls hl => ?_)
  refine lv_iconst (v := nI 0) hx hb dX10_which_12 (by decide) ?_
  refine lv_istore_n (lv' := [(3, .int (nI (0))), (2, .int (nI (0))), (0, .ref (x)), (1, .int (nI (i)))]) hx hb dX10_which_13 rfl hl (by decide) rfl (fun ls hl => ?_)
  refine lv_iload_n hx hb dX10_which_14 rfl (lv_at hl 0 rfl) ?_
  refine lv_iconst (v := nI 4) hx hb dX10_which_15 (by decide) ?_
  refine zi_icmp_ge (tgt := 41) hx hb dX10_which_16 (by decide) (by omega) (by omega) (fun c_16 => absurd c_16 (by decide)) (fun c_16 => ?_)
  refine lv_aload_n hx hb dX10_which_19 rfl (lv_at hl 2 rfl) ?_
  refine lv_iload_n hx hb dX10_which_20 rfl (lv_at hl 3 rfl) ?_
  refine lv_iload_n hx hb dX10_which_21 rfl (lv_at hl 0 rfl) ?_
  refine zc_V (As := [.int (nI (i)), .int (nI (0))]) (rest := []) ⟨hx, hb, hml, hown, hts⟩ (c_holds l G x tp mt sl fa pl sv fv F pf2 Z i rt ca ms vl lo hi9 cf rs hi 0 (2000 * 0) (hvs 0) (pfs 0) (by decide) (hok 0 (by decide)) (how 0 (by decide))) (cwV 2 hts (zgV wm_X10_101 wv_X10_holds) rfl rfl rfl (by decide +kernel) ⟨Nat.le_of_ble_eq_true rfl, Nat.le_of_ble_eq_true rfl⟩) hK hX rfl ⟨hX, hSl, hFa, hFl, hMt, hMs, hCH, hRt, hRu, hN 0 (by decide)⟩ rfl hl.1 rfl (Nat.le_of_ble_eq_true rfl) dX10_which_22 ⟨Nat.zero_le _, Nat.zero_le _⟩ ?_
  refine lv_iconst (v := nI 1) hx hb dX10_which_25 (by decide) ?_
  refine zi_icmp_ne (tgt := 35) hx hb dX10_which_26 (by decide) (Nat.lt_trans (nB_lt _) (by decide)) (by omega) (fun c_26 => ?_) (fun c_26 => ?_)
  · have h_0 : (els F cf).all (fun e => clS F (ecF F (17 - 1)).1 (ecF F (17 - 1)).2 e (2000 * 0)) = false := nB_z (by have := nB_lt ((els F cf).all (fun e => clS F (ecF F (17 - 1)).1 (ecF F (17 - 1)).2 e (2000 * 0))); omega)
    refine lv_iinc (v := nI (1)) (lv' := [(3, .int (nI (1))), (2, .int (nI (0))), (0, .ref (x)), (1, .int (nI (i)))]) hx hb dX10_which_35 hl (k := 0) rfl (nI_add _ _) (by decide) rfl (fun ls hl => ?_)
    refine lv_goto (tgt := 14) hx hb dX10_which_38 (by decide) ?_
    refine lv_iload_n hx hb dX10_which_14 rfl (lv_at hl 0 rfl) ?_
    refine lv_iconst (v := nI 4) hx hb dX10_which_15 (by decide) ?_
    refine zi_icmp_ge (tgt := 41) hx hb dX10_which_16 (by decide) (by omega) (by omega) (fun c_16 => absurd c_16 (by decide)) (fun c_16 => ?_)
    refine lv_aload_n hx hb dX10_which_19 rfl (lv_at hl 2 rfl) ?_
    refine lv_iload_n hx hb dX10_which_20 rfl (lv_at hl 3 rfl) ?_
    refine lv_iload_n hx hb dX10_which_21 rfl (lv_at hl 0 rfl) ?_
    refine zc_V (As := [.int (nI (i)), .int (nI (1))]) (rest := []) ⟨hx, hb, hml, hown, hts⟩ (c_holds l G x tp mt sl fa pl sv fv F pf2 Z i rt ca ms vl lo hi9 cf rs hi 1 (2000 * 1) (hvs 1) (pfs 1) (by decide) (hok 1 (by decide)) (how 1 (by decide))) (cwV 2 hts (zgV wm_X10_101 wv_X10_holds) rfl rfl rfl (by decide +kernel) ⟨Nat.le_of_ble_eq_true rfl, Nat.le_of_ble_eq_true rfl⟩) hK hX rfl ⟨hX, hSl, hFa, hFl, hMt, hMs, hCH, hRt, hRu, hN 1 (by decide)⟩ rfl hl.1 rfl (Nat.le_of_ble_eq_true rfl) dX10_which_22 ⟨Nat.zero_le _, Nat.zero_le _⟩ ?_
    refine lv_iconst (v := nI 1) hx hb dX10_which_25 (by decide) ?_
    refine zi_icmp_ne (tgt := 35) hx hb dX10_which_26 (by decide) (Nat.lt_trans (nB_lt _) (by decide)) (by omega) (fun c_26 => ?_) (fun c_26 => ?_)
    · have h_1 : (els F cf).all (fun e => clS F (ecF F (17 - 1)).1 (ecF F (17 - 1)).2 e (2000 * 1)) = false := nB_z (by have := nB_lt ((els F cf).all (fun e => clS F (ecF F (17 - 1)).1 (ecF F (17 - 1)).2 e (2000 * 1))); omega)
      refine lv_iinc (v := nI (2)) (lv' := [(3, .int (nI (2))), (2, .int (nI (0))), (0, .ref (x)), (1, .int (nI (i)))]) hx hb dX10_which_35 hl (k := 0) rfl (nI_add _ _) (by decide) rfl (fun ls hl => ?_)
      refine lv_goto (tgt := 14) hx hb dX10_which_38 (by decide) ?_
      refine lv_iload_n hx hb dX10_which_14 rfl (lv_at hl 0 rfl) ?_
      refine lv_iconst (v := nI 4) hx hb dX10_which_15 (by decide) ?_
      refine zi_icmp_ge (tgt := 41) hx hb dX10_which_16 (by decide) (by omega) (by omega) (fun c_16 => absurd c_16 (by decide)) (fun c_16 => ?_)
      refine lv_aload_n hx hb dX10_which_19 rfl (lv_at hl 2 rfl) ?_
      refine lv_iload_n hx hb dX10_which_20 rfl (lv_at hl 3 rfl) ?_
      refine lv_iload_n hx hb dX10_which_21 rfl (lv_at hl 0 rfl) ?_
      refine zc_V (As := [.int (nI (i)), .int (nI (2))]) (rest := []) ⟨hx, hb, hml, hown, hts⟩ (c_holds l G x tp mt sl fa pl sv fv F pf2 Z i rt ca ms vl lo hi9 cf rs hi 2 (2000 * 2) (hvs 2) (pfs 2) (by decide) (hok 2 (by decide)) (how 2 (by decide))) (cwV 2 hts (zgV wm_X10_101 wv_X10_holds) rfl rfl rfl (by decide +kernel) ⟨Nat.le_of_ble_eq_true rfl, Nat.le_of_ble_eq_true rfl⟩) hK hX rfl ⟨hX, hSl, hFa, hFl, hMt, hMs, hCH, hRt, hRu, hN 2 (by decide)⟩ rfl hl.1 rfl (Nat.le_of_ble_eq_true rfl) dX10_which_22 ⟨Nat.zero_le _, Nat.zero_le _⟩ ?_
      refine lv_iconst (v := nI 1) hx hb dX10_which_25 (by decide) ?_
      refine zi_icmp_ne (tgt := 35) hx hb dX10_which_26 (by decide) (Nat.lt_trans (nB_lt _) (by decide)) (by omega) (fun c_26 => ?_) (fun c_26 => ?_)
      · have h_2 : (els F cf).all (fun e => clS F (ecF F (17 - 1)).1 (ecF F (17 - 1)).2 e (2000 * 2)) = false := nB_z (by have := nB_lt ((els F cf).all (fun e => clS F (ecF F (17 - 1)).1 (ecF F (17 - 1)).2 e (2000 * 2))); omega)
        refine lv_iinc (v := nI (3)) (lv' := [(3, .int (nI (3))), (2, .int (nI (0))), (0, .ref (x)), (1, .int (nI (i)))]) hx hb dX10_which_35 hl (k := 0) rfl (nI_add _ _) (by decide) rfl (fun ls hl => ?_)
        refine lv_goto (tgt := 14) hx hb dX10_which_38 (by decide) ?_
        refine lv_iload_n hx hb dX10_which_14 rfl (lv_at hl 0 rfl) ?_
        refine lv_iconst (v := nI 4) hx hb dX10_which_15 (by decide) ?_
        refine zi_icmp_ge (tgt := 41) hx hb dX10_which_16 (by decide) (by omega) (by omega) (fun c_16 => absurd c_16 (by decide)) (fun c_16 => ?_)
        refine lv_aload_n hx hb dX10_which_19 rfl (lv_at hl 2 rfl) ?_
        refine lv_iload_n hx hb dX10_which_20 rfl (lv_at hl 3 rfl) ?_
        refine lv_iload_n hx hb dX10_which_21 rfl (lv_at hl 0 rfl) ?_
        refine zc_V (As := [.int (nI (i)), .int (nI (3))]) (rest := []) ⟨hx, hb, hml, hown, hts⟩ (c_holds l G x tp mt sl fa pl sv fv F pf2 Z i rt ca ms vl lo hi9 cf rs hi 3 (2000 * 3) (hvs 3) (pfs 3) (by decide) (hok 3 (by decide)) (how 3 (by decide))) (cwV 2 hts (zgV wm_X10_101 wv_X10_holds) rfl rfl rfl (by decide +kernel) ⟨Nat.le_of_ble_eq_true rfl, Nat.le_of_ble_eq_true rfl⟩) hK hX rfl ⟨hX, hSl, hFa, hFl, hMt, hMs, hCH, hRt, hRu, hN 3 (by decide)⟩ rfl hl.1 rfl (Nat.le_of_ble_eq_true rfl) dX10_which_22 ⟨Nat.zero_le _, Nat.zero_le _⟩ ?_
        refine lv_iconst (v := nI 1) hx hb dX10_which_25 (by decide) ?_
        refine zi_icmp_ne (tgt := 35) hx hb dX10_which_26 (by decide) (Nat.lt_trans (nB_lt _) (by decide)) (by omega) (fun c_26 => ?_) (fun c_26 => ?_)
        · have h_3 : (els F cf).all (fun e => clS F (ecF F (17 - 1)).1 (ecF F (17 - 1)).2 e (2000 * 3)) = false := nB_z (by have := nB_lt ((els F cf).all (fun e => clS F (ecF F (17 - 1)).1 (ecF F (17 - 1)).2 e (2000 * 3))); omega)
          refine lv_iinc (v := nI (4)) (lv' := [(3, .int (nI (4))), (2, .int (nI (0))), (0, .ref (x)), (1, .int (nI (i)))]) hx hb dX10_which_35 hl (k := 0) rfl (nI_add _ _) (by decide) rfl (fun ls hl => ?_)
          refine lv_goto (tgt := 14) hx hb dX10_which_38 (by decide) ?_
          refine lv_iload_n hx hb dX10_which_14 rfl (lv_at hl 0 rfl) ?_
          refine lv_iconst (v := nI 4) hx hb dX10_which_15 (by decide) ?_
          refine zi_icmp_ge (tgt := 41) hx hb dX10_which_16 (by decide) (by omega) (by omega) (fun c_16 => ?_) (fun c_16 => absurd c_16 (by decide))
          refine lv_iload_n hx hb dX10_which_41 rfl (lv_at hl 1 rfl) ?_
          exact zr_i hx hb hr hlocks (by simp only [wB, h_0, h_1, h_2, h_3]; rfl) dX10_which_42
        · have h_3 : (els F cf).all (fun e => clS F (ecF F (17 - 1)).1 (ecF F (17 - 1)).2 e (2000 * 3)) = true := nB_nz (by omega)
          refine lv_iload_n hx hb dX10_which_29 rfl (lv_at hl 1 rfl) ?_
          refine lv_iconst (v := nI 1) hx hb dX10_which_30 (by decide) ?_
          refine lv_iload_n hx hb dX10_which_31 rfl (lv_at hl 0 rfl) ?_
          refine lv_ishl hx hb dX10_which_32 ?_
          rw [show nI 1 <<< (nI 3 &&& 31) = nI 8 by decide]
          refine W.eq (g2 := F0 m 33 ls ([.int (nI (8)), .int (nI (0))])) rfl ?_
          refine lv_ior hx hb dX10_which_33 ?_
          rw [show nI 0 ||| nI 8 = nI 8 by decide]
          refine W.eq (g2 := F0 m 34 ls ([.int (nI (8))])) rfl ?_
          refine lv_istore_n (lv' := [(2, .int (nI (8))), (3, .int (nI (3))), (0, .ref (x)), (1, .int (nI (i)))]) hx hb dX10_which_34 rfl hl (by decide) rfl (fun ls hl => ?_)
          refine lv_iinc (v := nI (4)) (lv' := [(3, .int (nI (4))), (2, .int (nI (8))), (0, .ref (x)), (1, .int (nI (i)))]) hx hb dX10_which_35 hl (k := 1) rfl (nI_add _ _) (by decide) rfl (fun ls hl => ?_)
          refine lv_goto (tgt := 14) hx hb dX10_which_38 (by decide) ?_
          refine lv_iload_n hx hb dX10_which_14 rfl (lv_at hl 0 rfl) ?_
          refine lv_iconst (v := nI 4) hx hb dX10_which_15 (by decide) ?_
          refine zi_icmp_ge (tgt := 41) hx hb dX10_which_16 (by decide) (by omega) (by omega) (fun c_16 => ?_) (fun c_16 => absurd c_16 (by decide))
          refine lv_iload_n hx hb dX10_which_41 rfl (lv_at hl 1 rfl) ?_
          exact zr_i hx hb hr hlocks (by simp only [wB, h_0, h_1, h_2, h_3]; rfl) dX10_which_42
      · have h_2 : (els F cf).all (fun e => clS F (ecF F (17 - 1)).1 (ecF F (17 - 1)).2 e (2000 * 2)) = true := nB_nz (by omega)
        refine lv_iload_n hx hb dX10_which_29 rfl (lv_at hl 1 rfl) ?_
        refine lv_iconst (v := nI 1) hx hb dX10_which_30 (by decide) ?_
        refine lv_iload_n hx hb dX10_which_31 rfl (lv_at hl 0 rfl) ?_
        refine lv_ishl hx hb dX10_which_32 ?_
        rw [show nI 1 <<< (nI 2 &&& 31) = nI 4 by decide]
        refine W.eq (g2 := F0 m 33 ls ([.int (nI (4)), .int (nI (0))])) rfl ?_
        refine lv_ior hx hb dX10_which_33 ?_
        rw [show nI 0 ||| nI 4 = nI 4 by decide]
        refine W.eq (g2 := F0 m 34 ls ([.int (nI (4))])) rfl ?_
        refine lv_istore_n (lv' := [(2, .int (nI (4))), (3, .int (nI (2))), (0, .ref (x)), (1, .int (nI (i)))]) hx hb dX10_which_34 rfl hl (by decide) rfl (fun ls hl => ?_)
        refine lv_iinc (v := nI (3)) (lv' := [(3, .int (nI (3))), (2, .int (nI (4))), (0, .ref (x)), (1, .int (nI (i)))]) hx hb dX10_which_35 hl (k := 1) rfl (nI_add _ _) (by decide) rfl (fun ls hl => ?_)
        refine lv_goto (tgt := 14) hx hb dX10_which_38 (by decide) ?_
        refine lv_iload_n hx hb dX10_which_14 rfl (lv_at hl 0 rfl) ?_
        refine lv_iconst (v := nI 4) hx hb dX10_which_15 (by decide) ?_
        refine zi_icmp_ge (tgt := 41) hx hb dX10_which_16 (by decide) (by omega) (by omega) (fun c_16 => absurd c_16 (by decide)) (fun c_16 => ?_)
        refine lv_aload_n hx hb dX10_which_19 rfl (lv_at hl 2 rfl) ?_
        refine lv_iload_n hx hb dX10_which_20 rfl (lv_at hl 3 rfl) ?_
        refine lv_iload_n hx hb dX10_which_21 rfl (lv_at hl 0 rfl) ?_
        refine zc_V (As := [.int (nI (i)), .int (nI (3))]) (rest := []) ⟨hx, hb, hml, hown, hts⟩ (c_holds l G x tp mt sl fa pl sv fv F pf2 Z i rt ca ms vl lo hi9 cf rs hi 3 (2000 * 3) (hvs 3) (pfs 3) (by decide) (hok 3 (by decide)) (how 3 (by decide))) (cwV 2 hts (zgV wm_X10_101 wv_X10_holds) rfl rfl rfl (by decide +kernel) ⟨Nat.le_of_ble_eq_true rfl, Nat.le_of_ble_eq_true rfl⟩) hK hX rfl ⟨hX, hSl, hFa, hFl, hMt, hMs, hCH, hRt, hRu, hN 3 (by decide)⟩ rfl hl.1 rfl (Nat.le_of_ble_eq_true rfl) dX10_which_22 ⟨Nat.zero_le _, Nat.zero_le _⟩ ?_
        refine lv_iconst (v := nI 1) hx hb dX10_which_25 (by decide) ?_
        refine zi_icmp_ne (tgt := 35) hx hb dX10_which_26 (by decide) (Nat.lt_trans (nB_lt _) (by decide)) (by omega) (fun c_26 => ?_) (fun c_26 => ?_)
        · have h_3 : (els F cf).all (fun e => clS F (ecF F (17 - 1)).1 (ecF F (17 - 1)).2 e (2000 * 3)) = false := nB_z (by have := nB_lt ((els F cf).all (fun e => clS F (ecF F (17 - 1)).1 (ecF F (17 - 1)).2 e (2000 * 3))); omega)
          refine lv_iinc (v := nI (4)) (lv' := [(3, .int (nI (4))), (2, .int (nI (4))), (0, .ref (x)), (1, .int (nI (i)))]) hx hb dX10_which_35 hl (k := 0) rfl (nI_add _ _) (by decide) rfl (fun ls hl => ?_)
          refine lv_goto (tgt := 14) hx hb dX10_which_38 (by decide) ?_
          refine lv_iload_n hx hb dX10_which_14 rfl (lv_at hl 0 rfl) ?_
          refine lv_iconst (v := nI 4) hx hb dX10_which_15 (by decide) ?_
          refine zi_icmp_ge (tgt := 41) hx hb dX10_which_16 (by decide) (by omega) (by omega) (fun c_16 => ?_) (fun c_16 => absurd c_16 (by decide))
          refine lv_iload_n hx hb dX10_which_41 rfl (lv_at hl 1 rfl) ?_
          exact zr_i hx hb hr hlocks (by simp only [wB, h_0, h_1, h_2, h_3]; rfl) dX10_which_42
        · have h_3 : (els F cf).all (fun e => clS F (ecF F (17 - 1)).1 (ecF F (17 - 1)).2 e (2000 * 3)) = true := nB_nz (by omega)
          refine lv_iload_n hx hb dX10_which_29 rfl (lv_at hl 1 rfl) ?_
          refine lv_iconst (v := nI 1) hx hb dX10_which_30 (by decide) ?_
          refine lv_iload_n hx hb dX10_which_31 rfl (lv_at hl 0 rfl) ?_
          refine lv_ishl hx hb dX10_which_32 ?_
          rw [show nI 1 <<< (nI 3 &&& 31) = nI 8 by decide]
          refine W.eq (g2 := F0 m 33 ls ([.int (nI (8)), .int (nI (4))])) rfl ?_
          refine lv_ior hx hb dX10_which_33 ?_
          rw [show nI 4 ||| nI 8 = nI 12 by decide]
          refine W.eq (g2 := F0 m 34 ls ([.int (nI (12))])) rfl ?_
          refine lv_istore_n (lv' := [(2, .int (nI (12))), (3, .int (nI (3))), (0, .ref (x)), (1, .int (nI (i)))]) hx hb dX10_which_34 rfl hl (by decide) rfl (fun ls hl => ?_)
          refine lv_iinc (v := nI (4)) (lv' := [(3, .int (nI (4))), (2, .int (nI (12))), (0, .ref (x)), (1, .int (nI (i)))]) hx hb dX10_which_35 hl (k := 1) rfl (nI_add _ _) (by decide) rfl (fun ls hl => ?_)
          refine lv_goto (tgt := 14) hx hb dX10_which_38 (by decide) ?_
          refine lv_iload_n hx hb dX10_which_14 rfl (lv_at hl 0 rfl) ?_
          refine lv_iconst (v := nI 4) hx hb dX10_which_15 (by decide) ?_
          refine zi_icmp_ge (tgt := 41) hx hb dX10_which_16 (by decide) (by omega) (by omega) (fun c_16 => ?_) (fun c_16 => absurd c_16 (by decide))
          refine lv_iload_n hx hb dX10_which_41 rfl (lv_at hl 1 rfl) ?_
          exact zr_i hx hb hr hlocks (by simp only [wB, h_0, h_1, h_2, h_3]; rfl) dX10_which_42
    · have h_1 : (els F cf).all (fun e => clS F (ecF F (17 - 1)).1 (ecF F (17 - 1)).2 e (2000 * 1)) = true := nB_nz (by omega)
      refine lv_iload_n hx hb dX10_which_29 rfl (lv_at hl 1 rfl) ?_
      refine lv_iconst (v := nI 1) hx hb dX10_which_30 (by decide) ?_
      refine lv_iload_n hx hb dX10_which_31 rfl (lv_at hl 0 rfl) ?_
      refine lv_ishl hx hb dX10_which_32 ?_
      rw [show nI 1 <<< (nI 1 &&& 31) = nI 2 by decide]
      refine W.eq (g2 := F0 m 33 ls ([.int (nI (2)), .int (nI (0))])) rfl ?_
      refine lv_ior hx hb dX10_which_33 ?_
      rw [show nI 0 ||| nI 2 = nI 2 by decide]
      refine W.eq (g2 := F0 m 34 ls ([.int (nI (2))])) rfl ?_
      refine lv_istore_n (lv' := [(2, .int (nI (2))), (3, .int (nI (1))), (0, .ref (x)), (1, .int (nI (i)))]) hx hb dX10_which_34 rfl hl (by decide) rfl (fun ls hl => ?_)
      refine lv_iinc (v := nI (2)) (lv' := [(3, .int (nI (2))), (2, .int (nI (2))), (0, .ref (x)), (1, .int (nI (i)))]) hx hb dX10_which_35 hl (k := 1) rfl (nI_add _ _) (by decide) rfl (fun ls hl => ?_)
      refine lv_goto (tgt := 14) hx hb dX10_which_38 (by decide) ?_
      refine lv_iload_n hx hb dX10_which_14 rfl (lv_at hl 0 rfl) ?_
      refine lv_iconst (v := nI 4) hx hb dX10_which_15 (by decide) ?_
      refine zi_icmp_ge (tgt := 41) hx hb dX10_which_16 (by decide) (by omega) (by omega) (fun c_16 => absurd c_16 (by decide)) (fun c_16 => ?_)
      refine lv_aload_n hx hb dX10_which_19 rfl (lv_at hl 2 rfl) ?_
      refine lv_iload_n hx hb dX10_which_20 rfl (lv_at hl 3 rfl) ?_
      refine lv_iload_n hx hb dX10_which_21 rfl (lv_at hl 0 rfl) ?_
      refine zc_V (As := [.int (nI (i)), .int (nI (2))]) (rest := []) ⟨hx, hb, hml, hown, hts⟩ (c_holds l G x tp mt sl fa pl sv fv F pf2 Z i rt ca ms vl lo hi9 cf rs hi 2 (2000 * 2) (hvs 2) (pfs 2) (by decide) (hok 2 (by decide)) (how 2 (by decide))) (cwV 2 hts (zgV wm_X10_101 wv_X10_holds) rfl rfl rfl (by decide +kernel) ⟨Nat.le_of_ble_eq_true rfl, Nat.le_of_ble_eq_true rfl⟩) hK hX rfl ⟨hX, hSl, hFa, hFl, hMt, hMs, hCH, hRt, hRu, hN 2 (by decide)⟩ rfl hl.1 rfl (Nat.le_of_ble_eq_true rfl) dX10_which_22 ⟨Nat.zero_le _, Nat.zero_le _⟩ ?_
      refine lv_iconst (v := nI 1) hx hb dX10_which_25 (by decide) ?_
      refine zi_icmp_ne (tgt := 35) hx hb dX10_which_26 (by decide) (Nat.lt_trans (nB_lt _) (by decide)) (by omega) (fun c_26 => ?_) (fun c_26 => ?_)
      · have h_2 : (els F cf).all (fun e => clS F (ecF F (17 - 1)).1 (ecF F (17 - 1)).2 e (2000 * 2)) = false := nB_z (by have := nB_lt ((els F cf).all (fun e => clS F (ecF F (17 - 1)).1 (ecF F (17 - 1)).2 e (2000 * 2))); omega)
        refine lv_iinc (v := nI (3)) (lv' := [(3, .int (nI (3))), (2, .int (nI (2))), (0, .ref (x)), (1, .int (nI (i)))]) hx hb dX10_which_35 hl (k := 0) rfl (nI_add _ _) (by decide) rfl (fun ls hl => ?_)
        refine lv_goto (tgt := 14) hx hb dX10_which_38 (by decide) ?_
        refine lv_iload_n hx hb dX10_which_14 rfl (lv_at hl 0 rfl) ?_
        refine lv_iconst (v := nI 4) hx hb dX10_which_15 (by decide) ?_
        refine zi_icmp_ge (tgt := 41) hx hb dX10_which_16 (by decide) (by omega) (by omega) (fun c_16 => absurd c_16 (by decide)) (fun c_16 => ?_)
        refine lv_aload_n hx hb dX10_which_19 rfl (lv_at hl 2 rfl) ?_
        refine lv_iload_n hx hb dX10_which_20 rfl (lv_at hl 3 rfl) ?_
        refine lv_iload_n hx hb dX10_which_21 rfl (lv_at hl 0 rfl) ?_
        refine zc_V (As := [.int (nI (i)), .int (nI (3))]) (rest := []) ⟨hx, hb, hml, hown, hts⟩ (c_holds l G x tp mt sl fa pl sv fv F pf2 Z i rt ca ms vl lo hi9 cf rs hi 3 (2000 * 3) (hvs 3) (pfs 3) (by decide) (hok 3 (by decide)) (how 3 (by decide))) (cwV 2 hts (zgV wm_X10_101 wv_X10_holds) rfl rfl rfl (by decide +kernel) ⟨Nat.le_of_ble_eq_true rfl, Nat.le_of_ble_eq_true rfl⟩) hK hX rfl ⟨hX, hSl, hFa, hFl, hMt, hMs, hCH, hRt, hRu, hN 3 (by decide)⟩ rfl hl.1 rfl (Nat.le_of_ble_eq_true rfl) dX10_which_22 ⟨Nat.zero_le _, Nat.zero_le _⟩ ?_
        refine lv_iconst (v := nI 1) hx hb dX10_which_25 (by decide) ?_
        refine zi_icmp_ne (tgt := 35) hx hb dX10_which_26 (by decide) (Nat.lt_trans (nB_lt _) (by decide)) (by omega) (fun c_26 => ?_) (fun c_26 => ?_)
        · have h_3 : (els F cf).all (fun e => clS F (ecF F (17 - 1)).1 (ecF F (17 - 1)).2 e (2000 * 3)) = false := nB_z (by have := nB_lt ((els F cf).all (fun e => clS F (ecF F (17 - 1)).1 (ecF F (17 - 1)).2 e (2000 * 3))); omega)
          refine lv_iinc (v := nI (4)) (lv' := [(3, .int (nI (4))), (2, .int (nI (2))), (0, .ref (x)), (1, .int (nI (i)))]) hx hb dX10_which_35 hl (k := 0) rfl (nI_add _ _) (by decide) rfl (fun ls hl => ?_)
          refine lv_goto (tgt := 14) hx hb dX10_which_38 (by decide) ?_
          refine lv_iload_n hx hb dX10_which_14 rfl (lv_at hl 0 rfl) ?_
          refine lv_iconst (v := nI 4) hx hb dX10_which_15 (by decide) ?_
          refine zi_icmp_ge (tgt := 41) hx hb dX10_which_16 (by decide) (by omega) (by omega) (fun c_16 => ?_) (fun c_16 => absurd c_16 (by decide))
          refine lv_iload_n hx hb dX10_which_41 rfl (lv_at hl 1 rfl) ?_
          exact zr_i hx hb hr hlocks (by simp only [wB, h_0, h_1, h_2, h_3]; rfl) dX10_which_42
        · have h_3 : (els F cf).all (fun e => clS F (ecF F (17 - 1)).1 (ecF F (17 - 1)).2 e (2000 * 3)) = true := nB_nz (by omega)
          refine lv_iload_n hx hb dX10_which_29 rfl (lv_at hl 1 rfl) ?_
          refine lv_iconst (v := nI 1) hx hb dX10_which_30 (by decide) ?_
          refine lv_iload_n hx hb dX10_which_31 rfl (lv_at hl 0 rfl) ?_
          refine lv_ishl hx hb dX10_which_32 ?_
          rw [show nI 1 <<< (nI 3 &&& 31) = nI 8 by decide]
          refine W.eq (g2 := F0 m 33 ls ([.int (nI (8)), .int (nI (2))])) rfl ?_
          refine lv_ior hx hb dX10_which_33 ?_
          rw [show nI 2 ||| nI 8 = nI 10 by decide]
          refine W.eq (g2 := F0 m 34 ls ([.int (nI (10))])) rfl ?_
          refine lv_istore_n (lv' := [(2, .int (nI (10))), (3, .int (nI (3))), (0, .ref (x)), (1, .int (nI (i)))]) hx hb dX10_which_34 rfl hl (by decide) rfl (fun ls hl => ?_)
          refine lv_iinc (v := nI (4)) (lv' := [(3, .int (nI (4))), (2, .int (nI (10))), (0, .ref (x)), (1, .int (nI (i)))]) hx hb dX10_which_35 hl (k := 1) rfl (nI_add _ _) (by decide) rfl (fun ls hl => ?_)
          refine lv_goto (tgt := 14) hx hb dX10_which_38 (by decide) ?_
          refine lv_iload_n hx hb dX10_which_14 rfl (lv_at hl 0 rfl) ?_
          refine lv_iconst (v := nI 4) hx hb dX10_which_15 (by decide) ?_
          refine zi_icmp_ge (tgt := 41) hx hb dX10_which_16 (by decide) (by omega) (by omega) (fun c_16 => ?_) (fun c_16 => absurd c_16 (by decide))
          refine lv_iload_n hx hb dX10_which_41 rfl (lv_at hl 1 rfl) ?_
          exact zr_i hx hb hr hlocks (by simp only [wB, h_0, h_1, h_2, h_3]; rfl) dX10_which_42
      · have h_2 : (els F cf).all (fun e => clS F (ecF F (17 - 1)).1 (ecF F (17 - 1)).2 e (2000 * 2)) = true := nB_nz (by omega)
        refine lv_iload_n hx hb dX10_which_29 rfl (lv_at hl 1 rfl) ?_
        refine lv_iconst (v := nI 1) hx hb dX10_which_30 (by decide) ?_
        refine lv_iload_n hx hb dX10_which_31 rfl (lv_at hl 0 rfl) ?_
        refine lv_ishl hx hb dX10_which_32 ?_
        rw [show nI 1 <<< (nI 2 &&& 31) = nI 4 by decide]
        refine W.eq (g2 := F0 m 33 ls ([.int (nI (4)), .int (nI (2))])) rfl ?_
        refine lv_ior hx hb dX10_which_33 ?_
        rw [show nI 2 ||| nI 4 = nI 6 by decide]
        refine W.eq (g2 := F0 m 34 ls ([.int (nI (6))])) rfl ?_
        refine lv_istore_n (lv' := [(2, .int (nI (6))), (3, .int (nI (2))), (0, .ref (x)), (1, .int (nI (i)))]) hx hb dX10_which_34 rfl hl (by decide) rfl (fun ls hl => ?_)
        refine lv_iinc (v := nI (3)) (lv' := [(3, .int (nI (3))), (2, .int (nI (6))), (0, .ref (x)), (1, .int (nI (i)))]) hx hb dX10_which_35 hl (k := 1) rfl (nI_add _ _) (by decide) rfl (fun ls hl => ?_)
        refine lv_goto (tgt := 14) hx hb dX10_which_38 (by decide) ?_
        refine lv_iload_n hx hb dX10_which_14 rfl (lv_at hl 0 rfl) ?_
        refine lv_iconst (v := nI 4) hx hb dX10_which_15 (by decide) ?_
        refine zi_icmp_ge (tgt := 41) hx hb dX10_which_16 (by decide) (by omega) (by omega) (fun c_16 => absurd c_16 (by decide)) (fun c_16 => ?_)
        refine lv_aload_n hx hb dX10_which_19 rfl (lv_at hl 2 rfl) ?_
        refine lv_iload_n hx hb dX10_which_20 rfl (lv_at hl 3 rfl) ?_
        refine lv_iload_n hx hb dX10_which_21 rfl (lv_at hl 0 rfl) ?_
        refine zc_V (As := [.int (nI (i)), .int (nI (3))]) (rest := []) ⟨hx, hb, hml, hown, hts⟩ (c_holds l G x tp mt sl fa pl sv fv F pf2 Z i rt ca ms vl lo hi9 cf rs hi 3 (2000 * 3) (hvs 3) (pfs 3) (by decide) (hok 3 (by decide)) (how 3 (by decide))) (cwV 2 hts (zgV wm_X10_101 wv_X10_holds) rfl rfl rfl (by decide +kernel) ⟨Nat.le_of_ble_eq_true rfl, Nat.le_of_ble_eq_true rfl⟩) hK hX rfl ⟨hX, hSl, hFa, hFl, hMt, hMs, hCH, hRt, hRu, hN 3 (by decide)⟩ rfl hl.1 rfl (Nat.le_of_ble_eq_true rfl) dX10_which_22 ⟨Nat.zero_le _, Nat.zero_le _⟩ ?_
        refine lv_iconst (v := nI 1) hx hb dX10_which_25 (by decide) ?_
        refine zi_icmp_ne (tgt := 35) hx hb dX10_which_26 (by decide) (Nat.lt_trans (nB_lt _) (by decide)) (by omega) (fun c_26 => ?_) (fun c_26 => ?_)
        · have h_3 : (els F cf).all (fun e => clS F (ecF F (17 - 1)).1 (ecF F (17 - 1)).2 e (2000 * 3)) = false := nB_z (by have := nB_lt ((els F cf).all (fun e => clS F (ecF F (17 - 1)).1 (ecF F (17 - 1)).2 e (2000 * 3))); omega)
          refine lv_iinc (v := nI (4)) (lv' := [(3, .int (nI (4))), (2, .int (nI (6))), (0, .ref (x)), (1, .int (nI (i)))]) hx hb dX10_which_35 hl (k := 0) rfl (nI_add _ _) (by decide) rfl (fun ls hl => ?_)
          refine lv_goto (tgt := 14) hx hb dX10_which_38 (by decide) ?_
          refine lv_iload_n hx hb dX10_which_14 rfl (lv_at hl 0 rfl) ?_
          refine lv_iconst (v := nI 4) hx hb dX10_which_15 (by decide) ?_
          refine zi_icmp_ge (tgt := 41) hx hb dX10_which_16 (by decide) (by omega) (by omega) (fun c_16 => ?_) (fun c_16 => absurd c_16 (by decide))
          refine lv_iload_n hx hb dX10_which_41 rfl (lv_at hl 1 rfl) ?_
          exact zr_i hx hb hr hlocks (by simp only [wB, h_0, h_1, h_2, h_3]; rfl) dX10_which_42
        · have h_3 : (els F cf).all (fun e => clS F (ecF F (17 - 1)).1 (ecF F (17 - 1)).2 e (2000 * 3)) = true := nB_nz (by omega)
          refine lv_iload_n hx hb dX10_which_29 rfl (lv_at hl 1 rfl) ?_
          refine lv_iconst (v := nI 1) hx hb dX10_which_30 (by decide) ?_
          refine lv_iload_n hx hb dX10_which_31 rfl (lv_at hl 0 rfl) ?_
          refine lv_ishl hx hb dX10_which_32 ?_
          rw [show nI 1 <<< (nI 3 &&& 31) = nI 8 by decide]
          refine W.eq (g2 := F0 m 33 ls ([.int (nI (8)), .int (nI (6))])) rfl ?_
          refine lv_ior hx hb dX10_which_33 ?_
          rw [show nI 6 ||| nI 8 = nI 14 by decide]
          refine W.eq (g2 := F0 m 34 ls ([.int (nI (14))])) rfl ?_
          refine lv_istore_n (lv' := [(2, .int (nI (14))), (3, .int (nI (3))), (0, .ref (x)), (1, .int (nI (i)))]) hx hb dX10_which_34 rfl hl (by decide) rfl (fun ls hl => ?_)
          refine lv_iinc (v := nI (4)) (lv' := [(3, .int (nI (4))), (2, .int (nI (14))), (0, .ref (x)), (1, .int (nI (i)))]) hx hb dX10_which_35 hl (k := 1) rfl (nI_add _ _) (by decide) rfl (fun ls hl => ?_)
          refine lv_goto (tgt := 14) hx hb dX10_which_38 (by decide) ?_
          refine lv_iload_n hx hb dX10_which_14 rfl (lv_at hl 0 rfl) ?_
          refine lv_iconst (v := nI 4) hx hb dX10_which_15 (by decide) ?_
          refine zi_icmp_ge (tgt := 41) hx hb dX10_which_16 (by decide) (by omega) (by omega) (fun c_16 => ?_) (fun c_16 => absurd c_16 (by decide))
          refine lv_iload_n hx hb dX10_which_41 rfl (lv_at hl 1 rfl) ?_
          exact zr_i hx hb hr hlocks (by simp only [wB, h_0, h_1, h_2, h_3]; rfl) dX10_which_42
  · have h_0 : (els F cf).all (fun e => clS F (ecF F (17 - 1)).1 (ecF F (17 - 1)).2 e (2000 * 0)) = true := nB_nz (by omega)
    refine lv_iload_n hx hb dX10_which_29 rfl (lv_at hl 1 rfl) ?_
    refine lv_iconst (v := nI 1) hx hb dX10_which_30 (by decide) ?_
    refine lv_iload_n hx hb dX10_which_31 rfl (lv_at hl 0 rfl) ?_
    refine lv_ishl hx hb dX10_which_32 ?_
    rw [show nI 1 <<< (nI 0 &&& 31) = nI 1 by decide]
    refine W.eq (g2 := F0 m 33 ls ([.int (nI (1)), .int (nI (0))])) rfl ?_
    refine lv_ior hx hb dX10_which_33 ?_
    rw [show nI 0 ||| nI 1 = nI 1 by decide]
    refine W.eq (g2 := F0 m 34 ls ([.int (nI (1))])) rfl ?_
    refine lv_istore_n (lv' := [(2, .int (nI (1))), (3, .int (nI (0))), (0, .ref (x)), (1, .int (nI (i)))]) hx hb dX10_which_34 rfl hl (by decide) rfl (fun ls hl => ?_)
    refine lv_iinc (v := nI (1)) (lv' := [(3, .int (nI (1))), (2, .int (nI (1))), (0, .ref (x)), (1, .int (nI (i)))]) hx hb dX10_which_35 hl (k := 1) rfl (nI_add _ _) (by decide) rfl (fun ls hl => ?_)
    refine lv_goto (tgt := 14) hx hb dX10_which_38 (by decide) ?_
    refine lv_iload_n hx hb dX10_which_14 rfl (lv_at hl 0 rfl) ?_
    refine lv_iconst (v := nI 4) hx hb dX10_which_15 (by decide) ?_
    refine zi_icmp_ge (tgt := 41) hx hb dX10_which_16 (by decide) (by omega) (by omega) (fun c_16 => absurd c_16 (by decide)) (fun c_16 => ?_)
    refine lv_aload_n hx hb dX10_which_19 rfl (lv_at hl 2 rfl) ?_
    refine lv_iload_n hx hb dX10_which_20 rfl (lv_at hl 3 rfl) ?_
    refine lv_iload_n hx hb dX10_which_21 rfl (lv_at hl 0 rfl) ?_
    refine zc_V (As := [.int (nI (i)), .int (nI (1))]) (rest := []) ⟨hx, hb, hml, hown, hts⟩ (c_holds l G x tp mt sl fa pl sv fv F pf2 Z i rt ca ms vl lo hi9 cf rs hi 1 (2000 * 1) (hvs 1) (pfs 1) (by decide) (hok 1 (by decide)) (how 1 (by decide))) (cwV 2 hts (zgV wm_X10_101 wv_X10_holds) rfl rfl rfl (by decide +kernel) ⟨Nat.le_of_ble_eq_true rfl, Nat.le_of_ble_eq_true rfl⟩) hK hX rfl ⟨hX, hSl, hFa, hFl, hMt, hMs, hCH, hRt, hRu, hN 1 (by decide)⟩ rfl hl.1 rfl (Nat.le_of_ble_eq_true rfl) dX10_which_22 ⟨Nat.zero_le _, Nat.zero_le _⟩ ?_
    refine lv_iconst (v := nI 1) hx hb dX10_which_25 (by decide) ?_
    refine zi_icmp_ne (tgt := 35) hx hb dX10_which_26 (by decide) (Nat.lt_trans (nB_lt _) (by decide)) (by omega) (fun c_26 => ?_) (fun c_26 => ?_)
    · have h_1 : (els F cf).all (fun e => clS F (ecF F (17 - 1)).1 (ecF F (17 - 1)).2 e (2000 * 1)) = false := nB_z (by have := nB_lt ((els F cf).all (fun e => clS F (ecF F (17 - 1)).1 (ecF F (17 - 1)).2 e (2000 * 1))); omega)
      refine lv_iinc (v := nI (2)) (lv' := [(3, .int (nI (2))), (2, .int (nI (1))), (0, .ref (x)), (1, .int (nI (i)))]) hx hb dX10_which_35 hl (k := 0) rfl (nI_add _ _) (by decide) rfl (fun ls hl => ?_)
      refine lv_goto (tgt := 14) hx hb dX10_which_38 (by decide) ?_
      refine lv_iload_n hx hb dX10_which_14 rfl (lv_at hl 0 rfl) ?_
      refine lv_iconst (v := nI 4) hx hb dX10_which_15 (by decide) ?_
      refine zi_icmp_ge (tgt := 41) hx hb dX10_which_16 (by decide) (by omega) (by omega) (fun c_16 => absurd c_16 (by decide)) (fun c_16 => ?_)
      refine lv_aload_n hx hb dX10_which_19 rfl (lv_at hl 2 rfl) ?_
      refine lv_iload_n hx hb dX10_which_20 rfl (lv_at hl 3 rfl) ?_
      refine lv_iload_n hx hb dX10_which_21 rfl (lv_at hl 0 rfl) ?_
      refine zc_V (As := [.int (nI (i)), .int (nI (2))]) (rest := []) ⟨hx, hb, hml, hown, hts⟩ (c_holds l G x tp mt sl fa pl sv fv F pf2 Z i rt ca ms vl lo hi9 cf rs hi 2 (2000 * 2) (hvs 2) (pfs 2) (by decide) (hok 2 (by decide)) (how 2 (by decide))) (cwV 2 hts (zgV wm_X10_101 wv_X10_holds) rfl rfl rfl (by decide +kernel) ⟨Nat.le_of_ble_eq_true rfl, Nat.le_of_ble_eq_true rfl⟩) hK hX rfl ⟨hX, hSl, hFa, hFl, hMt, hMs, hCH, hRt, hRu, hN 2 (by decide)⟩ rfl hl.1 rfl (Nat.le_of_ble_eq_true rfl) dX10_which_22 ⟨Nat.zero_le _, Nat.zero_le _⟩ ?_
      refine lv_iconst (v := nI 1) hx hb dX10_which_25 (by decide) ?_
      refine zi_icmp_ne (tgt := 35) hx hb dX10_which_26 (by decide) (Nat.lt_trans (nB_lt _) (by decide)) (by omega) (fun c_26 => ?_) (fun c_26 => ?_)
      · have h_2 : (els F cf).all (fun e => clS F (ecF F (17 - 1)).1 (ecF F (17 - 1)).2 e (2000 * 2)) = false := nB_z (by have := nB_lt ((els F cf).all (fun e => clS F (ecF F (17 - 1)).1 (ecF F (17 - 1)).2 e (2000 * 2))); omega)
        refine lv_iinc (v := nI (3)) (lv' := [(3, .int (nI (3))), (2, .int (nI (1))), (0, .ref (x)), (1, .int (nI (i)))]) hx hb dX10_which_35 hl (k := 0) rfl (nI_add _ _) (by decide) rfl (fun ls hl => ?_)
        refine lv_goto (tgt := 14) hx hb dX10_which_38 (by decide) ?_
        refine lv_iload_n hx hb dX10_which_14 rfl (lv_at hl 0 rfl) ?_
        refine lv_iconst (v := nI 4) hx hb dX10_which_15 (by decide) ?_
        refine zi_icmp_ge (tgt := 41) hx hb dX10_which_16 (by decide) (by omega) (by omega) (fun c_16 => absurd c_16 (by decide)) (fun c_16 => ?_)
        refine lv_aload_n hx hb dX10_which_19 rfl (lv_at hl 2 rfl) ?_
        refine lv_iload_n hx hb dX10_which_20 rfl (lv_at hl 3 rfl) ?_
        refine lv_iload_n hx hb dX10_which_21 rfl (lv_at hl 0 rfl) ?_
        refine zc_V (As := [.int (nI (i)), .int (nI (3))]) (rest := []) ⟨hx, hb, hml, hown, hts⟩ (c_holds l G x tp mt sl fa pl sv fv F pf2 Z i rt ca ms vl lo hi9 cf rs hi 3 (2000 * 3) (hvs 3) (pfs 3) (by decide) (hok 3 (by decide)) (how 3 (by decide))) (cwV 2 hts (zgV wm_X10_101 wv_X10_holds) rfl rfl rfl (by decide +kernel) ⟨Nat.le_of_ble_eq_true rfl, Nat.le_of_ble_eq_true rfl⟩) hK hX rfl ⟨hX, hSl, hFa, hFl, hMt, hMs, hCH, hRt, hRu, hN 3 (by decide)⟩ rfl hl.1 rfl (Nat.le_of_ble_eq_true rfl) dX10_which_22 ⟨Nat.zero_le _, Nat.zero_le _⟩ ?_
        refine lv_iconst (v := nI 1) hx hb dX10_which_25 (by decide) ?_
        refine zi_icmp_ne (tgt := 35) hx hb dX10_which_26 (by decide) (Nat.lt_trans (nB_lt _) (by decide)) (by omega) (fun c_26 => ?_) (fun c_26 => ?_)
        · have h_3 : (els F cf).all (fun e => clS F (ecF F (17 - 1)).1 (ecF F (17 - 1)).2 e (2000 * 3)) = false := nB_z (by have := nB_lt ((els F cf).all (fun e => clS F (ecF F (17 - 1)).1 (ecF F (17 - 1)).2 e (2000 * 3))); omega)
          refine lv_iinc (v := nI (4)) (lv' := [(3, .int (nI (4))), (2, .int (nI (1))), (0, .ref (x)), (1, .int (nI (i)))]) hx hb dX10_which_35 hl (k := 0) rfl (nI_add _ _) (by decide) rfl (fun ls hl => ?_)
          refine lv_goto (tgt := 14) hx hb dX10_which_38 (by decide) ?_
          refine lv_iload_n hx hb dX10_which_14 rfl (lv_at hl 0 rfl) ?_
          refine lv_iconst (v := nI 4) hx hb dX10_which_15 (by decide) ?_
          refine zi_icmp_ge (tgt := 41) hx hb dX10_which_16 (by decide) (by omega) (by omega) (fun c_16 => ?_) (fun c_16 => absurd c_16 (by decide))
          refine lv_iload_n hx hb dX10_which_41 rfl (lv_at hl 1 rfl) ?_
          exact zr_i hx hb hr hlocks (by simp only [wB, h_0, h_1, h_2, h_3]; rfl) dX10_which_42
        · have h_3 : (els F cf).all (fun e => clS F (ecF F (17 - 1)).1 (ecF F (17 - 1)).2 e (2000 * 3)) = true := nB_nz (by omega)
          refine lv_iload_n hx hb dX10_which_29 rfl (lv_at hl 1 rfl) ?_
          refine lv_iconst (v := nI 1) hx hb dX10_which_30 (by decide) ?_
          refine lv_iload_n hx hb dX10_which_31 rfl (lv_at hl 0 rfl) ?_
          refine lv_ishl hx hb dX10_which_32 ?_
          rw [show nI 1 <<< (nI 3 &&& 31) = nI 8 by decide]
          refine W.eq (g2 := F0 m 33 ls ([.int (nI (8)), .int (nI (1))])) rfl ?_
          refine lv_ior hx hb dX10_which_33 ?_
          rw [show nI 1 ||| nI 8 = nI 9 by decide]
          refine W.eq (g2 := F0 m 34 ls ([.int (nI (9))])) rfl ?_
          refine lv_istore_n (lv' := [(2, .int (nI (9))), (3, .int (nI (3))), (0, .ref (x)), (1, .int (nI (i)))]) hx hb dX10_which_34 rfl hl (by decide) rfl (fun ls hl => ?_)
          refine lv_iinc (v := nI (4)) (lv' := [(3, .int (nI (4))), (2, .int (nI (9))), (0, .ref (x)), (1, .int (nI (i)))]) hx hb dX10_which_35 hl (k := 1) rfl (nI_add _ _) (by decide) rfl (fun ls hl => ?_)
          refine lv_goto (tgt := 14) hx hb dX10_which_38 (by decide) ?_
          refine lv_iload_n hx hb dX10_which_14 rfl (lv_at hl 0 rfl) ?_
          refine lv_iconst (v := nI 4) hx hb dX10_which_15 (by decide) ?_
          refine zi_icmp_ge (tgt := 41) hx hb dX10_which_16 (by decide) (by omega) (by omega) (fun c_16 => ?_) (fun c_16 => absurd c_16 (by decide))
          refine lv_iload_n hx hb dX10_which_41 rfl (lv_at hl 1 rfl) ?_
          exact zr_i hx hb hr hlocks (by simp only [wB, h_0, h_1, h_2, h_3]; rfl) dX10_which_42
      · have h_2 : (els F cf).all (fun e => clS F (ecF F (17 - 1)).1 (ecF F (17 - 1)).2 e (2000 * 2)) = true := nB_nz (by omega)
        refine lv_iload_n hx hb dX10_which_29 rfl (lv_at hl 1 rfl) ?_
        refine lv_iconst (v := nI 1) hx hb dX10_which_30 (by decide) ?_
        refine lv_iload_n hx hb dX10_which_31 rfl (lv_at hl 0 rfl) ?_
        refine lv_ishl hx hb dX10_which_32 ?_
        rw [show nI 1 <<< (nI 2 &&& 31) = nI 4 by decide]
        refine W.eq (g2 := F0 m 33 ls ([.int (nI (4)), .int (nI (1))])) rfl ?_
        refine lv_ior hx hb dX10_which_33 ?_
        rw [show nI 1 ||| nI 4 = nI 5 by decide]
        refine W.eq (g2 := F0 m 34 ls ([.int (nI (5))])) rfl ?_
        refine lv_istore_n (lv' := [(2, .int (nI (5))), (3, .int (nI (2))), (0, .ref (x)), (1, .int (nI (i)))]) hx hb dX10_which_34 rfl hl (by decide) rfl (fun ls hl => ?_)
        refine lv_iinc (v := nI (3)) (lv' := [(3, .int (nI (3))), (2, .int (nI (5))), (0, .ref (x)), (1, .int (nI (i)))]) hx hb dX10_which_35 hl (k := 1) rfl (nI_add _ _) (by decide) rfl (fun ls hl => ?_)
        refine lv_goto (tgt := 14) hx hb dX10_which_38 (by decide) ?_
        refine lv_iload_n hx hb dX10_which_14 rfl (lv_at hl 0 rfl) ?_
        refine lv_iconst (v := nI 4) hx hb dX10_which_15 (by decide) ?_
        refine zi_icmp_ge (tgt := 41) hx hb dX10_which_16 (by decide) (by omega) (by omega) (fun c_16 => absurd c_16 (by decide)) (fun c_16 => ?_)
        refine lv_aload_n hx hb dX10_which_19 rfl (lv_at hl 2 rfl) ?_
        refine lv_iload_n hx hb dX10_which_20 rfl (lv_at hl 3 rfl) ?_
        refine lv_iload_n hx hb dX10_which_21 rfl (lv_at hl 0 rfl) ?_
        refine zc_V (As := [.int (nI (i)), .int (nI (3))]) (rest := []) ⟨hx, hb, hml, hown, hts⟩ (c_holds l G x tp mt sl fa pl sv fv F pf2 Z i rt ca ms vl lo hi9 cf rs hi 3 (2000 * 3) (hvs 3) (pfs 3) (by decide) (hok 3 (by decide)) (how 3 (by decide))) (cwV 2 hts (zgV wm_X10_101 wv_X10_holds) rfl rfl rfl (by decide +kernel) ⟨Nat.le_of_ble_eq_true rfl, Nat.le_of_ble_eq_true rfl⟩) hK hX rfl ⟨hX, hSl, hFa, hFl, hMt, hMs, hCH, hRt, hRu, hN 3 (by decide)⟩ rfl hl.1 rfl (Nat.le_of_ble_eq_true rfl) dX10_which_22 ⟨Nat.zero_le _, Nat.zero_le _⟩ ?_
        refine lv_iconst (v := nI 1) hx hb dX10_which_25 (by decide) ?_
        refine zi_icmp_ne (tgt := 35) hx hb dX10_which_26 (by decide) (Nat.lt_trans (nB_lt _) (by decide)) (by omega) (fun c_26 => ?_) (fun c_26 => ?_)
        · have h_3 : (els F cf).all (fun e => clS F (ecF F (17 - 1)).1 (ecF F (17 - 1)).2 e (2000 * 3)) = false := nB_z (by have := nB_lt ((els F cf).all (fun e => clS F (ecF F (17 - 1)).1 (ecF F (17 - 1)).2 e (2000 * 3))); omega)
          refine lv_iinc (v := nI (4)) (lv' := [(3, .int (nI (4))), (2, .int (nI (5))), (0, .ref (x)), (1, .int (nI (i)))]) hx hb dX10_which_35 hl (k := 0) rfl (nI_add _ _) (by decide) rfl (fun ls hl => ?_)
          refine lv_goto (tgt := 14) hx hb dX10_which_38 (by decide) ?_
          refine lv_iload_n hx hb dX10_which_14 rfl (lv_at hl 0 rfl) ?_
          refine lv_iconst (v := nI 4) hx hb dX10_which_15 (by decide) ?_
          refine zi_icmp_ge (tgt := 41) hx hb dX10_which_16 (by decide) (by omega) (by omega) (fun c_16 => ?_) (fun c_16 => absurd c_16 (by decide))
          refine lv_iload_n hx hb dX10_which_41 rfl (lv_at hl 1 rfl) ?_
          exact zr_i hx hb hr hlocks (by simp only [wB, h_0, h_1, h_2, h_3]; rfl) dX10_which_42
        · have h_3 : (els F cf).all (fun e => clS F (ecF F (17 - 1)).1 (ecF F (17 - 1)).2 e (2000 * 3)) = true := nB_nz (by omega)
          refine lv_iload_n hx hb dX10_which_29 rfl (lv_at hl 1 rfl) ?_
          refine lv_iconst (v := nI 1) hx hb dX10_which_30 (by decide) ?_
          refine lv_iload_n hx hb dX10_which_31 rfl (lv_at hl 0 rfl) ?_
          refine lv_ishl hx hb dX10_which_32 ?_
          rw [show nI 1 <<< (nI 3 &&& 31) = nI 8 by decide]
          refine W.eq (g2 := F0 m 33 ls ([.int (nI (8)), .int (nI (5))])) rfl ?_
          refine lv_ior hx hb dX10_which_33 ?_
          rw [show nI 5 ||| nI 8 = nI 13 by decide]
          refine W.eq (g2 := F0 m 34 ls ([.int (nI (13))])) rfl ?_
          refine lv_istore_n (lv' := [(2, .int (nI (13))), (3, .int (nI (3))), (0, .ref (x)), (1, .int (nI (i)))]) hx hb dX10_which_34 rfl hl (by decide) rfl (fun ls hl => ?_)
          refine lv_iinc (v := nI (4)) (lv' := [(3, .int (nI (4))), (2, .int (nI (13))), (0, .ref (x)), (1, .int (nI (i)))]) hx hb dX10_which_35 hl (k := 1) rfl (nI_add _ _) (by decide) rfl (fun ls hl => ?_)
          refine lv_goto (tgt := 14) hx hb dX10_which_38 (by decide) ?_
          refine lv_iload_n hx hb dX10_which_14 rfl (lv_at hl 0 rfl) ?_
          refine lv_iconst (v := nI 4) hx hb dX10_which_15 (by decide) ?_
          refine zi_icmp_ge (tgt := 41) hx hb dX10_which_16 (by decide) (by omega) (by omega) (fun c_16 => ?_) (fun c_16 => absurd c_16 (by decide))
          refine lv_iload_n hx hb dX10_which_41 rfl (lv_at hl 1 rfl) ?_
          exact zr_i hx hb hr hlocks (by simp only [wB, h_0, h_1, h_2, h_3]; rfl) dX10_which_42
    · have h_1 : (els F cf).all (fun e => clS F (ecF F (17 - 1)).1 (ecF F (17 - 1)).2 e (2000 * 1)) = true := nB_nz (by omega)
      refine lv_iload_n hx hb dX10_which_29 rfl (lv_at hl 1 rfl) ?_
      refine lv_iconst (v := nI 1) hx hb dX10_which_30 (by decide) ?_
      refine lv_iload_n hx hb dX10_which_31 rfl (lv_at hl 0 rfl) ?_
      refine lv_ishl hx hb dX10_which_32 ?_
      rw [show nI 1 <<< (nI 1 &&& 31) = nI 2 by decide]
      refine W.eq (g2 := F0 m 33 ls ([.int (nI (2)), .int (nI (1))])) rfl ?_
      refine lv_ior hx hb dX10_which_33 ?_
      rw [show nI 1 ||| nI 2 = nI 3 by decide]
      refine W.eq (g2 := F0 m 34 ls ([.int (nI (3))])) rfl ?_
      refine lv_istore_n (lv' := [(2, .int (nI (3))), (3, .int (nI (1))), (0, .ref (x)), (1, .int (nI (i)))]) hx hb dX10_which_34 rfl hl (by decide) rfl (fun ls hl => ?_)
      refine lv_iinc (v := nI (2)) (lv' := [(3, .int (nI (2))), (2, .int (nI (3))), (0, .ref (x)), (1, .int (nI (i)))]) hx hb dX10_which_35 hl (k := 1) rfl (nI_add _ _) (by decide) rfl (fun ls hl => ?_)
      refine lv_goto (tgt := 14) hx hb dX10_which_38 (by decide) ?_
      refine lv_iload_n hx hb dX10_which_14 rfl (lv_at hl 0 rfl) ?_
      refine lv_iconst (v := nI 4) hx hb dX10_which_15 (by decide) ?_
      refine zi_icmp_ge (tgt := 41) hx hb dX10_which_16 (by decide) (by omega) (by omega) (fun c_16 => absurd c_16 (by decide)) (fun c_16 => ?_)
      refine lv_aload_n hx hb dX10_which_19 rfl (lv_at hl 2 rfl) ?_
      refine lv_iload_n hx hb dX10_which_20 rfl (lv_at hl 3 rfl) ?_
      refine lv_iload_n hx hb dX10_which_21 rfl (lv_at hl 0 rfl) ?_
      refine zc_V (As := [.int (nI (i)), .int (nI (2))]) (rest := []) ⟨hx, hb, hml, hown, hts⟩ (c_holds l G x tp mt sl fa pl sv fv F pf2 Z i rt ca ms vl lo hi9 cf rs hi 2 (2000 * 2) (hvs 2) (pfs 2) (by decide) (hok 2 (by decide)) (how 2 (by decide))) (cwV 2 hts (zgV wm_X10_101 wv_X10_holds) rfl rfl rfl (by decide +kernel) ⟨Nat.le_of_ble_eq_true rfl, Nat.le_of_ble_eq_true rfl⟩) hK hX rfl ⟨hX, hSl, hFa, hFl, hMt, hMs, hCH, hRt, hRu, hN 2 (by decide)⟩ rfl hl.1 rfl (Nat.le_of_ble_eq_true rfl) dX10_which_22 ⟨Nat.zero_le _, Nat.zero_le _⟩ ?_
      refine lv_iconst (v := nI 1) hx hb dX10_which_25 (by decide) ?_
      refine zi_icmp_ne (tgt := 35) hx hb dX10_which_26 (by decide) (Nat.lt_trans (nB_lt _) (by decide)) (by omega) (fun c_26 => ?_) (fun c_26 => ?_)
      · have h_2 : (els F cf).all (fun e => clS F (ecF F (17 - 1)).1 (ecF F (17 - 1)).2 e (2000 * 2)) = false := nB_z (by have := nB_lt ((els F cf).all (fun e => clS F (ecF F (17 - 1)).1 (ecF F (17 - 1)).2 e (2000 * 2))); omega)
        refine lv_iinc (v := nI (3)) (lv' := [(3, .int (nI (3))), (2, .int (nI (3))), (0, .ref (x)), (1, .int (nI (i)))]) hx hb dX10_which_35 hl (k := 0) rfl (nI_add _ _) (by decide) rfl (fun ls hl => ?_)
        refine lv_goto (tgt := 14) hx hb dX10_which_38 (by decide) ?_
        refine lv_iload_n hx hb dX10_which_14 rfl (lv_at hl 0 rfl) ?_
        refine lv_iconst (v := nI 4) hx hb dX10_which_15 (by decide) ?_
        refine zi_icmp_ge (tgt := 41) hx hb dX10_which_16 (by decide) (by omega) (by omega) (fun c_16 => absurd c_16 (by decide)) (fun c_16 => ?_)
        refine lv_aload_n hx hb dX10_which_19 rfl (lv_at hl 2 rfl) ?_
        refine lv_iload_n hx hb dX10_which_20 rfl (lv_at hl 3 rfl) ?_
        refine lv_iload_n hx hb dX10_which_21 rfl (lv_at hl 0 rfl) ?_
        refine zc_V (As := [.int (nI (i)), .int (nI (3))]) (rest := []) ⟨hx, hb, hml, hown, hts⟩ (c_holds l G x tp mt sl fa pl sv fv F pf2 Z i rt ca ms vl lo hi9 cf rs hi 3 (2000 * 3) (hvs 3) (pfs 3) (by decide) (hok 3 (by decide)) (how 3 (by decide))) (cwV 2 hts (zgV wm_X10_101 wv_X10_holds) rfl rfl rfl (by decide +kernel) ⟨Nat.le_of_ble_eq_true rfl, Nat.le_of_ble_eq_true rfl⟩) hK hX rfl ⟨hX, hSl, hFa, hFl, hMt, hMs, hCH, hRt, hRu, hN 3 (by decide)⟩ rfl hl.1 rfl (Nat.le_of_ble_eq_true rfl) dX10_which_22 ⟨Nat.zero_le _, Nat.zero_le _⟩ ?_
        refine lv_iconst (v := nI 1) hx hb dX10_which_25 (by decide) ?_
        refine zi_icmp_ne (tgt := 35) hx hb dX10_which_26 (by decide) (Nat.lt_trans (nB_lt _) (by decide)) (by omega) (fun c_26 => ?_) (fun c_26 => ?_)
        · have h_3 : (els F cf).all (fun e => clS F (ecF F (17 - 1)).1 (ecF F (17 - 1)).2 e (2000 * 3)) = false := nB_z (by have := nB_lt ((els F cf).all (fun e => clS F (ecF F (17 - 1)).1 (ecF F (17 - 1)).2 e (2000 * 3))); omega)
          refine lv_iinc (v := nI (4)) (lv' := [(3, .int (nI (4))), (2, .int (nI (3))), (0, .ref (x)), (1, .int (nI (i)))]) hx hb dX10_which_35 hl (k := 0) rfl (nI_add _ _) (by decide) rfl (fun ls hl => ?_)
          refine lv_goto (tgt := 14) hx hb dX10_which_38 (by decide) ?_
          refine lv_iload_n hx hb dX10_which_14 rfl (lv_at hl 0 rfl) ?_
          refine lv_iconst (v := nI 4) hx hb dX10_which_15 (by decide) ?_
          refine zi_icmp_ge (tgt := 41) hx hb dX10_which_16 (by decide) (by omega) (by omega) (fun c_16 => ?_) (fun c_16 => absurd c_16 (by decide))
          refine lv_iload_n hx hb dX10_which_41 rfl (lv_at hl 1 rfl) ?_
          exact zr_i hx hb hr hlocks (by simp only [wB, h_0, h_1, h_2, h_3]; rfl) dX10_which_42
        · have h_3 : (els F cf).all (fun e => clS F (ecF F (17 - 1)).1 (ecF F (17 - 1)).2 e (2000 * 3)) = true := nB_nz (by omega)
          refine lv_iload_n hx hb dX10_which_29 rfl (lv_at hl 1 rfl) ?_
          refine lv_iconst (v := nI 1) hx hb dX10_which_30 (by decide) ?_
          refine lv_iload_n hx hb dX10_which_31 rfl (lv_at hl 0 rfl) ?_
          refine lv_ishl hx hb dX10_which_32 ?_
          rw [show nI 1 <<< (nI 3 &&& 31) = nI 8 by decide]
          refine W.eq (g2 := F0 m 33 ls ([.int (nI (8)), .int (nI (3))])) rfl ?_
          refine lv_ior hx hb dX10_which_33 ?_
          rw [show nI 3 ||| nI 8 = nI 11 by decide]
          refine W.eq (g2 := F0 m 34 ls ([.int (nI (11))])) rfl ?_
          refine lv_istore_n (lv' := [(2, .int (nI (11))), (3, .int (nI (3))), (0, .ref (x)), (1, .int (nI (i)))]) hx hb dX10_which_34 rfl hl (by decide) rfl (fun ls hl => ?_)
          refine lv_iinc (v := nI (4)) (lv' := [(3, .int (nI (4))), (2, .int (nI (11))), (0, .ref (x)), (1, .int (nI (i)))]) hx hb dX10_which_35 hl (k := 1) rfl (nI_add _ _) (by decide) rfl (fun ls hl => ?_)
          refine lv_goto (tgt := 14) hx hb dX10_which_38 (by decide) ?_
          refine lv_iload_n hx hb dX10_which_14 rfl (lv_at hl 0 rfl) ?_
          refine lv_iconst (v := nI 4) hx hb dX10_which_15 (by decide) ?_
          refine zi_icmp_ge (tgt := 41) hx hb dX10_which_16 (by decide) (by omega) (by omega) (fun c_16 => ?_) (fun c_16 => absurd c_16 (by decide))
          refine lv_iload_n hx hb dX10_which_41 rfl (lv_at hl 1 rfl) ?_
          exact zr_i hx hb hr hlocks (by simp only [wB, h_0, h_1, h_2, h_3]; rfl) dX10_which_42
      · have h_2 : (els F cf).all (fun e => clS F (ecF F (17 - 1)).1 (ecF F (17 - 1)).2 e (2000 * 2)) = true := nB_nz (by omega)
        refine lv_iload_n hx hb dX10_which_29 rfl (lv_at hl 1 rfl) ?_
        refine lv_iconst (v := nI 1) hx hb dX10_which_30 (by decide) ?_
        refine lv_iload_n hx hb dX10_which_31 rfl (lv_at hl 0 rfl) ?_
        refine lv_ishl hx hb dX10_which_32 ?_
        rw [show nI 1 <<< (nI 2 &&& 31) = nI 4 by decide]
        refine W.eq (g2 := F0 m 33 ls ([.int (nI (4)), .int (nI (3))])) rfl ?_
        refine lv_ior hx hb dX10_which_33 ?_
        rw [show nI 3 ||| nI 4 = nI 7 by decide]
        refine W.eq (g2 := F0 m 34 ls ([.int (nI (7))])) rfl ?_
        refine lv_istore_n (lv' := [(2, .int (nI (7))), (3, .int (nI (2))), (0, .ref (x)), (1, .int (nI (i)))]) hx hb dX10_which_34 rfl hl (by decide) rfl (fun ls hl => ?_)
        refine lv_iinc (v := nI (3)) (lv' := [(3, .int (nI (3))), (2, .int (nI (7))), (0, .ref (x)), (1, .int (nI (i)))]) hx hb dX10_which_35 hl (k := 1) rfl (nI_add _ _) (by decide) rfl (fun ls hl => ?_)
        refine lv_goto (tgt := 14) hx hb dX10_which_38 (by decide) ?_
        refine lv_iload_n hx hb dX10_which_14 rfl (lv_at hl 0 rfl) ?_
        refine lv_iconst (v := nI 4) hx hb dX10_which_15 (by decide) ?_
        refine zi_icmp_ge (tgt := 41) hx hb dX10_which_16 (by decide) (by omega) (by omega) (fun c_16 => absurd c_16 (by decide)) (fun c_16 => ?_)
        refine lv_aload_n hx hb dX10_which_19 rfl (lv_at hl 2 rfl) ?_
        refine lv_iload_n hx hb dX10_which_20 rfl (lv_at hl 3 rfl) ?_
        refine lv_iload_n hx hb dX10_which_21 rfl (lv_at hl 0 rfl) ?_
        refine zc_V (As := [.int (nI (i)), .int (nI (3))]) (rest := []) ⟨hx, hb, hml, hown, hts⟩ (c_holds l G x tp mt sl fa pl sv fv F pf2 Z i rt ca ms vl lo hi9 cf rs hi 3 (2000 * 3) (hvs 3) (pfs 3) (by decide) (hok 3 (by decide)) (how 3 (by decide))) (cwV 2 hts (zgV wm_X10_101 wv_X10_holds) rfl rfl rfl (by decide +kernel) ⟨Nat.le_of_ble_eq_true rfl, Nat.le_of_ble_eq_true rfl⟩) hK hX rfl ⟨hX, hSl, hFa, hFl, hMt, hMs, hCH, hRt, hRu, hN 3 (by decide)⟩ rfl hl.1 rfl (Nat.le_of_ble_eq_true rfl) dX10_which_22 ⟨Nat.zero_le _, Nat.zero_le _⟩ ?_
        refine lv_iconst (v := nI 1) hx hb dX10_which_25 (by decide) ?_
        refine zi_icmp_ne (tgt := 35) hx hb dX10_which_26 (by decide) (Nat.lt_trans (nB_lt _) (by decide)) (by omega) (fun c_26 => ?_) (fun c_26 => ?_)
        · have h_3 : (els F cf).all (fun e => clS F (ecF F (17 - 1)).1 (ecF F (17 - 1)).2 e (2000 * 3)) = false := nB_z (by have := nB_lt ((els F cf).all (fun e => clS F (ecF F (17 - 1)).1 (ecF F (17 - 1)).2 e (2000 * 3))); omega)
          refine lv_iinc (v := nI (4)) (lv' := [(3, .int (nI (4))), (2, .int (nI (7))), (0, .ref (x)), (1, .int (nI (i)))]) hx hb dX10_which_35 hl (k := 0) rfl (nI_add _ _) (by decide) rfl (fun ls hl => ?_)
          refine lv_goto (tgt := 14) hx hb dX10_which_38 (by decide) ?_
          refine lv_iload_n hx hb dX10_which_14 rfl (lv_at hl 0 rfl) ?_
          refine lv_iconst (v := nI 4) hx hb dX10_which_15 (by decide) ?_
          refine zi_icmp_ge (tgt := 41) hx hb dX10_which_16 (by decide) (by omega) (by omega) (fun c_16 => ?_) (fun c_16 => absurd c_16 (by decide))
          refine lv_iload_n hx hb dX10_which_41 rfl (lv_at hl 1 rfl) ?_
          exact zr_i hx hb hr hlocks (by simp only [wB, h_0, h_1, h_2, h_3]; rfl) dX10_which_42
        · have h_3 : (els F cf).all (fun e => clS F (ecF F (17 - 1)).1 (ecF F (17 - 1)).2 e (2000 * 3)) = true := nB_nz (by omega)
          refine lv_iload_n hx hb dX10_which_29 rfl (lv_at hl 1 rfl) ?_
          refine lv_iconst (v := nI 1) hx hb dX10_which_30 (by decide) ?_
          refine lv_iload_n hx hb dX10_which_31 rfl (lv_at hl 0 rfl) ?_
          refine lv_ishl hx hb dX10_which_32 ?_
          rw [show nI 1 <<< (nI 3 &&& 31) = nI 8 by decide]
          refine W.eq (g2 := F0 m 33 ls ([.int (nI (8)), .int (nI (7))])) rfl ?_
          refine lv_ior hx hb dX10_which_33 ?_
          rw [show nI 7 ||| nI 8 = nI 15 by decide]
          refine W.eq (g2 := F0 m 34 ls ([.int (nI (15))])) rfl ?_
          refine lv_istore_n (lv' := [(2, .int (nI (15))), (3, .int (nI (3))), (0, .ref (x)), (1, .int (nI (i)))]) hx hb dX10_which_34 rfl hl (by decide) rfl (fun ls hl => ?_)
          refine lv_iinc (v := nI (4)) (lv' := [(3, .int (nI (4))), (2, .int (nI (15))), (0, .ref (x)), (1, .int (nI (i)))]) hx hb dX10_which_35 hl (k := 1) rfl (nI_add _ _) (by decide) rfl (fun ls hl => ?_)
          refine lv_goto (tgt := 14) hx hb dX10_which_38 (by decide) ?_
          refine lv_iload_n hx hb dX10_which_14 rfl (lv_at hl 0 rfl) ?_
          refine lv_iconst (v := nI 4) hx hb dX10_which_15 (by decide) ?_
          refine zi_icmp_ge (tgt := 41) hx hb dX10_which_16 (by decide) (by omega) (by omega) (fun c_16 => ?_) (fun c_16 => absurd c_16 (by decide))
          refine lv_iload_n hx hb dX10_which_41 rfl (lv_at hl 1 rfl) ?_
          exact zr_i hx hb hr hlocks (by simp only [wB, h_0, h_1, h_2, h_3]; rfl) dX10_which_42
