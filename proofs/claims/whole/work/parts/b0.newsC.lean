set_option maxHeartbeats 4000000 in
set_option maxRecDepth 100000 in
theorem c_cinit (l : Launch) (G : zG) (n0 x : Nat) (hx9 : x < n0) : Met l yX10_init wsX10_init ({ frames := 3, cells := 26, slots := 2144, locals := 66 }) (zPo G [.ref (x)] (fun H => zO G H x 9 [.null, .null, .null, .null, .int (nI 0)] ∧ H.size = n0)) (zX (fun q => q = x ∨ n0 ≤ q) (fun r9 H => r9 = none ∧ ∃ (tp qb mt ms sl fa : Nat) (sv fv : Nat → Nat), n0 ≤ tp ∧ tp < qb ∧ qb < mt ∧ mt < ms ∧ ms < sl ∧ sl < fa ∧ fa < H.size ∧ zO G H x 9 [.ref tp, .ref mt, .ref sl, .ref fa, .int (-1)] ∧ TP G tp qb 0 (fun _ => 0) H ∧ zO G H mt 4 [.ref ms] ∧ zO G H ms 8 (V0 G 0) ∧ zE G 3 H sl 4 (fun j => some (sv j)) ∧ zE G 4 H fa 4 (fun j => some (fv j)) ∧ (∀ j, j < 4 → sl < sv j ∧ sv j < fa ∧ zO G H (sv j) 8 (V0 G 3)) ∧ ∀ j, j < 4 → fa < fv j ∧ ∃ w rt ca, fv j < w ∧ w < rt ∧ rt < ca ∧ ca < H.size ∧ zO G H (fv j) 2 [.ref rt, .ref ca] ∧ zO G H rt 5 (rlF 1 false w none none none none) ∧ zA G H ca 4 (cA4 0 (0, 0, 0, 0, 0)))) (26) (2144) (fun q => q = x ∨ n0 ≤ q) := by
  refine Met.ofW (cc := cX10_init) (maxL := 2) (ret := none) (by decide) rfl ?_
  intro p en s m args below meth c s₁ B hml hv
  obtain ⟨⟨rfl, hP, hK⟩, hAV, hAF⟩ := hv
  have hx := B.exec
  have hb := B.bytes
  have hr := B.returns
  have hts := atoms_spec (ws := wsX10_init) B.pre
  have hz : ∀ w ∈ zW, w.before _ s = true := fun w h => hts w (List.mem_cons_of_mem _ h)
  have hown : s.vm.findClass RX10 = some m.cls := findClass_of_methodNamed B.named
  have hlocks := B.notSynchronized
  obtain ⟨hX, hn0⟩ := id hP
  have hS : va_S (fun q => q = x ∨ n0 ≤ q) s.heap s.heap [] := va_S.rf
  have hl := lv_entry ([.ref (x)]) (n := 2) (Nat.le_of_ble_eq_true rfl)
  rw [lg_entry_eq]
  generalize (lg_sl ([.ref (x)]) ++ List.replicate (2 - (lg_sl ([.ref (x)])).length) Slot.unset).toArray = ls at hl ⊢
  have hl : lv_has ls 2 [(0, .ref (x))] := hl
  refine lv_aload_n hx hb dX10_init_0 rfl (lv_at hl 0 rfl) ?_
  refine W.objInit hx hb hown (hz _ wm_X10_1) (hz _ wOn) (hz _ wOc) rfl (hl.1.trans hml.symm) rfl dX10_init_1 (by show 1 ≤ _; exact Nat.le_of_ble_eq_true rfl) (by show _ ≤ _; exact Nat.le_of_ble_eq_true rfl) ?_
  refine W.eq (g2 := F0 m 4 ls ([])) rfl ?_
  refine lv_aload_n hx hb dX10_init_4 rfl (lv_at hl 0 rfl) ?_
  refine zx_new (C := RX8) (T := TX8) (N := 2) (ci := 7) (fs := [.null, .int (nI (0))]) hx hb hz wo_X8 tyX8 tyX8_ok hown (hz _ wl_X10_7) (hz _ wa_X8) (hz _ wi_X8) hK rfl df_X8 (by show 0 + 1 ≤ 26; omega) (by show 0 + 2 ≤ 2144; omega) hS dX10_init_5 (fun tp H he_tp hz9 hO_tp hk9 hS => ?_)
  replace hX := hX.keep hk9 (by first | exact id | exact rfl | omega | (dsimp only; omega))
  clear hk9
  refine lv_dup hx hb dX10_init_8 rfl ?_
  refine zx_IN (As := []) (rest := [.ref (tp), .ref (x)]) (b := tp) ⟨hx, hb, hml, hown, hts⟩ (c_tinit l G H.size tp (by omega)) ⟨va_cnB 0 hts (zgN wc_X8_init) rfl rfl rfl (hK.2.1 _ wm_X10_9) (hz _ wi_X8) (by decide +kernel) ⟨Nat.le_of_ble_eq_true rfl, Nat.le_of_ble_eq_true rfl⟩, rfl, hz _ wn_X8_init⟩ hK ⟨hO_tp, rfl⟩ rfl hl.1 rfl (Nat.le_of_ble_eq_true rfl) dX10_init_9 ⟨by show 0 + 1 + 1 ≤ 26; omega, by show 0 + 2 + 2000 ≤ 2144; omega⟩ hS (by intro q hq; first | omega | (dsimp only at hq ⊢; omega)) (fun r9 H locs hPo hz9 hk9 hS => ?_)
  replace hX := hX.keep hk9 (by first | exact id | exact rfl | omega | (dsimp only; omega))
  clear hk9
  obtain ⟨rfl, qb, hq1, hq2, hT⟩ := hPo
  refine W.eq (g2 := F0 m 12 ls ([.ref (tp), .ref (x)])) rfl ?_
  refine zx_put (C := RX10) (T := TX10) (N := 5) (v := .ref (tp)) hx hb hz wo_X10 tyX10 tyX10_ok nmX10 hown hK hX rfl 0 (by decide) (hz _ wf_X10_10) (fun _ h9 => h9) (Or.inr ⟨rfl, (name_of_methodNamed B.named B.method).1, rfl⟩) rfl rfl (Nat.le_of_ble_eq_true rfl) (by first | exact rfl | omega | (dsimp only; omega)) hS dX10_init_12 (fun H locs hz9 hX hk9 hS => ?_)
  have hX : zO G H (x) 9 [.ref (tp), .null, .null, .null, .int (nI (0))] := hX
  replace hT := hT.keep hk9 ⟨by first | exact id | exact rfl | omega | (dsimp only; omega), by first | exact id | exact rfl | omega | (dsimp only; omega)⟩
  clear hk9
  refine lv_aload_n hx hb dX10_init_15 rfl (lv_at hl 0 rfl) ?_
  refine zx_new (C := RX4) (T := TX4) (N := 1) (ci := 4) (fs := [.null]) hx hb hz wo_X4 tyX4 tyX4_ok hown (hz _ wl_X10_16) (hz _ wa_X4) (hz _ wi_X4) hK rfl df_X4 (by show 0 + 1 + 1 + 1 ≤ 26; omega) (by show 0 + 2 + 2000 + 1 ≤ 2144; omega) hS dX10_init_16 (fun mt H he_mt hz9 hO_mt hk9 hS => ?_)
  replace hX := hX.keep hk9 (by first | exact id | exact rfl | omega | (dsimp only; omega))
  replace hT := hT.keep hk9 ⟨by first | exact id | exact rfl | omega | (dsimp only; omega), by first | exact id | exact rfl | omega | (dsimp only; omega)⟩
  clear hk9
  refine lv_dup hx hb dX10_init_19 rfl ?_
  refine zx_IN (As := []) (rest := [.ref (mt), .ref (x)]) (b := mt) ⟨hx, hb, hml, hown, hts⟩ (c_minit l G H.size mt (by omega)) ⟨va_cnB 0 hts (zgN wc_X4_init) rfl rfl rfl (hK.2.1 _ wm_X10_18) (hz _ wi_X4) (by decide +kernel) ⟨Nat.le_of_ble_eq_true rfl, Nat.le_of_ble_eq_true rfl⟩, rfl, hz _ wn_X4_init⟩ hK ⟨hO_mt, rfl⟩ rfl hl.1 rfl (Nat.le_of_ble_eq_true rfl) dX10_init_20 ⟨by show 0 + 1 + 1 + 1 + 1 ≤ 26; omega, by show 0 + 2 + 2000 + 1 + 9 ≤ 2144; omega⟩ hS (by intro q hq; first | omega | (dsimp only at hq ⊢; omega)) (fun r9 H locs hPo hz9 hk9 hS => ?_)
  replace hX := hX.keep hk9 (by first | exact id | exact rfl | omega | (dsimp only; omega))
  replace hT := hT.keep hk9 ⟨by first | exact id | exact rfl | omega | (dsimp only; omega), by first | exact id | exact rfl | omega | (dsimp only; omega)⟩
  clear hk9
  obtain ⟨rfl, ms, hm1, hm2, hO_mt, hO_ms⟩ := hPo
  refine W.eq (g2 := F0 m 23 ls ([.ref (mt), .ref (x)])) rfl ?_
  refine zx_put (C := RX10) (T := TX10) (N := 5) (v := .ref (mt)) hx hb hz wo_X10 tyX10 tyX10_ok nmX10 hown hK hX rfl 1 (by decide) (hz _ wf_X10_19) (fun _ h9 => h9) (Or.inr ⟨rfl, (name_of_methodNamed B.named B.method).1, rfl⟩) rfl rfl (Nat.le_of_ble_eq_true rfl) (by first | exact rfl | omega | (dsimp only; omega)) hS dX10_init_23 (fun H locs hz9 hX hk9 hS => ?_)
  have hX : zO G H (x) 9 [.ref (tp), .ref (mt), .null, .null, .int (nI (0))] := hX
  replace hT := hT.keep hk9 ⟨by first | exact id | exact rfl | omega | (dsimp only; omega), by first | exact id | exact rfl | omega | (dsimp only; omega)⟩
  replace hO_mt := hO_mt.keep hk9 (by first | exact id | exact rfl | omega | (dsimp only; omega))
  replace hO_ms := hO_ms.keep hk9 (by first | exact id | exact rfl | omega | (dsimp only; omega))
  clear hk9
  refine lv_aload_n hx hb dX10_init_26 rfl (lv_at hl 0 rfl) ?_
  refine lv_iconst (v := nI 4) hx hb dX10_init_27 (by decide) ?_
  refine zx_newE (t := 3) hx hb (Or.inl rfl) hown (hz _ wl_X10_23) hAV hK (by omega) (by show 0 + 1 + 1 + 1 + 1 + 1 ≤ 26; omega) (by show 0 + 2 + 2000 + 1 + 9 + 4 ≤ 2144; omega) hS dX10_init_28 (fun sl H he_sl hz9 hA_sl hk9 hS => ?_)
  replace hX := hX.keep hk9 (by first | exact id | exact rfl | omega | (dsimp only; omega))
  replace hT := hT.keep hk9 ⟨by first | exact id | exact rfl | omega | (dsimp only; omega), by first | exact id | exact rfl | omega | (dsimp only; omega)⟩
  replace hO_mt := hO_mt.keep hk9 (by first | exact id | exact rfl | omega | (dsimp only; omega))
  replace hO_ms := hO_ms.keep hk9 (by first | exact id | exact rfl | omega | (dsimp only; omega))
  clear hk9
  refine zx_put (C := RX10) (T := TX10) (N := 5) (v := .ref (sl)) hx hb hz wo_X10 tyX10 tyX10_ok nmX10 hown hK hX rfl 2 (by decide) (hz _ wf_X10_25) (fun _ h9 => h9) (Or.inr ⟨rfl, (name_of_methodNamed B.named B.method).1, rfl⟩) rfl rfl (Nat.le_of_ble_eq_true rfl) (by first | exact rfl | omega | (dsimp only; omega)) hS dX10_init_31 (fun H locs hz9 hX hk9 hS => ?_)
  have hX : zO G H (x) 9 [.ref (tp), .ref (mt), .ref (sl), .null, .int (nI (0))] := hX
  replace hT := hT.keep hk9 ⟨by first | exact id | exact rfl | omega | (dsimp only; omega), by first | exact id | exact rfl | omega | (dsimp only; omega)⟩
  replace hO_mt := hO_mt.keep hk9 (by first | exact id | exact rfl | omega | (dsimp only; omega))
  replace hO_ms := hO_ms.keep hk9 (by first | exact id | exact rfl | omega | (dsimp only; omega))
  replace hA_sl := hA_sl.keep hk9 (by first | exact id | exact rfl | omega | (dsimp only; omega))
  clear hk9
  refine lv_iconst (v := nI 0) hx hb dX10_init_34 (by decide) ?_
  refine lv_istore_n (lv' := [(1, .int (nI (0))), (0, .ref (x))]) hx hb dX10_init_35 rfl hl (by decide) rfl (fun ls hl => ?_)
  refine lv_iload_n hx hb dX10_init_36 rfl (lv_at hl 0 rfl) ?_
  refine lv_iconst (v := nI 4) hx hb dX10_init_37 (by decide) ?_
  refine zi_icmp_ge (tgt := 64) hx hb dX10_init_38 (by decide) (by omega) (by omega) (fun c_38 => absurd c_38 (by decide)) (fun c_38 => ?_)
  refine lv_aload_n hx hb dX10_init_41 rfl (lv_at hl 1 rfl) ?_
  refine zi_get (C := RX10) (T := TX10) (N := 5) (v := .ref (sl)) hx hb hz wo_X10 hown hK hX rfl 2 (by decide) (hz _ wf_X10_25) (fun _ h9 => h9) rfl dX10_init_42 ?_
  refine lv_iload_n hx hb dX10_init_45 rfl (lv_at hl 0 rfl) ?_
  refine zx_new (C := RX9) (T := TX9) (N := 9) (ci := 8) (fs := [.int (nI (0)), .int (nI (0)), .null, .null, .long (0), .null, .null, .null, .int (nI (0))]) hx hb hz wo_X9 tyX9 tyX9_ok hown (hz _ wl_X10_23) (hz _ wa_X9) (hz _ wi_X9) hK rfl df_X9 (by show 0 + 1 + 1 + 1 + 1 + 1 + 1 ≤ 26; omega) (by show 0 + 2 + 2000 + 1 + 9 + 4 + 9 ≤ 2144; omega) hS dX10_init_46 (fun v0 H he_v0 hz9 hO_v0 hk9 hS => ?_)
  replace hX := hX.keep hk9 (by first | exact id | exact rfl | omega | (dsimp only; omega))
  replace hT := hT.keep hk9 ⟨by first | exact id | exact rfl | omega | (dsimp only; omega), by first | exact id | exact rfl | omega | (dsimp only; omega)⟩
  replace hO_mt := hO_mt.keep hk9 (by first | exact id | exact rfl | omega | (dsimp only; omega))
  replace hO_ms := hO_ms.keep hk9 (by first | exact id | exact rfl | omega | (dsimp only; omega))
  replace hA_sl := hA_sl.keep hk9 (by first | exact id | exact rfl | omega | (dsimp only; omega))
  clear hk9
  refine lv_dup hx hb dX10_init_49 rfl ?_
  refine lv_iconst (v := nI 3) hx hb dX10_init_50 (by decide) ?_
  refine lv_iconst (v := (-1)) hx hb dX10_init_51 (by decide) ?_
  refine va_ldcS hx hb hown (hK.2.2.1 ("FilterReader", 31, "") (by decide)) dX10_init_52 ?_
  refine zx_IN (As := [.int (nI (3)), .int ((-1)), .ref (G.2.2 "")]) (rest := [.ref (v0), .int (nI (0)), .ref (sl)]) (b := v0) ⟨hx, hb, hml, hown, hts⟩ (c_vinit l G v0 3 (G.2.2 "") (-1)) ⟨va_cnB 3 hts (zgN wc_X9_init) rfl rfl rfl (hK.2.1 _ wm_X10_33) (hz _ wi_X9) (by decide +kernel) ⟨Nat.le_of_ble_eq_true rfl, Nat.le_of_ble_eq_true rfl⟩, rfl, hz _ wn_X9_init⟩ hK hO_v0 rfl hl.1 rfl (Nat.le_of_ble_eq_true rfl) dX10_init_54 ⟨by show 0 + 1 + 1 + 1 + 1 + 1 + 1 + 0 ≤ 26; omega, by show 0 + 2 + 2000 + 1 + 9 + 4 + 9 + 0 ≤ 2144; omega⟩ hS (by intro q hq; first | omega | (dsimp only at hq ⊢; omega)) (fun r9 H locs hPo hz9 hk9 hS => ?_)
  replace hX := hX.keep hk9 (by first | exact id | exact rfl | omega | (dsimp only; omega))
  replace hT := hT.keep hk9 ⟨by first | exact id | exact rfl | omega | (dsimp only; omega), by first | exact id | exact rfl | omega | (dsimp only; omega)⟩
  replace hO_mt := hO_mt.keep hk9 (by first | exact id | exact rfl | omega | (dsimp only; omega))
  replace hO_ms := hO_ms.keep hk9 (by first | exact id | exact rfl | omega | (dsimp only; omega))
  replace hA_sl := hA_sl.keep hk9 (by first | exact id | exact rfl | omega | (dsimp only; omega))
  clear hk9
  obtain ⟨rfl, hO_v0⟩ := hPo
  refine W.eq (g2 := F0 m 57 ls ([.ref (v0), .int (nI (0)), .ref (sl)])) rfl ?_
  refine zx_astE (i := 0) hx hb hK (Or.inl rfl) hA_sl hO_v0 (by omega) (by omega) (by first | exact rfl | omega | (dsimp only; omega)) hS dX10_init_57 (fun H locs hz9 hA_sl hk9 hS => ?_)
  replace hX := hX.keep hk9 (by first | exact id | exact rfl | omega | (dsimp only; omega))
  replace hT := hT.keep hk9 ⟨by first | exact id | exact rfl | omega | (dsimp only; omega), by first | exact id | exact rfl | omega | (dsimp only; omega)⟩
  replace hO_mt := hO_mt.keep hk9 (by first | exact id | exact rfl | omega | (dsimp only; omega))
  replace hO_ms := hO_ms.keep hk9 (by first | exact id | exact rfl | omega | (dsimp only; omega))
  replace hO_v0 := hO_v0.keep hk9 (by first | exact id | exact rfl | omega | (dsimp only; omega))
  clear hk9
  refine lv_iinc (v := nI (1)) (lv' := [(1, .int (nI (1))), (0, .ref (x))]) hx hb dX10_init_58 hl (k := 0) rfl (nI_add _ _) (by decide) rfl (fun ls hl => ?_)
  refine lv_goto (tgt := 36) hx hb dX10_init_61 (by decide) ?_
  refine lv_iload_n hx hb dX10_init_36 rfl (lv_at hl 0 rfl) ?_
  refine lv_iconst (v := nI 4) hx hb dX10_init_37 (by decide) ?_
  refine zi_icmp_ge (tgt := 64) hx hb dX10_init_38 (by decide) (by omega) (by omega) (fun c_38 => absurd c_38 (by decide)) (fun c_38 => ?_)
  refine lv_aload_n hx hb dX10_init_41 rfl (lv_at hl 1 rfl) ?_
  refine zi_get (C := RX10) (T := TX10) (N := 5) (v := .ref (sl)) hx hb hz wo_X10 hown hK hX rfl 2 (by decide) (hz _ wf_X10_25) (fun _ h9 => h9) rfl dX10_init_42 ?_
  refine lv_iload_n hx hb dX10_init_45 rfl (lv_at hl 0 rfl) ?_
  refine zx_new (C := RX9) (T := TX9) (N := 9) (ci := 8) (fs := [.int (nI (0)), .int (nI (0)), .null, .null, .long (0), .null, .null, .null, .int (nI (0))]) hx hb hz wo_X9 tyX9 tyX9_ok hown (hz _ wl_X10_23) (hz _ wa_X9) (hz _ wi_X9) hK rfl df_X9 (by show 0 + 1 + 1 + 1 + 1 + 1 + 1 + 0 + 1 ≤ 26; omega) (by show 0 + 2 + 2000 + 1 + 9 + 4 + 9 + 0 + 9 ≤ 2144; omega) hS dX10_init_46 (fun v1 H he_v1 hz9 hO_v1 hk9 hS => ?_)
  replace hX := hX.keep hk9 (by first | exact id | exact rfl | omega | (dsimp only; omega))
  replace hT := hT.keep hk9 ⟨by first | exact id | exact rfl | omega | (dsimp only; omega), by first | exact id | exact rfl | omega | (dsimp only; omega)⟩
  replace hO_mt := hO_mt.keep hk9 (by first | exact id | exact rfl | omega | (dsimp only; omega))
  replace hO_ms := hO_ms.keep hk9 (by first | exact id | exact rfl | omega | (dsimp only; omega))
  replace hA_sl := hA_sl.keep hk9 (by first | exact id | exact rfl | omega | (dsimp only; omega))
  replace hO_v0 := hO_v0.keep hk9 (by first | exact id | exact rfl | omega | (dsimp only; omega))
  clear hk9
  refine lv_dup hx hb dX10_init_49 rfl ?_
  refine lv_iconst (v := nI 3) hx hb dX10_init_50 (by decide) ?_
  refine lv_iconst (v := (-1)) hx hb dX10_init_51 (by decide) ?_
  refine va_ldcS hx hb hown (hK.2.2.1 ("FilterReader", 31, "") (by decide)) dX10_init_52 ?_
  refine zx_IN (As := [.int (nI (3)), .int ((-1)), .ref (G.2.2 "")]) (rest := [.ref (v1), .int (nI (1)), .ref (sl)]) (b := v1) ⟨hx, hb, hml, hown, hts⟩ (c_vinit l G v1 3 (G.2.2 "") (-1)) ⟨va_cnB 3 hts (zgN wc_X9_init) rfl rfl rfl (hK.2.1 _ wm_X10_33) (hz _ wi_X9) (by decide +kernel) ⟨Nat.le_of_ble_eq_true rfl, Nat.le_of_ble_eq_true rfl⟩, rfl, hz _ wn_X9_init⟩ hK hO_v1 rfl hl.1 rfl (Nat.le_of_ble_eq_true rfl) dX10_init_54 ⟨by show 0 + 1 + 1 + 1 + 1 + 1 + 1 + 0 + 1 + 0 ≤ 26; omega, by show 0 + 2 + 2000 + 1 + 9 + 4 + 9 + 0 + 9 + 0 ≤ 2144; omega⟩ hS (by intro q hq; first | omega | (dsimp only at hq ⊢; omega)) (fun r9 H locs hPo hz9 hk9 hS => ?_)
  replace hX := hX.keep hk9 (by first | exact id | exact rfl | omega | (dsimp only; omega))
  replace hT := hT.keep hk9 ⟨by first | exact id | exact rfl | omega | (dsimp only; omega), by first | exact id | exact rfl | omega | (dsimp only; omega)⟩
  replace hO_mt := hO_mt.keep hk9 (by first | exact id | exact rfl | omega | (dsimp only; omega))
  replace hO_ms := hO_ms.keep hk9 (by first | exact id | exact rfl | omega | (dsimp only; omega))
  replace hA_sl := hA_sl.keep hk9 (by first | exact id | exact rfl | omega | (dsimp only; omega))
  replace hO_v0 := hO_v0.keep hk9 (by first | exact id | exact rfl | omega | (dsimp only; omega))
  clear hk9
  obtain ⟨rfl, hO_v1⟩ := hPo
  refine W.eq (g2 := F0 m 57 ls ([.ref (v1), .int (nI (1)), .ref (sl)])) rfl ?_
  refine zx_astE (i := 1) hx hb hK (Or.inl rfl) hA_sl hO_v1 (by omega) (by omega) (by first | exact rfl | omega | (dsimp only; omega)) hS dX10_init_57 (fun H locs hz9 hA_sl hk9 hS => ?_)
  replace hX := hX.keep hk9 (by first | exact id | exact rfl | omega | (dsimp only; omega))
  replace hT := hT.keep hk9 ⟨by first | exact id | exact rfl | omega | (dsimp only; omega), by first | exact id | exact rfl | omega | (dsimp only; omega)⟩
  replace hO_mt := hO_mt.keep hk9 (by first | exact id | exact rfl | omega | (dsimp only; omega))
  replace hO_ms := hO_ms.keep hk9 (by first | exact id | exact rfl | omega | (dsimp only; omega))
  replace hO_v0 := hO_v0.keep hk9 (by first | exact id | exact rfl | omega | (dsimp only; omega))
  replace hO_v1 := hO_v1.keep hk9 (by first | exact id | exact rfl | omega | (dsimp only; omega))
  clear hk9
  refine lv_iinc (v := nI (2)) (lv' := [(1, .int (nI (2))), (0, .ref (x))]) hx hb dX10_init_58 hl (k := 0) rfl (nI_add _ _) (by decide) rfl (fun ls hl => ?_)
  refine lv_goto (tgt := 36) hx hb dX10_init_61 (by decide) ?_
  refine lv_iload_n hx hb dX10_init_36 rfl (lv_at hl 0 rfl) ?_
  refine lv_iconst (v := nI 4) hx hb dX10_init_37 (by decide) ?_
  refine zi_icmp_ge (tgt := 64) hx hb dX10_init_38 (by decide) (by omega) (by omega) (fun c_38 => absurd c_38 (by decide)) (fun c_38 => ?_)
  refine lv_aload_n hx hb dX10_init_41 rfl (lv_at hl 1 rfl) ?_
  refine zi_get (C := RX10) (T := TX10) (N := 5) (v := .ref (sl)) hx hb hz wo_X10 hown hK hX rfl 2 (by decide) (hz _ wf_X10_25) (fun _ h9 => h9) rfl dX10_init_42 ?_
  refine lv_iload_n hx hb dX10_init_45 rfl (lv_at hl 0 rfl) ?_
  refine zx_new (C := RX9) (T := TX9) (N := 9) (ci := 8) (fs := [.int (nI (0)), .int (nI (0)), .null, .null, .long (0), .null, .null, .null, .int (nI (0))]) hx hb hz wo_X9 tyX9 tyX9_ok hown (hz _ wl_X10_23) (hz _ wa_X9) (hz _ wi_X9) hK rfl df_X9 (by show 0 + 1 + 1 + 1 + 1 + 1 + 1 + 0 + 1 + 0 + 1 ≤ 26; omega) (by show 0 + 2 + 2000 + 1 + 9 + 4 + 9 + 0 + 9 + 0 + 9 ≤ 2144; omega) hS dX10_init_46 (fun v2 H he_v2 hz9 hO_v2 hk9 hS => ?_)
  replace hX := hX.keep hk9 (by first | exact id | exact rfl | omega | (dsimp only; omega))
  replace hT := hT.keep hk9 ⟨by first | exact id | exact rfl | omega | (dsimp only; omega), by first | exact id | exact rfl | omega | (dsimp only; omega)⟩
  replace hO_mt := hO_mt.keep hk9 (by first | exact id | exact rfl | omega | (dsimp only; omega))
  replace hO_ms := hO_ms.keep hk9 (by first | exact id | exact rfl | omega | (dsimp only; omega))
  replace hA_sl := hA_sl.keep hk9 (by first | exact id | exact rfl | omega | (dsimp only; omega))
  replace hO_v0 := hO_v0.keep hk9 (by first | exact id | exact rfl | omega | (dsimp only; omega))
  replace hO_v1 := hO_v1.keep hk9 (by first | exact id | exact rfl | omega | (dsimp only; omega))
  clear hk9
  refine lv_dup hx hb dX10_init_49 rfl ?_
  refine lv_iconst (v := nI 3) hx hb dX10_init_50 (by decide) ?_
  refine lv_iconst (v := (-1)) hx hb dX10_init_51 (by decide) ?_
  refine va_ldcS hx hb hown (hK.2.2.1 ("FilterReader", 31, "") (by decide)) dX10_init_52 ?_
  refine zx_IN (As := [.int (nI (3)), .int ((-1)), .ref (G.2.2 "")]) (rest := [.ref (v2), .int (nI (2)), .ref (sl)]) (b := v2) ⟨hx, hb, hml, hown, hts⟩ (c_vinit l G v2 3 (G.2.2 "") (-1)) ⟨va_cnB 3 hts (zgN wc_X9_init) rfl rfl rfl (hK.2.1 _ wm_X10_33) (hz _ wi_X9) (by decide +kernel) ⟨Nat.le_of_ble_eq_true rfl, Nat.le_of_ble_eq_true rfl⟩, rfl, hz _ wn_X9_init⟩ hK hO_v2 rfl hl.1 rfl (Nat.le_of_ble_eq_true rfl) dX10_init_54 ⟨by show 0 + 1 + 1 + 1 + 1 + 1 + 1 + 0 + 1 + 0 + 1 + 0 ≤ 26; omega, by show 0 + 2 + 2000 + 1 + 9 + 4 + 9 + 0 + 9 + 0 + 9 + 0 ≤ 2144; omega⟩ hS (by intro q hq; first | omega | (dsimp only at hq ⊢; omega)) (fun r9 H locs hPo hz9 hk9 hS => ?_)
  replace hX := hX.keep hk9 (by first | exact id | exact rfl | omega | (dsimp only; omega))
  replace hT := hT.keep hk9 ⟨by first | exact id | exact rfl | omega | (dsimp only; omega), by first | exact id | exact rfl | omega | (dsimp only; omega)⟩
  replace hO_mt := hO_mt.keep hk9 (by first | exact id | exact rfl | omega | (dsimp only; omega))
  replace hO_ms := hO_ms.keep hk9 (by first | exact id | exact rfl | omega | (dsimp only; omega))
  replace hA_sl := hA_sl.keep hk9 (by first | exact id | exact rfl | omega | (dsimp only; omega))
  replace hO_v0 := hO_v0.keep hk9 (by first | exact id | exact rfl | omega | (dsimp only; omega))
  replace hO_v1 := hO_v1.keep hk9 (by first | exact id | exact rfl | omega | (dsimp only; omega))
  clear hk9
  obtain ⟨rfl, hO_v2⟩ := hPo
  refine W.eq (g2 := F0 m 57 ls ([.ref (v2), .int (nI (2)), .ref (sl)])) rfl ?_
  refine zx_astE (i := 2) hx hb hK (Or.inl rfl) hA_sl hO_v2 (by omega) (by omega) (by first | exact rfl | omega | (dsimp only; omega)) hS dX10_init_57 (fun H locs hz9 hA_sl hk9 hS => ?_)
  replace hX := hX.keep hk9 (by first | exact id | exact rfl | omega | (dsimp only; omega))
  replace hT := hT.keep hk9 ⟨by first | exact id | exact rfl | omega | (dsimp only; omega), by first | exact id | exact rfl | omega | (dsimp only; omega)⟩
  replace hO_mt := hO_mt.keep hk9 (by first | exact id | exact rfl | omega | (dsimp only; omega))
  replace hO_ms := hO_ms.keep hk9 (by first | exact id | exact rfl | omega | (dsimp only; omega))
  replace hO_v0 := hO_v0.keep hk9 (by first | exact id | exact rfl | omega | (dsimp only; omega))
  replace hO_v1 := hO_v1.keep hk9 (by first | exact id | exact rfl | omega | (dsimp only; omega))
  replace hO_v2 := hO_v2.keep hk9 (by first | exact id | exact rfl | omega | (dsimp only; omega))
  clear hk9
  refine lv_iinc (v := nI (3)) (lv' := [(1, .int (nI (3))), (0, .ref (x))]) hx hb dX10_init_58 hl (k := 0) rfl (nI_add _ _) (by decide) rfl (fun ls hl => ?_)
  refine lv_goto (tgt := 36) hx hb dX10_init_61 (by decide) ?_
  refine lv_iload_n hx hb dX10_init_36 rfl (lv_at hl 0 rfl) ?_
  refine lv_iconst (v := nI 4) hx hb dX10_init_37 (by decide) ?_
  refine zi_icmp_ge (tgt := 64) hx hb dX10_init_38 (by decide) (by omega) (by omega) (fun c_38 => absurd c_38 (by decide)) (fun c_38 => ?_)
  refine lv_aload_n hx hb dX10_init_41 rfl (lv_at hl 1 rfl) ?_
  refine zi_get (C := RX10) (T := TX10) (N := 5) (v := .ref (sl)) hx hb hz wo_X10 hown hK hX rfl 2 (by decide) (hz _ wf_X10_25) (fun _ h9 => h9) rfl dX10_init_42 ?_
  refine lv_iload_n hx hb dX10_init_45 rfl (lv_at hl 0 rfl) ?_
  refine zx_new (C := RX9) (T := TX9) (N := 9) (ci := 8) (fs := [.int (nI (0)), .int (nI (0)), .null, .null, .long (0), .null, .null, .null, .int (nI (0))]) hx hb hz wo_X9 tyX9 tyX9_ok hown (hz _ wl_X10_23) (hz _ wa_X9) (hz _ wi_X9) hK rfl df_X9 (by show 0 + 1 + 1 + 1 + 1 + 1 + 1 + 0 + 1 + 0 + 1 + 0 + 1 ≤ 26; omega) (by show 0 + 2 + 2000 + 1 + 9 + 4 + 9 + 0 + 9 + 0 + 9 + 0 + 9 ≤ 2144; omega) hS dX10_init_46 (fun v3 H he_v3 hz9 hO_v3 hk9 hS => ?_)
  replace hX := hX.keep hk9 (by first | exact id | exact rfl | omega | (dsimp only; omega))
  replace hT := hT.keep hk9 ⟨by first | exact id | exact rfl | omega | (dsimp only; omega), by first | exact id | exact rfl | omega | (dsimp only; omega)⟩
  replace hO_mt := hO_mt.keep hk9 (by first | exact id | exact rfl | omega | (dsimp only; omega))
  replace hO_ms := hO_ms.keep hk9 (by first | exact id | exact rfl | omega | (dsimp only; omega))
  replace hA_sl := hA_sl.keep hk9 (by first | exact id | exact rfl | omega | (dsimp only; omega))
  replace hO_v0 := hO_v0.keep hk9 (by first | exact id | exact rfl | omega | (dsimp only; omega))
  replace hO_v1 := hO_v1.keep hk9 (by first | exact id | exact rfl | omega | (dsimp only; omega))
  replace hO_v2 := hO_v2.keep hk9 (by first | exact id | exact rfl | omega | (dsimp only; omega))
  clear hk9
  refine lv_dup hx hb dX10_init_49 rfl ?_
  refine lv_iconst (v := nI 3) hx hb dX10_init_50 (by decide) ?_
  refine lv_iconst (v := (-1)) hx hb dX10_init_51 (by decide) ?_
  refine va_ldcS hx hb hown (hK.2.2.1 ("FilterReader", 31, "") (by decide)) dX10_init_52 ?_
  refine zx_IN (As := [.int (nI (3)), .int ((-1)), .ref (G.2.2 "")]) (rest := [.ref (v3), .int (nI (3)), .ref (sl)]) (b := v3) ⟨hx, hb, hml, hown, hts⟩ (c_vinit l G v3 3 (G.2.2 "") (-1)) ⟨va_cnB 3 hts (zgN wc_X9_init) rfl rfl rfl (hK.2.1 _ wm_X10_33) (hz _ wi_X9) (by decide +kernel) ⟨Nat.le_of_ble_eq_true rfl, Nat.le_of_ble_eq_true rfl⟩, rfl, hz _ wn_X9_init⟩ hK hO_v3 rfl hl.1 rfl (Nat.le_of_ble_eq_true rfl) dX10_init_54 ⟨by show 0 + 1 + 1 + 1 + 1 + 1 + 1 + 0 + 1 + 0 + 1 + 0 + 1 + 0 ≤ 26; omega, by show 0 + 2 + 2000 + 1 + 9 + 4 + 9 + 0 + 9 + 0 + 9 + 0 + 9 + 0 ≤ 2144; omega⟩ hS (by intro q hq; first | omega | (dsimp only at hq ⊢; omega)) (fun r9 H locs hPo hz9 hk9 hS => ?_)
  replace hX := hX.keep hk9 (by first | exact id | exact rfl | omega | (dsimp only; omega))
  replace hT := hT.keep hk9 ⟨by first | exact id | exact rfl | omega | (dsimp only; omega), by first | exact id | exact rfl | omega | (dsimp only; omega)⟩
  replace hO_mt := hO_mt.keep hk9 (by first | exact id | exact rfl | omega | (dsimp only; omega))
  replace hO_ms := hO_ms.keep hk9 (by first | exact id | exact rfl | omega | (dsimp only; omega))
  replace hA_sl := hA_sl.keep hk9 (by first | exact id | exact rfl | omega | (dsimp only; omega))
  replace hO_v0 := hO_v0.keep hk9 (by first | exact id | exact rfl | omega | (dsimp only; omega))
  replace hO_v1 := hO_v1.keep hk9 (by first | exact id | exact rfl | omega | (dsimp only; omega))
  replace hO_v2 := hO_v2.keep hk9 (by first | exact id | exact rfl | omega | (dsimp only; omega))
  clear hk9
  obtain ⟨rfl, hO_v3⟩ := hPo
  refine W.eq (g2 := F0 m 57 ls ([.ref (v3), .int (nI (3)), .ref (sl)])) rfl ?_
  refine zx_astE (i := 3) hx hb hK (Or.inl rfl) hA_sl hO_v3 (by omega) (by omega) (by first | exact rfl | omega | (dsimp only; omega)) hS dX10_init_57 (fun H locs hz9 hA_sl hk9 hS => ?_)
  replace hX := hX.keep hk9 (by first | exact id | exact rfl | omega | (dsimp only; omega))
  replace hT := hT.keep hk9 ⟨by first | exact id | exact rfl | omega | (dsimp only; omega), by first | exact id | exact rfl | omega | (dsimp only; omega)⟩
  replace hO_mt := hO_mt.keep hk9 (by first | exact id | exact rfl | omega | (dsimp only; omega))
  replace hO_ms := hO_ms.keep hk9 (by first | exact id | exact rfl | omega | (dsimp only; omega))
  replace hO_v0 := hO_v0.keep hk9 (by first | exact id | exact rfl | omega | (dsimp only; omega))
  replace hO_v1 := hO_v1.keep hk9 (by first | exact id | exact rfl | omega | (dsimp only; omega))
  replace hO_v2 := hO_v2.keep hk9 (by first | exact id | exact rfl | omega | (dsimp only; omega))
  replace hO_v3 := hO_v3.keep hk9 (by first | exact id | exact rfl | omega | (dsimp only; omega))
  clear hk9
  refine lv_iinc (v := nI (4)) (lv' := [(1, .int (nI (4))), (0, .ref (x))]) hx hb dX10_init_58 hl (k := 0) rfl (nI_add _ _) (by decide) rfl (fun ls hl => ?_)
  refine lv_goto (tgt := 36) hx hb dX10_init_61 (by decide) ?_
  refine lv_iload_n hx hb dX10_init_36 rfl (lv_at hl 0 rfl) ?_
  refine lv_iconst (v := nI 4) hx hb dX10_init_37 (by decide) ?_
  refine zi_icmp_ge (tgt := 64) hx hb dX10_init_38 (by decide) (by omega) (by omega) (fun c_38 => ?_) (fun c_38 => absurd c_38 (by decide))
  refine lv_aload_n hx hb dX10_init_64 rfl (lv_at hl 1 rfl) ?_
  refine lv_iconst (v := nI 4) hx hb dX10_init_65 (by decide) ?_
  refine zx_newE (t := 4) hx hb (Or.inr rfl) hown (hz _ wl_X10_36) hAF hK (by omega) (by show 0 + 1 + 1 + 1 + 1 + 1 + 1 + 0 + 1 + 0 + 1 + 0 + 1 + 0 + 1 ≤ 26; omega) (by show 0 + 2 + 2000 + 1 + 9 + 4 + 9 + 0 + 9 + 0 + 9 + 0 + 9 + 0 + 4 ≤ 2144; omega) hS dX10_init_66 (fun fa H he_fa hz9 hA_fa hk9 hS => ?_)
  replace hX := hX.keep hk9 (by first | exact id | exact rfl | omega | (dsimp only; omega))
  replace hT := hT.keep hk9 ⟨by first | exact id | exact rfl | omega | (dsimp only; omega), by first | exact id | exact rfl | omega | (dsimp only; omega)⟩
  replace hO_mt := hO_mt.keep hk9 (by first | exact id | exact rfl | omega | (dsimp only; omega))
  replace hO_ms := hO_ms.keep hk9 (by first | exact id | exact rfl | omega | (dsimp only; omega))
  replace hA_sl := hA_sl.keep hk9 (by first | exact id | exact rfl | omega | (dsimp only; omega))
  replace hO_v0 := hO_v0.keep hk9 (by first | exact id | exact rfl | omega | (dsimp only; omega))
  replace hO_v1 := hO_v1.keep hk9 (by first | exact id | exact rfl | omega | (dsimp only; omega))
  replace hO_v2 := hO_v2.keep hk9 (by first | exact id | exact rfl | omega | (dsimp only; omega))
  replace hO_v3 := hO_v3.keep hk9 (by first | exact id | exact rfl | omega | (dsimp only; omega))
  clear hk9
  refine zx_put (C := RX10) (T := TX10) (N := 5) (v := .ref (fa)) hx hb hz wo_X10 tyX10 tyX10_ok nmX10 hown hK hX rfl 3 (by decide) (hz _ wf_X10_38) (fun _ h9 => h9) (Or.inr ⟨rfl, (name_of_methodNamed B.named B.method).1, rfl⟩) rfl rfl (Nat.le_of_ble_eq_true rfl) (by first | exact rfl | omega | (dsimp only; omega)) hS dX10_init_69 (fun H locs hz9 hX hk9 hS => ?_)
  have hX : zO G H (x) 9 [.ref (tp), .ref (mt), .ref (sl), .ref (fa), .int (nI (0))] := hX
  replace hT := hT.keep hk9 ⟨by first | exact id | exact rfl | omega | (dsimp only; omega), by first | exact id | exact rfl | omega | (dsimp only; omega)⟩
  replace hO_mt := hO_mt.keep hk9 (by first | exact id | exact rfl | omega | (dsimp only; omega))
  replace hO_ms := hO_ms.keep hk9 (by first | exact id | exact rfl | omega | (dsimp only; omega))
  replace hA_sl := hA_sl.keep hk9 (by first | exact id | exact rfl | omega | (dsimp only; omega))
  replace hO_v0 := hO_v0.keep hk9 (by first | exact id | exact rfl | omega | (dsimp only; omega))
  replace hO_v1 := hO_v1.keep hk9 (by first | exact id | exact rfl | omega | (dsimp only; omega))
  replace hO_v2 := hO_v2.keep hk9 (by first | exact id | exact rfl | omega | (dsimp only; omega))
  replace hO_v3 := hO_v3.keep hk9 (by first | exact id | exact rfl | omega | (dsimp only; omega))
  replace hA_fa := hA_fa.keep hk9 (by first | exact id | exact rfl | omega | (dsimp only; omega))
  clear hk9
  refine lv_iconst (v := nI 0) hx hb dX10_init_72 (by decide) ?_
  refine lv_istore_n (lv' := [(1, .int (nI (0))), (0, .ref (x))]) hx hb dX10_init_73 rfl hl (by decide) rfl (fun ls hl => ?_)
  refine lv_iload_n hx hb dX10_init_74 rfl (lv_at hl 0 rfl) ?_
  refine lv_iconst (v := nI 4) hx hb dX10_init_75 (by decide) ?_
  refine zi_icmp_ge (tgt := 109) hx hb dX10_init_76 (by decide) (by omega) (by omega) (fun c_76 => absurd c_76 (by decide)) (fun c_76 => ?_)
  refine lv_aload_n hx hb dX10_init_79 rfl (lv_at hl 1 rfl) ?_
  refine zi_get (C := RX10) (T := TX10) (N := 5) (v := .ref (fa)) hx hb hz wo_X10 hown hK hX rfl 3 (by decide) (hz _ wf_X10_38) (fun _ h9 => h9) rfl dX10_init_80 ?_
  refine lv_iload_n hx hb dX10_init_83 rfl (lv_at hl 0 rfl) ?_
  refine zx_new (C := RX1) (T := TX1) (N := 2) (ci := 2) (fs := [.null, .null]) hx hb hz wo_X1 tyX1 tyX1_ok hown (hz _ wl_X10_36) (hz _ wa_X1) (hz _ wi_X1) hK rfl df_X1 (by show 0 + 1 + 1 + 1 + 1 + 1 + 1 + 0 + 1 + 0 + 1 + 0 + 1 + 0 + 1 + 1 ≤ 26; omega) (by show 0 + 2 + 2000 + 1 + 9 + 4 + 9 + 0 + 9 + 0 + 9 + 0 + 9 + 0 + 4 + 2 ≤ 2144; omega) hS dX10_init_84 (fun fl0 H he_fl0 hz9 hO_fl0 hk9 hS => ?_)
  replace hX := hX.keep hk9 (by first | exact id | exact rfl | omega | (dsimp only; omega))
  replace hT := hT.keep hk9 ⟨by first | exact id | exact rfl | omega | (dsimp only; omega), by first | exact id | exact rfl | omega | (dsimp only; omega)⟩
  replace hO_mt := hO_mt.keep hk9 (by first | exact id | exact rfl | omega | (dsimp only; omega))
  replace hO_ms := hO_ms.keep hk9 (by first | exact id | exact rfl | omega | (dsimp only; omega))
  replace hA_sl := hA_sl.keep hk9 (by first | exact id | exact rfl | omega | (dsimp only; omega))
  replace hO_v0 := hO_v0.keep hk9 (by first | exact id | exact rfl | omega | (dsimp only; omega))
  replace hO_v1 := hO_v1.keep hk9 (by first | exact id | exact rfl | omega | (dsimp only; omega))
  replace hO_v2 := hO_v2.keep hk9 (by first | exact id | exact rfl | omega | (dsimp only; omega))
  replace hO_v3 := hO_v3.keep hk9 (by first | exact id | exact rfl | omega | (dsimp only; omega))
  replace hA_fa := hA_fa.keep hk9 (by first | exact id | exact rfl | omega | (dsimp only; omega))
  clear hk9
  refine lv_dup hx hb dX10_init_87 rfl ?_
  refine zx_new (C := RX9) (T := TX9) (N := 9) (ci := 8) (fs := [.int (nI (0)), .int (nI (0)), .null, .null, .long (0), .null, .null, .null, .int (nI (0))]) hx hb hz wo_X9 tyX9 tyX9_ok hown (hz _ wl_X10_23) (hz _ wa_X9) (hz _ wi_X9) hK rfl df_X9 (by show 0 + 1 + 1 + 1 + 1 + 1 + 1 + 0 + 1 + 0 + 1 + 0 + 1 + 0 + 1 + 1 + 1 ≤ 26; omega) (by show 0 + 2 + 2000 + 1 + 9 + 4 + 9 + 0 + 9 + 0 + 9 + 0 + 9 + 0 + 4 + 2 + 9 ≤ 2144; omega) hS dX10_init_88 (fun w0 H he_w0 hz9 hO_w0 hk9 hS => ?_)
  replace hX := hX.keep hk9 (by first | exact id | exact rfl | omega | (dsimp only; omega))
  replace hT := hT.keep hk9 ⟨by first | exact id | exact rfl | omega | (dsimp only; omega), by first | exact id | exact rfl | omega | (dsimp only; omega)⟩
  replace hO_mt := hO_mt.keep hk9 (by first | exact id | exact rfl | omega | (dsimp only; omega))
  replace hO_ms := hO_ms.keep hk9 (by first | exact id | exact rfl | omega | (dsimp only; omega))
  replace hA_sl := hA_sl.keep hk9 (by first | exact id | exact rfl | omega | (dsimp only; omega))
  replace hO_v0 := hO_v0.keep hk9 (by first | exact id | exact rfl | omega | (dsimp only; omega))
  replace hO_v1 := hO_v1.keep hk9 (by first | exact id | exact rfl | omega | (dsimp only; omega))
  replace hO_v2 := hO_v2.keep hk9 (by first | exact id | exact rfl | omega | (dsimp only; omega))
  replace hO_v3 := hO_v3.keep hk9 (by first | exact id | exact rfl | omega | (dsimp only; omega))
  replace hA_fa := hA_fa.keep hk9 (by first | exact id | exact rfl | omega | (dsimp only; omega))
  replace hO_fl0 := hO_fl0.keep hk9 (by first | exact id | exact rfl | omega | (dsimp only; omega))
  clear hk9
  refine lv_dup hx hb dX10_init_91 rfl ?_
  refine lv_iconst (v := nI 3) hx hb dX10_init_92 (by decide) ?_
  refine lv_iconst (v := (-1)) hx hb dX10_init_93 (by decide) ?_
  refine va_ldcS hx hb hown (hK.2.2.1 ("FilterReader", 31, "") (by decide)) dX10_init_94 ?_
  refine zx_IN (As := [.int (nI (3)), .int ((-1)), .ref (G.2.2 "")]) (rest := [.ref (w0), .ref (fl0), .ref (fl0), .int (nI (0)), .ref (fa)]) (b := w0) ⟨hx, hb, hml, hown, hts⟩ (c_vinit l G w0 3 (G.2.2 "") (-1)) ⟨va_cnB 3 hts (zgN wc_X9_init) rfl rfl rfl (hK.2.1 _ wm_X10_33) (hz _ wi_X9) (by decide +kernel) ⟨Nat.le_of_ble_eq_true rfl, Nat.le_of_ble_eq_true rfl⟩, rfl, hz _ wn_X9_init⟩ hK hO_w0 rfl hl.1 rfl (Nat.le_of_ble_eq_true rfl) dX10_init_96 ⟨by show 0 + 1 + 1 + 1 + 1 + 1 + 1 + 0 + 1 + 0 + 1 + 0 + 1 + 0 + 1 + 1 + 1 + 0 ≤ 26; omega, by show 0 + 2 + 2000 + 1 + 9 + 4 + 9 + 0 + 9 + 0 + 9 + 0 + 9 + 0 + 4 + 2 + 9 + 0 ≤ 2144; omega⟩ hS (by intro q hq; first | omega | (dsimp only at hq ⊢; omega)) (fun r9 H locs hPo hz9 hk9 hS => ?_)
  replace hX := hX.keep hk9 (by first | exact id | exact rfl | omega | (dsimp only; omega))
  replace hT := hT.keep hk9 ⟨by first | exact id | exact rfl | omega | (dsimp only; omega), by first | exact id | exact rfl | omega | (dsimp only; omega)⟩
  replace hO_mt := hO_mt.keep hk9 (by first | exact id | exact rfl | omega | (dsimp only; omega))
  replace hO_ms := hO_ms.keep hk9 (by first | exact id | exact rfl | omega | (dsimp only; omega))
  replace hA_sl := hA_sl.keep hk9 (by first | exact id | exact rfl | omega | (dsimp only; omega))
  replace hO_v0 := hO_v0.keep hk9 (by first | exact id | exact rfl | omega | (dsimp only; omega))
  replace hO_v1 := hO_v1.keep hk9 (by first | exact id | exact rfl | omega | (dsimp only; omega))
  replace hO_v2 := hO_v2.keep hk9 (by first | exact id | exact rfl | omega | (dsimp only; omega))
  replace hO_v3 := hO_v3.keep hk9 (by first | exact id | exact rfl | omega | (dsimp only; omega))
  replace hA_fa := hA_fa.keep hk9 (by first | exact id | exact rfl | omega | (dsimp only; omega))
  replace hO_fl0 := hO_fl0.keep hk9 (by first | exact id | exact rfl | omega | (dsimp only; omega))
  clear hk9
  obtain ⟨rfl, hO_w0⟩ := hPo
  refine W.eq (g2 := F0 m 99 ls ([.ref (w0), .ref (fl0), .ref (fl0), .int (nI (0)), .ref (fa)])) rfl ?_
  refine zx_IN (As := [.ref (w0)]) (rest := [.ref (fl0), .int (nI (0)), .ref (fa)]) (b := fl0) ⟨hx, hb, hml, hown, hts⟩ (c_finit l G H.size fl0 w0 0 0 (-1) (G.2.2 "") (G.2.2 "") 0 none none none (by omega) (by omega) (by omega)) ⟨va_cnB 1 hts (zgN wc_X1_init) rfl rfl rfl (hK.2.1 _ wm_X10_42) (hz _ wi_X1) (by decide +kernel) ⟨Nat.le_of_ble_eq_true rfl, Nat.le_of_ble_eq_true rfl⟩, rfl, hz _ wn_X1_init⟩ hK ⟨hO_fl0, hO_w0, rfl⟩ rfl hl.1 rfl (Nat.le_of_ble_eq_true rfl) dX10_init_99 ⟨by show 0 + 1 + 1 + 1 + 1 + 1 + 1 + 0 + 1 + 0 + 1 + 0 + 1 + 0 + 1 + 1 + 1 + 0 + 2 ≤ 26; omega, by show 0 + 2 + 2000 + 1 + 9 + 4 + 9 + 0 + 9 + 0 + 9 + 0 + 9 + 0 + 4 + 2 + 9 + 0 + 11 ≤ 2144; omega⟩ hS (by intro q hq; first | omega | (dsimp only at hq ⊢; omega)) (fun r9 H locs hPo hz9 hk9 hS => ?_)
  replace hX := hX.keep hk9 (by first | exact id | exact rfl | omega | (dsimp only; omega))
  replace hT := hT.keep hk9 ⟨by first | exact id | exact rfl | omega | (dsimp only; omega), by first | exact id | exact rfl | omega | (dsimp only; omega)⟩
  replace hO_mt := hO_mt.keep hk9 (by first | exact id | exact rfl | omega | (dsimp only; omega))
  replace hO_ms := hO_ms.keep hk9 (by first | exact id | exact rfl | omega | (dsimp only; omega))
  replace hA_sl := hA_sl.keep hk9 (by first | exact id | exact rfl | omega | (dsimp only; omega))
  replace hO_v0 := hO_v0.keep hk9 (by first | exact id | exact rfl | omega | (dsimp only; omega))
  replace hO_v1 := hO_v1.keep hk9 (by first | exact id | exact rfl | omega | (dsimp only; omega))
  replace hO_v2 := hO_v2.keep hk9 (by first | exact id | exact rfl | omega | (dsimp only; omega))
  replace hO_v3 := hO_v3.keep hk9 (by first | exact id | exact rfl | omega | (dsimp only; omega))
  replace hA_fa := hA_fa.keep hk9 (by first | exact id | exact rfl | omega | (dsimp only; omega))
  replace hO_w0 := hO_w0.keep hk9 (by first | exact id | exact rfl | omega | (dsimp only; omega))
  clear hk9
  obtain ⟨rfl, rt0, ca0, hr10, hr20, hr30, hO_fl0, hO_rt0, hA_ca0⟩ := hPo
  refine W.eq (g2 := F0 m 102 ls ([.ref (fl0), .int (nI (0)), .ref (fa)])) rfl ?_
  refine zx_astE (i := 0) hx hb hK (Or.inr rfl) hA_fa hO_fl0 (by omega) (by omega) (by first | exact rfl | omega | (dsimp only; omega)) hS dX10_init_102 (fun H locs hz9 hA_fa hk9 hS => ?_)
  replace hX := hX.keep hk9 (by first | exact id | exact rfl | omega | (dsimp only; omega))
  replace hT := hT.keep hk9 ⟨by first | exact id | exact rfl | omega | (dsimp only; omega), by first | exact id | exact rfl | omega | (dsimp only; omega)⟩
  replace hO_mt := hO_mt.keep hk9 (by first | exact id | exact rfl | omega | (dsimp only; omega))
  replace hO_ms := hO_ms.keep hk9 (by first | exact id | exact rfl | omega | (dsimp only; omega))
  replace hA_sl := hA_sl.keep hk9 (by first | exact id | exact rfl | omega | (dsimp only; omega))
  replace hO_v0 := hO_v0.keep hk9 (by first | exact id | exact rfl | omega | (dsimp only; omega))
  replace hO_v1 := hO_v1.keep hk9 (by first | exact id | exact rfl | omega | (dsimp only; omega))
  replace hO_v2 := hO_v2.keep hk9 (by first | exact id | exact rfl | omega | (dsimp only; omega))
  replace hO_v3 := hO_v3.keep hk9 (by first | exact id | exact rfl | omega | (dsimp only; omega))
  replace hO_fl0 := hO_fl0.keep hk9 (by first | exact id | exact rfl | omega | (dsimp only; omega))
  replace hO_w0 := hO_w0.keep hk9 (by first | exact id | exact rfl | omega | (dsimp only; omega))
  replace hO_rt0 := hO_rt0.keep hk9 (by first | exact id | exact rfl | omega | (dsimp only; omega))
  replace hA_ca0 := hA_ca0.keep hk9 (by first | exact id | exact rfl | omega | (dsimp only; omega))
  clear hk9
  refine lv_iinc (v := nI (1)) (lv' := [(1, .int (nI (1))), (0, .ref (x))]) hx hb dX10_init_103 hl (k := 0) rfl (nI_add _ _) (by decide) rfl (fun ls hl => ?_)
  refine lv_goto (tgt := 74) hx hb dX10_init_106 (by decide) ?_
  refine lv_iload_n hx hb dX10_init_74 rfl (lv_at hl 0 rfl) ?_
  refine lv_iconst (v := nI 4) hx hb dX10_init_75 (by decide) ?_
  refine zi_icmp_ge (tgt := 109) hx hb dX10_init_76 (by decide) (by omega) (by omega) (fun c_76 => absurd c_76 (by decide)) (fun c_76 => ?_)
  refine lv_aload_n hx hb dX10_init_79 rfl (lv_at hl 1 rfl) ?_
  refine zi_get (C := RX10) (T := TX10) (N := 5) (v := .ref (fa)) hx hb hz wo_X10 hown hK hX rfl 3 (by decide) (hz _ wf_X10_38) (fun _ h9 => h9) rfl dX10_init_80 ?_
  refine lv_iload_n hx hb dX10_init_83 rfl (lv_at hl 0 rfl) ?_
  refine zx_new (C := RX1) (T := TX1) (N := 2) (ci := 2) (fs := [.null, .null]) hx hb hz wo_X1 tyX1 tyX1_ok hown (hz _ wl_X10_36) (hz _ wa_X1) (hz _ wi_X1) hK rfl df_X1 (by show 0 + 1 + 1 + 1 + 1 + 1 + 1 + 0 + 1 + 0 + 1 + 0 + 1 + 0 + 1 + 1 + 1 + 0 + 2 + 1 ≤ 26; omega) (by show 0 + 2 + 2000 + 1 + 9 + 4 + 9 + 0 + 9 + 0 + 9 + 0 + 9 + 0 + 4 + 2 + 9 + 0 + 11 + 2 ≤ 2144; omega) hS dX10_init_84 (fun fl1 H he_fl1 hz9 hO_fl1 hk9 hS => ?_)
  replace hX := hX.keep hk9 (by first | exact id | exact rfl | omega | (dsimp only; omega))
  replace hT := hT.keep hk9 ⟨by first | exact id | exact rfl | omega | (dsimp only; omega), by first | exact id | exact rfl | omega | (dsimp only; omega)⟩
  replace hO_mt := hO_mt.keep hk9 (by first | exact id | exact rfl | omega | (dsimp only; omega))
  replace hO_ms := hO_ms.keep hk9 (by first | exact id | exact rfl | omega | (dsimp only; omega))
  replace hA_sl := hA_sl.keep hk9 (by first | exact id | exact rfl | omega | (dsimp only; omega))
  replace hO_v0 := hO_v0.keep hk9 (by first | exact id | exact rfl | omega | (dsimp only; omega))
  replace hO_v1 := hO_v1.keep hk9 (by first | exact id | exact rfl | omega | (dsimp only; omega))
  replace hO_v2 := hO_v2.keep hk9 (by first | exact id | exact rfl | omega | (dsimp only; omega))
  replace hO_v3 := hO_v3.keep hk9 (by first | exact id | exact rfl | omega | (dsimp only; omega))
  replace hA_fa := hA_fa.keep hk9 (by first | exact id | exact rfl | omega | (dsimp only; omega))
  replace hO_fl0 := hO_fl0.keep hk9 (by first | exact id | exact rfl | omega | (dsimp only; omega))
  replace hO_w0 := hO_w0.keep hk9 (by first | exact id | exact rfl | omega | (dsimp only; omega))
  replace hO_rt0 := hO_rt0.keep hk9 (by first | exact id | exact rfl | omega | (dsimp only; omega))
  replace hA_ca0 := hA_ca0.keep hk9 (by first | exact id | exact rfl | omega | (dsimp only; omega))
  clear hk9
  refine lv_dup hx hb dX10_init_87 rfl ?_
  refine zx_new (C := RX9) (T := TX9) (N := 9) (ci := 8) (fs := [.int (nI (0)), .int (nI (0)), .null, .null, .long (0), .null, .null, .null, .int (nI (0))]) hx hb hz wo_X9 tyX9 tyX9_ok hown (hz _ wl_X10_23) (hz _ wa_X9) (hz _ wi_X9) hK rfl df_X9 (by show 0 + 1 + 1 + 1 + 1 + 1 + 1 + 0 + 1 + 0 + 1 + 0 + 1 + 0 + 1 + 1 + 1 + 0 + 2 + 1 + 1 ≤ 26; omega) (by show 0 + 2 + 2000 + 1 + 9 + 4 + 9 + 0 + 9 + 0 + 9 + 0 + 9 + 0 + 4 + 2 + 9 + 0 + 11 + 2 + 9 ≤ 2144; omega) hS dX10_init_88 (fun w1 H he_w1 hz9 hO_w1 hk9 hS => ?_)
  replace hX := hX.keep hk9 (by first | exact id | exact rfl | omega | (dsimp only; omega))
  replace hT := hT.keep hk9 ⟨by first | exact id | exact rfl | omega | (dsimp only; omega), by first | exact id | exact rfl | omega | (dsimp only; omega)⟩
  replace hO_mt := hO_mt.keep hk9 (by first | exact id | exact rfl | omega | (dsimp only; omega))
  replace hO_ms := hO_ms.keep hk9 (by first | exact id | exact rfl | omega | (dsimp only; omega))
  replace hA_sl := hA_sl.keep hk9 (by first | exact id | exact rfl | omega | (dsimp only; omega))
  replace hO_v0 := hO_v0.keep hk9 (by first | exact id | exact rfl | omega | (dsimp only; omega))
  replace hO_v1 := hO_v1.keep hk9 (by first | exact id | exact rfl | omega | (dsimp only; omega))
  replace hO_v2 := hO_v2.keep hk9 (by first | exact id | exact rfl | omega | (dsimp only; omega))
  replace hO_v3 := hO_v3.keep hk9 (by first | exact id | exact rfl | omega | (dsimp only; omega))
  replace hA_fa := hA_fa.keep hk9 (by first | exact id | exact rfl | omega | (dsimp only; omega))
  replace hO_fl0 := hO_fl0.keep hk9 (by first | exact id | exact rfl | omega | (dsimp only; omega))
  replace hO_w0 := hO_w0.keep hk9 (by first | exact id | exact rfl | omega | (dsimp only; omega))
  replace hO_rt0 := hO_rt0.keep hk9 (by first | exact id | exact rfl | omega | (dsimp only; omega))
  replace hA_ca0 := hA_ca0.keep hk9 (by first | exact id | exact rfl | omega | (dsimp only; omega))
  replace hO_fl1 := hO_fl1.keep hk9 (by first | exact id | exact rfl | omega | (dsimp only; omega))
  clear hk9
  refine lv_dup hx hb dX10_init_91 rfl ?_
  refine lv_iconst (v := nI 3) hx hb dX10_init_92 (by decide) ?_
  refine lv_iconst (v := (-1)) hx hb dX10_init_93 (by decide) ?_
  refine va_ldcS hx hb hown (hK.2.2.1 ("FilterReader", 31, "") (by decide)) dX10_init_94 ?_
  refine zx_IN (As := [.int (nI (3)), .int ((-1)), .ref (G.2.2 "")]) (rest := [.ref (w1), .ref (fl1), .ref (fl1), .int (nI (1)), .ref (fa)]) (b := w1) ⟨hx, hb, hml, hown, hts⟩ (c_vinit l G w1 3 (G.2.2 "") (-1)) ⟨va_cnB 3 hts (zgN wc_X9_init) rfl rfl rfl (hK.2.1 _ wm_X10_33) (hz _ wi_X9) (by decide +kernel) ⟨Nat.le_of_ble_eq_true rfl, Nat.le_of_ble_eq_true rfl⟩, rfl, hz _ wn_X9_init⟩ hK hO_w1 rfl hl.1 rfl (Nat.le_of_ble_eq_true rfl) dX10_init_96 ⟨by show 0 + 1 + 1 + 1 + 1 + 1 + 1 + 0 + 1 + 0 + 1 + 0 + 1 + 0 + 1 + 1 + 1 + 0 + 2 + 1 + 1 + 0 ≤ 26; omega, by show 0 + 2 + 2000 + 1 + 9 + 4 + 9 + 0 + 9 + 0 + 9 + 0 + 9 + 0 + 4 + 2 + 9 + 0 + 11 + 2 + 9 + 0 ≤ 2144; omega⟩ hS (by intro q hq; first | omega | (dsimp only at hq ⊢; omega)) (fun r9 H locs hPo hz9 hk9 hS => ?_)
  replace hX := hX.keep hk9 (by first | exact id | exact rfl | omega | (dsimp only; omega))
  replace hT := hT.keep hk9 ⟨by first | exact id | exact rfl | omega | (dsimp only; omega), by first | exact id | exact rfl | omega | (dsimp only; omega)⟩
  replace hO_mt := hO_mt.keep hk9 (by first | exact id | exact rfl | omega | (dsimp only; omega))
  replace hO_ms := hO_ms.keep hk9 (by first | exact id | exact rfl | omega | (dsimp only; omega))
  replace hA_sl := hA_sl.keep hk9 (by first | exact id | exact rfl | omega | (dsimp only; omega))
  replace hO_v0 := hO_v0.keep hk9 (by first | exact id | exact rfl | omega | (dsimp only; omega))
  replace hO_v1 := hO_v1.keep hk9 (by first | exact id | exact rfl | omega | (dsimp only; omega))
  replace hO_v2 := hO_v2.keep hk9 (by first | exact id | exact rfl | omega | (dsimp only; omega))
  replace hO_v3 := hO_v3.keep hk9 (by first | exact id | exact rfl | omega | (dsimp only; omega))
  replace hA_fa := hA_fa.keep hk9 (by first | exact id | exact rfl | omega | (dsimp only; omega))
  replace hO_fl0 := hO_fl0.keep hk9 (by first | exact id | exact rfl | omega | (dsimp only; omega))
  replace hO_w0 := hO_w0.keep hk9 (by first | exact id | exact rfl | omega | (dsimp only; omega))
  replace hO_rt0 := hO_rt0.keep hk9 (by first | exact id | exact rfl | omega | (dsimp only; omega))
  replace hA_ca0 := hA_ca0.keep hk9 (by first | exact id | exact rfl | omega | (dsimp only; omega))
  replace hO_fl1 := hO_fl1.keep hk9 (by first | exact id | exact rfl | omega | (dsimp only; omega))
  clear hk9
  obtain ⟨rfl, hO_w1⟩ := hPo
  refine W.eq (g2 := F0 m 99 ls ([.ref (w1), .ref (fl1), .ref (fl1), .int (nI (1)), .ref (fa)])) rfl ?_
  refine zx_IN (As := [.ref (w1)]) (rest := [.ref (fl1), .int (nI (1)), .ref (fa)]) (b := fl1) ⟨hx, hb, hml, hown, hts⟩ (c_finit l G H.size fl1 w1 0 0 (-1) (G.2.2 "") (G.2.2 "") 0 none none none (by omega) (by omega) (by omega)) ⟨va_cnB 1 hts (zgN wc_X1_init) rfl rfl rfl (hK.2.1 _ wm_X10_42) (hz _ wi_X1) (by decide +kernel) ⟨Nat.le_of_ble_eq_true rfl, Nat.le_of_ble_eq_true rfl⟩, rfl, hz _ wn_X1_init⟩ hK ⟨hO_fl1, hO_w1, rfl⟩ rfl hl.1 rfl (Nat.le_of_ble_eq_true rfl) dX10_init_99 ⟨by show 0 + 1 + 1 + 1 + 1 + 1 + 1 + 0 + 1 + 0 + 1 + 0 + 1 + 0 + 1 + 1 + 1 + 0 + 2 + 1 + 1 + 0 + 2 ≤ 26; omega, by show 0 + 2 + 2000 + 1 + 9 + 4 + 9 + 0 + 9 + 0 + 9 + 0 + 9 + 0 + 4 + 2 + 9 + 0 + 11 + 2 + 9 + 0 + 11 ≤ 2144; omega⟩ hS (by intro q hq; first | omega | (dsimp only at hq ⊢; omega)) (fun r9 H locs hPo hz9 hk9 hS => ?_)
  replace hX := hX.keep hk9 (by first | exact id | exact rfl | omega | (dsimp only; omega))
  replace hT := hT.keep hk9 ⟨by first | exact id | exact rfl | omega | (dsimp only; omega), by first | exact id | exact rfl | omega | (dsimp only; omega)⟩
  replace hO_mt := hO_mt.keep hk9 (by first | exact id | exact rfl | omega | (dsimp only; omega))
  replace hO_ms := hO_ms.keep hk9 (by first | exact id | exact rfl | omega | (dsimp only; omega))
  replace hA_sl := hA_sl.keep hk9 (by first | exact id | exact rfl | omega | (dsimp only; omega))
  replace hO_v0 := hO_v0.keep hk9 (by first | exact id | exact rfl | omega | (dsimp only; omega))
  replace hO_v1 := hO_v1.keep hk9 (by first | exact id | exact rfl | omega | (dsimp only; omega))
  replace hO_v2 := hO_v2.keep hk9 (by first | exact id | exact rfl | omega | (dsimp only; omega))
  replace hO_v3 := hO_v3.keep hk9 (by first | exact id | exact rfl | omega | (dsimp only; omega))
  replace hA_fa := hA_fa.keep hk9 (by first | exact id | exact rfl | omega | (dsimp only; omega))
  replace hO_fl0 := hO_fl0.keep hk9 (by first | exact id | exact rfl | omega | (dsimp only; omega))
  replace hO_w0 := hO_w0.keep hk9 (by first | exact id | exact rfl | omega | (dsimp only; omega))
  replace hO_rt0 := hO_rt0.keep hk9 (by first | exact id | exact rfl | omega | (dsimp only; omega))
  replace hA_ca0 := hA_ca0.keep hk9 (by first | exact id | exact rfl | omega | (dsimp only; omega))
  replace hO_w1 := hO_w1.keep hk9 (by first | exact id | exact rfl | omega | (dsimp only; omega))
  clear hk9
  obtain ⟨rfl, rt1, ca1, hr11, hr21, hr31, hO_fl1, hO_rt1, hA_ca1⟩ := hPo
  refine W.eq (g2 := F0 m 102 ls ([.ref (fl1), .int (nI (1)), .ref (fa)])) rfl ?_
  refine zx_astE (i := 1) hx hb hK (Or.inr rfl) hA_fa hO_fl1 (by omega) (by omega) (by first | exact rfl | omega | (dsimp only; omega)) hS dX10_init_102 (fun H locs hz9 hA_fa hk9 hS => ?_)
  replace hX := hX.keep hk9 (by first | exact id | exact rfl | omega | (dsimp only; omega))
  replace hT := hT.keep hk9 ⟨by first | exact id | exact rfl | omega | (dsimp only; omega), by first | exact id | exact rfl | omega | (dsimp only; omega)⟩
  replace hO_mt := hO_mt.keep hk9 (by first | exact id | exact rfl | omega | (dsimp only; omega))
  replace hO_ms := hO_ms.keep hk9 (by first | exact id | exact rfl | omega | (dsimp only; omega))
  replace hA_sl := hA_sl.keep hk9 (by first | exact id | exact rfl | omega | (dsimp only; omega))
  replace hO_v0 := hO_v0.keep hk9 (by first | exact id | exact rfl | omega | (dsimp only; omega))
  replace hO_v1 := hO_v1.keep hk9 (by first | exact id | exact rfl | omega | (dsimp only; omega))
  replace hO_v2 := hO_v2.keep hk9 (by first | exact id | exact rfl | omega | (dsimp only; omega))
  replace hO_v3 := hO_v3.keep hk9 (by first | exact id | exact rfl | omega | (dsimp only; omega))
  replace hO_fl0 := hO_fl0.keep hk9 (by first | exact id | exact rfl | omega | (dsimp only; omega))
  replace hO_w0 := hO_w0.keep hk9 (by first | exact id | exact rfl | omega | (dsimp only; omega))
  replace hO_rt0 := hO_rt0.keep hk9 (by first | exact id | exact rfl | omega | (dsimp only; omega))
  replace hA_ca0 := hA_ca0.keep hk9 (by first | exact id | exact rfl | omega | (dsimp only; omega))
  replace hO_fl1 := hO_fl1.keep hk9 (by first | exact id | exact rfl | omega | (dsimp only; omega))
  replace hO_w1 := hO_w1.keep hk9 (by first | exact id | exact rfl | omega | (dsimp only; omega))
  replace hO_rt1 := hO_rt1.keep hk9 (by first | exact id | exact rfl | omega | (dsimp only; omega))
  replace hA_ca1 := hA_ca1.keep hk9 (by first | exact id | exact rfl | omega | (dsimp only; omega))
  clear hk9
  refine lv_iinc (v := nI (2)) (lv' := [(1, .int (nI (2))), (0, .ref (x))]) hx hb dX10_init_103 hl (k := 0) rfl (nI_add _ _) (by decide) rfl (fun ls hl => ?_)
  refine lv_goto (tgt := 74) hx hb dX10_init_106 (by decide) ?_
  refine lv_iload_n hx hb dX10_init_74 rfl (lv_at hl 0 rfl) ?_
  refine lv_iconst (v := nI 4) hx hb dX10_init_75 (by decide) ?_
  refine zi_icmp_ge (tgt := 109) hx hb dX10_init_76 (by decide) (by omega) (by omega) (fun c_76 => absurd c_76 (by decide)) (fun c_76 => ?_)
  refine lv_aload_n hx hb dX10_init_79 rfl (lv_at hl 1 rfl) ?_
  refine zi_get (C := RX10) (T := TX10) (N := 5) (v := .ref (fa)) hx hb hz wo_X10 hown hK hX rfl 3 (by decide) (hz _ wf_X10_38) (fun _ h9 => h9) rfl dX10_init_80 ?_
  refine lv_iload_n hx hb dX10_init_83 rfl (lv_at hl 0 rfl) ?_
  refine zx_new (C := RX1) (T := TX1) (N := 2) (ci := 2) (fs := [.null, .null]) hx hb hz wo_X1 tyX1 tyX1_ok hown (hz _ wl_X10_36) (hz _ wa_X1) (hz _ wi_X1) hK rfl df_X1 (by show 0 + 1 + 1 + 1 + 1 + 1 + 1 + 0 + 1 + 0 + 1 + 0 + 1 + 0 + 1 + 1 + 1 + 0 + 2 + 1 + 1 + 0 + 2 + 1 ≤ 26; omega) (by show 0 + 2 + 2000 + 1 + 9 + 4 + 9 + 0 + 9 + 0 + 9 + 0 + 9 + 0 + 4 + 2 + 9 + 0 + 11 + 2 + 9 + 0 + 11 + 2 ≤ 2144; omega) hS dX10_init_84 (fun fl2 H he_fl2 hz9 hO_fl2 hk9 hS => ?_)
  replace hX := hX.keep hk9 (by first | exact id | exact rfl | omega | (dsimp only; omega))
  replace hT := hT.keep hk9 ⟨by first | exact id | exact rfl | omega | (dsimp only; omega), by first | exact id | exact rfl | omega | (dsimp only; omega)⟩
  replace hO_mt := hO_mt.keep hk9 (by first | exact id | exact rfl | omega | (dsimp only; omega))
  replace hO_ms := hO_ms.keep hk9 (by first | exact id | exact rfl | omega | (dsimp only; omega))
  replace hA_sl := hA_sl.keep hk9 (by first | exact id | exact rfl | omega | (dsimp only; omega))
  replace hO_v0 := hO_v0.keep hk9 (by first | exact id | exact rfl | omega | (dsimp only; omega))
  replace hO_v1 := hO_v1.keep hk9 (by first | exact id | exact rfl | omega | (dsimp only; omega))
  replace hO_v2 := hO_v2.keep hk9 (by first | exact id | exact rfl | omega | (dsimp only; omega))
  replace hO_v3 := hO_v3.keep hk9 (by first | exact id | exact rfl | omega | (dsimp only; omega))
  replace hA_fa := hA_fa.keep hk9 (by first | exact id | exact rfl | omega | (dsimp only; omega))
  replace hO_fl0 := hO_fl0.keep hk9 (by first | exact id | exact rfl | omega | (dsimp only; omega))
  replace hO_w0 := hO_w0.keep hk9 (by first | exact id | exact rfl | omega | (dsimp only; omega))
  replace hO_rt0 := hO_rt0.keep hk9 (by first | exact id | exact rfl | omega | (dsimp only; omega))
  replace hA_ca0 := hA_ca0.keep hk9 (by first | exact id | exact rfl | omega | (dsimp only; omega))
  replace hO_fl1 := hO_fl1.keep hk9 (by first | exact id | exact rfl | omega | (dsimp only; omega))
  replace hO_w1 := hO_w1.keep hk9 (by first | exact id | exact rfl | omega | (dsimp only; omega))
  replace hO_rt1 := hO_rt1.keep hk9 (by first | exact id | exact rfl | omega | (dsimp only; omega))
  replace hA_ca1 := hA_ca1.keep hk9 (by first | exact id | exact rfl | omega | (dsimp only; omega))
  clear hk9
  refine lv_dup hx hb dX10_init_87 rfl ?_
  refine zx_new (C := RX9) (T := TX9) (N := 9) (ci := 8) (fs := [.int (nI (0)), .int (nI (0)), .null, .null, .long (0), .null, .null, .null, .int (nI (0))]) hx hb hz wo_X9 tyX9 tyX9_ok hown (hz _ wl_X10_23) (hz _ wa_X9) (hz _ wi_X9) hK rfl df_X9 (by show 0 + 1 + 1 + 1 + 1 + 1 + 1 + 0 + 1 + 0 + 1 + 0 + 1 + 0 + 1 + 1 + 1 + 0 + 2 + 1 + 1 + 0 + 2 + 1 + 1 ≤ 26; omega) (by show 0 + 2 + 2000 + 1 + 9 + 4 + 9 + 0 + 9 + 0 + 9 + 0 + 9 + 0 + 4 + 2 + 9 + 0 + 11 + 2 + 9 + 0 + 11 + 2 + 9 ≤ 2144; omega) hS dX10_init_88 (fun w2 H he_w2 hz9 hO_w2 hk9 hS => ?_)
  replace hX := hX.keep hk9 (by first | exact id | exact rfl | omega | (dsimp only; omega))
  replace hT := hT.keep hk9 ⟨by first | exact id | exact rfl | omega | (dsimp only; omega), by first | exact id | exact rfl | omega | (dsimp only; omega)⟩
  replace hO_mt := hO_mt.keep hk9 (by first | exact id | exact rfl | omega | (dsimp only; omega))
  replace hO_ms := hO_ms.keep hk9 (by first | exact id | exact rfl | omega | (dsimp only; omega))
  replace hA_sl := hA_sl.keep hk9 (by first | exact id | exact rfl | omega | (dsimp only; omega))
  replace hO_v0 := hO_v0.keep hk9 (by first | exact id | exact rfl | omega | (dsimp only; omega))
  replace hO_v1 := hO_v1.keep hk9 (by first | exact id | exact rfl | omega | (dsimp only; omega))
  replace hO_v2 := hO_v2.keep hk9 (by first | exact id | exact rfl | omega | (dsimp only; omega))
  replace hO_v3 := hO_v3.keep hk9 (by first | exact id | exact rfl | omega | (dsimp only; omega))
  replace hA_fa := hA_fa.keep hk9 (by first | exact id | exact rfl | omega | (dsimp only; omega))
  replace hO_fl0 := hO_fl0.keep hk9 (by first | exact id | exact rfl | omega | (dsimp only; omega))
  replace hO_w0 := hO_w0.keep hk9 (by first | exact id | exact rfl | omega | (dsimp only; omega))
  replace hO_rt0 := hO_rt0.keep hk9 (by first | exact id | exact rfl | omega | (dsimp only; omega))
  replace hA_ca0 := hA_ca0.keep hk9 (by first | exact id | exact rfl | omega | (dsimp only; omega))
  replace hO_fl1 := hO_fl1.keep hk9 (by first | exact id | exact rfl | omega | (dsimp only; omega))
  replace hO_w1 := hO_w1.keep hk9 (by first | exact id | exact rfl | omega | (dsimp only; omega))
  replace hO_rt1 := hO_rt1.keep hk9 (by first | exact id | exact rfl | omega | (dsimp only; omega))
  replace hA_ca1 := hA_ca1.keep hk9 (by first | exact id | exact rfl | omega | (dsimp only; omega))
  replace hO_fl2 := hO_fl2.keep hk9 (by first | exact id | exact rfl | omega | (dsimp only; omega))
  clear hk9
  refine lv_dup hx hb dX10_init_91 rfl ?_
  refine lv_iconst (v := nI 3) hx hb dX10_init_92 (by decide) ?_
  refine lv_iconst (v := (-1)) hx hb dX10_init_93 (by decide) ?_
  refine va_ldcS hx hb hown (hK.2.2.1 ("FilterReader", 31, "") (by decide)) dX10_init_94 ?_
  refine zx_IN (As := [.int (nI (3)), .int ((-1)), .ref (G.2.2 "")]) (rest := [.ref (w2), .ref (fl2), .ref (fl2), .int (nI (2)), .ref (fa)]) (b := w2) ⟨hx, hb, hml, hown, hts⟩ (c_vinit l G w2 3 (G.2.2 "") (-1)) ⟨va_cnB 3 hts (zgN wc_X9_init) rfl rfl rfl (hK.2.1 _ wm_X10_33) (hz _ wi_X9) (by decide +kernel) ⟨Nat.le_of_ble_eq_true rfl, Nat.le_of_ble_eq_true rfl⟩, rfl, hz _ wn_X9_init⟩ hK hO_w2 rfl hl.1 rfl (Nat.le_of_ble_eq_true rfl) dX10_init_96 ⟨by show 0 + 1 + 1 + 1 + 1 + 1 + 1 + 0 + 1 + 0 + 1 + 0 + 1 + 0 + 1 + 1 + 1 + 0 + 2 + 1 + 1 + 0 + 2 + 1 + 1 + 0 ≤ 26; omega, by show 0 + 2 + 2000 + 1 + 9 + 4 + 9 + 0 + 9 + 0 + 9 + 0 + 9 + 0 + 4 + 2 + 9 + 0 + 11 + 2 + 9 + 0 + 11 + 2 + 9 + 0 ≤ 2144; omega⟩ hS (by intro q hq; first | omega | (dsimp only at hq ⊢; omega)) (fun r9 H locs hPo hz9 hk9 hS => ?_)
  replace hX := hX.keep hk9 (by first | exact id | exact rfl | omega | (dsimp only; omega))
  replace hT := hT.keep hk9 ⟨by first | exact id | exact rfl | omega | (dsimp only; omega), by first | exact id | exact rfl | omega | (dsimp only; omega)⟩
  replace hO_mt := hO_mt.keep hk9 (by first | exact id | exact rfl | omega | (dsimp only; omega))
  replace hO_ms := hO_ms.keep hk9 (by first | exact id | exact rfl | omega | (dsimp only; omega))
  replace hA_sl := hA_sl.keep hk9 (by first | exact id | exact rfl | omega | (dsimp only; omega))
  replace hO_v0 := hO_v0.keep hk9 (by first | exact id | exact rfl | omega | (dsimp only; omega))
  replace hO_v1 := hO_v1.keep hk9 (by first | exact id | exact rfl | omega | (dsimp only; omega))
  replace hO_v2 := hO_v2.keep hk9 (by first | exact id | exact rfl | omega | (dsimp only; omega))
  replace hO_v3 := hO_v3.keep hk9 (by first | exact id | exact rfl | omega | (dsimp only; omega))
  replace hA_fa := hA_fa.keep hk9 (by first | exact id | exact rfl | omega | (dsimp only; omega))
  replace hO_fl0 := hO_fl0.keep hk9 (by first | exact id | exact rfl | omega | (dsimp only; omega))
  replace hO_w0 := hO_w0.keep hk9 (by first | exact id | exact rfl | omega | (dsimp only; omega))
  replace hO_rt0 := hO_rt0.keep hk9 (by first | exact id | exact rfl | omega | (dsimp only; omega))
  replace hA_ca0 := hA_ca0.keep hk9 (by first | exact id | exact rfl | omega | (dsimp only; omega))
  replace hO_fl1 := hO_fl1.keep hk9 (by first | exact id | exact rfl | omega | (dsimp only; omega))
  replace hO_w1 := hO_w1.keep hk9 (by first | exact id | exact rfl | omega | (dsimp only; omega))
  replace hO_rt1 := hO_rt1.keep hk9 (by first | exact id | exact rfl | omega | (dsimp only; omega))
  replace hA_ca1 := hA_ca1.keep hk9 (by first | exact id | exact rfl | omega | (dsimp only; omega))
  replace hO_fl2 := hO_fl2.keep hk9 (by first | exact id | exact rfl | omega | (dsimp only; omega))
  clear hk9
  obtain ⟨rfl, hO_w2⟩ := hPo
  refine W.eq (g2 := F0 m 99 ls ([.ref (w2), .ref (fl2), .ref (fl2), .int (nI (2)), .ref (fa)])) rfl ?_
  refine zx_IN (As := [.ref (w2)]) (rest := [.ref (fl2), .int (nI (2)), .ref (fa)]) (b := fl2) ⟨hx, hb, hml, hown, hts⟩ (c_finit l G H.size fl2 w2 0 0 (-1) (G.2.2 "") (G.2.2 "") 0 none none none (by omega) (by omega) (by omega)) ⟨va_cnB 1 hts (zgN wc_X1_init) rfl rfl rfl (hK.2.1 _ wm_X10_42) (hz _ wi_X1) (by decide +kernel) ⟨Nat.le_of_ble_eq_true rfl, Nat.le_of_ble_eq_true rfl⟩, rfl, hz _ wn_X1_init⟩ hK ⟨hO_fl2, hO_w2, rfl⟩ rfl hl.1 rfl (Nat.le_of_ble_eq_true rfl) dX10_init_99 ⟨by show 0 + 1 + 1 + 1 + 1 + 1 + 1 + 0 + 1 + 0 + 1 + 0 + 1 + 0 + 1 + 1 + 1 + 0 + 2 + 1 + 1 + 0 + 2 + 1 + 1 + 0 + 2 ≤ 26; omega, by show 0 + 2 + 2000 + 1 + 9 + 4 + 9 + 0 + 9 + 0 + 9 + 0 + 9 + 0 + 4 + 2 + 9 + 0 + 11 + 2 + 9 + 0 + 11 + 2 + 9 + 0 + 11 ≤ 2144; omega⟩ hS (by intro q hq; first | omega | (dsimp only at hq ⊢; omega)) (fun r9 H locs hPo hz9 hk9 hS => ?_)
  replace hX := hX.keep hk9 (by first | exact id | exact rfl | omega | (dsimp only; omega))
  replace hT := hT.keep hk9 ⟨by first | exact id | exact rfl | omega | (dsimp only; omega), by first | exact id | exact rfl | omega | (dsimp only; omega)⟩
  replace hO_mt := hO_mt.keep hk9 (by first | exact id | exact rfl | omega | (dsimp only; omega))
  replace hO_ms := hO_ms.keep hk9 (by first | exact id | exact rfl | omega | (dsimp only; omega))
  replace hA_sl := hA_sl.keep hk9 (by first | exact id | exact rfl | omega | (dsimp only; omega))
  replace hO_v0 := hO_v0.keep hk9 (by first | exact id | exact rfl | omega | (dsimp only; omega))
  replace hO_v1 := hO_v1.keep hk9 (by first | exact id | exact rfl | omega | (dsimp only; omega))
  replace hO_v2 := hO_v2.keep hk9 (by first | exact id | exact rfl | omega | (dsimp only; omega))
  replace hO_v3 := hO_v3.keep hk9 (by first | exact id | exact rfl | omega | (dsimp only; omega))
  replace hA_fa := hA_fa.keep hk9 (by first | exact id | exact rfl | omega | (dsimp only; omega))
  replace hO_fl0 := hO_fl0.keep hk9 (by first | exact id | exact rfl | omega | (dsimp only; omega))
  replace hO_w0 := hO_w0.keep hk9 (by first | exact id | exact rfl | omega | (dsimp only; omega))
  replace hO_rt0 := hO_rt0.keep hk9 (by first | exact id | exact rfl | omega | (dsimp only; omega))
  replace hA_ca0 := hA_ca0.keep hk9 (by first | exact id | exact rfl | omega | (dsimp only; omega))
  replace hO_fl1 := hO_fl1.keep hk9 (by first | exact id | exact rfl | omega | (dsimp only; omega))
  replace hO_w1 := hO_w1.keep hk9 (by first | exact id | exact rfl | omega | (dsimp only; omega))
  replace hO_rt1 := hO_rt1.keep hk9 (by first | exact id | exact rfl | omega | (dsimp only; omega))
  replace hA_ca1 := hA_ca1.keep hk9 (by first | exact id | exact rfl | omega | (dsimp only; omega))
  replace hO_w2 := hO_w2.keep hk9 (by first | exact id | exact rfl | omega | (dsimp only; omega))
  clear hk9
  obtain ⟨rfl, rt2, ca2, hr12, hr22, hr32, hO_fl2, hO_rt2, hA_ca2⟩ := hPo
  refine W.eq (g2 := F0 m 102 ls ([.ref (fl2), .int (nI (2)), .ref (fa)])) rfl ?_
  refine zx_astE (i := 2) hx hb hK (Or.inr rfl) hA_fa hO_fl2 (by omega) (by omega) (by first | exact rfl | omega | (dsimp only; omega)) hS dX10_init_102 (fun H locs hz9 hA_fa hk9 hS => ?_)
  replace hX := hX.keep hk9 (by first | exact id | exact rfl | omega | (dsimp only; omega))
  replace hT := hT.keep hk9 ⟨by first | exact id | exact rfl | omega | (dsimp only; omega), by first | exact id | exact rfl | omega | (dsimp only; omega)⟩
  replace hO_mt := hO_mt.keep hk9 (by first | exact id | exact rfl | omega | (dsimp only; omega))
  replace hO_ms := hO_ms.keep hk9 (by first | exact id | exact rfl | omega | (dsimp only; omega))
  replace hA_sl := hA_sl.keep hk9 (by first | exact id | exact rfl | omega | (dsimp only; omega))
  replace hO_v0 := hO_v0.keep hk9 (by first | exact id | exact rfl | omega | (dsimp only; omega))
  replace hO_v1 := hO_v1.keep hk9 (by first | exact id | exact rfl | omega | (dsimp only; omega))
  replace hO_v2 := hO_v2.keep hk9 (by first | exact id | exact rfl | omega | (dsimp only; omega))
  replace hO_v3 := hO_v3.keep hk9 (by first | exact id | exact rfl | omega | (dsimp only; omega))
  replace hO_fl0 := hO_fl0.keep hk9 (by first | exact id | exact rfl | omega | (dsimp only; omega))
  replace hO_w0 := hO_w0.keep hk9 (by first | exact id | exact rfl | omega | (dsimp only; omega))
  replace hO_rt0 := hO_rt0.keep hk9 (by first | exact id | exact rfl | omega | (dsimp only; omega))
  replace hA_ca0 := hA_ca0.keep hk9 (by first | exact id | exact rfl | omega | (dsimp only; omega))
  replace hO_fl1 := hO_fl1.keep hk9 (by first | exact id | exact rfl | omega | (dsimp only; omega))
  replace hO_w1 := hO_w1.keep hk9 (by first | exact id | exact rfl | omega | (dsimp only; omega))
  replace hO_rt1 := hO_rt1.keep hk9 (by first | exact id | exact rfl | omega | (dsimp only; omega))
  replace hA_ca1 := hA_ca1.keep hk9 (by first | exact id | exact rfl | omega | (dsimp only; omega))
  replace hO_fl2 := hO_fl2.keep hk9 (by first | exact id | exact rfl | omega | (dsimp only; omega))
  replace hO_w2 := hO_w2.keep hk9 (by first | exact id | exact rfl | omega | (dsimp only; omega))
  replace hO_rt2 := hO_rt2.keep hk9 (by first | exact id | exact rfl | omega | (dsimp only; omega))
  replace hA_ca2 := hA_ca2.keep hk9 (by first | exact id | exact rfl | omega | (dsimp only; omega))
  clear hk9
  refine lv_iinc (v := nI (3)) (lv' := [(1, .int (nI (3))), (0, .ref (x))]) hx hb dX10_init_103 hl (k := 0) rfl (nI_add _ _) (by decide) rfl (fun ls hl => ?_)
  refine lv_goto (tgt := 74) hx hb dX10_init_106 (by decide) ?_
  refine lv_iload_n hx hb dX10_init_74 rfl (lv_at hl 0 rfl) ?_
  refine lv_iconst (v := nI 4) hx hb dX10_init_75 (by decide) ?_
  refine zi_icmp_ge (tgt := 109) hx hb dX10_init_76 (by decide) (by omega) (by omega) (fun c_76 => absurd c_76 (by decide)) (fun c_76 => ?_)
  refine lv_aload_n hx hb dX10_init_79 rfl (lv_at hl 1 rfl) ?_
  refine zi_get (C := RX10) (T := TX10) (N := 5) (v := .ref (fa)) hx hb hz wo_X10 hown hK hX rfl 3 (by decide) (hz _ wf_X10_38) (fun _ h9 => h9) rfl dX10_init_80 ?_
  refine lv_iload_n hx hb dX10_init_83 rfl (lv_at hl 0 rfl) ?_
  refine zx_new (C := RX1) (T := TX1) (N := 2) (ci := 2) (fs := [.null, .null]) hx hb hz wo_X1 tyX1 tyX1_ok hown (hz _ wl_X10_36) (hz _ wa_X1) (hz _ wi_X1) hK rfl df_X1 (by show 0 + 1 + 1 + 1 + 1 + 1 + 1 + 0 + 1 + 0 + 1 + 0 + 1 + 0 + 1 + 1 + 1 + 0 + 2 + 1 + 1 + 0 + 2 + 1 + 1 + 0 + 2 + 1 ≤ 26; omega) (by show 0 + 2 + 2000 + 1 + 9 + 4 + 9 + 0 + 9 + 0 + 9 + 0 + 9 + 0 + 4 + 2 + 9 + 0 + 11 + 2 + 9 + 0 + 11 + 2 + 9 + 0 + 11 + 2 ≤ 2144; omega) hS dX10_init_84 (fun fl3 H he_fl3 hz9 hO_fl3 hk9 hS => ?_)
  replace hX := hX.keep hk9 (by first | exact id | exact rfl | omega | (dsimp only; omega))
  replace hT := hT.keep hk9 ⟨by first | exact id | exact rfl | omega | (dsimp only; omega), by first | exact id | exact rfl | omega | (dsimp only; omega)⟩
  replace hO_mt := hO_mt.keep hk9 (by first | exact id | exact rfl | omega | (dsimp only; omega))
  replace hO_ms := hO_ms.keep hk9 (by first | exact id | exact rfl | omega | (dsimp only; omega))
  replace hA_sl := hA_sl.keep hk9 (by first | exact id | exact rfl | omega | (dsimp only; omega))
  replace hO_v0 := hO_v0.keep hk9 (by first | exact id | exact rfl | omega | (dsimp only; omega))
  replace hO_v1 := hO_v1.keep hk9 (by first | exact id | exact rfl | omega | (dsimp only; omega))
  replace hO_v2 := hO_v2.keep hk9 (by first | exact id | exact rfl | omega | (dsimp only; omega))
  replace hO_v3 := hO_v3.keep hk9 (by first | exact id | exact rfl | omega | (dsimp only; omega))
  replace hA_fa := hA_fa.keep hk9 (by first | exact id | exact rfl | omega | (dsimp only; omega))
  replace hO_fl0 := hO_fl0.keep hk9 (by first | exact id | exact rfl | omega | (dsimp only; omega))
  replace hO_w0 := hO_w0.keep hk9 (by first | exact id | exact rfl | omega | (dsimp only; omega))
  replace hO_rt0 := hO_rt0.keep hk9 (by first | exact id | exact rfl | omega | (dsimp only; omega))
  replace hA_ca0 := hA_ca0.keep hk9 (by first | exact id | exact rfl | omega | (dsimp only; omega))
  replace hO_fl1 := hO_fl1.keep hk9 (by first | exact id | exact rfl | omega | (dsimp only; omega))
  replace hO_w1 := hO_w1.keep hk9 (by first | exact id | exact rfl | omega | (dsimp only; omega))
  replace hO_rt1 := hO_rt1.keep hk9 (by first | exact id | exact rfl | omega | (dsimp only; omega))
  replace hA_ca1 := hA_ca1.keep hk9 (by first | exact id | exact rfl | omega | (dsimp only; omega))
  replace hO_fl2 := hO_fl2.keep hk9 (by first | exact id | exact rfl | omega | (dsimp only; omega))
  replace hO_w2 := hO_w2.keep hk9 (by first | exact id | exact rfl | omega | (dsimp only; omega))
  replace hO_rt2 := hO_rt2.keep hk9 (by first | exact id | exact rfl | omega | (dsimp only; omega))
  replace hA_ca2 := hA_ca2.keep hk9 (by first | exact id | exact rfl | omega | (dsimp only; omega))
  clear hk9
  refine lv_dup hx hb dX10_init_87 rfl ?_
  refine zx_new (C := RX9) (T := TX9) (N := 9) (ci := 8) (fs := [.int (nI (0)), .int (nI (0)), .null, .null, .long (0), .null, .null, .null, .int (nI (0))]) hx hb hz wo_X9 tyX9 tyX9_ok hown (hz _ wl_X10_23) (hz _ wa_X9) (hz _ wi_X9) hK rfl df_X9 (by show 0 + 1 + 1 + 1 + 1 + 1 + 1 + 0 + 1 + 0 + 1 + 0 + 1 + 0 + 1 + 1 + 1 + 0 + 2 + 1 + 1 + 0 + 2 + 1 + 1 + 0 + 2 + 1 + 1 ≤ 26; omega) (by show 0 + 2 + 2000 + 1 + 9 + 4 + 9 + 0 + 9 + 0 + 9 + 0 + 9 + 0 + 4 + 2 + 9 + 0 + 11 + 2 + 9 + 0 + 11 + 2 + 9 + 0 + 11 + 2 + 9 ≤ 2144; omega) hS dX10_init_88 (fun w3 H he_w3 hz9 hO_w3 hk9 hS => ?_)
  replace hX := hX.keep hk9 (by first | exact id | exact rfl | omega | (dsimp only; omega))
  replace hT := hT.keep hk9 ⟨by first | exact id | exact rfl | omega | (dsimp only; omega), by first | exact id | exact rfl | omega | (dsimp only; omega)⟩
  replace hO_mt := hO_mt.keep hk9 (by first | exact id | exact rfl | omega | (dsimp only; omega))
  replace hO_ms := hO_ms.keep hk9 (by first | exact id | exact rfl | omega | (dsimp only; omega))
  replace hA_sl := hA_sl.keep hk9 (by first | exact id | exact rfl | omega | (dsimp only; omega))
  replace hO_v0 := hO_v0.keep hk9 (by first | exact id | exact rfl | omega | (dsimp only; omega))
  replace hO_v1 := hO_v1.keep hk9 (by first | exact id | exact rfl | omega | (dsimp only; omega))
  replace hO_v2 := hO_v2.keep hk9 (by first | exact id | exact rfl | omega | (dsimp only; omega))
  replace hO_v3 := hO_v3.keep hk9 (by first | exact id | exact rfl | omega | (dsimp only; omega))
  replace hA_fa := hA_fa.keep hk9 (by first | exact id | exact rfl | omega | (dsimp only; omega))
  replace hO_fl0 := hO_fl0.keep hk9 (by first | exact id | exact rfl | omega | (dsimp only; omega))
  replace hO_w0 := hO_w0.keep hk9 (by first | exact id | exact rfl | omega | (dsimp only; omega))
  replace hO_rt0 := hO_rt0.keep hk9 (by first | exact id | exact rfl | omega | (dsimp only; omega))
  replace hA_ca0 := hA_ca0.keep hk9 (by first | exact id | exact rfl | omega | (dsimp only; omega))
  replace hO_fl1 := hO_fl1.keep hk9 (by first | exact id | exact rfl | omega | (dsimp only; omega))
  replace hO_w1 := hO_w1.keep hk9 (by first | exact id | exact rfl | omega | (dsimp only; omega))
  replace hO_rt1 := hO_rt1.keep hk9 (by first | exact id | exact rfl | omega | (dsimp only; omega))
  replace hA_ca1 := hA_ca1.keep hk9 (by first | exact id | exact rfl | omega | (dsimp only; omega))
  replace hO_fl2 := hO_fl2.keep hk9 (by first | exact id | exact rfl | omega | (dsimp only; omega))
  replace hO_w2 := hO_w2.keep hk9 (by first | exact id | exact rfl | omega | (dsimp only; omega))
  replace hO_rt2 := hO_rt2.keep hk9 (by first | exact id | exact rfl | omega | (dsimp only; omega))
  replace hA_ca2 := hA_ca2.keep hk9 (by first | exact id | exact rfl | omega | (dsimp only; omega))
  replace hO_fl3 := hO_fl3.keep hk9 (by first | exact id | exact rfl | omega | (dsimp only; omega))
  clear hk9
  refine lv_dup hx hb dX10_init_91 rfl ?_
  refine lv_iconst (v := nI 3) hx hb dX10_init_92 (by decide) ?_
  refine lv_iconst (v := (-1)) hx hb dX10_init_93 (by decide) ?_
  refine va_ldcS hx hb hown (hK.2.2.1 ("FilterReader", 31, "") (by decide)) dX10_init_94 ?_
  refine zx_IN (As := [.int (nI (3)), .int ((-1)), .ref (G.2.2 "")]) (rest := [.ref (w3), .ref (fl3), .ref (fl3), .int (nI (3)), .ref (fa)]) (b := w3) ⟨hx, hb, hml, hown, hts⟩ (c_vinit l G w3 3 (G.2.2 "") (-1)) ⟨va_cnB 3 hts (zgN wc_X9_init) rfl rfl rfl (hK.2.1 _ wm_X10_33) (hz _ wi_X9) (by decide +kernel) ⟨Nat.le_of_ble_eq_true rfl, Nat.le_of_ble_eq_true rfl⟩, rfl, hz _ wn_X9_init⟩ hK hO_w3 rfl hl.1 rfl (Nat.le_of_ble_eq_true rfl) dX10_init_96 ⟨by show 0 + 1 + 1 + 1 + 1 + 1 + 1 + 0 + 1 + 0 + 1 + 0 + 1 + 0 + 1 + 1 + 1 + 0 + 2 + 1 + 1 + 0 + 2 + 1 + 1 + 0 + 2 + 1 + 1 + 0 ≤ 26; omega, by show 0 + 2 + 2000 + 1 + 9 + 4 + 9 + 0 + 9 + 0 + 9 + 0 + 9 + 0 + 4 + 2 + 9 + 0 + 11 + 2 + 9 + 0 + 11 + 2 + 9 + 0 + 11 + 2 + 9 + 0 ≤ 2144; omega⟩ hS (by intro q hq; first | omega | (dsimp only at hq ⊢; omega)) (fun r9 H locs hPo hz9 hk9 hS => ?_)
  replace hX := hX.keep hk9 (by first | exact id | exact rfl | omega | (dsimp only; omega))
  replace hT := hT.keep hk9 ⟨by first | exact id | exact rfl | omega | (dsimp only; omega), by first | exact id | exact rfl | omega | (dsimp only; omega)⟩
  replace hO_mt := hO_mt.keep hk9 (by first | exact id | exact rfl | omega | (dsimp only; omega))
  replace hO_ms := hO_ms.keep hk9 (by first | exact id | exact rfl | omega | (dsimp only; omega))
  replace hA_sl := hA_sl.keep hk9 (by first | exact id | exact rfl | omega | (dsimp only; omega))
  replace hO_v0 := hO_v0.keep hk9 (by first | exact id | exact rfl | omega | (dsimp only; omega))
  replace hO_v1 := hO_v1.keep hk9 (by first | exact id | exact rfl | omega | (dsimp only; omega))
  replace hO_v2 := hO_v2.keep hk9 (by first | exact id | exact rfl | omega | (dsimp only; omega))
  replace hO_v3 := hO_v3.keep hk9 (by first | exact id | exact rfl | omega | (dsimp only; omega))
  replace hA_fa := hA_fa.keep hk9 (by first | exact id | exact rfl | omega | (dsimp only; omega))
  replace hO_fl0 := hO_fl0.keep hk9 (by first | exact id | exact rfl | omega | (dsimp only; omega))
  replace hO_w0 := hO_w0.keep hk9 (by first | exact id | exact rfl | omega | (dsimp only; omega))
  replace hO_rt0 := hO_rt0.keep hk9 (by first | exact id | exact rfl | omega | (dsimp only; omega))
  replace hA_ca0 := hA_ca0.keep hk9 (by first | exact id | exact rfl | omega | (dsimp only; omega))
  replace hO_fl1 := hO_fl1.keep hk9 (by first | exact id | exact rfl | omega | (dsimp only; omega))
  replace hO_w1 := hO_w1.keep hk9 (by first | exact id | exact rfl | omega | (dsimp only; omega))
  replace hO_rt1 := hO_rt1.keep hk9 (by first | exact id | exact rfl | omega | (dsimp only; omega))
  replace hA_ca1 := hA_ca1.keep hk9 (by first | exact id | exact rfl | omega | (dsimp only; omega))
  replace hO_fl2 := hO_fl2.keep hk9 (by first | exact id | exact rfl | omega | (dsimp only; omega))
  replace hO_w2 := hO_w2.keep hk9 (by first | exact id | exact rfl | omega | (dsimp only; omega))
  replace hO_rt2 := hO_rt2.keep hk9 (by first | exact id | exact rfl | omega | (dsimp only; omega))
  replace hA_ca2 := hA_ca2.keep hk9 (by first | exact id | exact rfl | omega | (dsimp only; omega))
  replace hO_fl3 := hO_fl3.keep hk9 (by first | exact id | exact rfl | omega | (dsimp only; omega))
  clear hk9
  obtain ⟨rfl, hO_w3⟩ := hPo
  refine W.eq (g2 := F0 m 99 ls ([.ref (w3), .ref (fl3), .ref (fl3), .int (nI (3)), .ref (fa)])) rfl ?_
  refine zx_IN (As := [.ref (w3)]) (rest := [.ref (fl3), .int (nI (3)), .ref (fa)]) (b := fl3) ⟨hx, hb, hml, hown, hts⟩ (c_finit l G H.size fl3 w3 0 0 (-1) (G.2.2 "") (G.2.2 "") 0 none none none (by omega) (by omega) (by omega)) ⟨va_cnB 1 hts (zgN wc_X1_init) rfl rfl rfl (hK.2.1 _ wm_X10_42) (hz _ wi_X1) (by decide +kernel) ⟨Nat.le_of_ble_eq_true rfl, Nat.le_of_ble_eq_true rfl⟩, rfl, hz _ wn_X1_init⟩ hK ⟨hO_fl3, hO_w3, rfl⟩ rfl hl.1 rfl (Nat.le_of_ble_eq_true rfl) dX10_init_99 ⟨by show 0 + 1 + 1 + 1 + 1 + 1 + 1 + 0 + 1 + 0 + 1 + 0 + 1 + 0 + 1 + 1 + 1 + 0 + 2 + 1 + 1 + 0 + 2 + 1 + 1 + 0 + 2 + 1 + 1 + 0 + 2 ≤ 26; omega, by show 0 + 2 + 2000 + 1 + 9 + 4 + 9 + 0 + 9 + 0 + 9 + 0 + 9 + 0 + 4 + 2 + 9 + 0 + 11 + 2 + 9 + 0 + 11 + 2 + 9 + 0 + 11 + 2 + 9 + 0 + 11 ≤ 2144; omega⟩ hS (by intro q hq; first | omega | (dsimp only at hq ⊢; omega)) (fun r9 H locs hPo hz9 hk9 hS => ?_)
  replace hX := hX.keep hk9 (by first | exact id | exact rfl | omega | (dsimp only; omega))
  replace hT := hT.keep hk9 ⟨by first | exact id | exact rfl | omega | (dsimp only; omega), by first | exact id | exact rfl | omega | (dsimp only; omega)⟩
  replace hO_mt := hO_mt.keep hk9 (by first | exact id | exact rfl | omega | (dsimp only; omega))
  replace hO_ms := hO_ms.keep hk9 (by first | exact id | exact rfl | omega | (dsimp only; omega))
  replace hA_sl := hA_sl.keep hk9 (by first | exact id | exact rfl | omega | (dsimp only; omega))
  replace hO_v0 := hO_v0.keep hk9 (by first | exact id | exact rfl | omega | (dsimp only; omega))
  replace hO_v1 := hO_v1.keep hk9 (by first | exact id | exact rfl | omega | (dsimp only; omega))
  replace hO_v2 := hO_v2.keep hk9 (by first | exact id | exact rfl | omega | (dsimp only; omega))
  replace hO_v3 := hO_v3.keep hk9 (by first | exact id | exact rfl | omega | (dsimp only; omega))
  replace hA_fa := hA_fa.keep hk9 (by first | exact id | exact rfl | omega | (dsimp only; omega))
  replace hO_fl0 := hO_fl0.keep hk9 (by first | exact id | exact rfl | omega | (dsimp only; omega))
  replace hO_w0 := hO_w0.keep hk9 (by first | exact id | exact rfl | omega | (dsimp only; omega))
  replace hO_rt0 := hO_rt0.keep hk9 (by first | exact id | exact rfl | omega | (dsimp only; omega))
  replace hA_ca0 := hA_ca0.keep hk9 (by first | exact id | exact rfl | omega | (dsimp only; omega))
  replace hO_fl1 := hO_fl1.keep hk9 (by first | exact id | exact rfl | omega | (dsimp only; omega))
  replace hO_w1 := hO_w1.keep hk9 (by first | exact id | exact rfl | omega | (dsimp only; omega))
  replace hO_rt1 := hO_rt1.keep hk9 (by first | exact id | exact rfl | omega | (dsimp only; omega))
  replace hA_ca1 := hA_ca1.keep hk9 (by first | exact id | exact rfl | omega | (dsimp only; omega))
  replace hO_fl2 := hO_fl2.keep hk9 (by first | exact id | exact rfl | omega | (dsimp only; omega))
  replace hO_w2 := hO_w2.keep hk9 (by first | exact id | exact rfl | omega | (dsimp only; omega))
  replace hO_rt2 := hO_rt2.keep hk9 (by first | exact id | exact rfl | omega | (dsimp only; omega))
  replace hA_ca2 := hA_ca2.keep hk9 (by first | exact id | exact rfl | omega | (dsimp only; omega))
  replace hO_w3 := hO_w3.keep hk9 (by first | exact id | exact rfl | omega | (dsimp only; omega))
  clear hk9
  obtain ⟨rfl, rt3, ca3, hr13, hr23, hr33, hO_fl3, hO_rt3, hA_ca3⟩ := hPo
  refine W.eq (g2 := F0 m 102 ls ([.ref (fl3), .int (nI (3)), .ref (fa)])) rfl ?_
  refine zx_astE (i := 3) hx hb hK (Or.inr rfl) hA_fa hO_fl3 (by omega) (by omega) (by first | exact rfl | omega | (dsimp only; omega)) hS dX10_init_102 (fun H locs hz9 hA_fa hk9 hS => ?_)
  replace hX := hX.keep hk9 (by first | exact id | exact rfl | omega | (dsimp only; omega))
  replace hT := hT.keep hk9 ⟨by first | exact id | exact rfl | omega | (dsimp only; omega), by first | exact id | exact rfl | omega | (dsimp only; omega)⟩
  replace hO_mt := hO_mt.keep hk9 (by first | exact id | exact rfl | omega | (dsimp only; omega))
  replace hO_ms := hO_ms.keep hk9 (by first | exact id | exact rfl | omega | (dsimp only; omega))
  replace hA_sl := hA_sl.keep hk9 (by first | exact id | exact rfl | omega | (dsimp only; omega))
  replace hO_v0 := hO_v0.keep hk9 (by first | exact id | exact rfl | omega | (dsimp only; omega))
  replace hO_v1 := hO_v1.keep hk9 (by first | exact id | exact rfl | omega | (dsimp only; omega))
  replace hO_v2 := hO_v2.keep hk9 (by first | exact id | exact rfl | omega | (dsimp only; omega))
  replace hO_v3 := hO_v3.keep hk9 (by first | exact id | exact rfl | omega | (dsimp only; omega))
  replace hO_fl0 := hO_fl0.keep hk9 (by first | exact id | exact rfl | omega | (dsimp only; omega))
  replace hO_w0 := hO_w0.keep hk9 (by first | exact id | exact rfl | omega | (dsimp only; omega))
  replace hO_rt0 := hO_rt0.keep hk9 (by first | exact id | exact rfl | omega | (dsimp only; omega))
  replace hA_ca0 := hA_ca0.keep hk9 (by first | exact id | exact rfl | omega | (dsimp only; omega))
  replace hO_fl1 := hO_fl1.keep hk9 (by first | exact id | exact rfl | omega | (dsimp only; omega))
  replace hO_w1 := hO_w1.keep hk9 (by first | exact id | exact rfl | omega | (dsimp only; omega))
  replace hO_rt1 := hO_rt1.keep hk9 (by first | exact id | exact rfl | omega | (dsimp only; omega))
  replace hA_ca1 := hA_ca1.keep hk9 (by first | exact id | exact rfl | omega | (dsimp only; omega))
  replace hO_fl2 := hO_fl2.keep hk9 (by first | exact id | exact rfl | omega | (dsimp only; omega))
  replace hO_w2 := hO_w2.keep hk9 (by first | exact id | exact rfl | omega | (dsimp only; omega))
  replace hO_rt2 := hO_rt2.keep hk9 (by first | exact id | exact rfl | omega | (dsimp only; omega))
  replace hA_ca2 := hA_ca2.keep hk9 (by first | exact id | exact rfl | omega | (dsimp only; omega))
  replace hO_fl3 := hO_fl3.keep hk9 (by first | exact id | exact rfl | omega | (dsimp only; omega))
  replace hO_w3 := hO_w3.keep hk9 (by first | exact id | exact rfl | omega | (dsimp only; omega))
  replace hO_rt3 := hO_rt3.keep hk9 (by first | exact id | exact rfl | omega | (dsimp only; omega))
  replace hA_ca3 := hA_ca3.keep hk9 (by first | exact id | exact rfl | omega | (dsimp only; omega))
  clear hk9
  refine lv_iinc (v := nI (4)) (lv' := [(1, .int (nI (4))), (0, .ref (x))]) hx hb dX10_init_103 hl (k := 0) rfl (nI_add _ _) (by decide) rfl (fun ls hl => ?_)
  refine lv_goto (tgt := 74) hx hb dX10_init_106 (by decide) ?_
  refine lv_iload_n hx hb dX10_init_74 rfl (lv_at hl 0 rfl) ?_
  refine lv_iconst (v := nI 4) hx hb dX10_init_75 (by decide) ?_
  refine zi_icmp_ge (tgt := 109) hx hb dX10_init_76 (by decide) (by omega) (by omega) (fun c_76 => ?_) (fun c_76 => absurd c_76 (by decide))
  refine lv_aload_n hx hb dX10_init_109 rfl (lv_at hl 1 rfl) ?_
  refine lv_iconst (v := (-1)) hx hb dX10_init_110 (by decide) ?_
  refine zx_put (C := RX10) (T := TX10) (N := 5) (v := .int ((-1))) hx hb hz wo_X10 tyX10 tyX10_ok nmX10 hown hK hX rfl 4 (by decide) (hz _ wf_X10_45) (fun _ h9 => h9) (Or.inl rfl) rfl rfl (Nat.le_of_ble_eq_true rfl) (by first | exact rfl | omega | (dsimp only; omega)) hS dX10_init_111 (fun H locs hz9 hX hk9 hS => ?_)
  have hX : zO G H (x) 9 [.ref (tp), .ref (mt), .ref (sl), .ref (fa), .int ((-1))] := hX
  replace hT := hT.keep hk9 ⟨by first | exact id | exact rfl | omega | (dsimp only; omega), by first | exact id | exact rfl | omega | (dsimp only; omega)⟩
  replace hO_mt := hO_mt.keep hk9 (by first | exact id | exact rfl | omega | (dsimp only; omega))
  replace hO_ms := hO_ms.keep hk9 (by first | exact id | exact rfl | omega | (dsimp only; omega))
  replace hA_sl := hA_sl.keep hk9 (by first | exact id | exact rfl | omega | (dsimp only; omega))
  replace hO_v0 := hO_v0.keep hk9 (by first | exact id | exact rfl | omega | (dsimp only; omega))
  replace hO_v1 := hO_v1.keep hk9 (by first | exact id | exact rfl | omega | (dsimp only; omega))
  replace hO_v2 := hO_v2.keep hk9 (by first | exact id | exact rfl | omega | (dsimp only; omega))
  replace hO_v3 := hO_v3.keep hk9 (by first | exact id | exact rfl | omega | (dsimp only; omega))
  replace hA_fa := hA_fa.keep hk9 (by first | exact id | exact rfl | omega | (dsimp only; omega))
  replace hO_fl0 := hO_fl0.keep hk9 (by first | exact id | exact rfl | omega | (dsimp only; omega))
  replace hO_w0 := hO_w0.keep hk9 (by first | exact id | exact rfl | omega | (dsimp only; omega))
  replace hO_rt0 := hO_rt0.keep hk9 (by first | exact id | exact rfl | omega | (dsimp only; omega))
  replace hA_ca0 := hA_ca0.keep hk9 (by first | exact id | exact rfl | omega | (dsimp only; omega))
  replace hO_fl1 := hO_fl1.keep hk9 (by first | exact id | exact rfl | omega | (dsimp only; omega))
  replace hO_w1 := hO_w1.keep hk9 (by first | exact id | exact rfl | omega | (dsimp only; omega))
  replace hO_rt1 := hO_rt1.keep hk9 (by first | exact id | exact rfl | omega | (dsimp only; omega))
  replace hA_ca1 := hA_ca1.keep hk9 (by first | exact id | exact rfl | omega | (dsimp only; omega))
  replace hO_fl2 := hO_fl2.keep hk9 (by first | exact id | exact rfl | omega | (dsimp only; omega))
  replace hO_w2 := hO_w2.keep hk9 (by first | exact id | exact rfl | omega | (dsimp only; omega))
  replace hO_rt2 := hO_rt2.keep hk9 (by first | exact id | exact rfl | omega | (dsimp only; omega))
  replace hA_ca2 := hA_ca2.keep hk9 (by first | exact id | exact rfl | omega | (dsimp only; omega))
  replace hO_fl3 := hO_fl3.keep hk9 (by first | exact id | exact rfl | omega | (dsimp only; omega))
  replace hO_w3 := hO_w3.keep hk9 (by first | exact id | exact rfl | omega | (dsimp only; omega))
  replace hO_rt3 := hO_rt3.keep hk9 (by first | exact id | exact rfl | omega | (dsimp only; omega))
  replace hA_ca3 := hA_ca3.keep hk9 (by first | exact id | exact rfl | omega | (dsimp only; omega))
  clear hk9
  exact zx_v hx hb hr hlocks (by show 0 + 1 + 1 + 1 + 1 + 1 + 1 + 0 + 1 + 0 + 1 + 0 + 1 + 0 + 1 + 1 + 1 + 0 + 2 + 1 + 1 + 0 + 2 + 1 + 1 + 0 + 2 + 1 + 1 + 0 + 2 ≤ 26; omega) (by show 0 + 2 + 2000 + 1 + 9 + 4 + 9 + 0 + 9 + 0 + 9 + 0 + 9 + 0 + 4 + 2 + 9 + 0 + 11 + 2 + 9 + 0 + 11 + 2 + 9 + 0 + 11 + 2 + 9 + 0 + 11 ≤ 2144; omega) (⟨rfl, tp, qb, mt, ms, sl, fa, f4 v0 v1 v2 v3, f4 fl0 fl1 fl2 fl3, by omega, by omega, by omega, by omega, by omega, by omega, by omega, hX, hT, hO_mt, hO_ms, hA_sl.extn up_4, hA_fa.extn up_4, f4_all (P := fun v => sl < v ∧ v < fa ∧ zO G H v 8 (V0 G 3)) ⟨by omega, by omega, hO_v0⟩ ⟨by omega, by omega, hO_v1⟩ ⟨by omega, by omega, hO_v2⟩ ⟨by omega, by omega, hO_v3⟩, f4_all (P := fun v => fa < v ∧ ∃ w rt ca, v < w ∧ w < rt ∧ rt < ca ∧ ca < H.size ∧ zO G H v 2 [.ref rt, .ref ca] ∧ zO G H rt 5 (rlF 1 false w none none none none) ∧ zA G H ca 4 (cA4 0 (0, 0, 0, 0, 0))) ⟨by omega, w0, rt0, ca0, by omega, by omega, by omega, by omega, hO_fl0, hO_rt0, hA_ca0⟩ ⟨by omega, w1, rt1, ca1, by omega, by omega, by omega, by omega, hO_fl1, hO_rt1, hA_ca1⟩ ⟨by omega, w2, rt2, ca2, by omega, by omega, by omega, by omega, hO_fl2, hO_rt2, hA_ca2⟩ ⟨by omega, w3, rt3, ca3, by omega, by omega, by omega, by omega, hO_fl3, hO_rt3, hA_ca3⟩⟩) hS dX10_init_114
