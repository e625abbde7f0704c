set_option maxHeartbeats 4000000 in
set_option maxRecDepth 100000 in
theorem c_re_ (l : Launch) (G : zG) (tp qb cn : Nat) (f : Nat → Nat) (e : Nat) (he : e ≤ 15) (IH : C_rv l G tp qb cn f e) (n0 rd at9 e9 dp : Nat) (htr : tp < rd) (hqr : qb < rd) (hae : at9 < e9) (he2 : e9 ≤ 2000) (hdp : dp = 16 - e) : Met l yX0_readElement wsX0_readElement (rRd 10 255 e (4 * useE f (16 - e) at9 e9) (10 * useE f (16 - e) at9 e9)) (zP G [.ref (rd), .int (nI (e9)), .int (nI (dp))] (fun H => zO G H rd 1 [.ref tp, .int (nI at9)] ∧ TP G tp qb cn f H ∧ CH G H ∧ H.size = n0 ∧ cB G ≤ rd)) (zX (fun q => q = rd ∨ n0 ≤ q) (fun r9 H => ∃ o8 : Option Nat, r9 = some (va_rf o8) ∧ (o8 = none → eOK f (16 - e) at9 e9 = false) ∧ ∀ v, o8 = some v → eOK f (16 - e) at9 e9 = true ∧ n0 ≤ v ∧ zO G H rd 1 [.ref tp, .int (nI (th f at9))] ∧ Nod G H f nI e v H.size (f at9) (vo f at9) (nL f at9) (nI at9) none)) (4 * useE f (16 - e) at9 e9) (10 * useE f (16 - e) at9 e9) (fun q => q = rd ∨ n0 ≤ q) := by
  refine Met.ofW (cc := cX0_readElement) (maxL := 6) (ret := (some (.object "FilterReader$Value"))) (by decide) rfl ?_
  intro p en s m args below meth c s₁ B hml hv
  obtain ⟨rfl, hP, hK⟩ := hv
  have hx := B.exec
  have hb := B.bytes
  have hr := B.returns
  have hts := atoms_spec (ws := wsX0_readElement) B.pre
  have hz : ∀ w ∈ zW, w.before _ s = true := fun w h => hts w (List.mem_cons_of_mem _ h)
  have hown : s.vm.findClass RX0 = some m.cls := findClass_of_methodNamed B.named
  have hlocks := B.notSynchronized
  obtain ⟨hRd, hT, hCH, hn0, hcr⟩ := id hP
  have hS : va_S (fun q => q = rd ∨ n0 ≤ q) s.heap s.heap [] := va_S.rf
  have h8 := hT.2.2
  have hrl := hRd.lt
  have htl := hT.1.lt
  have hql := hT.2.1.lt
  have hgt := tE_gt f at9 e9
  have hl := lv_entry ([.ref (rd), .int (nI (e9)), .int (nI (dp))]) (n := 6) (Nat.le_of_ble_eq_true rfl)
  rw [lg_entry_eq]
  generalize (lg_sl ([.ref (rd), .int (nI (e9)), .int (nI (dp))]) ++ List.replicate (6 - (lg_sl ([.ref (rd), .int (nI (e9)), .int (nI (dp))])).length) Slot.unset).toArray = ls at hl ⊢
  have hl : lv_has ls 6 [(0, .ref (rd)), (1, .int (nI (e9))), (2, .int (nI (dp)))] := hl
  refine lv_aload_n hx hb dX0_readElement_0 rfl (lv_at hl 0 rfl) ?_
  refine zi_get (C := RX0) (T := TX0) (N := 2) (v := .int (nI (at9))) hx hb hz wo_X0 hown hK hRd rfl 1 (by decide) (hz _ wf_X0_15) (fun _ h9 => h9) rfl dX0_readElement_1 ?_
  refine lv_istore_n (lv' := [(3, .int (nI (at9))), (0, .ref (rd)), (1, .int (nI (e9))), (2, .int (nI (dp)))]) hx hb dX0_readElement_4 rfl hl (by decide) rfl (fun ls hl => ?_)
  refine lv_aload_n hx hb dX0_readElement_5 rfl (lv_at hl 1 rfl) ?_
  refine lv_iload_n hx hb dX0_readElement_6 rfl (lv_at hl 0 rfl) ?_
  refine lv_iconst (v := nI 1) hx hb dX0_readElement_7 (by decide) ?_
  refine zi_add hx hb dX0_readElement_8 ?_
  refine lv_iload_n hx hb dX0_readElement_9 rfl (lv_at hl 2 rfl) ?_
  refine zc_V (As := [.int (nI (at9 + 1)), .int (nI (e9))]) (rest := []) ⟨hx, hb, hml, hown, hts⟩ (c_zeroFrom l G rd tp qb cn (.int (nI at9)) f (at9 + 1) e9 (by omega) (by omega)) (cwV 2 hts (zgV wm_X0_54 wv_X0_zeroFrom) rfl rfl rfl (by decide +kernel) ⟨by show 1 + 1 ≤ _; simp only [headSpec]; omega, by show 8 + (_ + 11) + 21 ≤ _; simp only [headSpec]; omega⟩) hK hRd rfl ⟨hRd, hT⟩ rfl hl.1 rfl (Nat.le_of_ble_eq_true rfl) dX0_readElement_10 ⟨by show 0 ≤ 4 * useE f (16 - e) at9 e9; omega, by show 0 ≤ 10 * useE f (16 - e) at9 e9; omega⟩ ?_
  rcases zr_tE (f := f) hae he2 with ⟨hq, hqe⟩ | ⟨hq, hqe⟩
  · rw [hqe]
    refine W.eq (g2 := F0 m 13 ls ([.int (nI (tE f at9 e9))])) rfl ?_
    refine lv_istore (lv' := [(4, .int (nI (tE f at9 e9))), (3, .int (nI (at9))), (0, .ref (rd)), (1, .int (nI (e9))), (2, .int (nI (dp)))]) hx hb dX0_readElement_13 hl (by decide) rfl (fun ls hl => ?_)
    refine lv_iload hx hb dX0_readElement_15 (lv_at hl 0 rfl) ?_
    refine zi_if_lt (tgt := 32) hx hb dX0_readElement_17 (by decide) (by omega) ?_
    refine lv_aload_n hx hb dX0_readElement_20 rfl (lv_at hl 2 rfl) ?_
    refine lv_iload_n hx hb dX0_readElement_21 rfl (lv_at hl 1 rfl) ?_
    refine lv_iconst (v := nI 1) hx hb dX0_readElement_22 (by decide) ?_
    refine zi_add hx hb dX0_readElement_23 ?_
    refine lv_iload hx hb dX0_readElement_24 (lv_at hl 0 rfl) ?_
    refine zc_V (As := [.int (nI (at9 + 1)), .int (nI (tE f at9 e9))]) (rest := []) ⟨hx, hb, hml, hown, hts⟩ (c_utf8b l G rd tp qb cn (.int (nI at9)) f (at9 + 1) (tE f at9 e9) (by omega) (by omega)) (cwV 2 hts (zgV wm_X0_58 wv_X0_isRightUtf8) rfl rfl rfl (by decide +kernel) ⟨by show 1 + 1 ≤ _; simp only [headSpec]; omega, by show 8 + (_ + 11) + 23 ≤ _; simp only [headSpec]; omega⟩) hK hRd rfl ⟨hRd, hT⟩ rfl hl.1 rfl (Nat.le_of_ble_eq_true rfl) dX0_readElement_26 ⟨by show 0 ≤ 4 * useE f (16 - e) at9 e9; omega, by show 0 ≤ 10 * useE f (16 - e) at9 e9; omega⟩ ?_
    refine zb_if_ne (tgt := 34) hx hb dX0_readElement_29 (by decide) (fun c_29 => ?_) (fun c_29 => ?_)
    · have huse := useE_ge (dep := 16 - e) he2 hq
      have hne9 := tE_ne hq he2
      refine zx_new (C := RX9) (T := TX9) (N := 9) (ci := 8) (fs := [.int (nI (0)), .int (nI (0)), .null, .null, .long (0), .null, .null, .null, .int (nI (0))]) hx hb hz wo_X9 tyX9 tyX9_ok hown (hz _ wl_X0_19) (hz _ wa_X9) (hz _ wi_X9) hK rfl df_X9 (by show 0 + 1 ≤ 4 * useE f (16 - e) at9 e9; omega) (by show 0 + 9 ≤ 10 * useE f (16 - e) at9 e9; omega) hS dX0_readElement_34 (fun el H he_el hz9 hO_el hk9 hS => ?_)
      have hRd := hRd.keep hk9 (by first | exact id | exact rfl | omega | (dsimp only; omega))
      have hT := hT.keep hk9 ⟨by first | exact id | exact rfl | omega | (dsimp only; omega), by first | exact id | exact rfl | omega | (dsimp only; omega)⟩
      have hCH := hCH.keep hk9 ⟨by intro q hq; first | exact id | omega | (dsimp only; omega), by omega⟩
      refine lv_dup hx hb dX0_readElement_37 rfl ?_
      refine lv_aload_n hx hb dX0_readElement_38 rfl (lv_at hl 2 rfl) ?_
      refine zi_get (C := RX0) (T := TX0) (N := 2) (v := .ref (tp)) hx hb hz wo_X0 hown hK hRd rfl 0 (by decide) (hz _ wf_X0_9) (fun _ h9 => h9) rfl dX0_readElement_39 ?_
      refine lv_iload_n hx hb dX0_readElement_42 rfl (lv_at hl 1 rfl) ?_
      refine zc_VN (As := [.int (nI (at9))]) (rest := [.ref (el), .ref (el)]) ⟨hx, hb, hml, hown, hts⟩ (c_byteAt2 l G tp qb cn f (at9) (by omega)) ⟨va_cnB 1 hts (zgN wc_X8_byteAt) rfl rfl rfl (hK.2.1 _ wm_X0_48) (hz _ wi_X8) (by decide +kernel) ⟨by show 0 + 1 ≤ _; simp only [headSpec]; omega, by show 8 + (_ + 11) + 0 ≤ _; simp only [headSpec]; omega⟩, hz _ wn_X8_byteAt, hz _ we_X8_byteAt⟩ hK hT.1 rfl hT rfl hl.1 rfl (Nat.le_of_ble_eq_true rfl) dX0_readElement_43 ⟨by show 0 + 1 ≤ 4 * useE f (16 - e) at9 e9; omega, by show 0 + 9 ≤ 10 * useE f (16 - e) at9 e9; omega⟩ ?_
      refine lv_iload_n hx hb dX0_readElement_46 rfl (lv_at hl 1 rfl) ?_
      refine lv_aload_n hx hb dX0_readElement_47 rfl (lv_at hl 2 rfl) ?_
      refine lv_iload_n hx hb dX0_readElement_48 rfl (lv_at hl 1 rfl) ?_
      refine lv_iconst (v := nI 1) hx hb dX0_readElement_49 (by decide) ?_
      refine zi_add hx hb dX0_readElement_50 ?_
      refine lv_iload hx hb dX0_readElement_51 (lv_at hl 0 rfl) ?_
      refine zx_V (As := [.int (nI (at9 + 1)), .int (nI (tE f at9 e9))]) (rest := [.int (nI (at9)), .int (nI (f (at9))), .ref (el), .ref (el)]) ⟨hx, hb, hml, hown, hts⟩ (c_textOf l G H.size rd tp qb cn (.int (nI at9)) f (at9 + 1) (tE f at9 e9) (by omega) (by omega)) (cwV 2 hts (zgV wm_X0_62 wv_X0_textOf) rfl rfl rfl (by decide +kernel) ⟨by show 4 + 1 ≤ _; simp only [headSpec]; omega, by show 8 + (_ + 11) + 97 ≤ _; simp only [headSpec]; omega⟩) hK hRd rfl ⟨hRd, hT, hCH, rfl⟩ rfl hl.1 rfl (Nat.le_of_ble_eq_true rfl) dX0_readElement_53 ⟨by show 0 + 1 + 3 ≤ 4 * useE f (16 - e) at9 e9; omega, by show 0 + 9 + (2 * (tE f at9 e9 - (at9 + 1)) + 4) ≤ 10 * useE f (16 - e) at9 e9; omega⟩ hS (by intro q hq; first | omega | (dsimp only at hq ⊢; omega)) (fun r9 H locs hPo hz9 hk9 hS => ?_)
      have hRd := hRd.keep hk9 (by first | exact id | exact rfl | omega | (dsimp only; omega))
      have hT := hT.keep hk9 ⟨by first | exact id | exact rfl | omega | (dsimp only; omega), by first | exact id | exact rfl | omega | (dsimp only; omega)⟩
      have hCH := hCH.keep hk9 ⟨by intro q hq; first | exact id | omega | (dsimp only; omega), by omega⟩
      have hO_el := hO_el.keep hk9 (by first | exact id | exact rfl | omega | (dsimp only; omega))
      obtain ⟨nm1, rfl, hZ⟩ := hPo
      refine W.eq (g2 := F0 m 56 ls ([.ref (nm1), .int (nI (at9)), .int (nI (f (at9))), .ref (el), .ref (el)])) rfl ?_
      refine zx_IN (As := [.int (nI (f (at9))), .int (nI (at9)), .ref (nm1)]) (rest := [.ref (el)]) (b := el) ⟨hx, hb, hml, hown, hts⟩ (c_vinit l G el (f at9) nm1 (nI at9)) ⟨va_cnB 3 hts (zgN wc_X9_init) rfl rfl rfl (hK.2.1 _ wm_X0_25) (hz _ wi_X9) (by decide +kernel) ⟨by show 1 + 1 ≤ _; simp only [headSpec]; omega, by show 8 + (_ + 11) + 21 ≤ _; simp only [headSpec]; omega⟩, rfl, hz _ wn_X9_init⟩ hK hO_el rfl hl.1 rfl (Nat.le_of_ble_eq_true rfl) dX0_readElement_56 ⟨by show 0 + 1 + 3 + 0 ≤ 4 * useE f (16 - e) at9 e9; omega, by show 0 + 9 + (2 * (tE f at9 e9 - (at9 + 1)) + 4) + 0 ≤ 10 * useE f (16 - e) at9 e9; omega⟩ hS (by intro q hq; first | omega | (dsimp only at hq ⊢; omega)) (fun r9 H locs hPo hz9 hk9 hS => ?_)
      have hRd := hRd.keep hk9 (by first | exact id | exact rfl | omega | (dsimp only; omega))
      have hT := hT.keep hk9 ⟨by first | exact id | exact rfl | omega | (dsimp only; omega), by first | exact id | exact rfl | omega | (dsimp only; omega)⟩
      have hCH := hCH.keep hk9 ⟨by intro q hq; first | exact id | omega | (dsimp only; omega), by omega⟩
      have hZ := hZ.keep hk9 (by intro q hq; first | exact id | (simp only [Zr, zRg] at hq ⊢; omega))
      obtain ⟨rfl, hO_el⟩ := hPo
      refine W.eq (g2 := F0 m 59 ls ([.ref (el)])) rfl ?_
      refine lv_astore (lv' := [(5, .ref (el)), (4, .int (nI (tE f at9 e9))), (3, .int (nI (at9))), (0, .ref (rd)), (1, .int (nI (e9))), (2, .int (nI (dp)))]) hx hb dX0_readElement_59 hl (by decide) rfl (fun ls hl => ?_)
      refine lv_aload_n hx hb dX0_readElement_61 rfl (lv_at hl 3 rfl) ?_
      refine lv_iload hx hb dX0_readElement_62 (lv_at hl 1 rfl) ?_
      refine lv_iconst (v := nI 1) hx hb dX0_readElement_64 (by decide) ?_
      refine zi_add hx hb dX0_readElement_65 ?_
      refine zx_put (C := RX0) (T := TX0) (N := 2) (v := .int (nI (tE f at9 e9 + 1))) hx hb hz wo_X0 tyX0 tyX0_ok nmX0 hown hK hRd rfl 1 (by decide) (hz _ wf_X0_15) (fun _ h9 => h9) (Or.inl rfl) rfl rfl (Nat.le_of_ble_eq_true rfl) (by first | exact rfl | omega | (dsimp only; omega)) hS dX0_readElement_66 (fun H locs hz9 hRd hk9 hS => ?_)
      have hRd : zO G H (rd) 1 [.ref (tp), .int (nI (tE f at9 e9 + 1))] := hRd
      have hT := hT.keep hk9 ⟨by first | exact id | exact rfl | omega | (dsimp only; omega), by first | exact id | exact rfl | omega | (dsimp only; omega)⟩
      have hCH := hCH.keep hk9 ⟨by intro q hq; first | exact id | omega | (dsimp only; omega), by omega⟩
      have hO_el := hO_el.keep hk9 (by first | exact id | exact rfl | omega | (dsimp only; omega))
      have hZ := hZ.keep hk9 (by intro q hq; first | exact id | (simp only [Zr, zRg] at hq ⊢; omega))
      have hNm : StrZ G H (Zr G el H.size) nm1 (nL f at9) := (hZ.mono (fun q hq => by simp only [Zr, zRg] at hq ⊢; omega)).to (by unfold nL; rw [hne9])
      refine lv_aload_n hx hb dX0_readElement_69 rfl (lv_at hl 3 rfl) ?_
      refine lv_aload hx hb dX0_readElement_70 (lv_at hl 0 rfl) ?_
      refine lv_iload_n hx hb dX0_readElement_72 rfl (lv_at hl 4 rfl) ?_
      refine lv_iload_n hx hb dX0_readElement_73 rfl (lv_at hl 5 rfl) ?_
      refine zx_V (As := [.ref (el), .int (nI (e9)), .int (nI (dp))]) (rest := []) ⟨hx, hb, hml, hown, hts⟩ (IH H.size rd el (f at9) (nI at9) nm1 (nL f at9) (tE f at9 e9 + 1) e9 dp (h8 _) htr hqr (by omega) (by omega) he2 hdp) (cwV 3 hts (zgV wm_X0_66 wv_X0_readValue) rfl rfl rfl (by decide +kernel) ⟨show 3 * e + 9 + 1 ≤ 3 * e + 10 by omega, show 8 + (4 + 11) + (80 * e + 230) ≤ 80 * e + 255 by omega⟩) hK hRd rfl ⟨hRd, hT, hO_el, hNm, hCH, rfl, hcr⟩ rfl hl.1 rfl (Nat.le_of_ble_eq_true rfl) dX0_readElement_74 ⟨by show 0 + 1 + 3 + 0 + (4 * useV f (16 - e) (f at9) (tE f at9 e9 + 1) e9 + 3) ≤ 4 * useE f (16 - e) at9 e9; omega, by show 0 + 9 + (2 * (tE f at9 e9 - (at9 + 1)) + 4) + 0 + (10 * useV f (16 - e) (f at9) (tE f at9 e9 + 1) e9 + 4) ≤ 10 * useE f (16 - e) at9 e9; omega⟩ hS (by intro q hq; first | omega | (dsimp only at hq ⊢; omega)) (fun r9 H locs hPo hz9 hk9 hS => ?_)
      have hT := hT.keep hk9 ⟨by first | exact id | exact rfl | omega | (dsimp only; omega), by first | exact id | exact rfl | omega | (dsimp only; omega)⟩
      have hCH := hCH.keep hk9 ⟨by intro q hq; first | exact id | omega | (dsimp only; omega), by omega⟩
      have hZ := hZ.keep hk9 (by intro q hq; first | exact id | (simp only [Zr, zRg] at hq ⊢; omega))
      obtain ⟨rfl, hVal⟩ := hPo
      refine W.eq (g2 := F0 m 77 ls ([.int (nI (nB (vOK f (16 - e) (f at9) (tE f at9 e9 + 1) e9)))])) rfl ?_
      refine zb_if_eq (tgt := 85) hx hb dX0_readElement_77 (by decide) (fun c_77 => ?_) (fun c_77 => ?_)
      · refine lv_null hx hb dX0_readElement_85 ?_
        exact zx_a hx hb hr (by first | exact Or.inl ⟨_, rfl⟩ | exact Or.inr ⟨_, rfl⟩) hlocks (Or.inl rfl) (by show 0 + 1 + 3 + 0 + (4 * useV f (16 - e) (f at9) (tE f at9 e9 + 1) e9 + 3) ≤ 4 * useE f (16 - e) at9 e9; omega) (by show 0 + 9 + (2 * (tE f at9 e9 - (at9 + 1)) + 4) + 0 + (10 * useV f (16 - e) (f at9) (tE f at9 e9 + 1) e9 + 4) ≤ 10 * useE f (16 - e) at9 e9; omega) (⟨none, rfl, fun _ => by unfold eOK; rw [c_77, Bool.and_false, Bool.and_false], fun v z => nomatch z⟩) hS dX0_readElement_86
      · refine lv_aload hx hb dX0_readElement_80 (lv_at hl 0 rfl) ?_
        refine lv_goto (tgt := 86) hx hb dX0_readElement_82 (by decide) ?_
        exact zx_a hx hb hr (by first | exact Or.inl ⟨_, rfl⟩ | exact Or.inr ⟨_, rfl⟩) hlocks (Or.inr ⟨_, rfl⟩) (by show 0 + 1 + 3 + 0 + (4 * useV f (16 - e) (f at9) (tE f at9 e9 + 1) e9 + 3) ≤ 4 * useE f (16 - e) at9 e9; omega) (by show 0 + 9 + (2 * (tE f at9 e9 - (at9 + 1)) + 4) + 0 + (10 * useV f (16 - e) (f at9) (tE f at9 e9 + 1) e9 + 4) ≤ 10 * useE f (16 - e) at9 e9; omega) (⟨some el, rfl, (fun z => nomatch z), fun v z => by
      cases z
      have heo : eOK f (16 - e) at9 e9 = true := by unfold eOK; rw [decide_eq_true hq, c_29, c_77]; rfl
      obtain ⟨g1, g2⟩ := hVal c_77
      obtain ⟨t1, t2, t3, t4⟩ := eOK_th heo hae he2
      refine ⟨heo, by omega, ?_, ?_⟩
      · rw [show th f at9 = tE f at9 e9 + 1 + ln f (f at9) (tE f at9 e9 + 1) by unfold th; rw [t4]]; exact g1
      · rw [t4]; exact g2⟩) hS dX0_readElement_86
    · refine lv_null hx hb dX0_readElement_32 ?_
      exact zx_a hx hb hr (by first | exact Or.inl ⟨_, rfl⟩ | exact Or.inr ⟨_, rfl⟩) hlocks (Or.inl rfl) (by show 0 ≤ 4 * useE f (16 - e) at9 e9; omega) (by show 0 ≤ 10 * useE f (16 - e) at9 e9; omega) (⟨none, rfl, fun _ => by unfold eOK; rw [c_29, Bool.false_and, Bool.and_false], fun v z => nomatch z⟩) hS dX0_readElement_33
  · rw [hqe]
    refine W.eq (g2 := F0 m 13 ls ([.int ((-1))])) rfl ?_
    refine lv_istore (lv' := [(4, .int ((-1))), (3, .int (nI (at9))), (0, .ref (rd)), (1, .int (nI (e9))), (2, .int (nI (dp)))]) hx hb dX0_readElement_13 hl (by decide) rfl (fun ls hl => ?_)
    refine lv_iload hx hb dX0_readElement_15 (lv_at hl 0 rfl) ?_
    refine lv_if_lt (tgt := 32) hx hb dX0_readElement_17 (by decide) (fun c_17 => ?_) (fun c_17 => absurd c_17 (by decide))
    refine lv_null hx hb dX0_readElement_32 ?_
    exact zx_a hx hb hr (by first | exact Or.inl ⟨_, rfl⟩ | exact Or.inr ⟨_, rfl⟩) hlocks (Or.inl rfl) (by show 0 ≤ 4 * useE f (16 - e) at9 e9; omega) (by show 0 ≤ 10 * useE f (16 - e) at9 e9; omega) (⟨none, rfl, fun _ => by unfold eOK; rw [decide_eq_false hq]; rfl, fun v z => nomatch z⟩) hS dX0_readElement_33

set_option maxHeartbeats 4000000 in
set_option maxRecDepth 100000 in
theorem c_rp_ (l : Launch) (G : zG) (tp qb cn : Nat) (f : Nat → Nat) (e : Nat) (he : e ≤ 15) (IH : C_re l G tp qb cn f e) (n0 rd el k : Nat) (pl : Int32) (nm tx at9 e9 dp : Nat) (hk34 : k = 3 ∨ k = 4) (htr : tp < rd) (hqr : qb < rd) (hre : rd < el) (hae : at9 ≤ e9) (he2 : e9 ≤ 2000) (hdp : dp = 17 - (e + 1)) : Met l yX0_readParts wsX0_readParts (rRd 8 200 (e + 1) (4 * useV f (16 - (e + 1)) k at9 e9) (10 * useV f (16 - (e + 1)) k at9 e9)) (zP G [.ref (rd), .ref (el), .int (nI (e9)), .int (nI (dp))] (fun H => zO G H rd 1 [.ref tp, .int (nI at9)] ∧ TP G tp qb cn f H ∧ zO G H el 8 (vF k pl nm tx 0 none none none 0) ∧ CH G H ∧ H.size = n0 ∧ cB G ≤ rd)) (zX (fun q => q = rd ∨ q = el ∨ n0 ≤ q) (fun r9 H => r9 = some (.int (nI (nB (bOK f (16 - (e + 1)) k at9 e9)))) ∧ (bOK f (16 - (e + 1)) k at9 e9 = true → ∃ vs : List Nat, zO G H rd 1 [.ref tp, .int (nI (at9 + wh f at9))] ∧ zO G H el 8 (vF k pl nm tx 0 vs.head? vs.getLast? none vs.length) ∧ KL G H f nI e n0 H.size vs (els f at9)))) (4 * useV f (16 - (e + 1)) k at9 e9) (10 * useV f (16 - (e + 1)) k at9 e9) (fun q => q = rd ∨ q = el ∨ n0 ≤ q) := by
  refine Met.ofW (cc := cX0_readParts) (maxL := 9) (ret := (some .boolean)) (by decide) rfl ?_
  intro p en s m args below meth c s₁ B hml hv
  obtain ⟨rfl, hP, hK⟩ := hv
  have hx := B.exec
  have hb := B.bytes
  have hr := B.returns
  have hts := atoms_spec (ws := wsX0_readParts) B.pre
  have hz : ∀ w ∈ zW, w.before _ s = true := fun w h => hts w (List.mem_cons_of_mem _ h)
  have hown : s.vm.findClass RX0 = some m.cls := findClass_of_methodNamed B.named
  have hlocks := B.notSynchronized
  obtain ⟨hRd, hT, hEl, hCH, hn0, hcr⟩ := id hP
  have hS : va_S (fun q => q = rd ∨ q = el ∨ n0 ≤ q) s.heap s.heap [] := va_S.rf
  have h8 := hT.2.2
  have hw32 := wh_lt h8 at9
  have hel := hEl.lt
  have htl := hT.1.lt
  have hql := hT.2.1.lt
  have hd1 : 16 - (e + 1) + 1 = 16 - e := by omega
  have hl := lv_entry ([.ref (rd), .ref (el), .int (nI (e9)), .int (nI (dp))]) (n := 9) (Nat.le_of_ble_eq_true rfl)
  rw [lg_entry_eq]
  generalize (lg_sl ([.ref (rd), .ref (el), .int (nI (e9)), .int (nI (dp))]) ++ List.replicate (9 - (lg_sl ([.ref (rd), .ref (el), .int (nI (e9)), .int (nI (dp))])).length) Slot.unset).toArray = ls at hl ⊢
  have hl : lv_has ls 9 [(0, .ref (rd)), (1, .ref (el)), (2, .int (nI (e9))), (3, .int (nI (dp)))] := hl
  refine lv_iload_n hx hb dX0_readParts_0 rfl (lv_at hl 3 rfl) ?_
  refine lv_bipush (v := nI 16) hx hb dX0_readParts_1 (by decide) ?_
  refine zi_icmp_gt (tgt := 16) hx hb dX0_readParts_3 (by decide) (by omega) (by omega) (fun c_3 => ?_) (fun c_3 => ?_)
  · exfalso; omega
  · refine lv_iload_n hx hb dX0_readParts_6 rfl (lv_at hl 2 rfl) ?_
    refine lv_aload_n hx hb dX0_readParts_7 rfl (lv_at hl 0 rfl) ?_
    refine zi_get (C := RX0) (T := TX0) (N := 2) (v := .int (nI (at9))) hx hb hz wo_X0 hown hK hRd rfl 1 (by decide) (hz _ wf_X0_15) (fun _ h9 => h9) rfl dX0_readParts_8 ?_
    refine zi_sub hx hb (by omega) dX0_readParts_11 ?_
    refine lv_iconst (v := nI 5) hx hb dX0_readParts_12 (by decide) ?_
    refine zi_icmp_ge (tgt := 18) hx hb dX0_readParts_13 (by decide) (by omega) (by omega) (fun c_13 => ?_) (fun c_13 => ?_)
    · refine lv_aload_n hx hb dX0_readParts_18 rfl (lv_at hl 0 rfl) ?_
      refine zi_get (C := RX0) (T := TX0) (N := 2) (v := .int (nI (at9))) hx hb hz wo_X0 hown hK hRd rfl 1 (by decide) (hz _ wf_X0_15) (fun _ h9 => h9) rfl dX0_readParts_19 ?_
      refine lv_istore (lv' := [(4, .int (nI (at9))), (0, .ref (rd)), (1, .ref (el)), (2, .int (nI (e9))), (3, .int (nI (dp)))]) hx hb dX0_readParts_22 hl (by decide) rfl (fun ls hl => ?_)
      refine lv_aload_n hx hb dX0_readParts_24 rfl (lv_at hl 1 rfl) ?_
      refine lv_iconst (v := nI 4) hx hb dX0_readParts_25 (by decide) ?_
      refine zx_V (As := [.int (nI (4))]) (rest := []) ⟨hx, hb, hml, hown, hts⟩ (c_rnum l G rd tp qb cn f at9 4 (by decide) (by omega) ⟨by omega, by omega⟩) (cwV 1 hts (zgV wm_X0_32 wv_X0_readNumber) rfl rfl rfl (by decide +kernel) ⟨by show 1 + 1 ≤ _; simp only [headSpec]; omega, by show 8 + (_ + 11) + 21 ≤ _; simp only [headSpec]; omega⟩) hK hRd rfl ⟨hRd, hT⟩ rfl hl.1 rfl (Nat.le_of_ble_eq_true rfl) dX0_readParts_26 ⟨by show 0 + 0 ≤ 4 * useV f (16 - (e + 1)) k at9 e9; omega, by show 0 + 0 ≤ 10 * useV f (16 - (e + 1)) k at9 e9; omega⟩ hS (by intro q hq; first | omega | (dsimp only at hq ⊢; omega)) (fun r9 H locs hPo hz9 hk9 hS => ?_)
      have hT := hT.keep hk9 ⟨by first | exact id | exact rfl | omega | (dsimp only; omega), by first | exact id | exact rfl | omega | (dsimp only; omega)⟩
      have hEl := hEl.keep hk9 (by first | exact id | exact rfl | omega | (dsimp only; omega))
      have hCH := hCH.keep hk9 ⟨by intro q hq; first | exact id | omega | (dsimp only; omega), by omega⟩
      obtain ⟨rfl, hRd⟩ := hPo
      refine W.eq (g2 := F0 m 29 ls ([.long (lN (sb8 f at9 0 4))])) rfl ?_
      refine lv_l2i (v := nI (wh f at9)) hx hb dX0_readParts_29 (by rw [lN_wh, lN_i]) ?_
      by_cases hw31 : wh f at9 < 2 ^ 31
      · refine W.eq (g2 := F0 m 30 ls ([.int (nI (wh f at9))])) rfl ?_
        refine lv_istore (lv' := [(5, .int (nI (wh f at9))), (4, .int (nI (at9))), (0, .ref (rd)), (1, .ref (el)), (2, .int (nI (e9))), (3, .int (nI (dp)))]) hx hb dX0_readParts_30 hl (by decide) rfl (fun ls hl => ?_)
        refine lv_iload hx hb dX0_readParts_32 (lv_at hl 0 rfl) ?_
        refine lv_iconst (v := nI 5) hx hb dX0_readParts_34 (by decide) ?_
        refine zi_icmp_lt (tgt := 47) hx hb dX0_readParts_35 (by decide) hw31 (by omega) (fun c_35 => ?_) (fun c_35 => ?_)
        · refine lv_iconst (v := nI 0) hx hb dX0_readParts_47 (by decide) ?_
          exact zx_z hx hb hr hlocks (bOK f (16 - (e + 1)) k at9 e9) (by rw [bOK_no (by omega)]; rfl) (by show 0 + 0 ≤ 4 * useV f (16 - (e + 1)) k at9 e9; omega) (by show 0 + 0 ≤ 10 * useV f (16 - (e + 1)) k at9 e9; omega) (⟨rfl, fun z => by rw [bOK_no (by omega)] at z; cases z⟩) hS dX0_readParts_48
        · refine lv_iload hx hb dX0_readParts_38 (lv_at hl 0 rfl) ?_
          refine lv_iload_n hx hb dX0_readParts_40 rfl (lv_at hl 4 rfl) ?_
          refine lv_iload hx hb dX0_readParts_41 (lv_at hl 1 rfl) ?_
          refine zi_sub hx hb (by omega) dX0_readParts_43 ?_
          refine zi_icmp_le (tgt := 49) hx hb dX0_readParts_44 (by decide) hw31 (by omega) (fun c_44 => ?_) (fun c_44 => ?_)
          · have hop : 5 ≤ wh f at9 ∧ wh f at9 ≤ e9 - at9 ∧ 16 - (e + 1) < 16 := by omega
            have huV := useV_box (dep := 16 - (e + 1)) hk34 hop.1 hop.2.1
            refine lv_iload hx hb dX0_readParts_49 (lv_at hl 1 rfl) ?_
            refine lv_iload hx hb dX0_readParts_51 (lv_at hl 0 rfl) ?_
            refine zi_add hx hb dX0_readParts_53 ?_
            refine lv_iconst (v := nI 1) hx hb dX0_readParts_54 (by decide) ?_
            refine zi_sub hx hb (by omega) dX0_readParts_55 ?_
            refine lv_istore (lv' := [(6, .int (nI (at9 + (wh f at9) - 1))), (5, .int (nI (wh f at9))), (4, .int (nI (at9))), (0, .ref (rd)), (1, .ref (el)), (2, .int (nI (e9))), (3, .int (nI (dp)))]) hx hb dX0_readParts_56 hl (by decide) rfl (fun ls hl => ?_)
            refine lv_iconst (v := nI 0) hx hb dX0_readParts_58 (by decide) ?_
            refine lv_istore (lv' := [(7, .int (nI (0))), (6, .int (nI (at9 + (wh f at9) - 1))), (5, .int (nI (wh f at9))), (4, .int (nI (at9))), (0, .ref (rd)), (1, .ref (el)), (2, .int (nI (e9))), (3, .int (nI (dp)))]) hx hb dX0_readParts_59 hl (by decide) rfl (fun ls hl => ?_)
            have L61 : ∀ (n_ : Nat) (i9 : Nat) (cu : Nat) (vs : List Nat) (xs : List Nat) (cl sl : Nat), at9 + wh f at9 - 1 - cu < n_ → (at9 + 4 ≤ cu ∧ cu ≤ at9 + wh f at9 - 1) → (2 * i9 ≤ cu) → (vs.length = xs.length ∧ xs.length = i9) → (chP f (at9 + 4) xs cu) → (PE f (16 - e) (at9 + 4) (at9 + wh f at9 - 1) (decide (k = 4)) 0 [] = PE f (16 - e) (cu) (at9 + wh f at9 - 1) (decide (k = 4)) xs.length xs.reverse) → (cl + 4 * (at9 + wh f at9 - 1 - cu) ≤ 4 * wh f at9) → (sl + 10 * (at9 + wh f at9 - 1 - cu) ≤ 10 * wh f at9) → ∀ (H : Heap) (locs : List Loc), (zO G H rd 1 [.ref tp, .int (nI cu)]) → (TP G tp qb cn f H) → (zO G H el 8 (vF k pl nm tx 0 vs.head? vs.getLast? none vs.length)) → (CH G H) → (KL G H f nI e n0 H.size vs xs) → (n0 ≤ H.size) → va_S (fun q => q = rd ∨ q = el ∨ n0 ≤ q) s.heap H locs → ∀ ls : Array Slot, lv_has ls 9 [(0, .ref (rd)), (1, .ref (el)), (3, .int (nI (dp))), (6, .int (nI (at9 + (wh f at9) - 1))), (7, .int (nI (i9)))] → W p l en (headSpec wsX0_readParts (rRd 8 200 (e + 1) (4 * useV f (16 - (e + 1)) k at9 e9) (10 * useV f (16 - (e + 1)) k at9 e9))).room s m ([.ref (rd), .ref (el), .int (nI (e9)), .int (nI (dp))] : List Value).toArray below meth c H locs cl sl (MQ below (zX (fun q => q = rd ∨ q = el ∨ n0 ≤ q) (fun r9 H => r9 = some (.int (nI (nB (bOK f (16 - (e + 1)) k at9 e9)))) ∧ (bOK f (16 - (e + 1)) k at9 e9 = true → ∃ vs : List Nat, zO G H rd 1 [.ref tp, .int (nI (at9 + wh f at9))] ∧ zO G H el 8 (vF k pl nm tx 0 vs.head? vs.getLast? none vs.length) ∧ KL G H f nI e n0 H.size vs (els f at9)))) ([.ref (rd), .ref (el), .int (nI (e9)), .int (nI (dp))] : List Value).toArray s (4 * useV f (16 - (e + 1)) k at9 e9) (10 * useV f (16 - (e + 1)) k at9 e9) (fun q => q = rd ∨ q = el ∨ n0 ≤ q)) (F0 m 61 ls []) := by
              intro n_
              induction n_ with
              | zero => intro i9 cu vs xs cl sl hm_; exact absurd hm_ (Nat.not_lt_zero _)
              | succ n_ ih_ =>
                intro i9 cu vs xs cl sl hm_ hcu hi9 hlx hch hpe hcl hsl H locs hRd hT hEl hCH hKL hsz hS ls hl
                obtain ⟨sz, hsze⟩ : ∃ z, H.size = z := ⟨_, rfl⟩
                rw [hsze] at hKL
                have hule := useE_le (f := f) (dep := 16 - e) (a := cu) (last := at9 + wh f at9 - 1)
                refine lv_iload hx hb dX0_readParts_61 (lv_at hl 4 rfl) ?_
                refine lv_sipush (v := nI 2000) hx hb dX0_readParts_63 (by decide) ?_
                refine zi_icmp_ge (tgt := 116) hx hb dX0_readParts_66 (by decide) (by omega) (by omega) (fun c_66 => ?_) (fun c_66 => ?_)
                · exfalso; omega
                · refine lv_aload_n hx hb dX0_readParts_69 rfl (lv_at hl 0 rfl) ?_
                  refine zi_get (C := RX0) (T := TX0) (N := 2) (v := .int (nI (cu))) hx hb hz wo_X0 hown hK hRd rfl 1 (by decide) (hz _ wf_X0_15) (fun _ h9 => h9) rfl dX0_readParts_70 ?_
                  refine lv_iload hx hb dX0_readParts_73 (lv_at hl 3 rfl) ?_
                  refine zi_icmp_ge (tgt := 116) hx hb dX0_readParts_75 (by decide) (by omega) (by omega) (fun c_75 => ?_) (fun c_75 => ?_)
                  · refine lv_aload_n hx hb dX0_readParts_116 rfl (lv_at hl 0 rfl) ?_
                    refine zi_get (C := RX0) (T := TX0) (N := 2) (v := .int (nI (cu))) hx hb hz wo_X0 hown hK hRd rfl 1 (by decide) (hz _ wf_X0_15) (fun _ h9 => h9) rfl dX0_readParts_117 ?_
                    refine lv_iload hx hb dX0_readParts_120 (lv_at hl 3 rfl) ?_
                    refine zi_icmp_ne (tgt := 137) hx hb dX0_readParts_122 (by decide) (by omega) (by omega) (fun c_122 => ?_) (fun c_122 => ?_)
                    · exfalso; omega
                    · refine lv_aload_n hx hb dX0_readParts_125 rfl (lv_at hl 0 rfl) ?_
                      refine zi_get (C := RX0) (T := TX0) (N := 2) (v := .ref (tp)) hx hb hz wo_X0 hown hK hRd rfl 0 (by decide) (hz _ wf_X0_9) (fun _ h9 => h9) rfl dX0_readParts_126 ?_
                      refine lv_iload hx hb dX0_readParts_129 (lv_at hl 3 rfl) ?_
                      refine zc_VN (As := [.int (nI (at9 + (wh f at9) - 1))]) (rest := []) ⟨hx, hb, hml, hown, hts⟩ (c_byteAt2 l G tp qb cn f (at9 + wh f at9 - 1) (by omega)) ⟨va_cnB 1 hts (zgN wc_X8_byteAt) rfl rfl rfl (hK.2.1 _ wm_X0_48) (hz _ wi_X8) (by decide +kernel) ⟨by show 0 + 1 ≤ _; simp only [headSpec]; omega, by show 8 + (_ + 11) + 0 ≤ _; simp only [headSpec]; omega⟩, hz _ wn_X8_byteAt, hz _ we_X8_byteAt⟩ hK hT.1 rfl hT rfl hl.1 rfl (Nat.le_of_ble_eq_true rfl) dX0_readParts_131 ⟨by show cl ≤ 4 * useV f (16 - (e + 1)) k at9 e9; omega, by show sl ≤ 10 * useV f (16 - (e + 1)) k at9 e9; omega⟩ ?_
                      refine zi_if_eq (tgt := 139) hx hb dX0_readParts_134 (by decide) (Nat.lt_trans (h8 _) (by decide)) (fun c_134 => ?_) (fun c_134 => ?_)
                      · refine lv_aload_n hx hb dX0_readParts_139 rfl (lv_at hl 0 rfl) ?_
                        refine lv_iload hx hb dX0_readParts_140 (lv_at hl 3 rfl) ?_
                        refine lv_iconst (v := nI 1) hx hb dX0_readParts_142 (by decide) ?_
                        refine zi_add hx hb dX0_readParts_143 ?_
                        refine zx_put (C := RX0) (T := TX0) (N := 2) (v := .int (nI (at9 + (wh f at9) - 1 + 1))) hx hb hz wo_X0 tyX0 tyX0_ok nmX0 hown hK hRd rfl 1 (by decide) (hz _ wf_X0_15) (fun _ h9 => h9) (Or.inl rfl) rfl rfl (Nat.le_of_ble_eq_true rfl) (by first | exact rfl | omega | (dsimp only; omega)) hS dX0_readParts_144 (fun H locs hz9 hRd hk9 hS => ?_)
                        have hRd : zO G H (rd) 1 [.ref (tp), .int (nI (at9 + (wh f at9) - 1 + 1))] := hRd
                        have hT := hT.keep hk9 ⟨by first | exact id | exact rfl | omega | (dsimp only; omega), by first | exact id | exact rfl | omega | (dsimp only; omega)⟩
                        have hEl := hEl.keep hk9 (by first | exact id | exact rfl | omega | (dsimp only; omega))
                        have hCH := hCH.keep hk9 ⟨by intro q hq; first | exact id | omega | (dsimp only; omega), by omega⟩
                        have hKL := hKL.keep hk9 (by intro q hq; first | exact id | omega | (dsimp only; omega))
                        refine lv_iconst (v := nI 1) hx hb dX0_readParts_147 (by decide) ?_
                        exact zx_z hx hb hr hlocks (bOK f (16 - (e + 1)) k at9 e9) (by rw [show bOK f (16 - (e + 1)) k at9 e9 = true by rw [bOK_pe hop, hd1, hpe, show cu = at9 + wh f at9 - 1 by omega, PE_end, if_pos c_134]; first | done | rfl]; first | done | rfl) (by show cl ≤ 4 * useV f (16 - (e + 1)) k at9 e9; omega) (by show sl ≤ 10 * useV f (16 - (e + 1)) k at9 e9; omega) (⟨rfl, fun _ => ⟨vs, by rw [show at9 + wh f at9 = at9 + wh f at9 - 1 + 1 by omega]; exact hRd, hEl, by rw [chP_els c_134 (by rw [show at9 + wh f at9 - 1 = cu by omega]; exact hch)]; exact hKL.hi (by omega)⟩⟩) hS dX0_readParts_148
                      · refine lv_iconst (v := nI 0) hx hb dX0_readParts_137 (by decide) ?_
                        exact zx_z hx hb hr hlocks (bOK f (16 - (e + 1)) k at9 e9) (by rw [show bOK f (16 - (e + 1)) k at9 e9 = false by rw [bOK_pe hop, hd1, hpe, show cu = at9 + wh f at9 - 1 by omega, PE_end, if_neg c_134]; first | done | rfl]; first | done | rfl) (by show cl ≤ 4 * useV f (16 - (e + 1)) k at9 e9; omega) (by show sl ≤ 10 * useV f (16 - (e + 1)) k at9 e9; omega) (⟨rfl, fun z => by rw [show bOK f (16 - (e + 1)) k at9 e9 = false by rw [bOK_pe hop, hd1, hpe, show cu = at9 + wh f at9 - 1 by omega, PE_end, if_neg c_134]; first | done | rfl] at z; cases z⟩) hS dX0_readParts_138
                  · refine lv_aload_n hx hb dX0_readParts_78 rfl (lv_at hl 0 rfl) ?_
                    refine lv_iload hx hb dX0_readParts_79 (lv_at hl 3 rfl) ?_
                    refine lv_iload_n hx hb dX0_readParts_81 rfl (lv_at hl 2 rfl) ?_
                    refine zx_V (As := [.int (nI (at9 + (wh f at9) - 1)), .int (nI (dp))]) (rest := []) ⟨hx, hb, hml, hown, hts⟩ (IH sz rd cu (at9 + wh f at9 - 1) dp htr hqr (by omega) (by omega) (by omega)) (cwV 2 hts (zgV wm_X0_36 wv_X0_readElement) rfl rfl rfl (by decide +kernel) ⟨show 3 * e + 10 + 1 ≤ 3 * (e + 1) + 8 by omega, show 8 + (6 + 11) + (80 * e + 255) ≤ 80 * (e + 1) + 200 by omega⟩) hK hRd rfl ⟨hRd, hT, hCH, hsze, hcr⟩ rfl hl.1 rfl (Nat.le_of_ble_eq_true rfl) dX0_readParts_82 ⟨by show cl + (4 * useE f (16 - e) cu (at9 + wh f at9 - 1)) ≤ 4 * useV f (16 - (e + 1)) k at9 e9; omega, by show sl + (10 * useE f (16 - e) cu (at9 + wh f at9 - 1)) ≤ 10 * useV f (16 - (e + 1)) k at9 e9; omega⟩ hS (by intro q hq; first | omega | (dsimp only at hq ⊢; omega)) (fun r9 H locs hPo hz9 hk9 hS => ?_)
                    have hT := hT.keep hk9 ⟨by first | exact id | exact rfl | omega | (dsimp only; omega), by first | exact id | exact rfl | omega | (dsimp only; omega)⟩
                    have hEl := hEl.keep hk9 (by first | exact id | exact rfl | omega | (dsimp only; omega))
                    have hCH := hCH.keep hk9 ⟨by intro q hq; first | exact id | omega | (dsimp only; omega), by omega⟩
                    have hKL := hKL.keep hk9 (by intro q hq; first | exact id | omega | (dsimp only; omega))
                    obtain ⟨o8, rfl, hno, hyes⟩ := hPo
                    refine W.eq (g2 := F0 m 85 ls ([va_rf (o8)])) rfl ?_
                    refine zo_astore (lv' := [(8, va_rf (o8)), (0, .ref (rd)), (1, .ref (el)), (3, .int (nI (dp))), (6, .int (nI (at9 + (wh f at9) - 1))), (7, .int (nI (i9)))]) hx hb dX0_readParts_85 hl (by decide) rfl (fun ls hl => ?_)
                    refine zo_aload hx hb dX0_readParts_87 (lv_at hl 0 rfl) ?_
                    generalize hov : o8 = ov at hl ⊢
                    rcases ov with _ | v8
                    · have hl : lv_has ls 9 [(8, .null), (0, .ref (rd)), (1, .ref (el)), (3, .int (nI (dp))), (6, .int (nI (at9 + (wh f at9) - 1))), (7, .int (nI (i9)))] := hl
                      have heo := hno hov
                      refine W.eq (g2 := F0 m 89 ls ([.null])) rfl ?_
                      refine lv_ifnullN (tgt := 102) hx hb dX0_readParts_89 (by decide) ?_
                      refine lv_iconst (v := nI 0) hx hb dX0_readParts_102 (by decide) ?_
                      exact zx_z hx hb hr hlocks (bOK f (16 - (e + 1)) k at9 e9) (by rw [show bOK f (16 - (e + 1)) k at9 e9 = false by rw [bOK_pe hop, hd1, hpe, PE_step (by omega) (by omega) (by omega) (by omega), if_neg (by rw [heo, Bool.false_and]; decide)]; first | done | rfl]; first | done | rfl) (by show cl + (4 * useE f (16 - e) cu (at9 + wh f at9 - 1)) ≤ 4 * useV f (16 - (e + 1)) k at9 e9; omega) (by show sl + (10 * useE f (16 - e) cu (at9 + wh f at9 - 1)) ≤ 10 * useV f (16 - (e + 1)) k at9 e9; omega) (⟨rfl, fun z => by rw [show bOK f (16 - (e + 1)) k at9 e9 = false by rw [bOK_pe hop, hd1, hpe, PE_step (by omega) (by omega) (by omega) (by omega), if_neg (by rw [heo, Bool.false_and]; decide)]; first | done | rfl] at z; cases z⟩) hS dX0_readParts_103
                    · have hl : lv_has ls 9 [(8, .ref (v8)), (0, .ref (rd)), (1, .ref (el)), (3, .int (nI (dp))), (6, .int (nI (at9 + (wh f at9) - 1))), (7, .int (nI (i9)))] := hl
                      obtain ⟨heo, hnv, hRd, hN8⟩ := hyes v8 hov
                      obtain ⟨nm8, tx8, f8, l8, n8, hO8, hS8, hT8, hv8⟩ := hN8.o
                      obtain ⟨ht1, ht2, ht3, ht4⟩ := eOK_th heo (by omega) (by omega)
                      have heE := eOK_okE heo (by omega) (by omega)
                      have hteg := (eOK_t heo).1
                      have hue : useE f (16 - e) cu (at9 + wh f at9 - 1) = th f cu - cu := if_pos heo
                      refine W.eq (g2 := F0 m 89 ls ([.ref (v8)])) rfl ?_
                      refine lv_ifnull hx hb dX0_readParts_89 ?_
                      refine lv_aload_n hx hb dX0_readParts_92 rfl (lv_at hl 1 rfl) ?_
                      refine lv_aload_n hx hb dX0_readParts_93 rfl (lv_at hl 2 rfl) ?_
                      refine lv_aload hx hb dX0_readParts_94 (lv_at hl 0 rfl) ?_
                      refine zc_V (As := [.ref (el), .ref (v8)]) (rest := []) ⟨hx, hb, hml, hown, hts⟩ (c_may l G rd [.ref tp, .int (nI (th f cu))] f nI e el n0 sz vs xs k (by omega) pl nm tx 0 vs.getLast? none (by omega) v8 (vF (f cu) (nI cu) nm8 tx8 (numv f (f cu) (vo f cu)) f8 l8 none n8) nm8 rfl (nL f cu) (by unfold nL; rw [sg_len]; omega) (Zr G v8 H.size)) (cwV 2 hts (zgV wm_X0_40 wv_X0_mayFollow) rfl rfl rfl (by decide +kernel) ⟨by show 5 + 1 ≤ _; simp only [headSpec]; omega, by show 8 + (_ + 11) + 109 ≤ _; simp only [headSpec]; omega⟩) hK hRd rfl ⟨hRd, hEl, hKL, hO8, hS8, hCH⟩ rfl hl.1 rfl (Nat.le_of_ble_eq_true rfl) dX0_readParts_96 ⟨by show cl + (4 * useE f (16 - e) cu (at9 + wh f at9 - 1)) ≤ 4 * useV f (16 - (e + 1)) k at9 e9; omega, by show sl + (10 * useE f (16 - e) cu (at9 + wh f at9 - 1)) ≤ 10 * useV f (16 - (e + 1)) k at9 e9; omega⟩ ?_
                      refine zb_if_ne (tgt := 104) hx hb dX0_readParts_99 (by decide) (fun c_99 => ?_) (fun c_99 => ?_)
                      · have hnm : nmG f (decide (k = 4)) xs.length (cu + 1) (tE f cu (at9 + wh f at9 - 1)) xs.reverse = true := by rw [nmG_may ht3, ← hlx.1]; exact c_99
                        refine lv_aload_n hx hb dX0_readParts_104 rfl (lv_at hl 2 rfl) ?_
                        refine lv_aload hx hb dX0_readParts_105 (lv_at hl 0 rfl) ?_
                        refine zx_VN (As := [.ref (v8)]) (rest := []) ⟨hx, hb, hml, hown, hts⟩ (c_addK l G el v8 k pl nm tx 0 none f nI e n0 sz H.size cu vs xs (by omega) (by omega) (by omega) (by omega)) ⟨va_cnB 1 hts (zgN wc_X9_add) rfl rfl rfl (hK.2.1 _ wm_X0_44) (hz _ wi_X9) (by decide +kernel) ⟨by show 0 + 1 ≤ _; simp only [headSpec]; omega, by show 8 + (_ + 11) + 0 ≤ _; simp only [headSpec]; omega⟩, hz _ wn_X9_add, hz _ we_X9_add⟩ hK hEl rfl ⟨hEl, hKL, hN8⟩ rfl hl.1 rfl (Nat.le_of_ble_eq_true rfl) dX0_readParts_107 ⟨by show cl + (4 * useE f (16 - e) cu (at9 + wh f at9 - 1)) + 0 ≤ 4 * useV f (16 - (e + 1)) k at9 e9; omega, by show sl + (10 * useE f (16 - e) cu (at9 + wh f at9 - 1)) + 0 ≤ 10 * useV f (16 - (e + 1)) k at9 e9; omega⟩ hS (by intro q hq; first | omega | (dsimp only at hq ⊢; omega)) (fun r9 H locs hPo hz9 hk9 hS => ?_)
                        have hT := hT.keep hk9 ⟨by first | exact id | exact rfl | omega | (dsimp only; omega), by first | exact id | exact rfl | omega | (dsimp only; omega)⟩
                        have hCH := hCH.keep hk9 ⟨by intro q hq; first | exact id | omega | (dsimp only; omega), by omega⟩
                        have hRd := hRd.keep hk9 (by first | exact id | exact rfl | omega | (dsimp only; omega))
                        obtain ⟨rfl, hEl, hKL⟩ := hPo
                        refine W.eq (g2 := F0 m 110 ls ([])) rfl ?_
                        refine lv_iinc (v := nI (i9 + 1)) (lv' := [(7, .int (nI (i9 + 1))), (8, .ref (v8)), (0, .ref (rd)), (1, .ref (el)), (3, .int (nI (dp))), (6, .int (nI (at9 + (wh f at9) - 1)))]) hx hb dX0_readParts_110 hl (k := 5) rfl (nI_add _ _) (by decide) rfl (fun ls hl => ?_)
                        refine lv_goto (tgt := 61) hx hb dX0_readParts_113 (by decide) ?_
                        exact ih_ (i9 + 1) (th f cu) (vs ++ [v8]) (xs ++ [cu]) (cl + (4 * useE f (16 - e) cu (at9 + wh f at9 - 1)) + 0) (sl + (10 * useE f (16 - e) cu (at9 + wh f at9 - 1)) + 0) (by omega) (by omega) (by omega) (by rw [len_app, len_app]; omega) (chP_app (by omega) heE.1 heE.2 hch) (by rw [hpe, PE_step (by omega) (by omega) (by omega) (by omega), if_pos (by rw [heo, hnm]; rfl), len_app, List.reverse_append]; rfl) (by omega) (by omega) _ _ hRd hT hEl hCH (hKL.hi hz9) (by omega) hS ls (lv_sub hl [2, 3, 4, 5, 0] rfl)
                      · refine lv_iconst (v := nI 0) hx hb dX0_readParts_102 (by decide) ?_
                        exact zx_z hx hb hr hlocks (bOK f (16 - (e + 1)) k at9 e9) (by rw [show bOK f (16 - (e + 1)) k at9 e9 = false by rw [bOK_pe hop, hd1, hpe, PE_step (by omega) (by omega) (by omega) (by omega), if_neg (by rw [nmG_may ht3, ← hlx.1, c_99, Bool.and_false]; decide)]; first | done | rfl]; first | done | rfl) (by show cl + (4 * useE f (16 - e) cu (at9 + wh f at9 - 1)) ≤ 4 * useV f (16 - (e + 1)) k at9 e9; omega) (by show sl + (10 * useE f (16 - e) cu (at9 + wh f at9 - 1)) ≤ 10 * useV f (16 - (e + 1)) k at9 e9; omega) (⟨rfl, fun z => by rw [show bOK f (16 - (e + 1)) k at9 e9 = false by rw [bOK_pe hop, hd1, hpe, PE_step (by omega) (by omega) (by omega) (by omega), if_neg (by rw [nmG_may ht3, ← hlx.1, c_99, Bool.and_false]; decide)]; first | done | rfl] at z; cases z⟩) hS dX0_readParts_103
            exact L61 ((at9 + wh f at9 - 1 - (at9 + 4)) + 1) 0 (at9 + 4) ([]) ([]) (0 + 0) (0 + 0) (Nat.lt_succ_self _) (by omega) (by omega) ⟨rfl, rfl⟩ rfl rfl (by omega) (by omega) _ _ hRd hT hEl hCH (KL.nil (by omega)) (by omega) hS ls (lv_sub hl [4, 5, 7, 1, 0] rfl)
          · refine lv_iconst (v := nI 0) hx hb dX0_readParts_47 (by decide) ?_
            exact zx_z hx hb hr hlocks (bOK f (16 - (e + 1)) k at9 e9) (by rw [bOK_no (by omega)]; rfl) (by show 0 + 0 ≤ 4 * useV f (16 - (e + 1)) k at9 e9; omega) (by show 0 + 0 ≤ 10 * useV f (16 - (e + 1)) k at9 e9; omega) (⟨rfl, fun z => by rw [bOK_no (by omega)] at z; cases z⟩) hS dX0_readParts_48
      · refine W.eq (g2 := F0 m 30 ls ([.int (nI (wh f at9))])) rfl ?_
        refine lv_istore (lv' := [(5, .int (nI (wh f at9))), (4, .int (nI (at9))), (0, .ref (rd)), (1, .ref (el)), (2, .int (nI (e9))), (3, .int (nI (dp)))]) hx hb dX0_readParts_30 hl (by decide) rfl (fun ls hl => ?_)
        refine lv_iload hx hb dX0_readParts_32 (lv_at hl 0 rfl) ?_
        refine lv_iconst (v := nI 5) hx hb dX0_readParts_34 (by decide) ?_
        refine lv_icmp_lt (tgt := 47) hx hb dX0_readParts_35 (by decide) (fun c_35 => ?_) (fun c_35 => ?_)
        · refine lv_iconst (v := nI 0) hx hb dX0_readParts_47 (by decide) ?_
          exact zx_z hx hb hr hlocks (bOK f (16 - (e + 1)) k at9 e9) (by rw [bOK_no (by omega)]; rfl) (by show 0 + 0 ≤ 4 * useV f (16 - (e + 1)) k at9 e9; omega) (by show 0 + 0 ≤ 10 * useV f (16 - (e + 1)) k at9 e9; omega) (⟨rfl, fun z => by rw [bOK_no (by omega)] at z; cases z⟩) hS dX0_readParts_48
        · exact absurd (big_lt hw31 hw32 (by decide)) c_35
    · refine lv_iconst (v := nI 0) hx hb dX0_readParts_16 (by decide) ?_
      exact zx_z hx hb hr hlocks (bOK f (16 - (e + 1)) k at9 e9) (by rw [bOK_no (by omega)]; rfl) (by show 0 ≤ 4 * useV f (16 - (e + 1)) k at9 e9; omega) (by show 0 ≤ 10 * useV f (16 - (e + 1)) k at9 e9; omega) (⟨rfl, fun z => by rw [bOK_no (by omega)] at z; cases z⟩) hS dX0_readParts_17

set_option maxHeartbeats 4000000 in
set_option maxRecDepth 100000 in
theorem c_rp_0 (l : Launch) (G : zG) (tp qb cn : Nat) (f : Nat → Nat) (n0 rd el k : Nat) (pl : Int32) (nm tx at9 e9 dp : Nat) (hk34 : k = 3 ∨ k = 4) (htr : tp < rd) (hqr : qb < rd) (hre : rd < el) (hae : at9 ≤ e9) (he2 : e9 ≤ 2000) (hdp : dp = 17 - 0) : Met l yX0_readParts wsX0_readParts (rRd 8 200 0 (4 * useV f (16 - 0) k at9 e9) (10 * useV f (16 - 0) k at9 e9)) (zP G [.ref (rd), .ref (el), .int (nI (e9)), .int (nI (dp))] (fun H => zO G H rd 1 [.ref tp, .int (nI at9)] ∧ TP G tp qb cn f H ∧ zO G H el 8 (vF k pl nm tx 0 none none none 0) ∧ CH G H ∧ H.size = n0 ∧ cB G ≤ rd)) (zX (fun q => q = rd ∨ q = el ∨ n0 ≤ q) (fun r9 H => r9 = some (.int (nI (nB (bOK f (16 - 0) k at9 e9)))) ∧ (bOK f (16 - 0) k at9 e9 = true → ∃ vs : List Nat, zO G H rd 1 [.ref tp, .int (nI (at9 + wh f at9))] ∧ zO G H el 8 (vF k pl nm tx 0 vs.head? vs.getLast? none vs.length) ∧ KL G H f nI (0 - 1) n0 H.size vs (els f at9)))) (4 * useV f (16 - 0) k at9 e9) (10 * useV f (16 - 0) k at9 e9) (fun q => q = rd ∨ q = el ∨ n0 ≤ q) := by
  refine Met.ofW (cc := cX0_readParts) (maxL := 9) (ret := (some .boolean)) (by decide) rfl ?_
  intro p en s m args below meth c s₁ B hml hv
  obtain ⟨rfl, hP, hK⟩ := hv
  have hx := B.exec
  have hb := B.bytes
  have hr := B.returns
  have hts := atoms_spec (ws := wsX0_readParts) B.pre
  have hz : ∀ w ∈ zW, w.before _ s = true := fun w h => hts w (List.mem_cons_of_mem _ h)
  have hown : s.vm.findClass RX0 = some m.cls := findClass_of_methodNamed B.named
  have hlocks := B.notSynchronized
  obtain ⟨hRd, hT, hEl, hCH, hn0, hcr⟩ := id hP
  have hS : va_S (fun q => q = rd ∨ q = el ∨ n0 ≤ q) s.heap s.heap [] := va_S.rf
  have hl := lv_entry ([.ref (rd), .ref (el), .int (nI (e9)), .int (nI (dp))]) (n := 9) (Nat.le_of_ble_eq_true rfl)
  rw [lg_entry_eq]
  generalize (lg_sl ([.ref (rd), .ref (el), .int (nI (e9)), .int (nI (dp))]) ++ List.replicate (9 - (lg_sl ([.ref (rd), .ref (el), .int (nI (e9)), .int (nI (dp))])).length) Slot.unset).toArray = ls at hl ⊢
  have hl : lv_has ls 9 [(0, .ref (rd)), (1, .ref (el)), (2, .int (nI (e9))), (3, .int (nI (dp)))] := hl
  refine lv_iload_n hx hb dX0_readParts_0 rfl (lv_at hl 3 rfl) ?_
  refine lv_bipush (v := nI 16) hx hb dX0_readParts_1 (by decide) ?_
  refine zi_icmp_gt (tgt := 16) hx hb dX0_readParts_3 (by decide) (by omega) (by omega) (fun c_3 => ?_) (fun c_3 => ?_)
  · refine lv_iconst (v := nI 0) hx hb dX0_readParts_16 (by decide) ?_
    exact zx_z hx hb hr hlocks (bOK f (16 - 0) k at9 e9) (by rw [bOK_no (by omega)]; rfl) (by show 0 ≤ 4 * useV f (16 - 0) k at9 e9; omega) (by show 0 ≤ 10 * useV f (16 - 0) k at9 e9; omega) (⟨rfl, fun z => by rw [bOK_no (by omega)] at z; cases z⟩) hS dX0_readParts_17
  · exfalso; omega

theorem c_rp0 (l : Launch) (G : zG) (tp qb cn : Nat) (f : Nat → Nat) : C_rp l G tp qb cn f 0 := fun n0 rd el k pl nm tx at9 e9 dp h1 h2 h3 h4 h5 h6 h7 => c_rp_0 l G tp qb cn f n0 rd el k pl nm tx at9 e9 dp h1 h2 h3 h4 h5 h6 h7
theorem c_rd_all (l : Launch) (G : zG) (tp qb cn : Nat) (f : Nat → Nat) : ∀ e, e ≤ 16 → C_rp l G tp qb cn f e
  | 0, _ => c_rp0 l G tp qb cn f
  | e + 1, h => fun n0 rd el k pl nm tx at9 e9 dp h1 h2 h3 h4 h5 h6 h7 => c_rp_ l G tp qb cn f e (by omega) (fun n0 rd at9 e9 dp g1 g2 g3 g4 g5 => c_re_ l G tp qb cn f e (by omega) (fun n0 rd el k pl nm w at9 e9 dp q0 q1 q2 q3 q4 q5 q6 => c_rv_ l G tp qb cn f e (by omega) (c_rd_all l G tp qb cn f e (by omega)) n0 rd el k pl nm w at9 e9 dp q0 q1 q2 q3 q4 q5 q6) n0 rd at9 e9 dp g1 g2 g3 g4 g5) n0 rd el k pl nm tx at9 e9 dp h1 h2 h3 h4 h5 h6 h7

set_option maxHeartbeats 4000000 in
set_option maxRecDepth 100000 in
theorem c_rinit (l : Launch) (G : zG) (rd tp : Nat) : Met l yX0_init wsX0_init ({ frames := 1, cells := 0, slots := 0, locals := 21 }) (zP G [.ref (rd), .ref (tp)] (fun H => zO G H rd 1 [.null, .int (nI 0)])) (zX (fun q => q = rd) (fun r9 H => r9 = none ∧ zO G H rd 1 [.ref tp, .int (nI 0)])) (0) (0) (fun q => q = rd) := by
  refine Met.ofW (cc := cX0_init) (maxL := 2) (ret := none) (by decide) rfl ?_
  intro p en s m args below meth c s₁ B hml hv
  obtain ⟨rfl, hP, hK⟩ := hv
  have hx := B.exec
  have hb := B.bytes
  have hr := B.returns
  have hts := atoms_spec (ws := wsX0_init) B.pre
  have hz : ∀ w ∈ zW, w.before _ s = true := fun w h => hts w (List.mem_cons_of_mem _ h)
  have hown : s.vm.findClass RX0 = some m.cls := findClass_of_methodNamed B.named
  have hlocks := B.notSynchronized
  have hS : va_S (fun q => q = rd) s.heap s.heap [] := va_S.rf
  have hl := lv_entry ([.ref (rd), .ref (tp)]) (n := 2) (Nat.le_of_ble_eq_true rfl)
  rw [lg_entry_eq]
  generalize (lg_sl ([.ref (rd), .ref (tp)]) ++ List.replicate (2 - (lg_sl ([.ref (rd), .ref (tp)])).length) Slot.unset).toArray = ls at hl ⊢
  have hl : lv_has ls 2 [(0, .ref (rd)), (1, .ref (tp))] := hl
  refine lv_aload_n hx hb dX0_init_0 rfl (lv_at hl 0 rfl) ?_
  refine W.objInit hx hb hown (hz _ wm_X0_3) (hz _ wOn) (hz _ wOc) rfl (hl.1.trans hml.symm) rfl dX0_init_1 (by show 1 ≤ _; exact Nat.le_of_ble_eq_true rfl) (by show _ ≤ _; exact Nat.le_of_ble_eq_true rfl) ?_
  refine W.eq (g2 := F0 m 4 ls ([])) rfl ?_
  refine lv_aload_n hx hb dX0_init_4 rfl (lv_at hl 0 rfl) ?_
  refine lv_aload_n hx hb dX0_init_5 rfl (lv_at hl 1 rfl) ?_
  refine zx_put (C := RX0) (T := TX0) (N := 2) (v := .ref (tp)) hx hb hz wo_X0 tyX0 tyX0_ok nmX0 hown hK hP rfl 0 (by decide) (hz _ wf_X0_9) (fun _ h9 => h9) (Or.inr ⟨rfl, (name_of_methodNamed B.named B.method).1, rfl⟩) rfl rfl (Nat.le_of_ble_eq_true rfl) (by first | exact rfl | omega | (dsimp only; omega)) hS dX0_init_6 (fun H locs hz9 hP hk9 hS => ?_)
  have hP : zO G H (rd) 1 [.ref (tp), .int (nI (0))] := hP
  exact zx_v hx hb hr hlocks (by show 0 ≤ 0; omega) (by show 0 ≤ 0; omega) (⟨rfl, hP⟩) hS dX0_init_9

set_option maxHeartbeats 4000000 in
set_option maxRecDepth 100000 in
theorem c_rwhole (l : Launch) (G : zG) (tp qb cn : Nat) (f : Nat → Nat) (n0 rd nn : Nat) (at9 : Int32) (htr : tp < rd) (hqr : qb < rd) (hnn : nn ≤ 2000) : Met l yX0_readWhole wsX0_readWhole ({ frames := 57, cells := 4 * nn + 1, slots := 10 * nn + 9, locals := 1508 }) (zP G [.ref (rd), .int (nI (nn))] (fun H => zO G H rd 1 [.ref tp, .int at9] ∧ TP G tp qb cn f H ∧ CH G H ∧ H.size = n0 ∧ cB G ≤ rd)) (zX (fun q => q = rd ∨ n0 ≤ q) (fun r9 H => ∃ o8 : Option Nat, r9 = some (va_rf o8) ∧ (o8 = none → dcB f 0 nn = false) ∧ ∀ v, o8 = some v → dcB f 0 nn = true ∧ n0 ≤ v ∧ Nod G H f nI 16 v H.size 3 0 [] (-1) none)) (4 * nn + 1) (10 * nn + 9) (fun q => q = rd ∨ n0 ≤ q) := by
  refine Met.ofW (cc := cX0_readWhole) (maxL := 3) (ret := (some (.object "FilterReader$Value"))) (by decide) rfl ?_
  intro p en s m args below meth c s₁ B hml hv
  obtain ⟨rfl, hP, hK⟩ := hv
  have hx := B.exec
  have hb := B.bytes
  have hr := B.returns
  have hts := atoms_spec (ws := wsX0_readWhole) B.pre
  have hz : ∀ w ∈ zW, w.before _ s = true := fun w h => hts w (List.mem_cons_of_mem _ h)
  have hown : s.vm.findClass RX0 = some m.cls := findClass_of_methodNamed B.named
  have hlocks := B.notSynchronized
  obtain ⟨hRd, hT, hCH, hn0, hcr⟩ := id hP
  have hS : va_S (fun q => q = rd ∨ n0 ≤ q) s.heap s.heap [] := va_S.rf
  have h8 := hT.2.2
  have hrl := hRd.lt
  have htl := hT.1.lt
  have hql := hT.2.1.lt
  have huv := useV_le (f := f) (dep := 0) (k := 3) (a := 0) (last := nn) (by omega)
  have hl := lv_entry ([.ref (rd), .int (nI (nn))]) (n := 3) (Nat.le_of_ble_eq_true rfl)
  rw [lg_entry_eq]
  generalize (lg_sl ([.ref (rd), .int (nI (nn))]) ++ List.replicate (3 - (lg_sl ([.ref (rd), .int (nI (nn))])).length) Slot.unset).toArray = ls at hl ⊢
  have hl : lv_has ls 3 [(0, .ref (rd)), (1, .int (nI (nn)))] := hl
  refine lv_aload_n hx hb dX0_readWhole_0 rfl (lv_at hl 0 rfl) ?_
  refine lv_iconst (v := nI 0) hx hb dX0_readWhole_1 (by decide) ?_
  refine zx_put (C := RX0) (T := TX0) (N := 2) (v := .int (nI (0))) hx hb hz wo_X0 tyX0 tyX0_ok nmX0 hown hK hRd rfl 1 (by decide) (hz _ wf_X0_15) (fun _ h9 => h9) (Or.inl rfl) rfl rfl (Nat.le_of_ble_eq_true rfl) (by first | exact rfl | omega | (dsimp only; omega)) hS dX0_readWhole_2 (fun H locs hz9 hRd hk9 hS => ?_)
  have hRd : zO G H (rd) 1 [.ref (tp), .int (nI (0))] := hRd
  have hT := hT.keep hk9 ⟨by first | exact id | exact rfl | omega | (dsimp only; omega), by first | exact id | exact rfl | omega | (dsimp only; omega)⟩
  have hCH := hCH.keep hk9 ⟨by intro q hq; first | exact id | omega | (dsimp only; omega), by omega⟩
  refine zx_new (C := RX9) (T := TX9) (N := 9) (ci := 8) (fs := [.int (nI (0)), .int (nI (0)), .null, .null, .long (0), .null, .null, .null, .int (nI (0))]) hx hb hz wo_X9 tyX9 tyX9_ok hown (hz _ wl_X0_19) (hz _ wa_X9) (hz _ wi_X9) hK rfl df_X9 (by show 0 + 1 ≤ 4 * nn + 1; omega) (by show 0 + 9 ≤ 10 * nn + 9; omega) hS dX0_readWhole_5 (fun el H he_el hz9 hO_el hk9 hS => ?_)
  have hRd := hRd.keep hk9 (by first | exact id | exact rfl | omega | (dsimp only; omega))
  have hT := hT.keep hk9 ⟨by first | exact id | exact rfl | omega | (dsimp only; omega), by first | exact id | exact rfl | omega | (dsimp only; omega)⟩
  have hCH := hCH.keep hk9 ⟨by intro q hq; first | exact id | omega | (dsimp only; omega), by omega⟩
  refine lv_dup hx hb dX0_readWhole_8 rfl ?_
  refine lv_iconst (v := nI 3) hx hb dX0_readWhole_9 (by decide) ?_
  refine lv_iconst (v := (-1)) hx hb dX0_readWhole_10 (by decide) ?_
  refine va_ldcS hx hb hown (hK.2.2.1 ("FilterReader$DocumentReader", 23, "") (by decide)) dX0_readWhole_11 ?_
  refine zx_IN (As := [.int (nI (3)), .int ((-1)), .ref (G.2.2 "")]) (rest := [.ref (el)]) (b := el) ⟨hx, hb, hml, hown, hts⟩ (c_vinit l G el 3 (G.2.2 "") (-1)) ⟨va_cnB 3 hts (zgN wc_X9_init) rfl rfl rfl (hK.2.1 _ wm_X0_25) (hz _ wi_X9) (by decide +kernel) ⟨Nat.le_of_ble_eq_true rfl, Nat.le_of_ble_eq_true rfl⟩, rfl, hz _ wn_X9_init⟩ hK hO_el rfl hl.1 rfl (Nat.le_of_ble_eq_true rfl) dX0_readWhole_13 ⟨by show 0 + 1 + 0 ≤ 4 * nn + 1; omega, by show 0 + 9 + 0 ≤ 10 * nn + 9; omega⟩ hS (by intro q hq; first | omega | (dsimp only at hq ⊢; omega)) (fun r9 H locs hPo hz9 hk9 hS => ?_)
  have hRd := hRd.keep hk9 (by first | exact id | exact rfl | omega | (dsimp only; omega))
  have hT := hT.keep hk9 ⟨by first | exact id | exact rfl | omega | (dsimp only; omega), by first | exact id | exact rfl | omega | (dsimp only; omega)⟩
  have hCH := hCH.keep hk9 ⟨by intro q hq; first | exact id | omega | (dsimp only; omega), by omega⟩
  obtain ⟨rfl, hO_el⟩ := hPo
  refine W.eq (g2 := F0 m 16 ls ([.ref (el)])) rfl ?_
  refine lv_astore_n (lv' := [(2, .ref (el)), (0, .ref (rd)), (1, .int (nI (nn)))]) hx hb dX0_readWhole_16 rfl hl (by decide) rfl (fun ls hl => ?_)
  refine lv_aload_n hx hb dX0_readWhole_17 rfl (lv_at hl 1 rfl) ?_
  refine lv_aload_n hx hb dX0_readWhole_18 rfl (lv_at hl 0 rfl) ?_
  refine lv_iload_n hx hb dX0_readWhole_19 rfl (lv_at hl 2 rfl) ?_
  refine lv_iconst (v := nI 1) hx hb dX0_readWhole_20 (by decide) ?_
  refine zx_V (As := [.ref (el), .int (nI (nn)), .int (nI (1))]) (rest := []) ⟨hx, hb, hml, hown, hts⟩ (c_rd_all l G tp qb cn f 16 (by decide) H.size rd el 3 (-1) (G.2.2 "") (G.2.2 "") 0 nn 1 (Or.inl rfl) htr hqr (by omega) (by omega) hnn (by decide)) (cwV 3 hts (zgV wm_X0_28 wv_X0_readParts) rfl rfl rfl (by decide +kernel) ⟨Nat.le_of_ble_eq_true rfl, Nat.le_of_ble_eq_true rfl⟩) hK hRd rfl ⟨hRd, hT, hO_el, hCH, rfl, hcr⟩ rfl hl.1 rfl (Nat.le_of_ble_eq_true rfl) dX0_readWhole_21 ⟨by show 0 + 1 + 0 + (4 * useV f 0 3 0 nn) ≤ 4 * nn + 1; omega, by show 0 + 9 + 0 + (10 * useV f 0 3 0 nn) ≤ 10 * nn + 9; omega⟩ hS (by intro q hq; first | omega | (dsimp only at hq ⊢; omega)) (fun r9 H locs hPo hz9 hk9 hS => ?_)
  have hT := hT.keep hk9 ⟨by first | exact id | exact rfl | omega | (dsimp only; omega), by first | exact id | exact rfl | omega | (dsimp only; omega)⟩
  have hCH := hCH.keep hk9 ⟨by intro q hq; first | exact id | omega | (dsimp only; omega), by omega⟩
  obtain ⟨rfl, hVal⟩ := hPo
  refine W.eq (g2 := F0 m 24 ls ([.int (nI (nB (bOK f 0 3 0 nn)))])) rfl ?_
  refine zb_if_eq (tgt := 39) hx hb dX0_readWhole_24 (by decide) (fun c_24 => ?_) (fun c_24 => ?_)
  · refine lv_null hx hb dX0_readWhole_39 ?_
    exact zx_a hx hb hr (by first | exact Or.inl ⟨_, rfl⟩ | exact Or.inr ⟨_, rfl⟩) hlocks (Or.inl rfl) (by show 0 + 1 + 0 + (4 * useV f 0 3 0 nn) ≤ 4 * nn + 1; omega) (by show 0 + 9 + 0 + (10 * useV f 0 3 0 nn) ≤ 10 * nn + 9; omega) (⟨none, rfl, fun _ => by rw [dcB_b, c_24]; rfl, fun v z => nomatch z⟩) hS dX0_readWhole_40
  · obtain ⟨vs, hRd, hEl, hKL⟩ := hVal c_24
    have hbt := bOK_t c_24
    rw [Nat.zero_add] at hRd
    refine lv_aload_n hx hb dX0_readWhole_27 rfl (lv_at hl 1 rfl) ?_
    refine zi_get (C := RX0) (T := TX0) (N := 2) (v := .int (nI (wh f 0))) hx hb hz wo_X0 hown hK hRd rfl 1 (by decide) (hz _ wf_X0_15) (fun _ h9 => h9) rfl dX0_readWhole_28 ?_
    refine lv_iload_n hx hb dX0_readWhole_31 rfl (lv_at hl 2 rfl) ?_
    refine zi_icmp_ne (tgt := 39) hx hb dX0_readWhole_32 (by decide) (by omega) (by omega) (fun c_32 => ?_) (fun c_32 => ?_)
    · refine lv_null hx hb dX0_readWhole_39 ?_
      exact zx_a hx hb hr (by first | exact Or.inl ⟨_, rfl⟩ | exact Or.inr ⟨_, rfl⟩) hlocks (Or.inl rfl) (by show 0 + 1 + 0 + (4 * useV f 0 3 0 nn) ≤ 4 * nn + 1; omega) (by show 0 + 9 + 0 + (10 * useV f 0 3 0 nn) ≤ 10 * nn + 9; omega) (⟨none, rfl, fun _ => by rw [dcB_b, decide_eq_false c_32, Bool.and_false], fun v z => nomatch z⟩) hS dX0_readWhole_40
    · refine lv_aload_n hx hb dX0_readWhole_35 rfl (lv_at hl 0 rfl) ?_
      refine lv_goto (tgt := 40) hx hb dX0_readWhole_36 (by decide) ?_
      exact zx_a hx hb hr (by first | exact Or.inl ⟨_, rfl⟩ | exact Or.inr ⟨_, rfl⟩) hlocks (Or.inr ⟨_, rfl⟩) (by show 0 + 1 + 0 + (4 * useV f 0 3 0 nn) ≤ 4 * nn + 1; omega) (by show 0 + 9 + 0 + (10 * useV f 0 3 0 nn) ≤ 10 * nn + 9; omega) (⟨some el, rfl, (fun z => nomatch z), fun v z => by
      cases z
      exact ⟨by rw [dcB_b, c_24, decide_eq_true c_32]; rfl, by omega, Nod.box (nm := G.2.2 "") (tx := G.2.2 "") hEl (hCH.emp (fun q hq => Or.inr hq)) (hCH.emp (fun q hq => Or.inr hq)) (by omega) (Or.inl rfl) (hKL.lo (by omega))⟩⟩) hS dX0_readWhole_40
