set_option maxHeartbeats 4000000 in
set_option maxRecDepth 100000 in
theorem c_aPa (l : Launch) (G : zG) (f : Nat → Nat) (pf : Nat → Int32) (Z : Nat → Prop) (d : Nat) (IH1 : C_aC l G f pf Z d) (lo n0 mk fl rt ca c0 h sg : Nat) (ng : Bool) (vl : Nat) (pa nx : Option Nat) (rs : List Nat) (ts : List Nat) (ev cx : Nat) (S : cS) (dp tv : Nat) (htd : tv ≤ d) (hkd : okV f tv (f cx) (vo f cx)) (hwd : okW f tv (f cx) (vo f cx)) (hz0 : f (ne f cx) = 0) (hj : f (cx + 1) ≠ 36) (h0 : S.1 = 0) (hsi : sInv S) (hZm : ∀ q, Z q ∨ q < cB G → q < mk) (hd1 : mk < fl) (hd2 : fl < ca) (hmh : mk < h) (hhf : h ≠ fl) (hhc : h ≠ ca) (hhl : h < lo) (hcl9 : ca < lo) (hlo : lo ≤ n0) (hdp : dp + (tv + 1) = 17) : Met l yX2_addPath wsX2_addPath (rMk 23 510 d (cE1 30 f (cst 30 f tv) cx) (cE1 80 f (cst 80 f tv) cx)) (zP G [.ref (mk), .ref (h), .ref (ev), .int (nI (dp))] (fun H => MKs G H mk fl rt ca c0 pf S ∧ zO G H h 5 (rlF sg ng vl pa rs.head? rs.getLast? nx) ∧ zR9 (rFk9 G f pf Z d) H lo n0 rs ts ∧ VNp G H f pf Z ev cx ∧ CH G H ∧ H.size = n0)) (zX (fun q => q = mk ∨ q = ca ∨ q = h ∨ lo ≤ q) (fun r9 H => r9 = none ∧ ∃ (T : cS) (rs2 : List Nat), MKs G H mk fl rt ca c0 pf T ∧ eqS T (kEl f (ckF f d).1 (ckF f d).2 cx S) ∧ (T.1 = 0 → zO G H h 5 (rlF sg ng vl pa rs2.head? rs2.getLast? nx) ∧ zR9 (rFk9 G f pf Z d) H lo H.size rs2 (ts ++ [cx])))) (cE1 30 f (cst 30 f tv) cx) (cE1 80 f (cst 80 f tv) cx) (fun q => q = mk ∨ q = ca ∨ q = h ∨ lo ≤ q) := by
  refine Met.ofW (cc := cX2_addPath) (maxL := 7) (ret := none) (by decide) rfl ?_
  intro p en s m args below meth c s₁ B hml hv
  obtain ⟨rfl, hP, hK⟩ := hv
  have hx := B.exec
  have hb := B.bytes
  have hr := B.returns
  have hts := atoms_spec (ws := wsX2_addPath) B.pre
  have hz : ∀ w ∈ zW, w.before _ s = true := fun w h => hts w (List.mem_cons_of_mem _ h)
  have hown : s.vm.findClass RX2 = some m.cls := findClass_of_methodNamed B.named
  have hlocks := B.notSynchronized
  obtain ⟨⟨hMk, hFl, hCa⟩, hH, hR9, hVN, hCH, hn0⟩ := id hP
  have hS : va_S (fun q => q = mk ∨ q = ca ∨ q = h ∨ lo ≤ q) s.heap s.heap [] := va_S.rf
  have hez := hZm ev (Or.inl hVN.z)
  have hc3 := cE1_ge (K := 30) (f := f) (sub := cst 30 f tv) (x := cx)
  have hc8 := cE1_ge (K := 80) (f := f) (sub := cst 80 f tv) (x := cx)
  have hfb := hkd.b.1
  obtain ⟨y3, hy3⟩ : ∃ y, cE1 30 f (cst 30 f tv) cx = 30 + (ne f cx - (cx + 1)) + y := ⟨_, rfl⟩
  obtain ⟨y8, hy8⟩ : ∃ y, cE1 80 f (cst 80 f tv) cx = 80 + (ne f cx - (cx + 1)) + y := ⟨_, rfl⟩
  obtain ⟨hv, nxt, hN, hzz, hkk, hww⟩ := id hVN
  obtain ⟨nm, tx, f1, l1, n1, hO, hSt, hT, hvl⟩ := hN.o
  obtain ⟨v9, hs9, hz99, -, -, hSa⟩ := id hSt
  have hZq : ∀ q, Zr G ev hv q → q < n0 := fun q hq => hq.elim (fun z => by have := hZm q (Or.inl (hzz q (Nat.le_of_lt z.1) z.2)); omega) (fun z => by have := hZm q (Or.inr z); omega)
  have hl := lv_entry ([.ref (mk), .ref (h), .ref (ev), .int (nI (dp))]) (n := 7) (Nat.le_of_ble_eq_true rfl)
  rw [lg_entry_eq]
  generalize (lg_sl ([.ref (mk), .ref (h), .ref (ev), .int (nI (dp))]) ++ List.replicate (7 - (lg_sl ([.ref (mk), .ref (h), .ref (ev), .int (nI (dp))])).length) Slot.unset).toArray = ls at hl ⊢
  have hl : lv_has ls 7 [(0, .ref (mk)), (1, .ref (h)), (2, .ref (ev)), (3, .int (nI (dp)))] := hl
  refine lv_aload_n hx hb dX2_addPath_0 rfl (lv_at hl 2 rfl) ?_
  refine zi_getN (C := RX9) (T := TX9) (N := 9) (v := .ref (nm)) hx hb hz wo_X9 hown hK hO rfl 2 (by decide) wf_X2_46 (fun _ h9 => h9) rfl dX2_addPath_1 ?_
  refine zx_SN (As := [.ref (nm)]) (rest := []) ⟨hx, hb, hml, hown, hts⟩ (c_ofPath l G n0 nm f cx (Zr G ev hv) hz0 (ne_fuel f cx) hZq) ⟨va_cnB 1 hts (zgN wc_X7_ofPath) rfl rfl rfl (hK.2.1 _ wm_X2_102) (hz _ wi_X7) (by decide +kernel) ⟨by show 5 + 1 ≤ _; simp only [headSpec]; omega, by show 8 + (_ + 11) + 152 ≤ _; simp only [headSpec]; omega⟩, hz _ wt_X7_ofPath, trivial⟩ hK ⟨hSt, hCH, hn0⟩ rfl hl.1 rfl (Nat.le_of_ble_eq_true rfl) dX2_addPath_4 ⟨by show 0 + 27 ≤ cE1 30 f (cst 30 f tv) cx; omega, by show 0 + (63 + (ne f cx - (cx + 1))) ≤ cE1 80 f (cst 80 f tv) cx; omega⟩ hS (by intro q hq; first | omega | (dsimp only at hq ⊢; omega)) (fun r9 H locs hPo hz9 hk9 hS => ?_)
  have hMk := hMk.keep hk9 (by first | exact id | exact rfl | omega | (dsimp only; omega))
  have hFl := hFl.keep hk9 (by first | exact id | exact rfl | omega | (dsimp only; omega))
  have hCa := hCa.keep hk9 (by first | exact id | exact rfl | omega | (dsimp only; omega))
  have hH := hH.keep hk9 (by first | exact id | exact rfl | omega | (dsimp only; omega))
  have hR9 := zR9.keep (rK_F G f pf Z d) hR9 hk9 (by intro q hq; exact hq.elim (fun hq => by first | exact id | omega | (dsimp only; omega)) (fun hq => by have hq1 := hZm q hq; first | exact id | omega | (dsimp only; omega)))
  have hVN := hVN.keep hk9 (by intro q hq; have hq1 := hZm q hq; first | exact id | omega | (dsimp only; omega))
  have hCH := hCH.keep hk9 ⟨by intro q hq; have hq1 := hZm q (Or.inr hq); first | exact id | omega | (dsimp only; omega), by omega⟩
  have hzz0 := hzz
  obtain ⟨o8, rfl, hno, hyes⟩ := hPo
  refine W.eq (g2 := F0 m 7 ls ([va_rf (o8)])) rfl ?_
  refine zo_astore (lv' := [(4, va_rf (o8)), (0, .ref (mk)), (1, .ref (h)), (2, .ref (ev)), (3, .int (nI (dp)))]) hx hb dX2_addPath_7 hl (by decide) rfl (fun ls hl => ?_)
  obtain ⟨hv, nxt, hN, hzz, hkk, hww⟩ := id hVN
  obtain ⟨nm, tx, f1, l1, n1, hO, hSt, hT, hvl⟩ := hN.o
  obtain ⟨v9, hs9, hz99, -, -, hSa⟩ := id hSt
  obtain ⟨nmx, txx, vsx, hX⟩ := hN.x
  refine lv_aload_n hx hb dX2_addPath_9 rfl (lv_at hl 3 rfl) ?_
  refine zc_VN (As := []) (rest := []) ⟨hx, hb, hml, hown, hts⟩ (c_isConditions l G f pf 15 ev hv (f cx) (vo f cx) (nL f cx) (pf cx) nxt nmx txx vsx hkk) ⟨va_cnB 0 hts (zgN wc_X9_isConditions) rfl rfl rfl (hK.2.1 _ wm_X2_108) (hz _ wi_X9) (by decide +kernel) ⟨by show 5 + 1 ≤ _; simp only [headSpec]; omega, by show 8 + (_ + 11) + 105 ≤ _; simp only [headSpec]; omega⟩, hz _ wn_X9_isConditions, hz _ we_X9_isConditions⟩ hK hO rfl ⟨hX, hCH⟩ rfl hl.1 rfl (Nat.le_of_ble_eq_true rfl) dX2_addPath_10 ⟨by show 0 + 27 ≤ cE1 30 f (cst 30 f tv) cx; omega, by show 0 + (63 + (ne f cx - (cx + 1))) ≤ cE1 80 f (cst 80 f tv) cx; omega⟩ ?_
  refine zb_if_ne (tgt := 20) hx hb dX2_addPath_13 (by decide) (fun c_13 => ?_) (fun c_13 => ?_)
  · refine lv_iconst (v := nI 0) hx hb dX2_addPath_20 (by decide) ?_
    refine lv_istore (lv' := [(5, .int (nI (0))), (4, va_rf (o8)), (0, .ref (mk)), (1, .ref (h)), (2, .ref (ev)), (3, .int (nI (dp)))]) hx hb dX2_addPath_21 hl (by decide) (by simp [List.filter, zo_cat]) (fun ls hl => ?_)
    refine zo_aload hx hb dX2_addPath_23 (lv_at hl 1 rfl) ?_
    generalize hov : o8 = ov at hl ⊢
    rcases ov with _ | sa
    · have hl : lv_has ls 7 [(5, .int (nI (0))), (4, .null), (0, .ref (mk)), (1, .ref (h)), (2, .ref (ev)), (3, .int (nI (dp)))] := hl
      have hst0 := hno hov
      refine W.eq (g2 := F0 m 25 ls ([.null])) rfl ?_
      refine lv_ifnonnullN hx hb dX2_addPath_25 ?_
      refine lv_aload_n hx hb dX2_addPath_28 rfl (lv_at hl 2 rfl) ?_
      refine lv_iconst (v := nI 3) hx hb dX2_addPath_29 (by decide) ?_
      refine lv_aload_n hx hb dX2_addPath_30 rfl (lv_at hl 4 rfl) ?_
      refine zx_V (As := [.int (nI (3)), .ref (ev)]) (rest := []) ⟨hx, hb, hml, hown, hts⟩ (c_refuse l G mk fl rt ca c0 pf S f Z ev cx 3 (by decide) h0 hZm hd1 hd2) (cwV 2 hts (zgV wm_X2_68 wv_X2_refuse) rfl rfl rfl (by decide +kernel) ⟨by show 0 + 1 ≤ _; simp only [headSpec]; omega, by show 8 + (_ + 11) + 0 ≤ _; simp only [headSpec]; omega⟩) hK hMk rfl ⟨⟨hMk, hFl, hCa⟩, hVN⟩ rfl hl.1 rfl (Nat.le_of_ble_eq_true rfl) dX2_addPath_31 ⟨by show 0 + 27 + 0 ≤ cE1 30 f (cst 30 f tv) cx; omega, by show 0 + (63 + (ne f cx - (cx + 1))) + 0 ≤ cE1 80 f (cst 80 f tv) cx; omega⟩ hS (by intro q hq; first | omega | (dsimp only at hq ⊢; omega)) (fun r9 H locs hPo hz9 hk9 hS => ?_)
      have hH := hH.keep hk9 (by first | exact id | exact rfl | omega | (dsimp only; omega))
      have hR9 := zR9.keep (rK_F G f pf Z d) hR9 hk9 (by intro q hq; exact hq.elim (fun hq => by first | exact id | omega | (dsimp only; omega)) (fun hq => by have hq1 := hZm q hq; first | exact id | omega | (dsimp only; omega)))
      have hVN := hVN.keep hk9 (by intro q hq; have hq1 := hZm q hq; first | exact id | omega | (dsimp only; omega))
      have hCH := hCH.keep hk9 ⟨by intro q hq; have hq1 := hZm q (Or.inr hq); first | exact id | omega | (dsimp only; omega), by omega⟩
      obtain ⟨rfl, hMM⟩ := hPo
      refine W.eq (g2 := F0 m 34 ls ([])) rfl ?_
      refine lv_goto (tgt := 138) hx hb dX2_addPath_34 (by decide) ?_
      exact zx_v hx hb hr hlocks (by show 0 + 27 + 0 ≤ cE1 30 f (cst 30 f tv) cx; omega) (by show 0 + (63 + (ne f cx - (cx + 1))) + 0 ≤ cE1 80 f (cst 80 f tv) cx; omega) (⟨rfl, _, [], hMM, kp_3 h0 hj hst0, fun z => absurd z (sSay_w (by decide))⟩) hS dX2_addPath_138
    · have hl : lv_has ls 7 [(5, .int (nI (0))), (4, .ref (sa)), (0, .ref (mk)), (1, .ref (h)), (2, .ref (ev)), (3, .int (nI (dp)))] := hl
      obtain ⟨hst0, hSp0, hSc0⟩ := hyes sa hov
      have hSp := spt_zr hSp0 hzz0
      obtain ⟨hsl9, nms, nxs, hOs⟩ := hSc0.2 sa rfl
      obtain ⟨sz, hsze⟩ : ∃ z, H.size = z := ⟨_, rfl⟩
      rw [hsze] at hSp hsl9
      refine W.eq (g2 := F0 m 25 ls ([.ref (sa)])) rfl ?_
      refine lv_ifnonnull (tgt := 37) hx hb dX2_addPath_25 (by decide) ?_
      refine lv_aload_n hx hb dX2_addPath_37 rfl (lv_at hl 2 rfl) ?_
      refine lv_iload hx hb dX2_addPath_38 (lv_at hl 0 rfl) ?_
      refine zi_if_eq (tgt := 47) hx hb dX2_addPath_40 (by decide) (by omega) (fun c_40 => ?_) (fun c_40 => absurd c_40 (by decide))
      refine lv_iconst (v := nI 1) hx hb dX2_addPath_47 (by decide) ?_
      refine lv_aload_n hx hb dX2_addPath_48 rfl (lv_at hl 4 rfl) ?_
      refine zx_V (As := [.int (nI (1)), .ref (ev)]) (rest := []) ⟨hx, hb, hml, hown, hts⟩ (c_mayc l G mk fl rt ca c0 pf S f Z ev cx 1 (by decide) (hsi.2.2 h0) h0 hZm hd1 hd2) (cwV 2 hts (zgV wm_X2_80 wv_X2_mayCount) rfl rfl rfl (by decide +kernel) ⟨by show 1 + 1 ≤ _; simp only [headSpec]; omega, by show 8 + (_ + 11) + 22 ≤ _; simp only [headSpec]; omega⟩) hK hMk rfl ⟨⟨hMk, hFl, hCa⟩, hVN⟩ rfl hl.1 rfl (Nat.le_of_ble_eq_true rfl) dX2_addPath_49 ⟨by show 0 + 27 + 0 ≤ cE1 30 f (cst 30 f tv) cx; omega, by show 0 + (63 + (ne f cx - (cx + 1))) + 0 ≤ cE1 80 f (cst 80 f tv) cx; omega⟩ hS (by intro q hq; first | omega | (dsimp only at hq ⊢; omega)) (fun r9 H locs hPo hz9 hk9 hS => ?_)
      have hH := hH.keep hk9 (by first | exact id | exact rfl | omega | (dsimp only; omega))
      have hR9 := zR9.keep (rK_F G f pf Z d) hR9 hk9 (by intro q hq; exact hq.elim (fun hq => by first | exact id | omega | (dsimp only; omega)) (fun hq => by have hq1 := hZm q hq; first | exact id | omega | (dsimp only; omega)))
      have hVN := hVN.keep hk9 (by intro q hq; have hq1 := hZm q hq; first | exact id | omega | (dsimp only; omega))
      have hCH := hCH.keep hk9 ⟨by intro q hq; have hq1 := hZm q (Or.inr hq); first | exact id | omega | (dsimp only; omega), by omega⟩
      have hOs := hOs.keep hk9 (by first | exact id | exact rfl | omega | (dsimp only; omega))
      have hSp := hSp.keep hk9 (by intro q hq; exact hq.elim (fun hy => by have hy1 := hZm q (Or.inl hy); first | exact id | omega | (dsimp only; omega)) (fun hy => hy.elim (fun hy => by first | exact id | omega | (dsimp only; omega)) (fun hy => by have hy1 := hZm q (Or.inr hy); first | exact id | omega | (dsimp only; omega))))
      obtain ⟨rfl, hMM⟩ := hPo
      obtain ⟨hMk, hFl, hCa⟩ := id hMM
      refine W.eq (g2 := F0 m 52 ls ([.int (nI (nB (decide (S.2.2.1 + 1 ≤ 100))))])) rfl ?_
      refine zb_if_eq (tgt := 138) hx hb dX2_addPath_52 (by decide) (fun c_52 => ?_) (fun c_52 => ?_)
      · exact zx_v hx hb hr hlocks (by show 0 + 27 + 0 ≤ cE1 30 f (cst 30 f tv) cx; omega) (by show 0 + (63 + (ne f cx - (cx + 1))) + 0 ≤ cE1 80 f (cst 80 f tv) cx; omega) (⟨rfl, _, [], hMM, (kp_5 (kc := (ckF f d).1) (kf := (ckF f d).2) h0 hj hst0 c_13 (of_decide_eq_false c_52)).1, fun z => absurd z (kp_5 (kc := (ckF f d).1) (kf := (ckF f d).2) h0 hj hst0 c_13 (of_decide_eq_false c_52)).2⟩) hS dX2_addPath_138
      · have hcn := of_decide_eq_true c_52
        rw [sCnt_y hcn] at hMM
        obtain ⟨hMk, hFl, hCa⟩ := id hMM
        refine lv_aload_n hx hb dX2_addPath_55 rfl (lv_at hl 2 rfl) ?_
        refine zi_get (C := RX2) (T := TX2) (N := 3) (v := .ref (fl)) hx hb hz wo_X2 hown hK hMk rfl 0 (by decide) (hz _ wf_X2_20) (fun _ h9 => h9) rfl dX2_addPath_56 ?_
        refine zi_getN (C := RX1) (T := TX1) (N := 2) (v := .ref (ca)) hx hb hz wo_X1 hown hK hFl rfl 1 (by decide) wf_X2_112 (fun _ h9 => h9) rfl dX2_addPath_59 ?_
        refine lv_iconst (v := nI 2) hx hb dX2_addPath_62 (by decide) ?_
        refine lv_dup2_11 hx hb dX2_addPath_63 rfl rfl ?_
        refine zi_ald hx hb hK hCa (by omega) (by decide) dX2_addPath_64 ?_
        refine lv_iconst (v := nI 1) hx hb dX2_addPath_65 (by decide) ?_
        refine zi_add hx hb dX2_addPath_66 ?_
        refine zx_ast (i := 2) (x := (cA4 c0 (S.1, S.2.1, S.2.2.1 + 1, S.2.2.2)) 2 + 1) hx hb hK hCa (by omega) (by decide)  (by first | exact rfl | omega | (dsimp only; omega)) hS dX2_addPath_67 (fun H locs hz9 hCa hk9 hS => ?_)
        have hMk := hMk.keep hk9 (by first | exact id | exact rfl | omega | (dsimp only; omega))
        have hFl := hFl.keep hk9 (by first | exact id | exact rfl | omega | (dsimp only; omega))
        have hH := hH.keep hk9 (by first | exact id | exact rfl | omega | (dsimp only; omega))
        have hR9 := zR9.keep (rK_F G f pf Z d) hR9 hk9 (by intro q hq; exact hq.elim (fun hq => by first | exact id | omega | (dsimp only; omega)) (fun hq => by have hq1 := hZm q hq; first | exact id | omega | (dsimp only; omega)))
        have hVN := hVN.keep hk9 (by intro q hq; have hq1 := hZm q hq; first | exact id | omega | (dsimp only; omega))
        have hCH := hCH.keep hk9 ⟨by intro q hq; have hq1 := hZm q (Or.inr hq); first | exact id | omega | (dsimp only; omega), by omega⟩
        have hOs := hOs.keep hk9 (by first | exact id | exact rfl | omega | (dsimp only; omega))
        have hSp := hSp.keep hk9 (by intro q hq; exact hq.elim (fun hy => by have hy1 := hZm q (Or.inl hy); first | exact id | omega | (dsimp only; omega)) (fun hy => hy.elim (fun hy => by first | exact id | omega | (dsimp only; omega)) (fun hy => by have hy1 := hZm q (Or.inr hy); first | exact id | omega | (dsimp only; omega))))
        have hCa := hCa.ext (g := cA4 c0 (S.1, S.2.1, S.2.2.1 + 1, S.2.2.2.1 + 1, S.2.2.2.2)) cA4_2
        refine lv_aload_n hx hb dX2_addPath_68 rfl (lv_at hl 2 rfl) ?_
        refine zi_get (C := RX2) (T := TX2) (N := 3) (v := .ref (fl)) hx hb hz wo_X2 hown hK hMk rfl 0 (by decide) (hz _ wf_X2_20) (fun _ h9 => h9) rfl dX2_addPath_69 ?_
        refine zi_getN (C := RX1) (T := TX1) (N := 2) (v := .ref (ca)) hx hb hz wo_X1 hown hK hFl rfl 1 (by decide) wf_X2_112 (fun _ h9 => h9) rfl dX2_addPath_72 ?_
        refine lv_iconst (v := nI 3) hx hb dX2_addPath_75 (by decide) ?_
        refine lv_dup2_11 hx hb dX2_addPath_76 rfl rfl ?_
        refine zi_ald hx hb hK hCa (by omega) (by decide) dX2_addPath_77 ?_
        refine lv_aload hx hb dX2_addPath_78 (lv_at hl 1 rfl) ?_
        refine zi_getN (C := RX7) (T := TX7) (N := 3) (v := .int (nI (stN f cx))) hx hb hz wo_X7 hown hK hOs rfl 2 (by decide) wf_X2_116 (fun _ h9 => h9) rfl dX2_addPath_80 ?_
        refine zi_add hx hb dX2_addPath_83 ?_
        refine zx_ast (i := 3) (x := (cA4 c0 (S.1, S.2.1, S.2.2.1 + 1, S.2.2.2.1 + 1, S.2.2.2.2)) 3 + (stN f cx)) hx hb hK hCa (by omega) (by decide)  (by first | exact rfl | omega | (dsimp only; omega)) hS dX2_addPath_84 (fun H locs hz9 hCa hk9 hS => ?_)
        have hMk := hMk.keep hk9 (by first | exact id | exact rfl | omega | (dsimp only; omega))
        have hFl := hFl.keep hk9 (by first | exact id | exact rfl | omega | (dsimp only; omega))
        have hH := hH.keep hk9 (by first | exact id | exact rfl | omega | (dsimp only; omega))
        have hR9 := zR9.keep (rK_F G f pf Z d) hR9 hk9 (by intro q hq; exact hq.elim (fun hq => by first | exact id | omega | (dsimp only; omega)) (fun hq => by have hq1 := hZm q hq; first | exact id | omega | (dsimp only; omega)))
        have hVN := hVN.keep hk9 (by intro q hq; have hq1 := hZm q hq; first | exact id | omega | (dsimp only; omega))
        have hCH := hCH.keep hk9 ⟨by intro q hq; have hq1 := hZm q (Or.inr hq); first | exact id | omega | (dsimp only; omega), by omega⟩
        have hOs := hOs.keep hk9 (by first | exact id | exact rfl | omega | (dsimp only; omega))
        have hSp := hSp.keep hk9 (by intro q hq; exact hq.elim (fun hy => by have hy1 := hZm q (Or.inl hy); first | exact id | omega | (dsimp only; omega)) (fun hy => hy.elim (fun hy => by first | exact id | omega | (dsimp only; omega)) (fun hy => by have hy1 := hZm q (Or.inr hy); first | exact id | omega | (dsimp only; omega))))
        have hCa := hCa.ext (g := cA4 c0 (S.1, S.2.1, S.2.2.1 + 1, S.2.2.2.1 + 1, S.2.2.2.2 + stN f cx)) cA4_3
        have hSI := kp_i (more := 1) hsi h0 hst0 hcn (by decide)
        refine zx_new (C := RX6) (T := TX6) (N := 7) (ci := 5) (fs := [.int (nI (0)), .int (nI (0)), .null, .null, .null, .null, .null]) hx hb hz wo_X6 tyX6 tyX6_ok hown (hz _ wl_X2_33) (hz _ wa_X6) (hz _ wi_X6) hK rfl df_X6 (by show 0 + 27 + 0 + 1 ≤ cE1 30 f (cst 30 f tv) cx; omega) (by show 0 + (63 + (ne f cx - (cx + 1))) + 0 + 7 ≤ cE1 80 f (cst 80 f tv) cx; omega) hS dX2_addPath_85 (fun r H he_r hz9 hO_r hk9 hS => ?_)
        have hMk := hMk.keep hk9 (by first | exact id | exact rfl | omega | (dsimp only; omega))
        have hFl := hFl.keep hk9 (by first | exact id | exact rfl | omega | (dsimp only; omega))
        have hCa := hCa.keep hk9 (by first | exact id | exact rfl | omega | (dsimp only; omega))
        have hH := hH.keep hk9 (by first | exact id | exact rfl | omega | (dsimp only; omega))
        have hR9 := zR9.keep (rK_F G f pf Z d) hR9 hk9 (by intro q hq; exact hq.elim (fun hq => by first | exact id | omega | (dsimp only; omega)) (fun hq => by have hq1 := hZm q hq; first | exact id | omega | (dsimp only; omega)))
        have hVN := hVN.keep hk9 (by intro q hq; have hq1 := hZm q hq; first | exact id | omega | (dsimp only; omega))
        have hCH := hCH.keep hk9 ⟨by intro q hq; have hq1 := hZm q (Or.inr hq); first | exact id | omega | (dsimp only; omega), by omega⟩
        have hOs := hOs.keep hk9 (by first | exact id | exact rfl | omega | (dsimp only; omega))
        have hSp := hSp.keep hk9 (by intro q hq; exact hq.elim (fun hy => by have hy1 := hZm q (Or.inl hy); first | exact id | omega | (dsimp only; omega)) (fun hy => hy.elim (fun hy => by first | exact id | omega | (dsimp only; omega)) (fun hy => by have hy1 := hZm q (Or.inr hy); first | exact id | omega | (dsimp only; omega))))
        refine lv_dup hx hb dX2_addPath_88 rfl ?_
        refine lv_iconst (v := nI 4) hx hb dX2_addPath_89 (by decide) ?_
        refine lv_iconst (v := nI 0) hx hb dX2_addPath_90 (by decide) ?_
        refine lv_aload_n hx hb dX2_addPath_91 rfl (lv_at hl 4 rfl) ?_
        refine lv_aload hx hb dX2_addPath_92 (lv_at hl 1 rfl) ?_
        refine zx_IN (As := [.int (nI (4)), .int (nI (0)), .ref (ev), .ref (sa)]) (rest := [.ref (r)]) (b := r) ⟨hx, hb, hml, hown, hts⟩ (c_rlinit_r l G r 4 false ev sa) ⟨va_cnB 4 hts (zgN wc_X6_init) rfl rfl rfl (hK.2.1 _ wm_X2_92) (hz _ wi_X6) (by decide +kernel) ⟨by show 1 + 1 ≤ _; simp only [headSpec]; omega, by show 8 + (_ + 11) + 21 ≤ _; simp only [headSpec]; omega⟩, rfl, hz _ wn_X6_init⟩ hK hO_r rfl hl.1 rfl (Nat.le_of_ble_eq_true rfl) dX2_addPath_94 ⟨by show 0 + 27 + 0 + 1 + 0 ≤ cE1 30 f (cst 30 f tv) cx; omega, by show 0 + (63 + (ne f cx - (cx + 1))) + 0 + 7 + 0 ≤ cE1 80 f (cst 80 f tv) cx; omega⟩ hS (by intro q hq; first | omega | (dsimp only at hq ⊢; omega)) (fun r9 H locs hPo hz9 hk9 hS => ?_)
        have hMk := hMk.keep hk9 (by first | exact id | exact rfl | omega | (dsimp only; omega))
        have hFl := hFl.keep hk9 (by first | exact id | exact rfl | omega | (dsimp only; omega))
        have hCa := hCa.keep hk9 (by first | exact id | exact rfl | omega | (dsimp only; omega))
        have hH := hH.keep hk9 (by first | exact id | exact rfl | omega | (dsimp only; omega))
        have hR9 := zR9.keep (rK_F G f pf Z d) hR9 hk9 (by intro q hq; exact hq.elim (fun hq => by first | exact id | omega | (dsimp only; omega)) (fun hq => by have hq1 := hZm q hq; first | exact id | omega | (dsimp only; omega)))
        have hVN := hVN.keep hk9 (by intro q hq; have hq1 := hZm q hq; first | exact id | omega | (dsimp only; omega))
        have hCH := hCH.keep hk9 ⟨by intro q hq; have hq1 := hZm q (Or.inr hq); first | exact id | omega | (dsimp only; omega), by omega⟩
        have hOs := hOs.keep hk9 (by first | exact id | exact rfl | omega | (dsimp only; omega))
        have hSp := hSp.keep hk9 (by intro q hq; exact hq.elim (fun hy => by have hy1 := hZm q (Or.inl hy); first | exact id | omega | (dsimp only; omega)) (fun hy => hy.elim (fun hy => by first | exact id | omega | (dsimp only; omega)) (fun hy => by have hy1 := hZm q (Or.inr hy); first | exact id | omega | (dsimp only; omega))))
        obtain ⟨rfl, hO_r⟩ := hPo
        refine W.eq (g2 := F0 m 97 ls ([.ref (r)])) rfl ?_
        refine lv_astore (lv' := [(6, .ref (r)), (5, .int (nI (0))), (4, .ref (sa)), (0, .ref (mk)), (1, .ref (h)), (2, .ref (ev)), (3, .int (nI (dp)))]) hx hb dX2_addPath_97 hl (by decide) rfl (fun ls hl => ?_)
        refine lv_aload_n hx hb dX2_addPath_99 rfl (lv_at hl 4 rfl) ?_
        refine lv_aload hx hb dX2_addPath_100 (lv_at hl 0 rfl) ?_
        refine zx_VN (As := [.ref (r)]) (rest := []) ⟨hx, hb, hml, hown, hts⟩ (c_raddK l G Z (rFk9 G f pf Z d) (rK_F G f pf Z d) h r sg ng vl pa nx lo n0 rs ts hhl (fun q hq => by have hq1 := hZm q hq; omega)) ⟨va_cnB 1 hts (zgN wc_X6_add) rfl rfl rfl (hK.2.1 _ wm_X2_95) (hz _ wi_X6) (by decide +kernel) ⟨by show 0 + 1 ≤ _; simp only [headSpec]; omega, by show 8 + (_ + 11) + 0 ≤ _; simp only [headSpec]; omega⟩, hz _ wn_X6_add, hz _ we_X6_add⟩ hK hH rfl ⟨hH, hR9⟩ rfl hl.1 rfl (Nat.le_of_ble_eq_true rfl) dX2_addPath_102 ⟨by show 0 + 27 + 0 + 1 + 0 + 0 ≤ cE1 30 f (cst 30 f tv) cx; omega, by show 0 + (63 + (ne f cx - (cx + 1))) + 0 + 7 + 0 + 0 ≤ cE1 80 f (cst 80 f tv) cx; omega⟩ hS (by intro q hq; first | omega | (dsimp only at hq ⊢; omega)) (fun r9 H locs hPo hz9 hk9 hS => ?_)
        have hMk := hMk.keep hk9 (by first | exact id | exact rfl | omega | (dsimp only; omega))
        have hFl := hFl.keep hk9 (by first | exact id | exact rfl | omega | (dsimp only; omega))
        have hCa := hCa.keep hk9 (by first | exact id | exact rfl | omega | (dsimp only; omega))
        have hVN := hVN.keep hk9 (by intro q hq; have hq1 := hZm q hq; first | exact id | omega | (dsimp only; omega))
        have hCH := hCH.keep hk9 ⟨by intro q hq; have hq1 := hZm q (Or.inr hq); first | exact id | omega | (dsimp only; omega), by omega⟩
        have hOs := hOs.keep hk9 (by first | exact id | exact rfl | omega | (dsimp only; omega))
        have hSp := hSp.keep hk9 (by intro q hq; exact hq.elim (fun hy => by have hy1 := hZm q (Or.inl hy); first | exact id | omega | (dsimp only; omega)) (fun hy => hy.elim (fun hy => by first | exact id | omega | (dsimp only; omega)) (fun hy => by have hy1 := hZm q (Or.inr hy); first | exact id | omega | (dsimp only; omega))))
        have hO_r := hO_r.keep hk9 (by first | exact id | exact rfl | omega | (dsimp only; omega))
        obtain ⟨rfl, hH, hT9⟩ := hPo
        refine W.eq (g2 := F0 m 105 ls ([])) rfl ?_
        refine lv_iload hx hb dX2_addPath_105 (lv_at hl 1 rfl) ?_
        refine zi_if_eq (tgt := 129) hx hb dX2_addPath_107 (by decide) (by omega) (fun c_107 => ?_) (fun c_107 => absurd c_107 (by decide))
        have hk3 := isC_3 c_13
        have hkd3 : okV f tv 3 (vo f cx) := by rw [hk3] at hkd; exact hkd
        have hwd3 : okW f tv 3 (vo f cx) := by rw [hk3] at hwd; exact hwd
        have hcb := cE1_b (K := 30) (sub := cst 30 f tv) (Or.inl hk3)
        have hcb8 := cE1_b (K := 80) (sub := cst 80 f tv) (Or.inl hk3)
        refine lv_aload_n hx hb dX2_addPath_129 rfl (lv_at hl 3 rfl) ?_
        refine lv_aload hx hb dX2_addPath_130 (lv_at hl 0 rfl) ?_
        refine lv_iload_n hx hb dX2_addPath_132 rfl (lv_at hl 6 rfl) ?_
        refine lv_iconst (v := nI 1) hx hb dX2_addPath_133 (by decide) ?_
        refine zi_add hx hb dX2_addPath_134 ?_
        refine zx_V (As := [.ref (r), .int (nI (dp + 1))]) (rest := []) ⟨hx, hb, hml, hown, hts⟩ (IH1 H.size mk fl rt ca c0 r 4 false ev (some sa) none cx (S.1, S.2.1, S.2.2.1 + 1, S.2.2.2.1 + 1, S.2.2.2.2 + stN f cx) (dp + 1) tv htd hk3 hkd3 hwd3 h0 hSI hZm hd1 hd2 (by omega) (by omega) (by omega) (by omega) (by omega) (by omega)) (cwV 2 hts (zgV wm_X2_117 wv_X2_addConditions) rfl rfl rfl (by decide +kernel) ⟨show 5 * d + 20 + 1 ≤ 5 * d + 23 by omega, show 8 + (4 + 11) + (140 * d + 400) ≤ 140 * d + 510 by omega⟩) hK hMk rfl ⟨⟨hMk, hFl, hCa⟩, hO_r, hVN, hCH, rfl⟩ rfl hl.1 rfl (Nat.le_of_ble_eq_true rfl) dX2_addPath_135 ⟨by show 0 + 27 + 0 + 1 + 0 + 0 + (cst 30 f tv (vo f cx)) ≤ cE1 30 f (cst 30 f tv) cx; omega, by show 0 + (63 + (ne f cx - (cx + 1))) + 0 + 7 + 0 + 0 + (cst 80 f tv (vo f cx)) ≤ cE1 80 f (cst 80 f tv) cx; omega⟩ hS (by intro q hq; first | omega | (dsimp only at hq ⊢; omega)) (fun r9 H locs hPo hz9 hk9 hS => ?_)
        have hH := hH.keep hk9 (by first | exact id | exact rfl | omega | (dsimp only; omega))
        have hVN := hVN.keep hk9 (by intro q hq; have hq1 := hZm q hq; first | exact id | omega | (dsimp only; omega))
        have hCH := hCH.keep hk9 ⟨by intro q hq; have hq1 := hZm q (Or.inr hq); first | exact id | omega | (dsimp only; omega), by omega⟩
        have hOs := hOs.keep hk9 (by first | exact id | exact rfl | omega | (dsimp only; omega))
        have hSp := hSp.keep hk9 (by intro q hq; exact hq.elim (fun hy => by have hy1 := hZm q (Or.inl hy); first | exact id | omega | (dsimp only; omega)) (fun hy => hy.elim (fun hy => by first | exact id | omega | (dsimp only; omega)) (fun hy => by have hy1 := hZm q (Or.inr hy); first | exact id | omega | (dsimp only; omega))))
        have hT9 := zT9.keep (rK_F G f pf Z d) hT9 hk9 (by intro q hq; exact hq.elim (fun hq => by first | exact id | omega | (dsimp only; omega)) (fun hq => by have hq1 := hZm q hq; first | exact id | omega | (dsimp only; omega)))
        obtain ⟨rfl, T, hMM, hEq, hRu⟩ := hPo
        refine W.eq (g2 := F0 m 138 ls ([])) rfl ?_
        exact zx_v hx hb hr hlocks (by show 0 + 27 + 0 + 1 + 0 + 0 + (cst 30 f tv (vo f cx)) ≤ cE1 30 f (cst 30 f tv) cx; omega) (by show 0 + (63 + (ne f cx - (cx + 1))) + 0 + 7 + 0 + 0 + (cst 80 f tv (vo f cx)) ≤ cE1 80 f (cst 80 f tv) cx; omega) (⟨rfl, T, rs ++ [r], hMM, by rw [kp_c h0 hj hst0 c_13 hcn]; exact hEq, fun z => by obtain ⟨rs1, g1, g2⟩ := hRu z; exact ⟨hH, pa_fin (rs1 := rs1) hj hT9 g1 (by omega) (by omega) hVN.v (hSp.mono (fun q hq => hq.elim Or.inl (fun z => Or.inr (z.elim (fun y => Or.inl ⟨y.1, by omega⟩) Or.inr)))) (fun _ => RuL_lo g2 (by omega)) (fun z => by rw [c_13] at z; cases z)⟩⟩) hS dX2_addPath_138
  · refine lv_iconst (v := nI 1) hx hb dX2_addPath_16 (by decide) ?_
    refine lv_goto (tgt := 21) hx hb dX2_addPath_17 (by decide) ?_
    refine lv_istore (lv' := [(5, .int (nI (1))), (4, va_rf (o8)), (0, .ref (mk)), (1, .ref (h)), (2, .ref (ev)), (3, .int (nI (dp)))]) hx hb dX2_addPath_21 hl (by decide) (by simp [List.filter, zo_cat]) (fun ls hl => ?_)
    refine zo_aload hx hb dX2_addPath_23 (lv_at hl 1 rfl) ?_
    generalize hov : o8 = ov at hl ⊢
    rcases ov with _ | sa
    · have hl : lv_has ls 7 [(5, .int (nI (1))), (4, .null), (0, .ref (mk)), (1, .ref (h)), (2, .ref (ev)), (3, .int (nI (dp)))] := hl
      have hst0 := hno hov
      refine W.eq (g2 := F0 m 25 ls ([.null])) rfl ?_
      refine lv_ifnonnullN hx hb dX2_addPath_25 ?_
      refine lv_aload_n hx hb dX2_addPath_28 rfl (lv_at hl 2 rfl) ?_
      refine lv_iconst (v := nI 3) hx hb dX2_addPath_29 (by decide) ?_
      refine lv_aload_n hx hb dX2_addPath_30 rfl (lv_at hl 4 rfl) ?_
      refine zx_V (As := [.int (nI (3)), .ref (ev)]) (rest := []) ⟨hx, hb, hml, hown, hts⟩ (c_refuse l G mk fl rt ca c0 pf S f Z ev cx 3 (by decide) h0 hZm hd1 hd2) (cwV 2 hts (zgV wm_X2_68 wv_X2_refuse) rfl rfl rfl (by decide +kernel) ⟨by show 0 + 1 ≤ _; simp only [headSpec]; omega, by show 8 + (_ + 11) + 0 ≤ _; simp only [headSpec]; omega⟩) hK hMk rfl ⟨⟨hMk, hFl, hCa⟩, hVN⟩ rfl hl.1 rfl (Nat.le_of_ble_eq_true rfl) dX2_addPath_31 ⟨by show 0 + 27 + 0 ≤ cE1 30 f (cst 30 f tv) cx; omega, by show 0 + (63 + (ne f cx - (cx + 1))) + 0 ≤ cE1 80 f (cst 80 f tv) cx; omega⟩ hS (by intro q hq; first | omega | (dsimp only at hq ⊢; omega)) (fun r9 H locs hPo hz9 hk9 hS => ?_)
      have hH := hH.keep hk9 (by first | exact id | exact rfl | omega | (dsimp only; omega))
      have hR9 := zR9.keep (rK_F G f pf Z d) hR9 hk9 (by intro q hq; exact hq.elim (fun hq => by first | exact id | omega | (dsimp only; omega)) (fun hq => by have hq1 := hZm q hq; first | exact id | omega | (dsimp only; omega)))
      have hVN := hVN.keep hk9 (by intro q hq; have hq1 := hZm q hq; first | exact id | omega | (dsimp only; omega))
      have hCH := hCH.keep hk9 ⟨by intro q hq; have hq1 := hZm q (Or.inr hq); first | exact id | omega | (dsimp only; omega), by omega⟩
      obtain ⟨rfl, hMM⟩ := hPo
      refine W.eq (g2 := F0 m 34 ls ([])) rfl ?_
      refine lv_goto (tgt := 138) hx hb dX2_addPath_34 (by decide) ?_
      exact zx_v hx hb hr hlocks (by show 0 + 27 + 0 ≤ cE1 30 f (cst 30 f tv) cx; omega) (by show 0 + (63 + (ne f cx - (cx + 1))) + 0 ≤ cE1 80 f (cst 80 f tv) cx; omega) (⟨rfl, _, [], hMM, kp_3 h0 hj hst0, fun z => absurd z (sSay_w (by decide))⟩) hS dX2_addPath_138
    · have hl : lv_has ls 7 [(5, .int (nI (1))), (4, .ref (sa)), (0, .ref (mk)), (1, .ref (h)), (2, .ref (ev)), (3, .int (nI (dp)))] := hl
      obtain ⟨hst0, hSp0, hSc0⟩ := hyes sa hov
      have hSp := spt_zr hSp0 hzz0
      obtain ⟨hsl9, nms, nxs, hOs⟩ := hSc0.2 sa rfl
      obtain ⟨sz, hsze⟩ : ∃ z, H.size = z := ⟨_, rfl⟩
      rw [hsze] at hSp hsl9
      refine W.eq (g2 := F0 m 25 ls ([.ref (sa)])) rfl ?_
      refine lv_ifnonnull (tgt := 37) hx hb dX2_addPath_25 (by decide) ?_
      refine lv_aload_n hx hb dX2_addPath_37 rfl (lv_at hl 2 rfl) ?_
      refine lv_iload hx hb dX2_addPath_38 (lv_at hl 0 rfl) ?_
      refine zi_if_eq (tgt := 47) hx hb dX2_addPath_40 (by decide) (by omega) (fun c_40 => absurd c_40 (by decide)) (fun c_40 => ?_)
      refine lv_iconst (v := nI 2) hx hb dX2_addPath_43 (by decide) ?_
      refine lv_goto (tgt := 48) hx hb dX2_addPath_44 (by decide) ?_
      refine lv_aload_n hx hb dX2_addPath_48 rfl (lv_at hl 4 rfl) ?_
      refine zx_V (As := [.int (nI (2)), .ref (ev)]) (rest := []) ⟨hx, hb, hml, hown, hts⟩ (c_mayc l G mk fl rt ca c0 pf S f Z ev cx 2 (by decide) (hsi.2.2 h0) h0 hZm hd1 hd2) (cwV 2 hts (zgV wm_X2_80 wv_X2_mayCount) rfl rfl rfl (by decide +kernel) ⟨by show 1 + 1 ≤ _; simp only [headSpec]; omega, by show 8 + (_ + 11) + 22 ≤ _; simp only [headSpec]; omega⟩) hK hMk rfl ⟨⟨hMk, hFl, hCa⟩, hVN⟩ rfl hl.1 rfl (Nat.le_of_ble_eq_true rfl) dX2_addPath_49 ⟨by show 0 + 27 + 0 ≤ cE1 30 f (cst 30 f tv) cx; omega, by show 0 + (63 + (ne f cx - (cx + 1))) + 0 ≤ cE1 80 f (cst 80 f tv) cx; omega⟩ hS (by intro q hq; first | omega | (dsimp only at hq ⊢; omega)) (fun r9 H locs hPo hz9 hk9 hS => ?_)
      have hH := hH.keep hk9 (by first | exact id | exact rfl | omega | (dsimp only; omega))
      have hR9 := zR9.keep (rK_F G f pf Z d) hR9 hk9 (by intro q hq; exact hq.elim (fun hq => by first | exact id | omega | (dsimp only; omega)) (fun hq => by have hq1 := hZm q hq; first | exact id | omega | (dsimp only; omega)))
      have hVN := hVN.keep hk9 (by intro q hq; have hq1 := hZm q hq; first | exact id | omega | (dsimp only; omega))
      have hCH := hCH.keep hk9 ⟨by intro q hq; have hq1 := hZm q (Or.inr hq); first | exact id | omega | (dsimp only; omega), by omega⟩
      have hOs := hOs.keep hk9 (by first | exact id | exact rfl | omega | (dsimp only; omega))
      have hSp := hSp.keep hk9 (by intro q hq; exact hq.elim (fun hy => by have hy1 := hZm q (Or.inl hy); first | exact id | omega | (dsimp only; omega)) (fun hy => hy.elim (fun hy => by first | exact id | omega | (dsimp only; omega)) (fun hy => by have hy1 := hZm q (Or.inr hy); first | exact id | omega | (dsimp only; omega))))
      obtain ⟨rfl, hMM⟩ := hPo
      obtain ⟨hMk, hFl, hCa⟩ := id hMM
      refine W.eq (g2 := F0 m 52 ls ([.int (nI (nB (decide (S.2.2.1 + 2 ≤ 100))))])) rfl ?_
      refine zb_if_eq (tgt := 138) hx hb dX2_addPath_52 (by decide) (fun c_52 => ?_) (fun c_52 => ?_)
      · exact zx_v hx hb hr hlocks (by show 0 + 27 + 0 ≤ cE1 30 f (cst 30 f tv) cx; omega) (by show 0 + (63 + (ne f cx - (cx + 1))) + 0 ≤ cE1 80 f (cst 80 f tv) cx; omega) (⟨rfl, _, [], hMM, (kp_5a (kc := (ckF f d).1) (kf := (ckF f d).2) h0 hj hst0 c_13 (of_decide_eq_false c_52)).1, fun z => absurd z (kp_5a (kc := (ckF f d).1) (kf := (ckF f d).2) h0 hj hst0 c_13 (of_decide_eq_false c_52)).2⟩) hS dX2_addPath_138
      · have hcn := of_decide_eq_true c_52
        rw [sCnt_y hcn] at hMM
        obtain ⟨hMk, hFl, hCa⟩ := id hMM
        refine lv_aload_n hx hb dX2_addPath_55 rfl (lv_at hl 2 rfl) ?_
        refine zi_get (C := RX2) (T := TX2) (N := 3) (v := .ref (fl)) hx hb hz wo_X2 hown hK hMk rfl 0 (by decide) (hz _ wf_X2_20) (fun _ h9 => h9) rfl dX2_addPath_56 ?_
        refine zi_getN (C := RX1) (T := TX1) (N := 2) (v := .ref (ca)) hx hb hz wo_X1 hown hK hFl rfl 1 (by decide) wf_X2_112 (fun _ h9 => h9) rfl dX2_addPath_59 ?_
        refine lv_iconst (v := nI 2) hx hb dX2_addPath_62 (by decide) ?_
        refine lv_dup2_11 hx hb dX2_addPath_63 rfl rfl ?_
        refine zi_ald hx hb hK hCa (by omega) (by decide) dX2_addPath_64 ?_
        refine lv_iconst (v := nI 1) hx hb dX2_addPath_65 (by decide) ?_
        refine zi_add hx hb dX2_addPath_66 ?_
        refine zx_ast (i := 2) (x := (cA4 c0 (S.1, S.2.1, S.2.2.1 + 2, S.2.2.2)) 2 + 1) hx hb hK hCa (by omega) (by decide)  (by first | exact rfl | omega | (dsimp only; omega)) hS dX2_addPath_67 (fun H locs hz9 hCa hk9 hS => ?_)
        have hMk := hMk.keep hk9 (by first | exact id | exact rfl | omega | (dsimp only; omega))
        have hFl := hFl.keep hk9 (by first | exact id | exact rfl | omega | (dsimp only; omega))
        have hH := hH.keep hk9 (by first | exact id | exact rfl | omega | (dsimp only; omega))
        have hR9 := zR9.keep (rK_F G f pf Z d) hR9 hk9 (by intro q hq; exact hq.elim (fun hq => by first | exact id | omega | (dsimp only; omega)) (fun hq => by have hq1 := hZm q hq; first | exact id | omega | (dsimp only; omega)))
        have hVN := hVN.keep hk9 (by intro q hq; have hq1 := hZm q hq; first | exact id | omega | (dsimp only; omega))
        have hCH := hCH.keep hk9 ⟨by intro q hq; have hq1 := hZm q (Or.inr hq); first | exact id | omega | (dsimp only; omega), by omega⟩
        have hOs := hOs.keep hk9 (by first | exact id | exact rfl | omega | (dsimp only; omega))
        have hSp := hSp.keep hk9 (by intro q hq; exact hq.elim (fun hy => by have hy1 := hZm q (Or.inl hy); first | exact id | omega | (dsimp only; omega)) (fun hy => hy.elim (fun hy => by first | exact id | omega | (dsimp only; omega)) (fun hy => by have hy1 := hZm q (Or.inr hy); first | exact id | omega | (dsimp only; omega))))
        have hCa := hCa.ext (g := cA4 c0 (S.1, S.2.1, S.2.2.1 + 2, S.2.2.2.1 + 1, S.2.2.2.2)) cA4_2
        refine lv_aload_n hx hb dX2_addPath_68 rfl (lv_at hl 2 rfl) ?_
        refine zi_get (C := RX2) (T := TX2) (N := 3) (v := .ref (fl)) hx hb hz wo_X2 hown hK hMk rfl 0 (by decide) (hz _ wf_X2_20) (fun _ h9 => h9) rfl dX2_addPath_69 ?_
        refine zi_getN (C := RX1) (T := TX1) (N := 2) (v := .ref (ca)) hx hb hz wo_X1 hown hK hFl rfl 1 (by decide) wf_X2_112 (fun _ h9 => h9) rfl dX2_addPath_72 ?_
        refine lv_iconst (v := nI 3) hx hb dX2_addPath_75 (by decide) ?_
        refine lv_dup2_11 hx hb dX2_addPath_76 rfl rfl ?_
        refine zi_ald hx hb hK hCa (by omega) (by decide) dX2_addPath_77 ?_
        refine lv_aload hx hb dX2_addPath_78 (lv_at hl 1 rfl) ?_
        refine zi_getN (C := RX7) (T := TX7) (N := 3) (v := .int (nI (stN f cx))) hx hb hz wo_X7 hown hK hOs rfl 2 (by decide) wf_X2_116 (fun _ h9 => h9) rfl dX2_addPath_80 ?_
        refine zi_add hx hb dX2_addPath_83 ?_
        refine zx_ast (i := 3) (x := (cA4 c0 (S.1, S.2.1, S.2.2.1 + 2, S.2.2.2.1 + 1, S.2.2.2.2)) 3 + (stN f cx)) hx hb hK hCa (by omega) (by decide)  (by first | exact rfl | omega | (dsimp only; omega)) hS dX2_addPath_84 (fun H locs hz9 hCa hk9 hS => ?_)
        have hMk := hMk.keep hk9 (by first | exact id | exact rfl | omega | (dsimp only; omega))
        have hFl := hFl.keep hk9 (by first | exact id | exact rfl | omega | (dsimp only; omega))
        have hH := hH.keep hk9 (by first | exact id | exact rfl | omega | (dsimp only; omega))
        have hR9 := zR9.keep (rK_F G f pf Z d) hR9 hk9 (by intro q hq; exact hq.elim (fun hq => by first | exact id | omega | (dsimp only; omega)) (fun hq => by have hq1 := hZm q hq; first | exact id | omega | (dsimp only; omega)))
        have hVN := hVN.keep hk9 (by intro q hq; have hq1 := hZm q hq; first | exact id | omega | (dsimp only; omega))
        have hCH := hCH.keep hk9 ⟨by intro q hq; have hq1 := hZm q (Or.inr hq); first | exact id | omega | (dsimp only; omega), by omega⟩
        have hOs := hOs.keep hk9 (by first | exact id | exact rfl | omega | (dsimp only; omega))
        have hSp := hSp.keep hk9 (by intro q hq; exact hq.elim (fun hy => by have hy1 := hZm q (Or.inl hy); first | exact id | omega | (dsimp only; omega)) (fun hy => hy.elim (fun hy => by first | exact id | omega | (dsimp only; omega)) (fun hy => by have hy1 := hZm q (Or.inr hy); first | exact id | omega | (dsimp only; omega))))
        have hCa := hCa.ext (g := cA4 c0 (S.1, S.2.1, S.2.2.1 + 2, S.2.2.2.1 + 1, S.2.2.2.2 + stN f cx)) cA4_3
        have hSI := kp_i (more := 2) hsi h0 hst0 hcn (by decide)
        refine zx_new (C := RX6) (T := TX6) (N := 7) (ci := 5) (fs := [.int (nI (0)), .int (nI (0)), .null, .null, .null, .null, .null]) hx hb hz wo_X6 tyX6 tyX6_ok hown (hz _ wl_X2_33) (hz _ wa_X6) (hz _ wi_X6) hK rfl df_X6 (by show 0 + 27 + 0 + 1 ≤ cE1 30 f (cst 30 f tv) cx; omega) (by show 0 + (63 + (ne f cx - (cx + 1))) + 0 + 7 ≤ cE1 80 f (cst 80 f tv) cx; omega) hS dX2_addPath_85 (fun r H he_r hz9 hO_r hk9 hS => ?_)
        have hMk := hMk.keep hk9 (by first | exact id | exact rfl | omega | (dsimp only; omega))
        have hFl := hFl.keep hk9 (by first | exact id | exact rfl | omega | (dsimp only; omega))
        have hCa := hCa.keep hk9 (by first | exact id | exact rfl | omega | (dsimp only; omega))
        have hH := hH.keep hk9 (by first | exact id | exact rfl | omega | (dsimp only; omega))
        have hR9 := zR9.keep (rK_F G f pf Z d) hR9 hk9 (by intro q hq; exact hq.elim (fun hq => by first | exact id | omega | (dsimp only; omega)) (fun hq => by have hq1 := hZm q hq; first | exact id | omega | (dsimp only; omega)))
        have hVN := hVN.keep hk9 (by intro q hq; have hq1 := hZm q hq; first | exact id | omega | (dsimp only; omega))
        have hCH := hCH.keep hk9 ⟨by intro q hq; have hq1 := hZm q (Or.inr hq); first | exact id | omega | (dsimp only; omega), by omega⟩
        have hOs := hOs.keep hk9 (by first | exact id | exact rfl | omega | (dsimp only; omega))
        have hSp := hSp.keep hk9 (by intro q hq; exact hq.elim (fun hy => by have hy1 := hZm q (Or.inl hy); first | exact id | omega | (dsimp only; omega)) (fun hy => hy.elim (fun hy => by first | exact id | omega | (dsimp only; omega)) (fun hy => by have hy1 := hZm q (Or.inr hy); first | exact id | omega | (dsimp only; omega))))
        refine lv_dup hx hb dX2_addPath_88 rfl ?_
        refine lv_iconst (v := nI 4) hx hb dX2_addPath_89 (by decide) ?_
        refine lv_iconst (v := nI 0) hx hb dX2_addPath_90 (by decide) ?_
        refine lv_aload_n hx hb dX2_addPath_91 rfl (lv_at hl 4 rfl) ?_
        refine lv_aload hx hb dX2_addPath_92 (lv_at hl 1 rfl) ?_
        refine zx_IN (As := [.int (nI (4)), .int (nI (0)), .ref (ev), .ref (sa)]) (rest := [.ref (r)]) (b := r) ⟨hx, hb, hml, hown, hts⟩ (c_rlinit_r l G r 4 false ev sa) ⟨va_cnB 4 hts (zgN wc_X6_init) rfl rfl rfl (hK.2.1 _ wm_X2_92) (hz _ wi_X6) (by decide +kernel) ⟨by show 1 + 1 ≤ _; simp only [headSpec]; omega, by show 8 + (_ + 11) + 21 ≤ _; simp only [headSpec]; omega⟩, rfl, hz _ wn_X6_init⟩ hK hO_r rfl hl.1 rfl (Nat.le_of_ble_eq_true rfl) dX2_addPath_94 ⟨by show 0 + 27 + 0 + 1 + 0 ≤ cE1 30 f (cst 30 f tv) cx; omega, by show 0 + (63 + (ne f cx - (cx + 1))) + 0 + 7 + 0 ≤ cE1 80 f (cst 80 f tv) cx; omega⟩ hS (by intro q hq; first | omega | (dsimp only at hq ⊢; omega)) (fun r9 H locs hPo hz9 hk9 hS => ?_)
        have hMk := hMk.keep hk9 (by first | exact id | exact rfl | omega | (dsimp only; omega))
        have hFl := hFl.keep hk9 (by first | exact id | exact rfl | omega | (dsimp only; omega))
        have hCa := hCa.keep hk9 (by first | exact id | exact rfl | omega | (dsimp only; omega))
        have hH := hH.keep hk9 (by first | exact id | exact rfl | omega | (dsimp only; omega))
        have hR9 := zR9.keep (rK_F G f pf Z d) hR9 hk9 (by intro q hq; exact hq.elim (fun hq => by first | exact id | omega | (dsimp only; omega)) (fun hq => by have hq1 := hZm q hq; first | exact id | omega | (dsimp only; omega)))
        have hVN := hVN.keep hk9 (by intro q hq; have hq1 := hZm q hq; first | exact id | omega | (dsimp only; omega))
        have hCH := hCH.keep hk9 ⟨by intro q hq; have hq1 := hZm q (Or.inr hq); first | exact id | omega | (dsimp only; omega), by omega⟩
        have hOs := hOs.keep hk9 (by first | exact id | exact rfl | omega | (dsimp only; omega))
        have hSp := hSp.keep hk9 (by intro q hq; exact hq.elim (fun hy => by have hy1 := hZm q (Or.inl hy); first | exact id | omega | (dsimp only; omega)) (fun hy => hy.elim (fun hy => by first | exact id | omega | (dsimp only; omega)) (fun hy => by have hy1 := hZm q (Or.inr hy); first | exact id | omega | (dsimp only; omega))))
        obtain ⟨rfl, hO_r⟩ := hPo
        refine W.eq (g2 := F0 m 97 ls ([.ref (r)])) rfl ?_
        refine lv_astore (lv' := [(6, .ref (r)), (5, .int (nI (1))), (4, .ref (sa)), (0, .ref (mk)), (1, .ref (h)), (2, .ref (ev)), (3, .int (nI (dp)))]) hx hb dX2_addPath_97 hl (by decide) rfl (fun ls hl => ?_)
        refine lv_aload_n hx hb dX2_addPath_99 rfl (lv_at hl 4 rfl) ?_
        refine lv_aload hx hb dX2_addPath_100 (lv_at hl 0 rfl) ?_
        refine zx_VN (As := [.ref (r)]) (rest := []) ⟨hx, hb, hml, hown, hts⟩ (c_raddK l G Z (rFk9 G f pf Z d) (rK_F G f pf Z d) h r sg ng vl pa nx lo n0 rs ts hhl (fun q hq => by have hq1 := hZm q hq; omega)) ⟨va_cnB 1 hts (zgN wc_X6_add) rfl rfl rfl (hK.2.1 _ wm_X2_95) (hz _ wi_X6) (by decide +kernel) ⟨by show 0 + 1 ≤ _; simp only [headSpec]; omega, by show 8 + (_ + 11) + 0 ≤ _; simp only [headSpec]; omega⟩, hz _ wn_X6_add, hz _ we_X6_add⟩ hK hH rfl ⟨hH, hR9⟩ rfl hl.1 rfl (Nat.le_of_ble_eq_true rfl) dX2_addPath_102 ⟨by show 0 + 27 + 0 + 1 + 0 + 0 ≤ cE1 30 f (cst 30 f tv) cx; omega, by show 0 + (63 + (ne f cx - (cx + 1))) + 0 + 7 + 0 + 0 ≤ cE1 80 f (cst 80 f tv) cx; omega⟩ hS (by intro q hq; first | omega | (dsimp only at hq ⊢; omega)) (fun r9 H locs hPo hz9 hk9 hS => ?_)
        have hMk := hMk.keep hk9 (by first | exact id | exact rfl | omega | (dsimp only; omega))
        have hFl := hFl.keep hk9 (by first | exact id | exact rfl | omega | (dsimp only; omega))
        have hCa := hCa.keep hk9 (by first | exact id | exact rfl | omega | (dsimp only; omega))
        have hVN := hVN.keep hk9 (by intro q hq; have hq1 := hZm q hq; first | exact id | omega | (dsimp only; omega))
        have hCH := hCH.keep hk9 ⟨by intro q hq; have hq1 := hZm q (Or.inr hq); first | exact id | omega | (dsimp only; omega), by omega⟩
        have hOs := hOs.keep hk9 (by first | exact id | exact rfl | omega | (dsimp only; omega))
        have hSp := hSp.keep hk9 (by intro q hq; exact hq.elim (fun hy => by have hy1 := hZm q (Or.inl hy); first | exact id | omega | (dsimp only; omega)) (fun hy => hy.elim (fun hy => by first | exact id | omega | (dsimp only; omega)) (fun hy => by have hy1 := hZm q (Or.inr hy); first | exact id | omega | (dsimp only; omega))))
        have hO_r := hO_r.keep hk9 (by first | exact id | exact rfl | omega | (dsimp only; omega))
        obtain ⟨rfl, hH, hT9⟩ := hPo
        refine W.eq (g2 := F0 m 105 ls ([])) rfl ?_
        refine lv_iload hx hb dX2_addPath_105 (lv_at hl 1 rfl) ?_
        refine zi_if_eq (tgt := 129) hx hb dX2_addPath_107 (by decide) (by omega) (fun c_107 => absurd c_107 (by decide)) (fun c_107 => ?_)
        refine lv_aload hx hb dX2_addPath_110 (lv_at hl 0 rfl) ?_
        refine zx_new (C := RX6) (T := TX6) (N := 7) (ci := 5) (fs := [.int (nI (0)), .int (nI (0)), .null, .null, .null, .null, .null]) hx hb hz wo_X6 tyX6 tyX6_ok hown (hz _ wl_X2_33) (hz _ wa_X6) (hz _ wi_X6) hK rfl df_X6 (by show 0 + 27 + 0 + 1 + 0 + 0 + 1 ≤ cE1 30 f (cst 30 f tv) cx; omega) (by show 0 + (63 + (ne f cx - (cx + 1))) + 0 + 7 + 0 + 0 + 7 ≤ cE1 80 f (cst 80 f tv) cx; omega) hS dX2_addPath_112 (fun r2 H he_r2 hz9 hO_r2 hk9 hS => ?_)
        have hMk := hMk.keep hk9 (by first | exact id | exact rfl | omega | (dsimp only; omega))
        have hFl := hFl.keep hk9 (by first | exact id | exact rfl | omega | (dsimp only; omega))
        have hCa := hCa.keep hk9 (by first | exact id | exact rfl | omega | (dsimp only; omega))
        have hH := hH.keep hk9 (by first | exact id | exact rfl | omega | (dsimp only; omega))
        have hVN := hVN.keep hk9 (by intro q hq; have hq1 := hZm q hq; first | exact id | omega | (dsimp only; omega))
        have hCH := hCH.keep hk9 ⟨by intro q hq; have hq1 := hZm q (Or.inr hq); first | exact id | omega | (dsimp only; omega), by omega⟩
        have hOs := hOs.keep hk9 (by first | exact id | exact rfl | omega | (dsimp only; omega))
        have hSp := hSp.keep hk9 (by intro q hq; exact hq.elim (fun hy => by have hy1 := hZm q (Or.inl hy); first | exact id | omega | (dsimp only; omega)) (fun hy => hy.elim (fun hy => by first | exact id | omega | (dsimp only; omega)) (fun hy => by have hy1 := hZm q (Or.inr hy); first | exact id | omega | (dsimp only; omega))))
        have hO_r := hO_r.keep hk9 (by first | exact id | exact rfl | omega | (dsimp only; omega))
        have hT9 := zT9.keep (rK_F G f pf Z d) hT9 hk9 (by intro q hq; exact hq.elim (fun hq => by first | exact id | omega | (dsimp only; omega)) (fun hq => by have hq1 := hZm q hq; first | exact id | omega | (dsimp only; omega)))
        refine lv_dup hx hb dX2_addPath_115 rfl ?_
        refine lv_iconst (v := nI 5) hx hb dX2_addPath_116 (by decide) ?_
        refine lv_iconst (v := nI 0) hx hb dX2_addPath_117 (by decide) ?_
        refine lv_aload_n hx hb dX2_addPath_118 rfl (lv_at hl 5 rfl) ?_
        refine lv_null hx hb dX2_addPath_119 ?_
        refine zx_IN (As := [.int (nI (5)), .int (nI (0)), .ref (ev), .null]) (rest := [.ref (r2), .ref (r)]) (b := r2) ⟨hx, hb, hml, hown, hts⟩ (c_rlinit_n l G r2 5 false ev 0) ⟨va_cnB 4 hts (zgN wc_X6_init) rfl rfl rfl (hK.2.1 _ wm_X2_92) (hz _ wi_X6) (by decide +kernel) ⟨by show 1 + 1 ≤ _; simp only [headSpec]; omega, by show 8 + (_ + 11) + 21 ≤ _; simp only [headSpec]; omega⟩, rfl, hz _ wn_X6_init⟩ hK hO_r2 rfl hl.1 rfl (Nat.le_of_ble_eq_true rfl) dX2_addPath_120 ⟨by show 0 + 27 + 0 + 1 + 0 + 0 + 1 + 0 ≤ cE1 30 f (cst 30 f tv) cx; omega, by show 0 + (63 + (ne f cx - (cx + 1))) + 0 + 7 + 0 + 0 + 7 + 0 ≤ cE1 80 f (cst 80 f tv) cx; omega⟩ hS (by intro q hq; first | omega | (dsimp only at hq ⊢; omega)) (fun r9 H locs hPo hz9 hk9 hS => ?_)
        have hMk := hMk.keep hk9 (by first | exact id | exact rfl | omega | (dsimp only; omega))
        have hFl := hFl.keep hk9 (by first | exact id | exact rfl | omega | (dsimp only; omega))
        have hCa := hCa.keep hk9 (by first | exact id | exact rfl | omega | (dsimp only; omega))
        have hH := hH.keep hk9 (by first | exact id | exact rfl | omega | (dsimp only; omega))
        have hVN := hVN.keep hk9 (by intro q hq; have hq1 := hZm q hq; first | exact id | omega | (dsimp only; omega))
        have hCH := hCH.keep hk9 ⟨by intro q hq; have hq1 := hZm q (Or.inr hq); first | exact id | omega | (dsimp only; omega), by omega⟩
        have hOs := hOs.keep hk9 (by first | exact id | exact rfl | omega | (dsimp only; omega))
        have hSp := hSp.keep hk9 (by intro q hq; exact hq.elim (fun hy => by have hy1 := hZm q (Or.inl hy); first | exact id | omega | (dsimp only; omega)) (fun hy => hy.elim (fun hy => by first | exact id | omega | (dsimp only; omega)) (fun hy => by have hy1 := hZm q (Or.inr hy); first | exact id | omega | (dsimp only; omega))))
        have hO_r := hO_r.keep hk9 (by first | exact id | exact rfl | omega | (dsimp only; omega))
        have hT9 := zT9.keep (rK_F G f pf Z d) hT9 hk9 (by intro q hq; exact hq.elim (fun hq => by first | exact id | omega | (dsimp only; omega)) (fun hq => by have hq1 := hZm q hq; first | exact id | omega | (dsimp only; omega)))
        obtain ⟨rfl, hO_r2⟩ := hPo
        refine W.eq (g2 := F0 m 123 ls ([.ref (r2), .ref (r)])) rfl ?_
        refine zx_VN (As := [.ref (r2)]) (rest := []) ⟨hx, hb, hml, hown, hts⟩ (c_radd0 l G r r2 4 false ev (some sa) none) ⟨va_cnB 1 hts (zgN wc_X6_add) rfl rfl rfl (hK.2.1 _ wm_X2_95) (hz _ wi_X6) (by decide +kernel) ⟨by show 0 + 1 ≤ _; simp only [headSpec]; omega, by show 8 + (_ + 11) + 0 ≤ _; simp only [headSpec]; omega⟩, hz _ wn_X6_add, hz _ we_X6_add⟩ hK hO_r rfl hO_r rfl hl.1 rfl (Nat.le_of_ble_eq_true rfl) dX2_addPath_123 ⟨by show 0 + 27 + 0 + 1 + 0 + 0 + 1 + 0 + 0 ≤ cE1 30 f (cst 30 f tv) cx; omega, by show 0 + (63 + (ne f cx - (cx + 1))) + 0 + 7 + 0 + 0 + 7 + 0 + 0 ≤ cE1 80 f (cst 80 f tv) cx; omega⟩ hS (by intro q hq; first | omega | (dsimp only at hq ⊢; omega)) (fun r9 H locs hPo hz9 hk9 hS => ?_)
        have hMk := hMk.keep hk9 (by first | exact id | exact rfl | omega | (dsimp only; omega))
        have hFl := hFl.keep hk9 (by first | exact id | exact rfl | omega | (dsimp only; omega))
        have hCa := hCa.keep hk9 (by first | exact id | exact rfl | omega | (dsimp only; omega))
        have hH := hH.keep hk9 (by first | exact id | exact rfl | omega | (dsimp only; omega))
        have hVN := hVN.keep hk9 (by intro q hq; have hq1 := hZm q hq; first | exact id | omega | (dsimp only; omega))
        have hCH := hCH.keep hk9 ⟨by intro q hq; have hq1 := hZm q (Or.inr hq); first | exact id | omega | (dsimp only; omega), by omega⟩
        have hOs := hOs.keep hk9 (by first | exact id | exact rfl | omega | (dsimp only; omega))
        have hSp := hSp.keep hk9 (by intro q hq; exact hq.elim (fun hy => by have hy1 := hZm q (Or.inl hy); first | exact id | omega | (dsimp only; omega)) (fun hy => hy.elim (fun hy => by first | exact id | omega | (dsimp only; omega)) (fun hy => by have hy1 := hZm q (Or.inr hy); first | exact id | omega | (dsimp only; omega))))
        have hT9 := zT9.keep (rK_F G f pf Z d) hT9 hk9 (by intro q hq; exact hq.elim (fun hq => by first | exact id | omega | (dsimp only; omega)) (fun hq => by have hq1 := hZm q hq; first | exact id | omega | (dsimp only; omega)))
        have hO_r2 := hO_r2.keep hk9 (by first | exact id | exact rfl | omega | (dsimp only; omega))
        obtain ⟨rfl, hO_r⟩ := hPo
        refine W.eq (g2 := F0 m 126 ls ([])) rfl ?_
        refine lv_goto (tgt := 138) hx hb dX2_addPath_126 (by decide) ?_
        exact zx_v hx hb hr hlocks (by show 0 + 27 + 0 + 1 + 0 + 0 + 1 + 0 + 0 ≤ cE1 30 f (cst 30 f tv) cx; omega) (by show 0 + (63 + (ne f cx - (cx + 1))) + 0 + 7 + 0 + 0 + 7 + 0 + 0 ≤ cE1 80 f (cst 80 f tv) cx; omega) (⟨rfl, (S.1, S.2.1, S.2.2.1 + 2, S.2.2.2.1 + 1, S.2.2.2.2 + stN f cx), rs ++ [r], ⟨hMk, hFl, hCa⟩, by rw [kp_a hj hst0 c_13 hcn]; exact eqS.rf _, fun _ => ⟨hH, pa_fin (rs1 := [r2]) hj hT9 hO_r (by omega) (by omega) hVN.v (hSp.mono (fun q hq => hq.elim Or.inl (fun z => Or.inr (z.elim (fun y => Or.inl ⟨y.1, by omega⟩) Or.inr)))) (fun z => by rw [c_13] at z; cases z) (fun _ => al_one hO_r2 (by omega) (by omega) hVN.v)⟩⟩) hS dX2_addPath_138
