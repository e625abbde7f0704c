set_option maxHeartbeats 4000000 in
set_option maxRecDepth 100000 in
theorem c_aJn (l : Launch) (G : zG) (f : Nat → Nat) (pf : Nat → Int32) (Z : Nat → Prop) (d : Nat) (IH2 : C_aF l G f pf Z d) (lo n0 mk fl rt ca c0 h sg : Nat) (ng : Bool) (vl : Nat) (pa nx : Option Nat) (rs : List Nat) (ts : List Nat) (ev cx : Nat) (S : cS) (dp tv : Nat) (htd : tv ≤ d) (hkd : okV f tv (f cx) (vo f cx)) (hwd : okW f tv (f cx) (vo f cx)) (hz0 : f (ne f cx) = 0) (hj : f (cx + 1) = 36) (h0 : S.1 = 0) (hsi : sInv S) (hZm : ∀ q, Z q ∨ q < cB G → q < mk) (hd1 : mk < fl) (hd2 : fl < ca) (hmh : mk < h) (hhf : h ≠ fl) (hhc : h ≠ ca) (hhl : h < lo) (hcl9 : ca < lo) (hlo : lo ≤ n0) (hdp : dp + (tv + 1) = 17) : Met l yX2_addJoin wsX2_addJoin (rMk 24 515 d (cE1 30 f (cst 30 f tv) cx) (cE1 80 f (cst 80 f tv) cx)) (zP G [.ref (mk), .ref (h), .ref (ev), .int (nI (dp))] (fun H => MKs G H mk fl rt ca c0 pf S ∧ zO G H h 5 (rlF sg ng vl pa rs.head? rs.getLast? nx) ∧ zR9 (rFk9 G f pf Z d) H lo n0 rs ts ∧ VNp G H f pf Z ev cx ∧ CH G H ∧ H.size = n0)) (zX (fun q => q = mk ∨ q = ca ∨ q = h ∨ lo ≤ q) (fun r9 H => r9 = none ∧ ∃ (T : cS) (rs2 : List Nat), MKs G H mk fl rt ca c0 pf T ∧ eqS T (kEl f (ckF f d).1 (ckF f d).2 cx S) ∧ (T.1 = 0 → zO G H h 5 (rlF sg ng vl pa rs2.head? rs2.getLast? nx) ∧ zR9 (rFk9 G f pf Z d) H lo H.size rs2 (ts ++ [cx])))) (cE1 30 f (cst 30 f tv) cx) (cE1 80 f (cst 80 f tv) cx) (fun q => q = mk ∨ q = ca ∨ q = h ∨ lo ≤ q) := by
  refine Met.ofW (cc := cX2_addJoin) (maxL := 6) (ret := none) (by decide) rfl ?_
  intro p en s m args below meth c s₁ B hml hv
  obtain ⟨rfl, hP, hK⟩ := hv
  have hx := B.exec
  have hb := B.bytes
  have hr := B.returns
  have hts := atoms_spec (ws := wsX2_addJoin) B.pre
  have hz : ∀ w ∈ zW, w.before _ s = true := fun w h => hts w (List.mem_cons_of_mem _ h)
  have hown : s.vm.findClass RX2 = some m.cls := findClass_of_methodNamed B.named
  have hlocks := B.notSynchronized
  obtain ⟨⟨hMk, hFl, hCa⟩, hH, hR9, hVN, hCH, hn0⟩ := id hP
  have hS : va_S (fun q => q = mk ∨ q = ca ∨ q = h ∨ lo ≤ q) s.heap s.heap [] := va_S.rf
  have hez := hZm ev (Or.inl hVN.z)
  have hc3 := cE1_ge (K := 30) (f := f) (sub := cst 30 f tv) (x := cx)
  have hc8 := cE1_ge (K := 80) (f := f) (sub := cst 80 f tv) (x := cx)
  have hfb := hkd.b.1
  obtain ⟨hv, nxt, hN, hzz, hkk, hww⟩ := id hVN
  obtain ⟨nm, tx, f1, l1, n1, hO, hSt, hT, hvl⟩ := hN.o
  obtain ⟨v9, hs9, hz99, -, -, hSa⟩ := id hSt
  have hl := lv_entry ([.ref (mk), .ref (h), .ref (ev), .int (nI (dp))]) (n := 6) (Nat.le_of_ble_eq_true rfl)
  rw [lg_entry_eq]
  generalize (lg_sl ([.ref (mk), .ref (h), .ref (ev), .int (nI (dp))]) ++ List.replicate (6 - (lg_sl ([.ref (mk), .ref (h), .ref (ev), .int (nI (dp))])).length) Slot.unset).toArray = ls at hl ⊢
  have hl : lv_has ls 6 [(0, .ref (mk)), (1, .ref (h)), (2, .ref (ev)), (3, .int (nI (dp)))] := hl
  refine lv_aload_n hx hb dX2_addJoin_0 rfl (lv_at hl 2 rfl) ?_
  refine zi_getN (C := RX9) (T := TX9) (N := 9) (v := .ref (nm)) hx hb hz wo_X9 hown hK hO rfl 2 (by decide) wf_X2_46 (fun _ h9 => h9) rfl dX2_addJoin_1 ?_
  refine zc_S (As := [.ref (nm)]) (rest := []) ⟨hx, hb, hml, hown, hts⟩ (c_jsign l G nm (nL f cx) (Zr G ev hv)) (cwS 1 hts (zgS wm_X2_64 wu_X2_joinSign) rfl rfl rfl (by decide +kernel) ⟨by show 2 + 1 ≤ _; simp only [headSpec]; omega, by show 8 + (_ + 11) + 44 ≤ _; simp only [headSpec]; omega⟩) hK ⟨hSt, hCH⟩ rfl hl.1 rfl (Nat.le_of_ble_eq_true rfl) dX2_addJoin_4 ⟨by show 0 ≤ cE1 30 f (cst 30 f tv) cx; omega, by show 0 ≤ cE1 80 f (cst 80 f tv) cx; omega⟩ ?_
  refine lv_istore (lv' := [(4, .int (nI (jS (nL f cx)))), (0, .ref (mk)), (1, .ref (h)), (2, .ref (ev)), (3, .int (nI (dp)))]) hx hb dX2_addJoin_7 hl (by decide) rfl (fun ls hl => ?_)
  refine lv_iload hx hb dX2_addJoin_9 (lv_at hl 0 rfl) ?_
  refine zi_if_ne (tgt := 23) hx hb dX2_addJoin_11 (by decide) (jS_lt _) (fun c_11 => ?_) (fun c_11 => ?_)
  · refine lv_aload_n hx hb dX2_addJoin_23 rfl (lv_at hl 3 rfl) ?_
    refine zi_getN (C := RX9) (T := TX9) (N := 9) (v := .int (nI (f cx))) hx hb hz wo_X9 hown hK hO rfl 0 (by decide) wf_X2_72 (fun _ h9 => h9) rfl dX2_addJoin_24 ?_
    refine lv_iconst (v := nI 4) hx hb dX2_addJoin_27 (by decide) ?_
    refine zi_icmp_ne (tgt := 38) hx hb dX2_addJoin_28 (by decide) (by omega) (by omega) (fun c_28 => ?_) (fun c_28 => ?_)
    · refine lv_aload_n hx hb dX2_addJoin_38 rfl (lv_at hl 1 rfl) ?_
      refine lv_iconst (v := nI 2) hx hb dX2_addJoin_39 (by decide) ?_
      refine lv_aload_n hx hb dX2_addJoin_40 rfl (lv_at hl 3 rfl) ?_
      refine zx_V (As := [.int (nI (2)), .ref (ev)]) (rest := []) ⟨hx, hb, hml, hown, hts⟩ (c_refuse l G mk fl rt ca c0 pf S f Z ev cx 2 (by decide) h0 hZm hd1 hd2) (cwV 2 hts (zgV wm_X2_68 wv_X2_refuse) rfl rfl rfl (by decide +kernel) ⟨by show 0 + 1 ≤ _; simp only [headSpec]; omega, by show 8 + (_ + 11) + 0 ≤ _; simp only [headSpec]; omega⟩) hK hMk rfl ⟨⟨hMk, hFl, hCa⟩, hVN⟩ rfl hl.1 rfl (Nat.le_of_ble_eq_true rfl) dX2_addJoin_41 ⟨by show 0 + 0 ≤ cE1 30 f (cst 30 f tv) cx; omega, by show 0 + 0 ≤ cE1 80 f (cst 80 f tv) cx; omega⟩ hS (by intro q hq; first | omega | (dsimp only at hq ⊢; omega)) (fun r9 H locs hPo hz9 hk9 hS => ?_)
      have hH := hH.keep hk9 (by first | exact id | exact rfl | omega | (dsimp only; omega))
      have hR9 := zR9.keep (rK_F G f pf Z d) hR9 hk9 (by intro q hq; exact hq.elim (fun hq => by first | exact id | omega | (dsimp only; omega)) (fun hq => by have hq1 := hZm q hq; first | exact id | omega | (dsimp only; omega)))
      have hVN := hVN.keep hk9 (by intro q hq; have hq1 := hZm q hq; first | exact id | omega | (dsimp only; omega))
      have hCH := hCH.keep hk9 ⟨by intro q hq; have hq1 := hZm q (Or.inr hq); first | exact id | omega | (dsimp only; omega), by omega⟩
      obtain ⟨rfl, hMM⟩ := hPo
      refine W.eq (g2 := F0 m 44 ls ([])) rfl ?_
      refine lv_goto (tgt := 93) hx hb dX2_addJoin_44 (by decide) ?_
      exact zx_v hx hb hr hlocks (by show 0 + 0 ≤ cE1 30 f (cst 30 f tv) cx; omega) (by show 0 + 0 ≤ cE1 80 f (cst 80 f tv) cx; omega) (⟨rfl, _, [], hMM, kj_2 hj (isJ_1 hz0 c_11) (fun z => c_28 z.1), fun z => absurd z (sSay_w (by decide))⟩) hS dX2_addJoin_93
    · have hk4 : f cx = 4 := by omega
      obtain ⟨nm2, tx2, vs, nxt2, hO2, hkv0, hvl0⟩ := hVN.kids (Or.inr hk4)
      have hle := els_len f (vo f cx)
      have hk4v : okV f tv 4 (vo f cx) := by rw [hk4] at hkd; exact hkd
      refine lv_aload_n hx hb dX2_addJoin_31 rfl (lv_at hl 3 rfl) ?_
      refine zi_getN (C := RX9) (T := TX9) (N := 9) (v := .int (nI (vs.length))) hx hb hz wo_X9 hown hK hO2 rfl 8 (by decide) wf_X2_77 (fun _ h9 => h9) rfl dX2_addJoin_32 ?_
      refine zi_if_ne (tgt := 47) hx hb dX2_addJoin_35 (by decide) (by omega) (fun c_35 => ?_) (fun c_35 => ?_)
      · have hy4 : f cx = 4 ∧ 0 < fi f (vo f cx) := ⟨hk4, Classical.byContradiction (fun z => c_35 (by have := (fi_len hk4v).mpr z; omega))⟩
        refine lv_aload_n hx hb dX2_addJoin_47 rfl (lv_at hl 1 rfl) ?_
        refine lv_iconst (v := nI 1) hx hb dX2_addJoin_48 (by decide) ?_
        refine lv_aload_n hx hb dX2_addJoin_49 rfl (lv_at hl 3 rfl) ?_
        refine zx_V (As := [.int (nI (1)), .ref (ev)]) (rest := []) ⟨hx, hb, hml, hown, hts⟩ (c_mayc l G mk fl rt ca c0 pf S f Z ev cx 1 (by decide) (hsi.2.2 h0) h0 hZm hd1 hd2) (cwV 2 hts (zgV wm_X2_80 wv_X2_mayCount) rfl rfl rfl (by decide +kernel) ⟨by show 1 + 1 ≤ _; simp only [headSpec]; omega, by show 8 + (_ + 11) + 22 ≤ _; simp only [headSpec]; omega⟩) hK hMk rfl ⟨⟨hMk, hFl, hCa⟩, hVN⟩ rfl hl.1 rfl (Nat.le_of_ble_eq_true rfl) dX2_addJoin_50 ⟨by show 0 + 0 ≤ cE1 30 f (cst 30 f tv) cx; omega, by show 0 + 0 ≤ cE1 80 f (cst 80 f tv) cx; omega⟩ hS (by intro q hq; first | omega | (dsimp only at hq ⊢; omega)) (fun r9 H locs hPo hz9 hk9 hS => ?_)
        have hH := hH.keep hk9 (by first | exact id | exact rfl | omega | (dsimp only; omega))
        have hR9 := zR9.keep (rK_F G f pf Z d) hR9 hk9 (by intro q hq; exact hq.elim (fun hq => by first | exact id | omega | (dsimp only; omega)) (fun hq => by have hq1 := hZm q hq; first | exact id | omega | (dsimp only; omega)))
        have hVN := hVN.keep hk9 (by intro q hq; have hq1 := hZm q hq; first | exact id | omega | (dsimp only; omega))
        have hCH := hCH.keep hk9 ⟨by intro q hq; have hq1 := hZm q (Or.inr hq); first | exact id | omega | (dsimp only; omega), by omega⟩
        obtain ⟨rfl, hMM⟩ := hPo
        obtain ⟨hMk, hFl, hCa⟩ := id hMM
        refine W.eq (g2 := F0 m 53 ls ([.int (nI (nB (decide (S.2.2.1 + 1 ≤ 100))))])) rfl ?_
        refine zb_if_eq (tgt := 93) hx hb dX2_addJoin_53 (by decide) (fun c_53 => ?_) (fun c_53 => ?_)
        · exact zx_v hx hb hr hlocks (by show 0 + 0 ≤ cE1 30 f (cst 30 f tv) cx; omega) (by show 0 + 0 ≤ cE1 80 f (cst 80 f tv) cx; omega) (⟨rfl, _, [], hMM, by rw [(kj_5 (kc := (ckF f d).1) (kf := (ckF f d).2) hj (isJ_1 hz0 c_11) hy4 (of_decide_eq_false c_53)).1]; exact eqS.rf _, fun z => absurd z (kj_5 (kc := (ckF f d).1) (kf := (ckF f d).2) hj (isJ_1 hz0 c_11) hy4 (of_decide_eq_false c_53)).2⟩) hS dX2_addJoin_93
        · have hcn := of_decide_eq_true c_53
          have hS0 : (sCnt S 1 cx).1 = 0 := by rw [sCnt_y hcn]; exact h0
          have hSI := sInv_c1 hsi h0 cx
          obtain ⟨hMk, hFl, hCa⟩ := id hMM
          refine zx_new (C := RX6) (T := TX6) (N := 7) (ci := 5) (fs := [.int (nI (0)), .int (nI (0)), .null, .null, .null, .null, .null]) hx hb hz wo_X6 tyX6 tyX6_ok hown (hz _ wl_X2_33) (hz _ wa_X6) (hz _ wi_X6) hK rfl df_X6 (by show 0 + 0 + 1 ≤ cE1 30 f (cst 30 f tv) cx; omega) (by show 0 + 0 + 7 ≤ cE1 80 f (cst 80 f tv) cx; omega) hS dX2_addJoin_56 (fun r H he_r hz9 hO_r hk9 hS => ?_)
          have hMk := hMk.keep hk9 (by first | exact id | exact rfl | omega | (dsimp only; omega))
          have hFl := hFl.keep hk9 (by first | exact id | exact rfl | omega | (dsimp only; omega))
          have hCa := hCa.keep hk9 (by first | exact id | exact rfl | omega | (dsimp only; omega))
          have hH := hH.keep hk9 (by first | exact id | exact rfl | omega | (dsimp only; omega))
          have hR9 := zR9.keep (rK_F G f pf Z d) hR9 hk9 (by intro q hq; exact hq.elim (fun hq => by first | exact id | omega | (dsimp only; omega)) (fun hq => by have hq1 := hZm q hq; first | exact id | omega | (dsimp only; omega)))
          have hVN := hVN.keep hk9 (by intro q hq; have hq1 := hZm q hq; first | exact id | omega | (dsimp only; omega))
          have hCH := hCH.keep hk9 ⟨by intro q hq; have hq1 := hZm q (Or.inr hq); first | exact id | omega | (dsimp only; omega), by omega⟩
          refine lv_dup hx hb dX2_addJoin_59 rfl ?_
          obtain ⟨hv, nxt, hN, hzz, hkk, hww⟩ := id hVN
          obtain ⟨nm, tx, f1, l1, n1, hO, hSt, hT, hvl⟩ := hN.o
          obtain ⟨v9, hs9, hz99, -, -, hSa⟩ := id hSt
          refine lv_iload hx hb dX2_addJoin_60 (lv_at hl 0 rfl) ?_
          refine lv_aload_n hx hb dX2_addJoin_62 rfl (lv_at hl 3 rfl) ?_
          refine zi_getN (C := RX9) (T := TX9) (N := 9) (v := .ref (nm)) hx hb hz wo_X9 hown hK hO rfl 2 (by decide) wf_X2_46 (fun _ h9 => h9) rfl dX2_addJoin_63 ?_
          refine va_ldcS hx hb hown (hK.2.2.1 ("FilterReader$FilterMaker", 84, "$nor") (by decide)) dX2_addJoin_66 ?_
          refine zc_Vw (As := [.ref (G.2.2 "$nor")]) (rest := [.int (nI (jS (nL f cx))), .ref (r), .ref (r)]) ⟨hx, hb, hml, hown, hts⟩ (j_equals l G nm (G.2.2 "$nor") (nL f cx) (ltr "$nor") (Zr G ev hv) _) (cwV 1 hts (zgV wm_X2_86 wv_J0_equals_9ea2d) rfl rfl rfl (by decide +kernel) ⟨by show 1 + 1 ≤ _; simp only [headSpec]; omega, by show 8 + (_ + 11) + 22 ≤ _; simp only [headSpec]; omega⟩) hK hSa.1 rfl ⟨hSt, hCH.2.2.1 ("FilterReader$FilterMaker", 84, "$nor") (by decide), hCH⟩ rfl hl.1 rfl (Nat.le_of_ble_eq_true rfl) dX2_addJoin_68 ⟨by show 0 + 0 + 1 ≤ cE1 30 f (cst 30 f tv) cx; omega, by show 0 + 0 + 7 ≤ cE1 80 f (cst 80 f tv) cx; omega⟩ ?_
          refine lv_aload_n hx hb dX2_addJoin_71 rfl (lv_at hl 3 rfl) ?_
          refine lv_null hx hb dX2_addJoin_72 ?_
          refine zx_IN (As := [.int (nI (jS (nL f cx))), .int (nI (nB (decide ((nL f cx) = ltr "$nor")))), .ref (ev), .null]) (rest := [.ref (r)]) (b := r) ⟨hx, hb, hml, hown, hts⟩ (c_rlinit_n l G r (jS (nL f cx)) (decide (nL f cx = ltr "$nor")) ev 0) ⟨va_cnB 4 hts (zgN wc_X6_init) rfl rfl rfl (hK.2.1 _ wm_X2_92) (hz _ wi_X6) (by decide +kernel) ⟨by show 1 + 1 ≤ _; simp only [headSpec]; omega, by show 8 + (_ + 11) + 21 ≤ _; simp only [headSpec]; omega⟩, rfl, hz _ wn_X6_init⟩ hK hO_r rfl hl.1 rfl (Nat.le_of_ble_eq_true rfl) dX2_addJoin_73 ⟨by show 0 + 0 + 1 + 0 ≤ cE1 30 f (cst 30 f tv) cx; omega, by show 0 + 0 + 7 + 0 ≤ cE1 80 f (cst 80 f tv) cx; omega⟩ hS (by intro q hq; first | omega | (dsimp only at hq ⊢; omega)) (fun r9 H locs hPo hz9 hk9 hS => ?_)
          have hMk := hMk.keep hk9 (by first | exact id | exact rfl | omega | (dsimp only; omega))
          have hFl := hFl.keep hk9 (by first | exact id | exact rfl | omega | (dsimp only; omega))
          have hCa := hCa.keep hk9 (by first | exact id | exact rfl | omega | (dsimp only; omega))
          have hH := hH.keep hk9 (by first | exact id | exact rfl | omega | (dsimp only; omega))
          have hR9 := zR9.keep (rK_F G f pf Z d) hR9 hk9 (by intro q hq; exact hq.elim (fun hq => by first | exact id | omega | (dsimp only; omega)) (fun hq => by have hq1 := hZm q hq; first | exact id | omega | (dsimp only; omega)))
          have hVN := hVN.keep hk9 (by intro q hq; have hq1 := hZm q hq; first | exact id | omega | (dsimp only; omega))
          have hCH := hCH.keep hk9 ⟨by intro q hq; have hq1 := hZm q (Or.inr hq); first | exact id | omega | (dsimp only; omega), by omega⟩
          obtain ⟨rfl, hO_r⟩ := hPo
          refine W.eq (g2 := F0 m 76 ls ([.ref (r)])) rfl ?_
          refine lv_astore (lv' := [(5, .ref (r)), (4, .int (nI (jS (nL f cx)))), (0, .ref (mk)), (1, .ref (h)), (2, .ref (ev)), (3, .int (nI (dp)))]) hx hb dX2_addJoin_76 hl (by decide) rfl (fun ls hl => ?_)
          refine lv_aload_n hx hb dX2_addJoin_78 rfl (lv_at hl 3 rfl) ?_
          refine lv_aload hx hb dX2_addJoin_79 (lv_at hl 0 rfl) ?_
          refine zx_VN (As := [.ref (r)]) (rest := []) ⟨hx, hb, hml, hown, hts⟩ (c_raddK l G Z (rFk9 G f pf Z d) (rK_F G f pf Z d) h r sg ng vl pa nx lo n0 rs ts hhl (fun q hq => by have hq1 := hZm q hq; omega)) ⟨va_cnB 1 hts (zgN wc_X6_add) rfl rfl rfl (hK.2.1 _ wm_X2_95) (hz _ wi_X6) (by decide +kernel) ⟨by show 0 + 1 ≤ _; simp only [headSpec]; omega, by show 8 + (_ + 11) + 0 ≤ _; simp only [headSpec]; omega⟩, hz _ wn_X6_add, hz _ we_X6_add⟩ hK hH rfl ⟨hH, hR9⟩ rfl hl.1 rfl (Nat.le_of_ble_eq_true rfl) dX2_addJoin_81 ⟨by show 0 + 0 + 1 + 0 + 0 ≤ cE1 30 f (cst 30 f tv) cx; omega, by show 0 + 0 + 7 + 0 + 0 ≤ cE1 80 f (cst 80 f tv) cx; omega⟩ hS (by intro q hq; first | omega | (dsimp only at hq ⊢; omega)) (fun r9 H locs hPo hz9 hk9 hS => ?_)
          have hMk := hMk.keep hk9 (by first | exact id | exact rfl | omega | (dsimp only; omega))
          have hFl := hFl.keep hk9 (by first | exact id | exact rfl | omega | (dsimp only; omega))
          have hCa := hCa.keep hk9 (by first | exact id | exact rfl | omega | (dsimp only; omega))
          have hVN := hVN.keep hk9 (by intro q hq; have hq1 := hZm q hq; first | exact id | omega | (dsimp only; omega))
          have hCH := hCH.keep hk9 ⟨by intro q hq; have hq1 := hZm q (Or.inr hq); first | exact id | omega | (dsimp only; omega), by omega⟩
          have hO_r := hO_r.keep hk9 (by first | exact id | exact rfl | omega | (dsimp only; omega))
          obtain ⟨rfl, hH, hT9⟩ := hPo
          refine W.eq (g2 := F0 m 84 ls ([])) rfl ?_
          obtain ⟨tw, htw⟩ := hk4v.s (Or.inr rfl)
          have hk4w : okV f (tw + 1) 4 (vo f cx) := by rw [← htw]; exact hk4v
          have hw4w : okW f (tw + 1) 4 (vo f cx) := by rw [← htw, ← hk4]; exact hwd
          have hcb := cE1_b (K := 30) (sub := cst 30 f tv) (Or.inr hk4)
          have hcb8 := cE1_b (K := 80) (sub := cst 80 f tv) (Or.inr hk4)
          have hct : cst 30 f tv (vo f cx) = cst 30 f (tw + 1) (vo f cx) := by rw [htw]
          have hct8 : cst 80 f tv (vo f cx) = cst 80 f (tw + 1) (vo f cx) := by rw [htw]
          refine lv_aload_n hx hb dX2_addJoin_84 rfl (lv_at hl 2 rfl) ?_
          refine lv_aload hx hb dX2_addJoin_85 (lv_at hl 0 rfl) ?_
          refine lv_iload_n hx hb dX2_addJoin_87 rfl (lv_at hl 5 rfl) ?_
          refine lv_iconst (v := nI 2) hx hb dX2_addJoin_88 (by decide) ?_
          refine zi_add hx hb dX2_addJoin_89 ?_
          refine zx_V (As := [.ref (r), .int (nI (dp + 2))]) (rest := []) ⟨hx, hb, hml, hown, hts⟩ (c_aJd l G f pf Z d IH2 H.size mk fl rt ca c0 r (jS (nL f cx)) (decide (nL f cx = ltr "$nor")) ev none none cx (sCnt S 1 cx) (dp + 2) tw (by omega) hk4 hk4w hw4w hS0 hSI hZm hd1 hd2 (by omega) (by omega) (by omega) (by omega) (by omega) (by omega)) (cwV 2 hts (zgV wm_X2_99 wv_X2_addJoined) rfl rfl rfl (by decide +kernel) ⟨show 5 * d + 22 + 1 ≤ 5 * d + 24 by omega, show 8 + (5 + 11) + (140 * d + 470) ≤ 140 * d + 515 by omega⟩) hK hMk rfl ⟨⟨hMk, hFl, hCa⟩, hO_r, hVN, hCH, rfl⟩ rfl hl.1 rfl (Nat.le_of_ble_eq_true rfl) dX2_addJoin_90 ⟨by show 0 + 0 + 1 + 0 + 0 + (cst 30 f (tw + 1) (vo f cx)) ≤ cE1 30 f (cst 30 f tv) cx; omega, by show 0 + 0 + 7 + 0 + 0 + (cst 80 f (tw + 1) (vo f cx)) ≤ cE1 80 f (cst 80 f tv) cx; omega⟩ hS (by intro q hq; first | omega | (dsimp only at hq ⊢; omega)) (fun r9 H locs hPo hz9 hk9 hS => ?_)
          have hH := hH.keep hk9 (by first | exact id | exact rfl | omega | (dsimp only; omega))
          have hVN := hVN.keep hk9 (by intro q hq; have hq1 := hZm q hq; first | exact id | omega | (dsimp only; omega))
          have hCH := hCH.keep hk9 ⟨by intro q hq; have hq1 := hZm q (Or.inr hq); first | exact id | omega | (dsimp only; omega), by omega⟩
          have hT9 := zT9.keep (rK_F G f pf Z d) hT9 hk9 (by intro q hq; exact hq.elim (fun hq => by first | exact id | omega | (dsimp only; omega)) (fun hq => by have hq1 := hZm q hq; first | exact id | omega | (dsimp only; omega)))
          obtain ⟨rfl, T, hMM, hEq, hRu⟩ := hPo
          refine W.eq (g2 := F0 m 93 ls ([])) rfl ?_
          exact zx_v hx hb hr hlocks (by show 0 + 0 + 1 + 0 + 0 + (cst 30 f (tw + 1) (vo f cx)) ≤ cE1 30 f (cst 30 f tv) cx; omega) (by show 0 + 0 + 7 + 0 + 0 + (cst 80 f (tw + 1) (vo f cx)) ≤ cE1 80 f (cst 80 f tv) cx; omega) (⟨rfl, T, rs ++ [r], hMM, by rw [kj_y h0 hj (isJ_1 hz0 c_11) hy4 hcn]; exact hEq, fun z => by obtain ⟨rs1, g1, g2⟩ := hRu z; exact ⟨hH, jn_fin hj hT9 (by rw [← jS_s hz0 c_11, jS_n hz0]; exact g1) (by omega) (by omega) hVN.v (kidR_lo (fun l2 l3 v mid x n a b => (rK_P G f pf Z d).2.2.2.2 H l2 l3 v mid x n a b) g2 (by omega))⟩⟩) hS dX2_addJoin_93
      · refine lv_aload_n hx hb dX2_addJoin_38 rfl (lv_at hl 1 rfl) ?_
        refine lv_iconst (v := nI 2) hx hb dX2_addJoin_39 (by decide) ?_
        refine lv_aload_n hx hb dX2_addJoin_40 rfl (lv_at hl 3 rfl) ?_
        refine zx_V (As := [.int (nI (2)), .ref (ev)]) (rest := []) ⟨hx, hb, hml, hown, hts⟩ (c_refuse l G mk fl rt ca c0 pf S f Z ev cx 2 (by decide) h0 hZm hd1 hd2) (cwV 2 hts (zgV wm_X2_68 wv_X2_refuse) rfl rfl rfl (by decide +kernel) ⟨by show 0 + 1 ≤ _; simp only [headSpec]; omega, by show 8 + (_ + 11) + 0 ≤ _; simp only [headSpec]; omega⟩) hK hMk rfl ⟨⟨hMk, hFl, hCa⟩, hVN⟩ rfl hl.1 rfl (Nat.le_of_ble_eq_true rfl) dX2_addJoin_41 ⟨by show 0 + 0 ≤ cE1 30 f (cst 30 f tv) cx; omega, by show 0 + 0 ≤ cE1 80 f (cst 80 f tv) cx; omega⟩ hS (by intro q hq; first | omega | (dsimp only at hq ⊢; omega)) (fun r9 H locs hPo hz9 hk9 hS => ?_)
        have hH := hH.keep hk9 (by first | exact id | exact rfl | omega | (dsimp only; omega))
        have hR9 := zR9.keep (rK_F G f pf Z d) hR9 hk9 (by intro q hq; exact hq.elim (fun hq => by first | exact id | omega | (dsimp only; omega)) (fun hq => by have hq1 := hZm q hq; first | exact id | omega | (dsimp only; omega)))
        have hVN := hVN.keep hk9 (by intro q hq; have hq1 := hZm q hq; first | exact id | omega | (dsimp only; omega))
        have hCH := hCH.keep hk9 ⟨by intro q hq; have hq1 := hZm q (Or.inr hq); first | exact id | omega | (dsimp only; omega), by omega⟩
        obtain ⟨rfl, hMM⟩ := hPo
        refine W.eq (g2 := F0 m 44 ls ([])) rfl ?_
        refine lv_goto (tgt := 93) hx hb dX2_addJoin_44 (by decide) ?_
        exact zx_v hx hb hr hlocks (by show 0 + 0 ≤ cE1 30 f (cst 30 f tv) cx; omega) (by show 0 + 0 ≤ cE1 80 f (cst 80 f tv) cx; omega) (⟨rfl, _, [], hMM, kj_2 hj (isJ_1 hz0 c_11) (fun z => (fi_len hk4v).mp (by omega) z.2), fun z => absurd z (sSay_w (by decide))⟩) hS dX2_addJoin_93
  · refine lv_aload_n hx hb dX2_addJoin_14 rfl (lv_at hl 1 rfl) ?_
    refine lv_iconst (v := nI 1) hx hb dX2_addJoin_15 (by decide) ?_
    refine lv_aload_n hx hb dX2_addJoin_16 rfl (lv_at hl 3 rfl) ?_
    refine zx_V (As := [.int (nI (1)), .ref (ev)]) (rest := []) ⟨hx, hb, hml, hown, hts⟩ (c_refuse l G mk fl rt ca c0 pf S f Z ev cx 1 (by decide) h0 hZm hd1 hd2) (cwV 2 hts (zgV wm_X2_68 wv_X2_refuse) rfl rfl rfl (by decide +kernel) ⟨by show 0 + 1 ≤ _; simp only [headSpec]; omega, by show 8 + (_ + 11) + 0 ≤ _; simp only [headSpec]; omega⟩) hK hMk rfl ⟨⟨hMk, hFl, hCa⟩, hVN⟩ rfl hl.1 rfl (Nat.le_of_ble_eq_true rfl) dX2_addJoin_17 ⟨by show 0 + 0 ≤ cE1 30 f (cst 30 f tv) cx; omega, by show 0 + 0 ≤ cE1 80 f (cst 80 f tv) cx; omega⟩ hS (by intro q hq; first | omega | (dsimp only at hq ⊢; omega)) (fun r9 H locs hPo hz9 hk9 hS => ?_)
    have hH := hH.keep hk9 (by first | exact id | exact rfl | omega | (dsimp only; omega))
    have hR9 := zR9.keep (rK_F G f pf Z d) hR9 hk9 (by intro q hq; exact hq.elim (fun hq => by first | exact id | omega | (dsimp only; omega)) (fun hq => by have hq1 := hZm q hq; first | exact id | omega | (dsimp only; omega)))
    have hVN := hVN.keep hk9 (by intro q hq; have hq1 := hZm q hq; first | exact id | omega | (dsimp only; omega))
    have hCH := hCH.keep hk9 ⟨by intro q hq; have hq1 := hZm q (Or.inr hq); first | exact id | omega | (dsimp only; omega), by omega⟩
    obtain ⟨rfl, hMM⟩ := hPo
    refine W.eq (g2 := F0 m 20 ls ([])) rfl ?_
    refine lv_goto (tgt := 93) hx hb dX2_addJoin_20 (by decide) ?_
    exact zx_v hx hb hr hlocks (by show 0 + 0 ≤ cE1 30 f (cst 30 f tv) cx; omega) (by show 0 + 0 ≤ cE1 80 f (cst 80 f tv) cx; omega) (⟨rfl, _, [], hMM, kj_1 hj (isJ_0 hz0 c_11), fun z => absurd z (sSay_w (by decide))⟩) hS dX2_addJoin_93
