set_option maxHeartbeats 4000000 in
set_option maxRecDepth 100000 in
theorem c_aco (l : Launch) (G : zG) (f : Nat → Nat) (pf : Nat → Int32) (Z : Nat → Prop) (d : Nat) (IH1 : C_aC l G f pf Z d) (IH2 : C_aF l G f pf Z d) (lo n0 mk fl rt ca c0 h sg : Nat) (ng : Bool) (vl : Nat) (pa nx : Option Nat) (rs : List Nat) (ts : List cT) (ev cx : Nat) (S : cS) (dp tv : Nat) (htd : tv ≤ d) (hkd : okV f tv (f cx) (vo f cx)) (hwd : okW f tv (f cx) (vo f cx)) (hz0 : f (ne f cx) = 0) (hel : f cx = 3 → ∀ x ∈ els f (vo f cx), f (ne f x) = 0) (h8 : ∀ i, f i < 256) (h0 : S.1 = 0) (hsi : sInv S) (hZm : ∀ q, Z q ∨ q < cB G → q < mk) (hd1 : mk < fl) (hd2 : fl < ca) (hmh : mk < h) (hhf : h ≠ fl) (hhc : h ≠ ca) (hhl : h < lo) (hcl9 : ca < lo) (hlo : lo ≤ n0) (hdp : dp + (tv + 1) = 17) : Met l yX2_addCondition wsX2_addCondition (rMk 23 500 d (cE1 30 f (cst 30 f tv) cx) (cE1 80 f (cst 80 f tv) cx)) (zP G [.ref (mk), .ref (h), .ref (ev), .int (nI (dp))] (fun H => MKs G H mk fl rt ca c0 pf S ∧ zO G H h 5 (rlF sg ng vl pa rs.head? rs.getLast? nx) ∧ zR9 (rCk9 G f pf Z d) H lo n0 rs ts ∧ VNp G H f pf Z ev cx ∧ CH G H ∧ H.size = n0)) (zX (fun q => q = mk ∨ q = ca ∨ q = h ∨ lo ≤ q) (fun r9 H => r9 = none ∧ ∃ (T : cS) (rs2 : List Nat), MKs G H mk fl rt ca c0 pf T ∧ eqS T (kCond f (ckF f d).1 (ckF f d).2 cx S) ∧ (T.1 = 0 → zO G H h 5 (rlF sg ng vl pa rs2.head? rs2.getLast? nx) ∧ zR9 (rCk9 G f pf Z d) H lo H.size rs2 (ts ++ [cnd f cx])))) (cE1 30 f (cst 30 f tv) cx) (cE1 80 f (cst 80 f tv) cx) (fun q => q = mk ∨ q = ca ∨ q = h ∨ lo ≤ q) := by
  refine Met.ofW (cc := cX2_addCondition) (maxL := 6) (ret := none) (by decide) rfl ?_
  intro p en s m args below meth c s₁ B hml hv
  obtain ⟨rfl, hP, hK⟩ := hv
  have hx := B.exec
  have hb := B.bytes
  have hr := B.returns
  have hts := atoms_spec (ws := wsX2_addCondition) B.pre
  have hz : ∀ w ∈ zW, w.before _ s = true := fun w h => hts w (List.mem_cons_of_mem _ h)
  have hown : s.vm.findClass RX2 = some m.cls := findClass_of_methodNamed B.named
  have hlocks := B.notSynchronized
  obtain ⟨⟨hMk, hFl, hCa⟩, hH, hR9, hVN, hCH, hn0⟩ := id hP
  have hS : va_S (fun q => q = mk ∨ q = ca ∨ q = h ∨ lo ≤ q) s.heap s.heap [] := va_S.rf
  obtain ⟨hv, nxt, hN, hzz, hkk, hww⟩ := id hVN
  have hc3 := cE1_ge (K := 30) (f := f) (sub := cst 30 f tv) (x := cx)
  have hc8 := cE1_ge (K := 80) (f := f) (sub := cst 80 f tv) (x := cx)
  have hl := lv_entry ([.ref (mk), .ref (h), .ref (ev), .int (nI (dp))]) (n := 6) (Nat.le_of_ble_eq_true rfl)
  rw [lg_entry_eq]
  generalize (lg_sl ([.ref (mk), .ref (h), .ref (ev), .int (nI (dp))]) ++ List.replicate (6 - (lg_sl ([.ref (mk), .ref (h), .ref (ev), .int (nI (dp))])).length) Slot.unset).toArray = ls at hl ⊢
  have hl : lv_has ls 6 [(0, .ref (mk)), (1, .ref (h)), (2, .ref (ev)), (3, .int (nI (dp)))] := hl
  refine lv_aload_n hx hb dX2_addCondition_0 rfl (lv_at hl 2 rfl) ?_
  refine zc_S (As := [.ref (ev)]) (rest := []) ⟨hx, hb, hml, hown, hts⟩ (c_csign l G f pf 15 ev hv (f cx) (vo f cx) (nL f cx) (pf cx) nxt hkk hel) (cwS 1 hts (zgS wm_X2_123 wu_X2_conditionSign) rfl rfl rfl (by decide +kernel) ⟨by show 7 + 1 ≤ _; simp only [headSpec]; omega, by show 8 + (_ + 11) + 146 ≤ _; simp only [headSpec]; omega⟩) hK ⟨hN, hCH⟩ rfl hl.1 rfl (Nat.le_of_ble_eq_true rfl) dX2_addCondition_1 ⟨by show 0 ≤ cE1 30 f (cst 30 f tv) cx; omega, by show 0 ≤ cE1 80 f (cst 80 f tv) cx; omega⟩ ?_
  refine lv_istore (lv' := [(4, .int (nI (csG f cx))), (0, .ref (mk)), (1, .ref (h)), (2, .ref (ev)), (3, .int (nI (dp)))]) hx hb dX2_addCondition_4 hl (by decide) rfl (fun ls hl => ?_)
  refine lv_iload hx hb dX2_addCondition_6 (lv_at hl 0 rfl) ?_
  refine zi_if_ne (tgt := 20) hx hb dX2_addCondition_8 (by decide) (Nat.lt_trans (csG_lt f cx) (by decide)) (fun c_8 => ?_) (fun c_8 => ?_)
  · have hco : coN f cx ≠ 0 := fun z => c_8 (csG_0 hz0 z)
    refine lv_iload hx hb dX2_addCondition_20 (lv_at hl 0 rfl) ?_
    refine lv_aload_n hx hb dX2_addCondition_22 rfl (lv_at hl 3 rfl) ?_
    refine zc_S (As := [.int (nI (csG f cx)), .ref (ev)]) (rest := []) ⟨hx, hb, hml, hown, hts⟩ (c_isval l G (csG f cx) (csG_lt f cx) f pf 15 ev hv (f cx) (vo f cx) (nL f cx) (pf cx) nxt hkk) (cwS 2 hts (zgS wm_X2_127 wu_X2_isValueFor) rfl rfl rfl (by decide +kernel) ⟨by show 6 + 1 ≤ _; simp only [headSpec]; omega, by show 8 + (_ + 11) + 125 ≤ _; simp only [headSpec]; omega⟩) hK ⟨hN, hCH⟩ rfl hl.1 rfl (Nat.le_of_ble_eq_true rfl) dX2_addCondition_23 ⟨by show 0 ≤ cE1 30 f (cst 30 f tv) cx; omega, by show 0 ≤ cE1 80 f (cst 80 f tv) cx; omega⟩ ?_
    refine zb_if_ne (tgt := 38) hx hb dX2_addCondition_26 (by decide) (fun c_26 => ?_) (fun c_26 => ?_)
    · have hR : isR f (coN f cx) (f cx) (vo f cx) = true := by rw [← csG_R hz0 hco]; exact c_26
      have hsg := csG_s hz0 hco hR
      have hng := csG_ng hz0 h8 hco hR
      refine lv_aload_n hx hb dX2_addCondition_38 rfl (lv_at hl 1 rfl) ?_
      refine lv_iconst (v := nI 1) hx hb dX2_addCondition_39 (by decide) ?_
      refine lv_aload_n hx hb dX2_addCondition_40 rfl (lv_at hl 3 rfl) ?_
      refine zx_V (As := [.int (nI (1)), .ref (ev)]) (rest := []) ⟨hx, hb, hml, hown, hts⟩ (c_mayc l G mk fl rt ca c0 pf S f Z ev cx 1 (by decide) (hsi.2.2 h0) h0 hZm hd1 hd2) (cwV 2 hts (zgV wm_X2_80 wv_X2_mayCount) rfl rfl rfl (by decide +kernel) ⟨by show 1 + 1 ≤ _; simp only [headSpec]; omega, by show 8 + (_ + 11) + 22 ≤ _; simp only [headSpec]; omega⟩) hK hMk rfl ⟨⟨hMk, hFl, hCa⟩, hVN⟩ rfl hl.1 rfl (Nat.le_of_ble_eq_true rfl) dX2_addCondition_41 ⟨by show 0 + 0 ≤ cE1 30 f (cst 30 f tv) cx; omega, by show 0 + 0 ≤ cE1 80 f (cst 80 f tv) cx; omega⟩ hS (by intro q hq; first | omega | (dsimp only at hq ⊢; omega)) (fun r9 H locs hPo hz9 hk9 hS => ?_)
      have hH := hH.keep hk9 (by first | exact id | exact rfl | omega | (dsimp only; omega))
      have hR9 := zR9.keep (rK_C G f pf Z d) hR9 hk9 (by intro q hq; exact hq.elim (fun hq => by first | exact id | omega | (dsimp only; omega)) (fun hq => by have hq1 := hZm q hq; first | exact id | omega | (dsimp only; omega)))
      have hVN := hVN.keep hk9 (by intro q hq; have hq1 := hZm q hq; first | exact id | omega | (dsimp only; omega))
      have hCH := hCH.keep hk9 ⟨by intro q hq; have hq1 := hZm q (Or.inr hq); first | exact id | omega | (dsimp only; omega), by omega⟩
      obtain ⟨rfl, hMM⟩ := hPo
      obtain ⟨hMk, hFl, hCa⟩ := id hMM
      refine W.eq (g2 := F0 m 44 ls ([.int (nI (nB (decide (S.2.2.1 + 1 ≤ 100))))])) rfl ?_
      refine zb_if_eq (tgt := 112) hx hb dX2_addCondition_44 (by decide) (fun c_44 => ?_) (fun c_44 => ?_)
      · exact zx_v hx hb hr hlocks (by show 0 + 0 ≤ cE1 30 f (cst 30 f tv) cx; omega) (by show 0 + 0 ≤ cE1 80 f (cst 80 f tv) cx; omega) (⟨rfl, _, [], hMM, by rw [(kc_5 (kc := (ckF f d).1) (kf := (ckF f d).2) h0 hco hR (of_decide_eq_false c_44)).1]; exact eqS.rf _, fun z => absurd z (kc_5 (kc := (ckF f d).1) (kf := (ckF f d).2) h0 hco hR (of_decide_eq_false c_44)).2⟩) hS dX2_addCondition_112
      · have hcn := of_decide_eq_true c_44
        have hS0 : (sCnt S 1 cx).1 = 0 := by rw [sCnt_y hcn]; exact h0
        have hSI := sInv_c1 hsi h0 cx
        obtain ⟨hMk, hFl, hCa⟩ := id hMM
        obtain ⟨hv, nxt, hN, hzz, hkk, hww⟩ := id hVN
        refine zx_new (C := RX6) (T := TX6) (N := 7) (ci := 5) (fs := [.int (nI (0)), .int (nI (0)), .null, .null, .null, .null, .null]) hx hb hz wo_X6 tyX6 tyX6_ok hown (hz _ wl_X2_33) (hz _ wa_X6) (hz _ wi_X6) hK rfl df_X6 (by show 0 + 0 + 1 ≤ cE1 30 f (cst 30 f tv) cx; omega) (by show 0 + 0 + 7 ≤ cE1 80 f (cst 80 f tv) cx; omega) hS dX2_addCondition_47 (fun r H he_r hz9 hO_r hk9 hS => ?_)
        have hMk := hMk.keep hk9 (by first | exact id | exact rfl | omega | (dsimp only; omega))
        have hFl := hFl.keep hk9 (by first | exact id | exact rfl | omega | (dsimp only; omega))
        have hCa := hCa.keep hk9 (by first | exact id | exact rfl | omega | (dsimp only; omega))
        have hH := hH.keep hk9 (by first | exact id | exact rfl | omega | (dsimp only; omega))
        have hR9 := zR9.keep (rK_C G f pf Z d) hR9 hk9 (by intro q hq; exact hq.elim (fun hq => by first | exact id | omega | (dsimp only; omega)) (fun hq => by have hq1 := hZm q hq; first | exact id | omega | (dsimp only; omega)))
        have hVN := hVN.keep hk9 (by intro q hq; have hq1 := hZm q hq; first | exact id | omega | (dsimp only; omega))
        have hCH := hCH.keep hk9 ⟨by intro q hq; have hq1 := hZm q (Or.inr hq); first | exact id | omega | (dsimp only; omega), by omega⟩
        refine lv_dup hx hb dX2_addCondition_50 rfl ?_
        refine lv_iload hx hb dX2_addCondition_51 (lv_at hl 0 rfl) ?_
        obtain ⟨hv, nxt, hN, hzz, hkk, hww⟩ := id hVN
        refine lv_aload_n hx hb dX2_addCondition_53 rfl (lv_at hl 3 rfl) ?_
        refine zc_S (As := [.ref (ev)]) (rest := [.int (nI (csG f cx)), .ref (r), .ref (r)]) ⟨hx, hb, hml, hown, hts⟩ (c_isneg l G f pf 16 ev hv (f cx) (vo f cx) (nL f cx) (pf cx) nxt) (cwS 1 hts (zgS wm_X2_130 wu_X2_isNegated) rfl rfl rfl (by decide +kernel) ⟨by show 2 + 1 ≤ _; simp only [headSpec]; omega, by show 8 + (_ + 11) + 44 ≤ _; simp only [headSpec]; omega⟩) hK ⟨hN, hCH⟩ rfl hl.1 rfl (Nat.le_of_ble_eq_true rfl) dX2_addCondition_54 ⟨by show 0 + 0 + 1 ≤ cE1 30 f (cst 30 f tv) cx; omega, by show 0 + 0 + 7 ≤ cE1 80 f (cst 80 f tv) cx; omega⟩ ?_
        refine lv_aload_n hx hb dX2_addCondition_57 rfl (lv_at hl 3 rfl) ?_
        refine lv_null hx hb dX2_addCondition_58 ?_
        refine zx_IN (As := [.int (nI (csG f cx)), .int (nI (nB (nS1 (nL f cx) (decide (numv f (f cx) (vo f cx) = 0))))), .ref (ev), .null]) (rest := [.ref (r)]) (b := r) ⟨hx, hb, hml, hown, hts⟩ (c_rlinit_n l G r (csG f cx) (nS1 (nL f cx) (decide (numv f (f cx) (vo f cx) = 0))) ev 0) ⟨va_cnB 4 hts (zgN wc_X6_init) rfl rfl rfl (hK.2.1 _ wm_X2_92) (hz _ wi_X6) (by decide +kernel) ⟨by show 1 + 1 ≤ _; simp only [headSpec]; omega, by show 8 + (_ + 11) + 21 ≤ _; simp only [headSpec]; omega⟩, rfl, hz _ wn_X6_init⟩ hK hO_r rfl hl.1 rfl (Nat.le_of_ble_eq_true rfl) dX2_addCondition_59 ⟨by show 0 + 0 + 1 + 0 ≤ cE1 30 f (cst 30 f tv) cx; omega, by show 0 + 0 + 7 + 0 ≤ cE1 80 f (cst 80 f tv) cx; omega⟩ hS (by intro q hq; first | omega | (dsimp only at hq ⊢; omega)) (fun r9 H locs hPo hz9 hk9 hS => ?_)
        have hMk := hMk.keep hk9 (by first | exact id | exact rfl | omega | (dsimp only; omega))
        have hFl := hFl.keep hk9 (by first | exact id | exact rfl | omega | (dsimp only; omega))
        have hCa := hCa.keep hk9 (by first | exact id | exact rfl | omega | (dsimp only; omega))
        have hH := hH.keep hk9 (by first | exact id | exact rfl | omega | (dsimp only; omega))
        have hR9 := zR9.keep (rK_C G f pf Z d) hR9 hk9 (by intro q hq; exact hq.elim (fun hq => by first | exact id | omega | (dsimp only; omega)) (fun hq => by have hq1 := hZm q hq; first | exact id | omega | (dsimp only; omega)))
        have hVN := hVN.keep hk9 (by intro q hq; have hq1 := hZm q hq; first | exact id | omega | (dsimp only; omega))
        have hCH := hCH.keep hk9 ⟨by intro q hq; have hq1 := hZm q (Or.inr hq); first | exact id | omega | (dsimp only; omega), by omega⟩
        obtain ⟨rfl, hO_r⟩ := hPo
        refine W.eq (g2 := F0 m 62 ls ([.ref (r)])) rfl ?_
        refine lv_astore (lv' := [(5, .ref (r)), (4, .int (nI (csG f cx))), (0, .ref (mk)), (1, .ref (h)), (2, .ref (ev)), (3, .int (nI (dp)))]) hx hb dX2_addCondition_62 hl (by decide) rfl (fun ls hl => ?_)
        refine lv_aload_n hx hb dX2_addCondition_64 rfl (lv_at hl 3 rfl) ?_
        refine lv_aload hx hb dX2_addCondition_65 (lv_at hl 0 rfl) ?_
        refine zx_VN (As := [.ref (r)]) (rest := []) ⟨hx, hb, hml, hown, hts⟩ (c_raddK l G Z (rCk9 G f pf Z d) (rK_C G f pf Z d) h r sg ng vl pa nx lo n0 rs ts hhl (fun q hq => by have hq1 := hZm q hq; omega)) ⟨va_cnB 1 hts (zgN wc_X6_add) rfl rfl rfl (hK.2.1 _ wm_X2_95) (hz _ wi_X6) (by decide +kernel) ⟨by show 0 + 1 ≤ _; simp only [headSpec]; omega, by show 8 + (_ + 11) + 0 ≤ _; simp only [headSpec]; omega⟩, hz _ wn_X6_add, hz _ we_X6_add⟩ hK hH rfl ⟨hH, hR9⟩ rfl hl.1 rfl (Nat.le_of_ble_eq_true rfl) dX2_addCondition_67 ⟨by show 0 + 0 + 1 + 0 + 0 ≤ cE1 30 f (cst 30 f tv) cx; omega, by show 0 + 0 + 7 + 0 + 0 ≤ cE1 80 f (cst 80 f tv) cx; omega⟩ hS (by intro q hq; first | omega | (dsimp only at hq ⊢; omega)) (fun r9 H locs hPo hz9 hk9 hS => ?_)
        have hMk := hMk.keep hk9 (by first | exact id | exact rfl | omega | (dsimp only; omega))
        have hFl := hFl.keep hk9 (by first | exact id | exact rfl | omega | (dsimp only; omega))
        have hCa := hCa.keep hk9 (by first | exact id | exact rfl | omega | (dsimp only; omega))
        have hVN := hVN.keep hk9 (by intro q hq; have hq1 := hZm q hq; first | exact id | omega | (dsimp only; omega))
        have hCH := hCH.keep hk9 ⟨by intro q hq; have hq1 := hZm q (Or.inr hq); first | exact id | omega | (dsimp only; omega), by omega⟩
        have hO_r := hO_r.keep hk9 (by first | exact id | exact rfl | omega | (dsimp only; omega))
        obtain ⟨rfl, hH, hT9⟩ := hPo
        refine W.eq (g2 := F0 m 70 ls ([])) rfl ?_
        refine lv_iload hx hb dX2_addCondition_70 (lv_at hl 1 rfl) ?_
        refine lv_bipush (v := nI 15) hx hb dX2_addCondition_72 (by decide) ?_
        refine zi_icmp_eq (tgt := 84) hx hb dX2_addCondition_74 (by decide) (Nat.lt_trans (csG_lt f cx) (by decide)) (by omega) (fun c_74 => ?_) (fun c_74 => ?_)
        · have hk3 := kc_15 (kc := (ckF f d).1) (kf := (ckF f d).2) h0 hco hR hcn (by omega)
          have hcb := cE1_b (K := 30) (sub := cst 30 f tv) (Or.inl hk3.2)
          have hcb8 := cE1_b (K := 80) (sub := cst 80 f tv) (Or.inl hk3.2)
          refine lv_aload_n hx hb dX2_addCondition_84 rfl (lv_at hl 2 rfl) ?_
          refine lv_aload hx hb dX2_addCondition_85 (lv_at hl 0 rfl) ?_
          refine lv_iload_n hx hb dX2_addCondition_87 rfl (lv_at hl 5 rfl) ?_
          refine lv_iconst (v := nI 1) hx hb dX2_addCondition_88 (by decide) ?_
          refine zi_add hx hb dX2_addCondition_89 ?_
          refine zx_V (As := [.ref (r), .int (nI (dp + 1))]) (rest := []) ⟨hx, hb, hml, hown, hts⟩ (IH1 H.size mk fl rt ca c0 r (csG f cx) (nS1 (nL f cx) (decide (numv f (f cx) (vo f cx) = 0))) ev none none cx (sCnt S 1 cx) (dp + 1) tv htd hk3.2 (by have h9 := hkd; rw [hk3.2] at h9; exact h9) (by have h9 := hwd; rw [hk3.2] at h9; exact h9) hS0 hSI hZm hd1 hd2 (by omega) (by omega) (by omega) (by omega) (by omega) (by omega)) (cwV 2 hts (zgV wm_X2_117 wv_X2_addConditions) rfl rfl rfl (by decide +kernel) ⟨show 5 * d + 20 + 1 ≤ 5 * d + 23 by omega, show 8 + (4 + 11) + (140 * d + 400) ≤ 140 * d + 500 by omega⟩) hK hMk rfl ⟨⟨hMk, hFl, hCa⟩, hO_r, hVN, hCH, rfl⟩ rfl hl.1 rfl (Nat.le_of_ble_eq_true rfl) dX2_addCondition_90 ⟨by show 0 + 0 + 1 + 0 + 0 + (cst 30 f tv (vo f cx)) ≤ cE1 30 f (cst 30 f tv) cx; omega, by show 0 + 0 + 7 + 0 + 0 + (cst 80 f tv (vo f cx)) ≤ cE1 80 f (cst 80 f tv) cx; omega⟩ hS (by intro q hq; first | omega | (dsimp only at hq ⊢; omega)) (fun r9 H locs hPo hz9 hk9 hS => ?_)
          have hH := hH.keep hk9 (by first | exact id | exact rfl | omega | (dsimp only; omega))
          have hVN := hVN.keep hk9 (by intro q hq; have hq1 := hZm q hq; first | exact id | omega | (dsimp only; omega))
          have hCH := hCH.keep hk9 ⟨by intro q hq; have hq1 := hZm q (Or.inr hq); first | exact id | omega | (dsimp only; omega), by omega⟩
          have hT9 := zT9.keep (rK_C G f pf Z d) hT9 hk9 (by intro q hq; exact hq.elim (fun hq => by first | exact id | omega | (dsimp only; omega)) (fun hq => by have hq1 := hZm q hq; first | exact id | omega | (dsimp only; omega)))
          obtain ⟨rfl, T, hMM, hEq, hRu⟩ := hPo
          refine W.eq (g2 := F0 m 93 ls ([])) rfl ?_
          refine lv_goto (tgt := 112) hx hb dX2_addCondition_93 (by decide) ?_
          exact zx_v hx hb hr hlocks (by show 0 + 0 + 1 + 0 + 0 + (cst 30 f tv (vo f cx)) ≤ cE1 30 f (cst 30 f tv) cx; omega) (by show 0 + 0 + 7 + 0 + 0 + (cst 80 f tv (vo f cx)) ≤ cE1 80 f (cst 80 f tv) cx; omega) (⟨rfl, T, rs ++ [r], hMM, by rw [hk3.1]; exact hEq, fun z => by obtain ⟨rs1, g1, g2⟩ := hRu z; exact ⟨hH, ac_fin hT9 (by rw [← hsg, ← hng]; exact g1) (by omega) (by omega) hVN.v (by rw [← hsg]; exact csG_lt f cx) (fun _ => RuL_lo g2 (by omega)) (fun z9 => by omega)⟩⟩) hS dX2_addCondition_112
        · refine lv_iload hx hb dX2_addCondition_77 (lv_at hl 1 rfl) ?_
          refine lv_bipush (v := nI 13) hx hb dX2_addCondition_79 (by decide) ?_
          refine zi_icmp_ne (tgt := 96) hx hb dX2_addCondition_81 (by decide) (Nat.lt_trans (csG_lt f cx) (by decide)) (by omega) (fun c_81 => ?_) (fun c_81 => ?_)
          · refine lv_iload hx hb dX2_addCondition_96 (lv_at hl 1 rfl) ?_
            refine lv_bipush (v := nI 14) hx hb dX2_addCondition_98 (by decide) ?_
            refine zi_icmp_ne (tgt := 112) hx hb dX2_addCondition_100 (by decide) (Nat.lt_trans (csG_lt f cx) (by decide)) (by omega) (fun c_100 => ?_) (fun c_100 => ?_)
            · exact zx_v hx hb hr hlocks (by show 0 + 0 + 1 + 0 + 0 ≤ cE1 30 f (cst 30 f tv) cx; omega) (by show 0 + 0 + 7 + 0 + 0 ≤ cE1 80 f (cst 80 f tv) cx; omega) (⟨rfl, (sCnt S 1 cx), rs ++ [r], ⟨hMk, hFl, hCa⟩, by rw [kc_o h0 hco hR hcn (by omega) (by omega) (by omega)]; exact eqS.rf _, fun _ => ⟨hH, ac_fin (rs1 := []) hT9 (by rw [← hsg, ← hng]; exact hO_r) (by omega) (by omega) hVN.v (by rw [← hsg]; exact csG_lt f cx) (fun z9 => by omega) (fun z9 => by omega)⟩⟩) hS dX2_addCondition_112
            · have hk3 := kc_14 (kc := (ckF f d).1) (kf := (ckF f d).2) h0 hco hR hcn (by omega)
              have hcb := cE1_b (K := 30) (sub := cst 30 f tv) (Or.inl hk3.2)
              have hcb8 := cE1_b (K := 80) (sub := cst 80 f tv) (Or.inl hk3.2)
              refine lv_aload_n hx hb dX2_addCondition_103 rfl (lv_at hl 2 rfl) ?_
              refine lv_aload hx hb dX2_addCondition_104 (lv_at hl 0 rfl) ?_
              refine lv_iload_n hx hb dX2_addCondition_106 rfl (lv_at hl 5 rfl) ?_
              refine lv_iconst (v := nI 1) hx hb dX2_addCondition_107 (by decide) ?_
              refine zi_add hx hb dX2_addCondition_108 ?_
              refine zx_V (As := [.ref (r), .int (nI (dp + 1))]) (rest := []) ⟨hx, hb, hml, hown, hts⟩ (IH2 H.size mk fl rt ca c0 r (csG f cx) (nS1 (nL f cx) (decide (numv f (f cx) (vo f cx) = 0))) ev none none cx (sCnt S 1 cx) (dp + 1) tv htd hk3.2 (by have h9 := hkd; rw [hk3.2] at h9; exact h9) (by have h9 := hwd; rw [hk3.2] at h9; exact h9) hS0 hSI hZm hd1 hd2 (by omega) (by omega) (by omega) (by omega) (by omega) (by omega)) (cwV 2 hts (zgV wm_X2_28 wv_X2_addClauses) rfl rfl rfl (by decide +kernel) ⟨show 5 * d + 20 + 1 ≤ 5 * d + 23 by omega, show 8 + (4 + 11) + (140 * d + 400) ≤ 140 * d + 500 by omega⟩) hK hMk rfl ⟨⟨hMk, hFl, hCa⟩, hO_r, hVN, hCH, rfl⟩ rfl hl.1 rfl (Nat.le_of_ble_eq_true rfl) dX2_addCondition_109 ⟨by show 0 + 0 + 1 + 0 + 0 + (cst 30 f tv (vo f cx)) ≤ cE1 30 f (cst 30 f tv) cx; omega, by show 0 + 0 + 7 + 0 + 0 + (cst 80 f tv (vo f cx)) ≤ cE1 80 f (cst 80 f tv) cx; omega⟩ hS (by intro q hq; first | omega | (dsimp only at hq ⊢; omega)) (fun r9 H locs hPo hz9 hk9 hS => ?_)
              have hH := hH.keep hk9 (by first | exact id | exact rfl | omega | (dsimp only; omega))
              have hVN := hVN.keep hk9 (by intro q hq; have hq1 := hZm q hq; first | exact id | omega | (dsimp only; omega))
              have hCH := hCH.keep hk9 ⟨by intro q hq; have hq1 := hZm q (Or.inr hq); first | exact id | omega | (dsimp only; omega), by omega⟩
              have hT9 := zT9.keep (rK_C G f pf Z d) hT9 hk9 (by intro q hq; exact hq.elim (fun hq => by first | exact id | omega | (dsimp only; omega)) (fun hq => by have hq1 := hZm q hq; first | exact id | omega | (dsimp only; omega)))
              obtain ⟨rfl, T, hMM, hEq, hRu⟩ := hPo
              refine W.eq (g2 := F0 m 112 ls ([])) rfl ?_
              exact zx_v hx hb hr hlocks (by show 0 + 0 + 1 + 0 + 0 + (cst 30 f tv (vo f cx)) ≤ cE1 30 f (cst 30 f tv) cx; omega) (by show 0 + 0 + 7 + 0 + 0 + (cst 80 f tv (vo f cx)) ≤ cE1 80 f (cst 80 f tv) cx; omega) (⟨rfl, T, rs ++ [r], hMM, by rw [hk3.1]; exact hEq, fun z => by obtain ⟨rs1, g1, g2⟩ := hRu z; exact ⟨hH, ac_fin hT9 (by rw [← hsg, ← hng]; exact g1) (by omega) (by omega) hVN.v (by rw [← hsg]; exact csG_lt f cx) (fun z9 => by omega) (fun _ => RuF_lo g2 (by omega))⟩⟩) hS dX2_addCondition_112
          · have hk3 := kc_15 (kc := (ckF f d).1) (kf := (ckF f d).2) h0 hco hR hcn (by omega)
            have hcb := cE1_b (K := 30) (sub := cst 30 f tv) (Or.inl hk3.2)
            have hcb8 := cE1_b (K := 80) (sub := cst 80 f tv) (Or.inl hk3.2)
            refine lv_aload_n hx hb dX2_addCondition_84 rfl (lv_at hl 2 rfl) ?_
            refine lv_aload hx hb dX2_addCondition_85 (lv_at hl 0 rfl) ?_
            refine lv_iload_n hx hb dX2_addCondition_87 rfl (lv_at hl 5 rfl) ?_
            refine lv_iconst (v := nI 1) hx hb dX2_addCondition_88 (by decide) ?_
            refine zi_add hx hb dX2_addCondition_89 ?_
            refine zx_V (As := [.ref (r), .int (nI (dp + 1))]) (rest := []) ⟨hx, hb, hml, hown, hts⟩ (IH1 H.size mk fl rt ca c0 r (csG f cx) (nS1 (nL f cx) (decide (numv f (f cx) (vo f cx) = 0))) ev none none cx (sCnt S 1 cx) (dp + 1) tv htd hk3.2 (by have h9 := hkd; rw [hk3.2] at h9; exact h9) (by have h9 := hwd; rw [hk3.2] at h9; exact h9) hS0 hSI hZm hd1 hd2 (by omega) (by omega) (by omega) (by omega) (by omega) (by omega)) (cwV 2 hts (zgV wm_X2_117 wv_X2_addConditions) rfl rfl rfl (by decide +kernel) ⟨show 5 * d + 20 + 1 ≤ 5 * d + 23 by omega, show 8 + (4 + 11) + (140 * d + 400) ≤ 140 * d + 500 by omega⟩) hK hMk rfl ⟨⟨hMk, hFl, hCa⟩, hO_r, hVN, hCH, rfl⟩ rfl hl.1 rfl (Nat.le_of_ble_eq_true rfl) dX2_addCondition_90 ⟨by show 0 + 0 + 1 + 0 + 0 + (cst 30 f tv (vo f cx)) ≤ cE1 30 f (cst 30 f tv) cx; omega, by show 0 + 0 + 7 + 0 + 0 + (cst 80 f tv (vo f cx)) ≤ cE1 80 f (cst 80 f tv) cx; omega⟩ hS (by intro q hq; first | omega | (dsimp only at hq ⊢; omega)) (fun r9 H locs hPo hz9 hk9 hS => ?_)
            have hH := hH.keep hk9 (by first | exact id | exact rfl | omega | (dsimp only; omega))
            have hVN := hVN.keep hk9 (by intro q hq; have hq1 := hZm q hq; first | exact id | omega | (dsimp only; omega))
            have hCH := hCH.keep hk9 ⟨by intro q hq; have hq1 := hZm q (Or.inr hq); first | exact id | omega | (dsimp only; omega), by omega⟩
            have hT9 := zT9.keep (rK_C G f pf Z d) hT9 hk9 (by intro q hq; exact hq.elim (fun hq => by first | exact id | omega | (dsimp only; omega)) (fun hq => by have hq1 := hZm q hq; first | exact id | omega | (dsimp only; omega)))
            obtain ⟨rfl, T, hMM, hEq, hRu⟩ := hPo
            refine W.eq (g2 := F0 m 93 ls ([])) rfl ?_
            refine lv_goto (tgt := 112) hx hb dX2_addCondition_93 (by decide) ?_
            exact zx_v hx hb hr hlocks (by show 0 + 0 + 1 + 0 + 0 + (cst 30 f tv (vo f cx)) ≤ cE1 30 f (cst 30 f tv) cx; omega) (by show 0 + 0 + 7 + 0 + 0 + (cst 80 f tv (vo f cx)) ≤ cE1 80 f (cst 80 f tv) cx; omega) (⟨rfl, T, rs ++ [r], hMM, by rw [hk3.1]; exact hEq, fun z => by obtain ⟨rs1, g1, g2⟩ := hRu z; exact ⟨hH, ac_fin hT9 (by rw [← hsg, ← hng]; exact g1) (by omega) (by omega) hVN.v (by rw [← hsg]; exact csG_lt f cx) (fun _ => RuL_lo g2 (by omega)) (fun z9 => by omega)⟩⟩) hS dX2_addCondition_112
    · have hR : isR f (coN f cx) (f cx) (vo f cx) = false := by rw [← csG_R hz0 hco]; exact c_26
      refine lv_aload_n hx hb dX2_addCondition_29 rfl (lv_at hl 1 rfl) ?_
      refine lv_iconst (v := nI 4) hx hb dX2_addCondition_30 (by decide) ?_
      refine lv_aload_n hx hb dX2_addCondition_31 rfl (lv_at hl 3 rfl) ?_
      refine zx_V (As := [.int (nI (4)), .ref (ev)]) (rest := []) ⟨hx, hb, hml, hown, hts⟩ (c_refuse l G mk fl rt ca c0 pf S f Z ev cx 4 (by decide) h0 hZm hd1 hd2) (cwV 2 hts (zgV wm_X2_68 wv_X2_refuse) rfl rfl rfl (by decide +kernel) ⟨by show 0 + 1 ≤ _; simp only [headSpec]; omega, by show 8 + (_ + 11) + 0 ≤ _; simp only [headSpec]; omega⟩) hK hMk rfl ⟨⟨hMk, hFl, hCa⟩, hVN⟩ rfl hl.1 rfl (Nat.le_of_ble_eq_true rfl) dX2_addCondition_32 ⟨by show 0 + 0 ≤ cE1 30 f (cst 30 f tv) cx; omega, by show 0 + 0 ≤ cE1 80 f (cst 80 f tv) cx; omega⟩ hS (by intro q hq; first | omega | (dsimp only at hq ⊢; omega)) (fun r9 H locs hPo hz9 hk9 hS => ?_)
      have hH := hH.keep hk9 (by first | exact id | exact rfl | omega | (dsimp only; omega))
      have hR9 := zR9.keep (rK_C G f pf Z d) hR9 hk9 (by intro q hq; exact hq.elim (fun hq => by first | exact id | omega | (dsimp only; omega)) (fun hq => by have hq1 := hZm q hq; first | exact id | omega | (dsimp only; omega)))
      have hVN := hVN.keep hk9 (by intro q hq; have hq1 := hZm q hq; first | exact id | omega | (dsimp only; omega))
      have hCH := hCH.keep hk9 ⟨by intro q hq; have hq1 := hZm q (Or.inr hq); first | exact id | omega | (dsimp only; omega), by omega⟩
      obtain ⟨rfl, hMM⟩ := hPo
      refine W.eq (g2 := F0 m 35 ls ([])) rfl ?_
      refine lv_goto (tgt := 112) hx hb dX2_addCondition_35 (by decide) ?_
      exact zx_v hx hb hr hlocks (by show 0 + 0 ≤ cE1 30 f (cst 30 f tv) cx; omega) (by show 0 + 0 ≤ cE1 80 f (cst 80 f tv) cx; omega) (⟨rfl, _, [], hMM, kc_4 hco hR, fun z => absurd z (sSay_w (by decide))⟩) hS dX2_addCondition_112
  · have hco : coN f cx = 0 := Classical.byContradiction (fun z => csG_ne hz0 z c_8)
    refine lv_aload_n hx hb dX2_addCondition_11 rfl (lv_at hl 1 rfl) ?_
    refine lv_iconst (v := nI 1) hx hb dX2_addCondition_12 (by decide) ?_
    refine lv_aload_n hx hb dX2_addCondition_13 rfl (lv_at hl 3 rfl) ?_
    refine zx_V (As := [.int (nI (1)), .ref (ev)]) (rest := []) ⟨hx, hb, hml, hown, hts⟩ (c_refuse l G mk fl rt ca c0 pf S f Z ev cx 1 (by decide) h0 hZm hd1 hd2) (cwV 2 hts (zgV wm_X2_68 wv_X2_refuse) rfl rfl rfl (by decide +kernel) ⟨by show 0 + 1 ≤ _; simp only [headSpec]; omega, by show 8 + (_ + 11) + 0 ≤ _; simp only [headSpec]; omega⟩) hK hMk rfl ⟨⟨hMk, hFl, hCa⟩, hVN⟩ rfl hl.1 rfl (Nat.le_of_ble_eq_true rfl) dX2_addCondition_14 ⟨by show 0 + 0 ≤ cE1 30 f (cst 30 f tv) cx; omega, by show 0 + 0 ≤ cE1 80 f (cst 80 f tv) cx; omega⟩ hS (by intro q hq; first | omega | (dsimp only at hq ⊢; omega)) (fun r9 H locs hPo hz9 hk9 hS => ?_)
    have hH := hH.keep hk9 (by first | exact id | exact rfl | omega | (dsimp only; omega))
    have hR9 := zR9.keep (rK_C G f pf Z d) hR9 hk9 (by intro q hq; exact hq.elim (fun hq => by first | exact id | omega | (dsimp only; omega)) (fun hq => by have hq1 := hZm q hq; first | exact id | omega | (dsimp only; omega)))
    have hVN := hVN.keep hk9 (by intro q hq; have hq1 := hZm q hq; first | exact id | omega | (dsimp only; omega))
    have hCH := hCH.keep hk9 ⟨by intro q hq; have hq1 := hZm q (Or.inr hq); first | exact id | omega | (dsimp only; omega), by omega⟩
    obtain ⟨rfl, hMM⟩ := hPo
    refine W.eq (g2 := F0 m 17 ls ([])) rfl ?_
    refine lv_goto (tgt := 112) hx hb dX2_addCondition_17 (by decide) ?_
    exact zx_v hx hb hr hlocks (by show 0 + 0 ≤ cE1 30 f (cst 30 f tv) cx; omega) (by show 0 + 0 ≤ cE1 80 f (cst 80 f tv) cx; omega) (⟨rfl, _, [], hMM, kc_1 h0 hco, fun z => absurd z (sSay_w (by decide))⟩) hS dX2_addCondition_112
