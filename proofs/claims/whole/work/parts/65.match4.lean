theorem c_tl_all (l : Launch) (G : zG) (f : Nat → Nat) (pf pf2 : Nat → Int32) (Z : Nat → Prop) (mt ms hm d : Nat) (IH1 : C_cH l G f pf pf2 Z mt ms hm d) (IH2 : C_fF l G f pf pf2 Z mt ms hm d) (Zs : Nat → Prop) (lo r hi S : Nat) (ng : Bool) (x : Nat) (nx : Option Nat) : ∀ t, C_tl l G f pf pf2 Z Zs mt ms hm d lo r hi S ng x nx t
  | 0 => fun n st q v hv k a w pl nxt lev h1 h2 h3 h4 => by
    cases st with
    | none => exact c_tl_n l G f pf pf2 Z mt ms hm d IH1 IH2 Zs lo r hi S ng x nx 0 n q v hv k a w pl nxt lev h1 h2 h3 h4
    | some sa => exact c_tl_r l G f pf pf2 Z mt ms hm d IH1 IH2 Zs lo r hi S ng x nx 0 (fun t1 z => by omega) n sa q v hv k a w pl nxt lev h1 h2 h3 h4
  | t + 1 => fun n st q v hv k a w pl nxt lev h1 h2 h3 h4 => by
    have IH := c_tl_all l G f pf pf2 Z mt ms hm d IH1 IH2 Zs lo r hi S ng x nx t
    cases st with
    | none => exact c_tl_n l G f pf pf2 Z mt ms hm d IH1 IH2 Zs lo r hi S ng x nx (t + 1) n q v hv k a w pl nxt lev h1 h2 h3 h4
    | some sa => exact c_tl_r l G f pf pf2 Z mt ms hm d IH1 IH2 Zs lo r hi S ng x nx (t + 1) (fun t1 z => by
        have e : t1 = t := by omega
        subst e
        exact ⟨IH, c_tr_ l G f pf pf2 Z mt ms hm d IH1 IH2 Zs lo r hi S ng x nx t1 IH⟩) n sa q v hv k a w pl nxt lev h1 h2 h3 h4

set_option maxHeartbeats 4000000 in
set_option maxRecDepth 100000 in
theorem c_cd_n (l : Launch) (G : zG) (f : Nat → Nat) (pf pf2 : Nat → Int32) (Z : Nat → Prop) (mt ms hm d : Nat) (IH1 : C_cH l G f pf pf2 Z mt ms hm d) (IH2 : C_fF l G f pf pf2 Z mt ms hm d) (Zs : Nat → Prop) (lo r hi S : Nat) (ng : Bool) (x : Nat) (nx : Option Nat) (n : Nat) (sa : Nat) (q t : Nat) (v hv k a : Nat) (w : List Nat) (pl : Int32) (nxt : Option Nat) (lev : Nat) (hlev : lev + (d + 1) + t ≤ 40) (ht : t ≤ 16) (hk : okV f t k a) (hw : okW f t k a) : Met l yX4_conditionHolds wsX4_conditionHolds (rmK 100 2870 d) (zP G [.ref (mt), .ref (r), .null, .ref (v), .int (nI (lev))] (fun H => MA G H f pf mt ms hm ∧ RCn G H f pf2 Z (RuL G H f pf2 Z d).1 (RuL G H f pf2 Z d).2 lo r hi (S, ng, x) nx ∧ Spt G H Zs f n (none) (q) ∧ Nod G H f pf t v hv k a w pl nxt)) (zR (.int (nI (nB (cdS f (ecF f d).1 (ecF f d).2 (S, ng, x) q k a))))) 0 0 (fun _ => False) := by
  refine Met.ofW (cc := cX4_conditionHolds) (maxL := 7) (ret := (some .boolean)) (by decide) rfl ?_
  intro p en s m args below meth c s₁ B hml hv
  obtain ⟨rfl, hP, hK⟩ := hv
  have hx := B.exec
  have hb := B.bytes
  have hr := B.returns
  have hts := atoms_spec (ws := wsX4_conditionHolds) B.pre
  have hz : ∀ w ∈ zW, w.before _ s = true := fun w h => hts w (List.mem_cons_of_mem _ h)
  have hown : s.vm.findClass RX4 = some m.cls := findClass_of_methodNamed B.named
  have hlocks := B.notSynchronized
  obtain ⟨hMA, hRC, hSt, hN⟩ := id hP
  obtain ⟨hM, hMs, hCH⟩ := id hMA
  obtain ⟨nmm, txm, fm, lm, nmx, hOm, hSm, hTm, hvlm⟩ := hMs.o
  obtain ⟨vl, rs, hR, hlo, hhi, ⟨hv2, pl2, nx2, hNv, hZ, hkv, hwv⟩, hS16, hPC, hPF⟩ := id hRC
  have htl : TL f (lfS f (ecF f d).1 (ecF f d).2 S x) 16 q k a = TL f (lfS f (ecF f d).1 (ecF f d).2 S x) t q k a := TL_16 (n := 16 - t) hk (by omega)
  have hl := lv_entry ([.ref (mt), .ref (r), .null, .ref (v), .int (nI (lev))]) (n := 7) (Nat.le_of_ble_eq_true rfl)
  rw [lg_entry_eq]
  generalize (lg_sl ([.ref (mt), .ref (r), .null, .ref (v), .int (nI (lev))]) ++ List.replicate (7 - (lg_sl ([.ref (mt), .ref (r), .null, .ref (v), .int (nI (lev))])).length) Slot.unset).toArray = ls at hl ⊢
  have hl : lv_has ls 7 [(0, .ref (mt)), (1, .ref (r)), (2, .null), (3, .ref (v)), (4, .int (nI (lev)))] := hl
  refine lv_aload_n hx hb dX4_conditionHolds_0 rfl (lv_at hl 1 rfl) ?_
  refine zi_getN (C := RX6) (T := TX6) (N := 7) (v := .int (nI (S))) hx hb hz wo_X6 hown hK hR rfl 0 (by decide) wf_X4_37 (fun _ h9 => h9) rfl dX4_conditionHolds_1 ?_
  refine lv_bipush (v := nI 15) hx hb dX4_conditionHolds_4 (by decide) ?_
  refine zi_icmp_ne (tgt := 25) hx hb dX4_conditionHolds_6 (by decide) (Nat.lt_trans hS16 (by decide)) (by omega) (fun c_6 => ?_) (fun c_6 => ?_)
  · refine lv_aload_n hx hb dX4_conditionHolds_25 rfl (lv_at hl 0 rfl) ?_
    refine lv_aload_n hx hb dX4_conditionHolds_26 rfl (lv_at hl 1 rfl) ?_
    refine lv_aload_nN hx hb dX4_conditionHolds_27 rfl (lv_at hl 2 rfl) ?_
    refine lv_aload_n hx hb dX4_conditionHolds_28 rfl (lv_at hl 3 rfl) ?_
    refine lv_iload hx hb dX4_conditionHolds_29 (lv_at hl 4 rfl) ?_
    refine zc_V (As := [.ref (r), .null, .ref (v), .int (nI (lev))]) (rest := []) ⟨hx, hb, hml, hown, hts⟩ (c_tl_all l G f pf pf2 Z mt ms hm d IH1 IH2 Zs lo r hi S ng x nx t n (none) q v hv k a w pl nxt lev (by omega) ht hk hw) (cwV 4 hts (zgV wm_X4_64 wv_X4_tryLeaves) rfl rfl rfl (by decide +kernel) ⟨show 50 * d + 67 + 2 * t + 1 ≤ 50 * d + 100 by omega, show 8 + (6 + 11) + (1250 * d + 1880 + 60 * t) ≤ 1250 * d + 2870 by omega⟩) hK hM rfl ⟨hMA, hRC, hSt, hN⟩ rfl hl.1 rfl (Nat.le_of_ble_eq_true rfl) dX4_conditionHolds_31 ⟨Nat.zero_le _, Nat.zero_le _⟩ ?_
    refine lv_istore (lv' := [(6, .int (nI (TL f (lfS f (ecF f d).1 (ecF f d).2 S x) t q k a))), (0, .ref (mt)), (1, .ref (r)), (2, .null), (3, .ref (v)), (4, .int (nI (lev)))]) hx hb dX4_conditionHolds_34 hl (by decide) rfl (fun ls hl => ?_)
    refine lv_iload hx hb dX4_conditionHolds_36 (lv_at hl 0 rfl) ?_
    refine zi_if_ne (tgt := 55) hx hb dX4_conditionHolds_38 (by decide) (Nat.lt_trans (TL_lt _ _ _ _) (by decide)) (fun c_38 => ?_) (fun c_38 => ?_)
    · refine lv_iload hx hb dX4_conditionHolds_55 (lv_at hl 0 rfl) ?_
      refine lv_iconst (v := nI 2) hx hb dX4_conditionHolds_57 (by decide) ?_
      refine zi_icmp_ne (tgt := 65) hx hb dX4_conditionHolds_58 (by decide) (Nat.lt_trans (TL_lt _ _ _ _) (by decide)) (by omega) (fun c_58 => ?_) (fun c_58 => ?_)
      · have hA : anS f (lfS f (ecF f d).1 (ecF f d).2 S x) q k a = false := by rw [anS_n (by rw [htl]; exact c_38), htl, decide_eq_false c_58]
        refine lv_iconst (v := nI 0) hx hb dX4_conditionHolds_65 (by decide) ?_
        refine lv_istore (lv' := [(5, .int (nI (0))), (6, .int (nI (TL f (lfS f (ecF f d).1 (ecF f d).2 S x) t q k a))), (0, .ref (mt)), (1, .ref (r)), (2, .null), (3, .ref (v)), (4, .int (nI (lev)))]) hx hb dX4_conditionHolds_66 hl (by decide) rfl (fun ls hl => ?_)
        refine lv_iload hx hb dX4_conditionHolds_68 (lv_at hl 0 rfl) ?_
        refine lv_aload_n hx hb dX4_conditionHolds_70 rfl (lv_at hl 3 rfl) ?_
        refine zi_getN (C := RX6) (T := TX6) (N := 7) (v := .int (nI (nB (ng)))) hx hb hz wo_X6 hown hK hR rfl 1 (by decide) wf_X4_45 (fun _ h9 => h9) rfl dX4_conditionHolds_71 ?_
        refine zi_icmp_eq (tgt := 81) hx hb dX4_conditionHolds_74 (by decide) (by omega) (Nat.lt_trans (nB_lt _) (by decide)) (fun c_74 => ?_) (fun c_74 => ?_)
        · refine lv_iconst (v := nI 0) hx hb dX4_conditionHolds_81 (by decide) ?_
          exact zr_z hx hb hr hlocks (by rw [cdS_n c_6, hA]; revert c_74; cases ng <;> decide) dX4_conditionHolds_82
        · refine lv_iconst (v := nI 1) hx hb dX4_conditionHolds_77 (by decide) ?_
          refine lv_goto (tgt := 82) hx hb dX4_conditionHolds_78 (by decide) ?_
          exact zr_z hx hb hr hlocks (by rw [cdS_n c_6, hA]; revert c_74; cases ng <;> decide) dX4_conditionHolds_82
      · have hA : anS f (lfS f (ecF f d).1 (ecF f d).2 S x) q k a = true := by rw [anS_n (by rw [htl]; exact c_38), htl, decide_eq_true c_58]
        refine lv_iconst (v := nI 1) hx hb dX4_conditionHolds_61 (by decide) ?_
        refine lv_goto (tgt := 66) hx hb dX4_conditionHolds_62 (by decide) ?_
        refine lv_istore (lv' := [(5, .int (nI (1))), (6, .int (nI (TL f (lfS f (ecF f d).1 (ecF f d).2 S x) t q k a))), (0, .ref (mt)), (1, .ref (r)), (2, .null), (3, .ref (v)), (4, .int (nI (lev)))]) hx hb dX4_conditionHolds_66 hl (by decide) rfl (fun ls hl => ?_)
        refine lv_iload hx hb dX4_conditionHolds_68 (lv_at hl 0 rfl) ?_
        refine lv_aload_n hx hb dX4_conditionHolds_70 rfl (lv_at hl 3 rfl) ?_
        refine zi_getN (C := RX6) (T := TX6) (N := 7) (v := .int (nI (nB (ng)))) hx hb hz wo_X6 hown hK hR rfl 1 (by decide) wf_X4_45 (fun _ h9 => h9) rfl dX4_conditionHolds_71 ?_
        refine zi_icmp_eq (tgt := 81) hx hb dX4_conditionHolds_74 (by decide) (by omega) (Nat.lt_trans (nB_lt _) (by decide)) (fun c_74 => ?_) (fun c_74 => ?_)
        · refine lv_iconst (v := nI 0) hx hb dX4_conditionHolds_81 (by decide) ?_
          exact zr_z hx hb hr hlocks (by rw [cdS_n c_6, hA]; revert c_74; cases ng <;> decide) dX4_conditionHolds_82
        · refine lv_iconst (v := nI 1) hx hb dX4_conditionHolds_77 (by decide) ?_
          refine lv_goto (tgt := 82) hx hb dX4_conditionHolds_78 (by decide) ?_
          exact zr_z hx hb hr hlocks (by rw [cdS_n c_6, hA]; revert c_74; cases ng <;> decide) dX4_conditionHolds_82
    · refine lv_aload_n hx hb dX4_conditionHolds_41 rfl (lv_at hl 1 rfl) ?_
      refine lv_aload_n hx hb dX4_conditionHolds_42 rfl (lv_at hl 2 rfl) ?_
      refine lv_aload_n hx hb dX4_conditionHolds_43 rfl (lv_at hl 1 rfl) ?_
      refine zi_get (C := RX4) (T := TX4) (N := 1) (v := .ref (ms)) hx hb hz wo_X4 hown hK hM rfl 0 (by decide) (hz _ wf_X4_18) (fun _ h9 => h9) rfl dX4_conditionHolds_44 ?_
      refine lv_iload hx hb dX4_conditionHolds_47 (lv_at hl 5 rfl) ?_
      refine zc_V (As := [.ref (r), .ref (ms), .int (nI (lev))]) (rest := []) ⟨hx, hb, hml, hown, hts⟩ (c_tleaf l G f pf pf2 Z mt ms hm d IH1 IH2 lo r hi S ng x nx 0 ms hm 0 0 [] (-1) none lev (by omega) (by omega) (okV_0 f 0) (fun q9 => by omega)) (cwV 3 hts (zgV wm_X4_68 wv_X4_tryLeaf) rfl rfl rfl (by decide +kernel) ⟨show 50 * d + 66 + 1 ≤ 50 * d + 100 by omega, show 8 + (4 + 11) + (1250 * d + 1850) ≤ 1250 * d + 2870 by omega⟩) hK hM rfl ⟨hMA, hRC, hMs⟩ rfl hl.1 rfl (Nat.le_of_ble_eq_true rfl) dX4_conditionHolds_49 ⟨Nat.zero_le _, Nat.zero_le _⟩ ?_
      refine lv_goto (tgt := 57) hx hb dX4_conditionHolds_52 (by decide) ?_
      refine lv_iconst (v := nI 2) hx hb dX4_conditionHolds_57 (by decide) ?_
      refine zi_icmp_ne (tgt := 65) hx hb dX4_conditionHolds_58 (by decide) (by have := nB_lt (lfS f (ecF f d).1 (ecF f d).2 S x 0 0); omega) (by omega) (fun c_58 => ?_) (fun c_58 => ?_)
      · have hA : anS f (lfS f (ecF f d).1 (ecF f d).2 S x) q k a = false := by rw [anS_0 (htl.trans c_38)]; exact nB1n c_58
        refine lv_iconst (v := nI 0) hx hb dX4_conditionHolds_65 (by decide) ?_
        refine lv_istore (lv' := [(5, .int (nI (0))), (6, .int (nI (TL f (lfS f (ecF f d).1 (ecF f d).2 S x) t q k a))), (0, .ref (mt)), (1, .ref (r)), (2, .null), (3, .ref (v)), (4, .int (nI (lev)))]) hx hb dX4_conditionHolds_66 hl (by decide) rfl (fun ls hl => ?_)
        refine lv_iload hx hb dX4_conditionHolds_68 (lv_at hl 0 rfl) ?_
        refine lv_aload_n hx hb dX4_conditionHolds_70 rfl (lv_at hl 3 rfl) ?_
        refine zi_getN (C := RX6) (T := TX6) (N := 7) (v := .int (nI (nB (ng)))) hx hb hz wo_X6 hown hK hR rfl 1 (by decide) wf_X4_45 (fun _ h9 => h9) rfl dX4_conditionHolds_71 ?_
        refine zi_icmp_eq (tgt := 81) hx hb dX4_conditionHolds_74 (by decide) (by omega) (Nat.lt_trans (nB_lt _) (by decide)) (fun c_74 => ?_) (fun c_74 => ?_)
        · refine lv_iconst (v := nI 0) hx hb dX4_conditionHolds_81 (by decide) ?_
          exact zr_z hx hb hr hlocks (by rw [cdS_n c_6, hA]; revert c_74; cases ng <;> decide) dX4_conditionHolds_82
        · refine lv_iconst (v := nI 1) hx hb dX4_conditionHolds_77 (by decide) ?_
          refine lv_goto (tgt := 82) hx hb dX4_conditionHolds_78 (by decide) ?_
          exact zr_z hx hb hr hlocks (by rw [cdS_n c_6, hA]; revert c_74; cases ng <;> decide) dX4_conditionHolds_82
      · have hA : anS f (lfS f (ecF f d).1 (ecF f d).2 S x) q k a = true := by rw [anS_0 (htl.trans c_38)]; exact nB12 c_58
        refine lv_iconst (v := nI 1) hx hb dX4_conditionHolds_61 (by decide) ?_
        refine lv_goto (tgt := 66) hx hb dX4_conditionHolds_62 (by decide) ?_
        refine lv_istore (lv' := [(5, .int (nI (1))), (6, .int (nI (TL f (lfS f (ecF f d).1 (ecF f d).2 S x) t q k a))), (0, .ref (mt)), (1, .ref (r)), (2, .null), (3, .ref (v)), (4, .int (nI (lev)))]) hx hb dX4_conditionHolds_66 hl (by decide) rfl (fun ls hl => ?_)
        refine lv_iload hx hb dX4_conditionHolds_68 (lv_at hl 0 rfl) ?_
        refine lv_aload_n hx hb dX4_conditionHolds_70 rfl (lv_at hl 3 rfl) ?_
        refine zi_getN (C := RX6) (T := TX6) (N := 7) (v := .int (nI (nB (ng)))) hx hb hz wo_X6 hown hK hR rfl 1 (by decide) wf_X4_45 (fun _ h9 => h9) rfl dX4_conditionHolds_71 ?_
        refine zi_icmp_eq (tgt := 81) hx hb dX4_conditionHolds_74 (by decide) (by omega) (Nat.lt_trans (nB_lt _) (by decide)) (fun c_74 => ?_) (fun c_74 => ?_)
        · refine lv_iconst (v := nI 0) hx hb dX4_conditionHolds_81 (by decide) ?_
          exact zr_z hx hb hr hlocks (by rw [cdS_n c_6, hA]; revert c_74; cases ng <;> decide) dX4_conditionHolds_82
        · refine lv_iconst (v := nI 1) hx hb dX4_conditionHolds_77 (by decide) ?_
          refine lv_goto (tgt := 82) hx hb dX4_conditionHolds_78 (by decide) ?_
          exact zr_z hx hb hr hlocks (by rw [cdS_n c_6, hA]; revert c_74; cases ng <;> decide) dX4_conditionHolds_82
  · refine lv_aload_n hx hb dX4_conditionHolds_9 rfl (lv_at hl 0 rfl) ?_
    refine lv_aload_n hx hb dX4_conditionHolds_10 rfl (lv_at hl 1 rfl) ?_
    refine lv_aload_nN hx hb dX4_conditionHolds_11 rfl (lv_at hl 2 rfl) ?_
    refine lv_aload_n hx hb dX4_conditionHolds_12 rfl (lv_at hl 3 rfl) ?_
    refine lv_iload hx hb dX4_conditionHolds_13 (lv_at hl 4 rfl) ?_
    refine lv_iconst (v := nI 1) hx hb dX4_conditionHolds_15 (by decide) ?_
    refine zi_add hx hb dX4_conditionHolds_16 ?_
    refine zc_V (As := [.ref (r), .null, .ref (v), .int (nI (lev + 1))]) (rest := []) ⟨hx, hb, hml, hown, hts⟩ (IH1 Zs r S ng vl none rs.getLast? nx (r + 1) hi rs (conds f x) n (none) q t v hv k a w pl nxt (lev + 1) (by omega) ht hk hw) (cwV 4 hts (zgV wm_X4_53 wv_X4_conditionsHold) rfl rfl rfl (by decide +kernel) ⟨show 50 * d + 60 + 1 ≤ 50 * d + 100 by omega, show 8 + (6 + 11) + (1250 * d + 1700) ≤ 1250 * d + 2870 by omega⟩) hK hM rfl ⟨hMA, hR, hPC (Or.inl c_6), hSt, hN⟩ rfl hl.1 rfl (Nat.le_of_ble_eq_true rfl) dX4_conditionHolds_17 ⟨Nat.zero_le _, Nat.zero_le _⟩ ?_
    refine lv_istore (lv' := [(5, .int (nI (nB ((ecF f d).1 (conds f x) q k a)))), (0, .ref (mt)), (1, .ref (r)), (2, .null), (3, .ref (v)), (4, .int (nI (lev)))]) hx hb dX4_conditionHolds_20 hl (by decide) rfl (fun ls hl => ?_)
    refine lv_goto (tgt := 68) hx hb dX4_conditionHolds_22 (by decide) ?_
    refine lv_iload hx hb dX4_conditionHolds_68 (lv_at hl 0 rfl) ?_
    refine lv_aload_n hx hb dX4_conditionHolds_70 rfl (lv_at hl 2 rfl) ?_
    refine zi_getN (C := RX6) (T := TX6) (N := 7) (v := .int (nI (nB (ng)))) hx hb hz wo_X6 hown hK hR rfl 1 (by decide) wf_X4_45 (fun _ h9 => h9) rfl dX4_conditionHolds_71 ?_
    refine zi_icmp_eq (tgt := 81) hx hb dX4_conditionHolds_74 (by decide) (Nat.lt_trans (nB_lt _) (by decide)) (Nat.lt_trans (nB_lt _) (by decide)) (fun c_74 => ?_) (fun c_74 => ?_)
    · refine lv_iconst (v := nI 0) hx hb dX4_conditionHolds_81 (by decide) ?_
      exact zr_z hx hb hr hlocks (by rw [cdS_y c_6, bneB_f c_74]; rfl) dX4_conditionHolds_82
    · refine lv_iconst (v := nI 1) hx hb dX4_conditionHolds_77 (by decide) ?_
      refine lv_goto (tgt := 82) hx hb dX4_conditionHolds_78 (by decide) ?_
      exact zr_z hx hb hr hlocks (by rw [cdS_y c_6, bneB_t c_74]; rfl) dX4_conditionHolds_82

set_option maxHeartbeats 4000000 in
set_option maxRecDepth 100000 in
theorem c_cd_r (l : Launch) (G : zG) (f : Nat → Nat) (pf pf2 : Nat → Int32) (Z : Nat → Prop) (mt ms hm d : Nat) (IH1 : C_cH l G f pf pf2 Z mt ms hm d) (IH2 : C_fF l G f pf pf2 Z mt ms hm d) (Zs : Nat → Prop) (lo r hi S : Nat) (ng : Bool) (x : Nat) (nx : Option Nat) (n : Nat) (sa : Nat) (q t : Nat) (v hv k a : Nat) (w : List Nat) (pl : Int32) (nxt : Option Nat) (lev : Nat) (hlev : lev + (d + 1) + t ≤ 40) (ht : t ≤ 16) (hk : okV f t k a) (hw : okW f t k a) : Met l yX4_conditionHolds wsX4_conditionHolds (rmK 100 2870 d) (zP G [.ref (mt), .ref (r), .ref (sa), .ref (v), .int (nI (lev))] (fun H => MA G H f pf mt ms hm ∧ RCn G H f pf2 Z (RuL G H f pf2 Z d).1 (RuL G H f pf2 Z d).2 lo r hi (S, ng, x) nx ∧ Spt G H Zs f n (some sa) (q) ∧ Nod G H f pf t v hv k a w pl nxt)) (zR (.int (nI (nB (cdS f (ecF f d).1 (ecF f d).2 (S, ng, x) q k a))))) 0 0 (fun _ => False) := by
  refine Met.ofW (cc := cX4_conditionHolds) (maxL := 7) (ret := (some .boolean)) (by decide) rfl ?_
  intro p en s m args below meth c s₁ B hml hv
  obtain ⟨rfl, hP, hK⟩ := hv
  have hx := B.exec
  have hb := B.bytes
  have hr := B.returns
  have hts := atoms_spec (ws := wsX4_conditionHolds) B.pre
  have hz : ∀ w ∈ zW, w.before _ s = true := fun w h => hts w (List.mem_cons_of_mem _ h)
  have hown : s.vm.findClass RX4 = some m.cls := findClass_of_methodNamed B.named
  have hlocks := B.notSynchronized
  obtain ⟨hMA, hRC, hSt, hN⟩ := id hP
  obtain ⟨hM, hMs, hCH⟩ := id hMA
  obtain ⟨nmm, txm, fm, lm, nmx, hOm, hSm, hTm, hvlm⟩ := hMs.o
  obtain ⟨vl, rs, hR, hlo, hhi, ⟨hv2, pl2, nx2, hNv, hZ, hkv, hwv⟩, hS16, hPC, hPF⟩ := id hRC
  have htl : TL f (lfS f (ecF f d).1 (ecF f d).2 S x) 16 q k a = TL f (lfS f (ecF f d).1 (ecF f d).2 S x) t q k a := TL_16 (n := 16 - t) hk (by omega)
  have hl := lv_entry ([.ref (mt), .ref (r), .ref (sa), .ref (v), .int (nI (lev))]) (n := 7) (Nat.le_of_ble_eq_true rfl)
  rw [lg_entry_eq]
  generalize (lg_sl ([.ref (mt), .ref (r), .ref (sa), .ref (v), .int (nI (lev))]) ++ List.replicate (7 - (lg_sl ([.ref (mt), .ref (r), .ref (sa), .ref (v), .int (nI (lev))])).length) Slot.unset).toArray = ls at hl ⊢
  have hl : lv_has ls 7 [(0, .ref (mt)), (1, .ref (r)), (2, .ref (sa)), (3, .ref (v)), (4, .int (nI (lev)))] := hl
  refine lv_aload_n hx hb dX4_conditionHolds_0 rfl (lv_at hl 1 rfl) ?_
  refine zi_getN (C := RX6) (T := TX6) (N := 7) (v := .int (nI (S))) hx hb hz wo_X6 hown hK hR rfl 0 (by decide) wf_X4_37 (fun _ h9 => h9) rfl dX4_conditionHolds_1 ?_
  refine lv_bipush (v := nI 15) hx hb dX4_conditionHolds_4 (by decide) ?_
  refine zi_icmp_ne (tgt := 25) hx hb dX4_conditionHolds_6 (by decide) (Nat.lt_trans hS16 (by decide)) (by omega) (fun c_6 => ?_) (fun c_6 => ?_)
  · refine lv_aload_n hx hb dX4_conditionHolds_25 rfl (lv_at hl 0 rfl) ?_
    refine lv_aload_n hx hb dX4_conditionHolds_26 rfl (lv_at hl 1 rfl) ?_
    refine lv_aload_n hx hb dX4_conditionHolds_27 rfl (lv_at hl 2 rfl) ?_
    refine lv_aload_n hx hb dX4_conditionHolds_28 rfl (lv_at hl 3 rfl) ?_
    refine lv_iload hx hb dX4_conditionHolds_29 (lv_at hl 4 rfl) ?_
    refine zc_V (As := [.ref (r), .ref (sa), .ref (v), .int (nI (lev))]) (rest := []) ⟨hx, hb, hml, hown, hts⟩ (c_tl_all l G f pf pf2 Z mt ms hm d IH1 IH2 Zs lo r hi S ng x nx t n (some sa) q v hv k a w pl nxt lev (by omega) ht hk hw) (cwV 4 hts (zgV wm_X4_64 wv_X4_tryLeaves) rfl rfl rfl (by decide +kernel) ⟨show 50 * d + 67 + 2 * t + 1 ≤ 50 * d + 100 by omega, show 8 + (6 + 11) + (1250 * d + 1880 + 60 * t) ≤ 1250 * d + 2870 by omega⟩) hK hM rfl ⟨hMA, hRC, hSt, hN⟩ rfl hl.1 rfl (Nat.le_of_ble_eq_true rfl) dX4_conditionHolds_31 ⟨Nat.zero_le _, Nat.zero_le _⟩ ?_
    refine lv_istore (lv' := [(6, .int (nI (TL f (lfS f (ecF f d).1 (ecF f d).2 S x) t q k a))), (0, .ref (mt)), (1, .ref (r)), (2, .ref (sa)), (3, .ref (v)), (4, .int (nI (lev)))]) hx hb dX4_conditionHolds_34 hl (by decide) rfl (fun ls hl => ?_)
    refine lv_iload hx hb dX4_conditionHolds_36 (lv_at hl 0 rfl) ?_
    refine zi_if_ne (tgt := 55) hx hb dX4_conditionHolds_38 (by decide) (Nat.lt_trans (TL_lt _ _ _ _) (by decide)) (fun c_38 => ?_) (fun c_38 => ?_)
    · refine lv_iload hx hb dX4_conditionHolds_55 (lv_at hl 0 rfl) ?_
      refine lv_iconst (v := nI 2) hx hb dX4_conditionHolds_57 (by decide) ?_
      refine zi_icmp_ne (tgt := 65) hx hb dX4_conditionHolds_58 (by decide) (Nat.lt_trans (TL_lt _ _ _ _) (by decide)) (by omega) (fun c_58 => ?_) (fun c_58 => ?_)
      · have hA : anS f (lfS f (ecF f d).1 (ecF f d).2 S x) q k a = false := by rw [anS_n (by rw [htl]; exact c_38), htl, decide_eq_false c_58]
        refine lv_iconst (v := nI 0) hx hb dX4_conditionHolds_65 (by decide) ?_
        refine lv_istore (lv' := [(5, .int (nI (0))), (6, .int (nI (TL f (lfS f (ecF f d).1 (ecF f d).2 S x) t q k a))), (0, .ref (mt)), (1, .ref (r)), (2, .ref (sa)), (3, .ref (v)), (4, .int (nI (lev)))]) hx hb dX4_conditionHolds_66 hl (by decide) rfl (fun ls hl => ?_)
        refine lv_iload hx hb dX4_conditionHolds_68 (lv_at hl 0 rfl) ?_
        refine lv_aload_n hx hb dX4_conditionHolds_70 rfl (lv_at hl 3 rfl) ?_
        refine zi_getN (C := RX6) (T := TX6) (N := 7) (v := .int (nI (nB (ng)))) hx hb hz wo_X6 hown hK hR rfl 1 (by decide) wf_X4_45 (fun _ h9 => h9) rfl dX4_conditionHolds_71 ?_
        refine zi_icmp_eq (tgt := 81) hx hb dX4_conditionHolds_74 (by decide) (by omega) (Nat.lt_trans (nB_lt _) (by decide)) (fun c_74 => ?_) (fun c_74 => ?_)
        · refine lv_iconst (v := nI 0) hx hb dX4_conditionHolds_81 (by decide) ?_
          exact zr_z hx hb hr hlocks (by rw [cdS_n c_6, hA]; revert c_74; cases ng <;> decide) dX4_conditionHolds_82
        · refine lv_iconst (v := nI 1) hx hb dX4_conditionHolds_77 (by decide) ?_
          refine lv_goto (tgt := 82) hx hb dX4_conditionHolds_78 (by decide) ?_
          exact zr_z hx hb hr hlocks (by rw [cdS_n c_6, hA]; revert c_74; cases ng <;> decide) dX4_conditionHolds_82
      · have hA : anS f (lfS f (ecF f d).1 (ecF f d).2 S x) q k a = true := by rw [anS_n (by rw [htl]; exact c_38), htl, decide_eq_true c_58]
        refine lv_iconst (v := nI 1) hx hb dX4_conditionHolds_61 (by decide) ?_
        refine lv_goto (tgt := 66) hx hb dX4_conditionHolds_62 (by decide) ?_
        refine lv_istore (lv' := [(5, .int (nI (1))), (6, .int (nI (TL f (lfS f (ecF f d).1 (ecF f d).2 S x) t q k a))), (0, .ref (mt)), (1, .ref (r)), (2, .ref (sa)), (3, .ref (v)), (4, .int (nI (lev)))]) hx hb dX4_conditionHolds_66 hl (by decide) rfl (fun ls hl => ?_)
        refine lv_iload hx hb dX4_conditionHolds_68 (lv_at hl 0 rfl) ?_
        refine lv_aload_n hx hb dX4_conditionHolds_70 rfl (lv_at hl 3 rfl) ?_
        refine zi_getN (C := RX6) (T := TX6) (N := 7) (v := .int (nI (nB (ng)))) hx hb hz wo_X6 hown hK hR rfl 1 (by decide) wf_X4_45 (fun _ h9 => h9) rfl dX4_conditionHolds_71 ?_
        refine zi_icmp_eq (tgt := 81) hx hb dX4_conditionHolds_74 (by decide) (by omega) (Nat.lt_trans (nB_lt _) (by decide)) (fun c_74 => ?_) (fun c_74 => ?_)
        · refine lv_iconst (v := nI 0) hx hb dX4_conditionHolds_81 (by decide) ?_
          exact zr_z hx hb hr hlocks (by rw [cdS_n c_6, hA]; revert c_74; cases ng <;> decide) dX4_conditionHolds_82
        · refine lv_iconst (v := nI 1) hx hb dX4_conditionHolds_77 (by decide) ?_
          refine lv_goto (tgt := 82) hx hb dX4_conditionHolds_78 (by decide) ?_
          exact zr_z hx hb hr hlocks (by rw [cdS_n c_6, hA]; revert c_74; cases ng <;> decide) dX4_conditionHolds_82
    · refine lv_aload_n hx hb dX4_conditionHolds_41 rfl (lv_at hl 1 rfl) ?_
      refine lv_aload_n hx hb dX4_conditionHolds_42 rfl (lv_at hl 2 rfl) ?_
      refine lv_aload_n hx hb dX4_conditionHolds_43 rfl (lv_at hl 1 rfl) ?_
      refine zi_get (C := RX4) (T := TX4) (N := 1) (v := .ref (ms)) hx hb hz wo_X4 hown hK hM rfl 0 (by decide) (hz _ wf_X4_18) (fun _ h9 => h9) rfl dX4_conditionHolds_44 ?_
      refine lv_iload hx hb dX4_conditionHolds_47 (lv_at hl 5 rfl) ?_
      refine zc_V (As := [.ref (r), .ref (ms), .int (nI (lev))]) (rest := []) ⟨hx, hb, hml, hown, hts⟩ (c_tleaf l G f pf pf2 Z mt ms hm d IH1 IH2 lo r hi S ng x nx 0 ms hm 0 0 [] (-1) none lev (by omega) (by omega) (okV_0 f 0) (fun q9 => by omega)) (cwV 3 hts (zgV wm_X4_68 wv_X4_tryLeaf) rfl rfl rfl (by decide +kernel) ⟨show 50 * d + 66 + 1 ≤ 50 * d + 100 by omega, show 8 + (4 + 11) + (1250 * d + 1850) ≤ 1250 * d + 2870 by omega⟩) hK hM rfl ⟨hMA, hRC, hMs⟩ rfl hl.1 rfl (Nat.le_of_ble_eq_true rfl) dX4_conditionHolds_49 ⟨Nat.zero_le _, Nat.zero_le _⟩ ?_
      refine lv_goto (tgt := 57) hx hb dX4_conditionHolds_52 (by decide) ?_
      refine lv_iconst (v := nI 2) hx hb dX4_conditionHolds_57 (by decide) ?_
      refine zi_icmp_ne (tgt := 65) hx hb dX4_conditionHolds_58 (by decide) (by have := nB_lt (lfS f (ecF f d).1 (ecF f d).2 S x 0 0); omega) (by omega) (fun c_58 => ?_) (fun c_58 => ?_)
      · have hA : anS f (lfS f (ecF f d).1 (ecF f d).2 S x) q k a = false := by rw [anS_0 (htl.trans c_38)]; exact nB1n c_58
        refine lv_iconst (v := nI 0) hx hb dX4_conditionHolds_65 (by decide) ?_
        refine lv_istore (lv' := [(5, .int (nI (0))), (6, .int (nI (TL f (lfS f (ecF f d).1 (ecF f d).2 S x) t q k a))), (0, .ref (mt)), (1, .ref (r)), (2, .ref (sa)), (3, .ref (v)), (4, .int (nI (lev)))]) hx hb dX4_conditionHolds_66 hl (by decide) rfl (fun ls hl => ?_)
        refine lv_iload hx hb dX4_conditionHolds_68 (lv_at hl 0 rfl) ?_
        refine lv_aload_n hx hb dX4_conditionHolds_70 rfl (lv_at hl 3 rfl) ?_
        refine zi_getN (C := RX6) (T := TX6) (N := 7) (v := .int (nI (nB (ng)))) hx hb hz wo_X6 hown hK hR rfl 1 (by decide) wf_X4_45 (fun _ h9 => h9) rfl dX4_conditionHolds_71 ?_
        refine zi_icmp_eq (tgt := 81) hx hb dX4_conditionHolds_74 (by decide) (by omega) (Nat.lt_trans (nB_lt _) (by decide)) (fun c_74 => ?_) (fun c_74 => ?_)
        · refine lv_iconst (v := nI 0) hx hb dX4_conditionHolds_81 (by decide) ?_
          exact zr_z hx hb hr hlocks (by rw [cdS_n c_6, hA]; revert c_74; cases ng <;> decide) dX4_conditionHolds_82
        · refine lv_iconst (v := nI 1) hx hb dX4_conditionHolds_77 (by decide) ?_
          refine lv_goto (tgt := 82) hx hb dX4_conditionHolds_78 (by decide) ?_
          exact zr_z hx hb hr hlocks (by rw [cdS_n c_6, hA]; revert c_74; cases ng <;> decide) dX4_conditionHolds_82
      · have hA : anS f (lfS f (ecF f d).1 (ecF f d).2 S x) q k a = true := by rw [anS_0 (htl.trans c_38)]; exact nB12 c_58
        refine lv_iconst (v := nI 1) hx hb dX4_conditionHolds_61 (by decide) ?_
        refine lv_goto (tgt := 66) hx hb dX4_conditionHolds_62 (by decide) ?_
        refine lv_istore (lv' := [(5, .int (nI (1))), (6, .int (nI (TL f (lfS f (ecF f d).1 (ecF f d).2 S x) t q k a))), (0, .ref (mt)), (1, .ref (r)), (2, .ref (sa)), (3, .ref (v)), (4, .int (nI (lev)))]) hx hb dX4_conditionHolds_66 hl (by decide) rfl (fun ls hl => ?_)
        refine lv_iload hx hb dX4_conditionHolds_68 (lv_at hl 0 rfl) ?_
        refine lv_aload_n hx hb dX4_conditionHolds_70 rfl (lv_at hl 3 rfl) ?_
        refine zi_getN (C := RX6) (T := TX6) (N := 7) (v := .int (nI (nB (ng)))) hx hb hz wo_X6 hown hK hR rfl 1 (by decide) wf_X4_45 (fun _ h9 => h9) rfl dX4_conditionHolds_71 ?_
        refine zi_icmp_eq (tgt := 81) hx hb dX4_conditionHolds_74 (by decide) (by omega) (Nat.lt_trans (nB_lt _) (by decide)) (fun c_74 => ?_) (fun c_74 => ?_)
        · refine lv_iconst (v := nI 0) hx hb dX4_conditionHolds_81 (by decide) ?_
          exact zr_z hx hb hr hlocks (by rw [cdS_n c_6, hA]; revert c_74; cases ng <;> decide) dX4_conditionHolds_82
        · refine lv_iconst (v := nI 1) hx hb dX4_conditionHolds_77 (by decide) ?_
          refine lv_goto (tgt := 82) hx hb dX4_conditionHolds_78 (by decide) ?_
          exact zr_z hx hb hr hlocks (by rw [cdS_n c_6, hA]; revert c_74; cases ng <;> decide) dX4_conditionHolds_82
  · refine lv_aload_n hx hb dX4_conditionHolds_9 rfl (lv_at hl 0 rfl) ?_
    refine lv_aload_n hx hb dX4_conditionHolds_10 rfl (lv_at hl 1 rfl) ?_
    refine lv_aload_n hx hb dX4_conditionHolds_11 rfl (lv_at hl 2 rfl) ?_
    refine lv_aload_n hx hb dX4_conditionHolds_12 rfl (lv_at hl 3 rfl) ?_
    refine lv_iload hx hb dX4_conditionHolds_13 (lv_at hl 4 rfl) ?_
    refine lv_iconst (v := nI 1) hx hb dX4_conditionHolds_15 (by decide) ?_
    refine zi_add hx hb dX4_conditionHolds_16 ?_
    refine zc_V (As := [.ref (r), .ref (sa), .ref (v), .int (nI (lev + 1))]) (rest := []) ⟨hx, hb, hml, hown, hts⟩ (IH1 Zs r S ng vl none rs.getLast? nx (r + 1) hi rs (conds f x) n (some sa) q t v hv k a w pl nxt (lev + 1) (by omega) ht hk hw) (cwV 4 hts (zgV wm_X4_53 wv_X4_conditionsHold) rfl rfl rfl (by decide +kernel) ⟨show 50 * d + 60 + 1 ≤ 50 * d + 100 by omega, show 8 + (6 + 11) + (1250 * d + 1700) ≤ 1250 * d + 2870 by omega⟩) hK hM rfl ⟨hMA, hR, hPC (Or.inl c_6), hSt, hN⟩ rfl hl.1 rfl (Nat.le_of_ble_eq_true rfl) dX4_conditionHolds_17 ⟨Nat.zero_le _, Nat.zero_le _⟩ ?_
    refine lv_istore (lv' := [(5, .int (nI (nB ((ecF f d).1 (conds f x) q k a)))), (0, .ref (mt)), (1, .ref (r)), (2, .ref (sa)), (3, .ref (v)), (4, .int (nI (lev)))]) hx hb dX4_conditionHolds_20 hl (by decide) rfl (fun ls hl => ?_)
    refine lv_goto (tgt := 68) hx hb dX4_conditionHolds_22 (by decide) ?_
    refine lv_iload hx hb dX4_conditionHolds_68 (lv_at hl 0 rfl) ?_
    refine lv_aload_n hx hb dX4_conditionHolds_70 rfl (lv_at hl 2 rfl) ?_
    refine zi_getN (C := RX6) (T := TX6) (N := 7) (v := .int (nI (nB (ng)))) hx hb hz wo_X6 hown hK hR rfl 1 (by decide) wf_X4_45 (fun _ h9 => h9) rfl dX4_conditionHolds_71 ?_
    refine zi_icmp_eq (tgt := 81) hx hb dX4_conditionHolds_74 (by decide) (Nat.lt_trans (nB_lt _) (by decide)) (Nat.lt_trans (nB_lt _) (by decide)) (fun c_74 => ?_) (fun c_74 => ?_)
    · refine lv_iconst (v := nI 0) hx hb dX4_conditionHolds_81 (by decide) ?_
      exact zr_z hx hb hr hlocks (by rw [cdS_y c_6, bneB_f c_74]; rfl) dX4_conditionHolds_82
    · refine lv_iconst (v := nI 1) hx hb dX4_conditionHolds_77 (by decide) ?_
      refine lv_goto (tgt := 82) hx hb dX4_conditionHolds_78 (by decide) ?_
      exact zr_z hx hb hr hlocks (by rw [cdS_y c_6, bneB_t c_74]; rfl) dX4_conditionHolds_82

theorem c_cd_ (l : Launch) (G : zG) (f : Nat → Nat) (pf pf2 : Nat → Int32) (Z : Nat → Prop) (mt ms hm d : Nat) (IH1 : C_cH l G f pf pf2 Z mt ms hm d) (IH2 : C_fF l G f pf pf2 Z mt ms hm d) : C_cd l G f pf pf2 Z mt ms hm d := fun Zs lo r hi S ng x nx n st q t v hv k a w pl nxt lev h1 h2 h3 h4 => by
  cases st with
  | none => exact c_cd_n l G f pf pf2 Z mt ms hm d IH1 IH2 Zs lo r hi S ng x nx n 0 q t v hv k a w pl nxt lev h1 h2 h3 h4
  | some sa => exact c_cd_r l G f pf pf2 Z mt ms hm d IH1 IH2 Zs lo r hi S ng x nx n sa q t v hv k a w pl nxt lev h1 h2 h3 h4

set_option maxHeartbeats 4000000 in
set_option maxRecDepth 100000 in
theorem c_cH_n (l : Launch) (G : zG) (f : Nat → Nat) (pf pf2 : Nat → Int32) (Z : Nat → Prop) (mt ms hm d : Nat) (IH1 : C_cH l G f pf pf2 Z mt ms hm d) (IH2 : C_fF l G f pf pf2 Z mt ms hm d) (Zs : Nat → Prop) (h sg : Nat) (ng : Bool) (vl : Nat) (pa lst nx : Option Nat) (lo hi : Nat) (rs : List Nat) (ts : List cT) (n : Nat) (sa : Nat) (q t : Nat) (v hv k a : Nat) (w : List Nat) (pl : Int32) (nxt : Option Nat) (lev : Nat) (hlev : lev + (d + 1) + t ≤ 40) (ht : t ≤ 16) (hk : okV f t k a) (hw : okW f t k a) : Met l yX4_conditionsHold wsX4_conditionsHold (rmK 60 1700 (d + 1)) (zP G [.ref (mt), .ref (h), .null, .ref (v), .int (nI (lev))] (fun H => MA G H f pf mt ms hm ∧ zO G H h 5 (rlF sg ng vl pa rs.head? lst nx) ∧ (RuL G H f pf2 Z (d + 1)).1 lo hi rs ts ∧ Spt G H Zs f n (none) (q) ∧ Nod G H f pf t v hv k a w pl nxt)) (zR (.int (nI (nB ((ecF f (d + 1)).1 ts q k a))))) 0 0 (fun _ => False) := by
  refine Met.ofW (cc := cX4_conditionsHold) (maxL := 6) (ret := (some .boolean)) (by decide) rfl ?_
  intro p en s m args below meth c s₁ B hml hv
  obtain ⟨rfl, hP, hK⟩ := hv
  have hx := B.exec
  have hb := B.bytes
  have hr := B.returns
  have hts := atoms_spec (ws := wsX4_conditionsHold) B.pre
  have hz : ∀ w ∈ zW, w.before _ s = true := fun w h => hts w (List.mem_cons_of_mem _ h)
  have hown : s.vm.findClass RX4 = some m.cls := findClass_of_methodNamed B.named
  have hlocks := B.notSynchronized
  obtain ⟨hMA, hH, hkd0, hSt, hN⟩ := id hP
  obtain ⟨hM, hMs, hCH⟩ := id hMA
  have hl := lv_entry ([.ref (mt), .ref (h), .null, .ref (v), .int (nI (lev))]) (n := 6) (Nat.le_of_ble_eq_true rfl)
  rw [lg_entry_eq]
  generalize (lg_sl ([.ref (mt), .ref (h), .null, .ref (v), .int (nI (lev))]) ++ List.replicate (6 - (lg_sl ([.ref (mt), .ref (h), .null, .ref (v), .int (nI (lev))])).length) Slot.unset).toArray = ls at hl ⊢
  have hl : lv_has ls 6 [(0, .ref (mt)), (1, .ref (h)), (2, .null), (3, .ref (v)), (4, .int (nI (lev)))] := hl
  refine lv_iload hx hb dX4_conditionsHold_0 (lv_at hl 4 rfl) ?_
  refine lv_bipush (v := nI 40) hx hb dX4_conditionsHold_2 (by decide) ?_
  refine zi_icmp_le (tgt := 9) hx hb dX4_conditionsHold_4 (by decide) (by omega) (by omega) (fun c_4 => ?_) (fun c_4 => ?_)
  · refine lv_aload_n hx hb dX4_conditionsHold_9 rfl (lv_at hl 1 rfl) ?_
    refine zi_getN (C := RX6) (T := TX6) (N := 7) (v := va_rf (rs.head?)) hx hb hz wo_X6 hown hK hH rfl 4 (by decide) wf_X4_24 (fun _ h9 => h9) rfl dX4_conditionsHold_10 ?_
    refine zo_astore (lv' := [(5, va_rf (rs.head?)), (0, .ref (mt)), (1, .ref (h)), (2, .null), (3, .ref (v)), (4, .int (nI (lev)))]) hx hb dX4_conditionsHold_13 hl (by decide) rfl (fun ls hl => ?_)
    have L15 : ∀ (n_ : Nat) (ws : List Nat) (us : List cT) (lo9 : Nat), ws.length < n_ → (kidR (RCn G s.heap f pf2 Z (RuL G s.heap f pf2 Z d).1 (RuL G s.heap f pf2 Z d).2) lo9 hi ws us) → (ts.all (fun t9 => cdS f (ecF f d).1 (ecF f d).2 t9 q k a) = us.all (fun t9 => cdS f (ecF f d).1 (ecF f d).2 t9 q k a)) → ∀ ls : Array Slot, lv_has ls 6 [(0, .ref (mt)), (2, .null), (3, .ref (v)), (4, .int (nI (lev))), (5, va_rf (ws.head?))] → W p l en (headSpec wsX4_conditionsHold (rmK 60 1700 (d + 1))).room s m ([.ref (mt), .ref (h), .null, .ref (v), .int (nI (lev))] : List Value).toArray below meth c s.heap [] 0 0 (MQ below (zR (.int (nI (nB ((ecF f (d + 1)).1 ts q k a))))) ([.ref (mt), .ref (h), .null, .ref (v), .int (nI (lev))] : List Value).toArray s 0 0 (fun _ => False)) (F0 m 15 ls []) := by
      intro n_
      induction n_ with
      | zero => intro ws us lo9 hm_; exact absurd hm_ (Nat.not_lt_zero _)
      | succ n_ ih_ =>
        intro ws us lo9 hm_ hkd hs9 ls hl
        refine zo_aload hx hb dX4_conditionsHold_15 (lv_at hl 4 rfl) ?_
        rcases ws with _ | ⟨v1, vs1⟩
        · have hl : lv_has ls 6 [(0, .ref (mt)), (2, .null), (3, .ref (v)), (4, .int (nI (lev))), (5, .null)] := hl
          have hus := kidR_nil hkd
          subst hus
          refine W.eq (g2 := F0 m 17 ls ([.null])) rfl ?_
          refine lv_ifnullN (tgt := 45) hx hb dX4_conditionsHold_17 (by decide) ?_
          refine lv_iconst (v := nI 1) hx hb dX4_conditionsHold_45 (by decide) ?_
          exact zr_z hx hb hr hlocks (by rw [ec_al, hs9]; rfl) dX4_conditionsHold_46
        · have hl : lv_has ls 6 [(0, .ref (mt)), (2, .null), (3, .ref (v)), (4, .int (nI (lev))), (5, .ref (v1))] := hl
          obtain ⟨x1, xs1, rfl, mid1, hmi1, hRC1, hkd1⟩ := kidR_cons hkd
          obtain ⟨S1, ng1, y1⟩ := x1
          obtain ⟨vl1, rs1, hR1, -⟩ := id hRC1
          refine W.eq (g2 := F0 m 17 ls ([.ref (v1)])) rfl ?_
          refine lv_ifnull hx hb dX4_conditionsHold_17 ?_
          refine lv_aload_n hx hb dX4_conditionsHold_20 rfl (lv_at hl 0 rfl) ?_
          refine lv_aload hx hb dX4_conditionsHold_21 (lv_at hl 4 rfl) ?_
          refine lv_aload_nN hx hb dX4_conditionsHold_23 rfl (lv_at hl 1 rfl) ?_
          refine lv_aload_n hx hb dX4_conditionsHold_24 rfl (lv_at hl 2 rfl) ?_
          refine lv_iload hx hb dX4_conditionsHold_25 (lv_at hl 3 rfl) ?_
          refine zc_V (As := [.ref (v1), .null, .ref (v), .int (nI (lev))]) (rest := []) ⟨hx, hb, hml, hown, hts⟩ (c_cd_ l G f pf pf2 Z mt ms hm d IH1 IH2 Zs lo9 v1 mid1 S1 ng1 y1 vs1.head? n (none) q t v hv k a w pl nxt lev hlev ht hk hw) (cwV 4 hts (zgV wm_X4_61 wv_X4_conditionHolds) rfl rfl rfl (by decide +kernel) ⟨show 50 * d + 100 + 1 ≤ 50 * (d + 1) + 60 by omega, show 8 + (7 + 11) + (1250 * d + 2870) ≤ 1250 * (d + 1) + 1700 by omega⟩) hK hM rfl ⟨hMA, hRC1, hSt, hN⟩ rfl hl.1 rfl (Nat.le_of_ble_eq_true rfl) dX4_conditionsHold_27 ⟨Nat.zero_le _, Nat.zero_le _⟩ ?_
          refine zb_if_ne (tgt := 35) hx hb dX4_conditionsHold_30 (by decide) (fun c_30 => ?_) (fun c_30 => ?_)
          · refine lv_aload hx hb dX4_conditionsHold_35 (lv_at hl 4 rfl) ?_
            refine zi_getN (C := RX6) (T := TX6) (N := 7) (v := va_rf (vs1.head?)) hx hb hz wo_X6 hown hK hR1 rfl 6 (by decide) wf_X4_34 (fun _ h9 => h9) rfl dX4_conditionsHold_37 ?_
            refine zo_astore (lv' := [(5, va_rf (vs1.head?)), (0, .ref (mt)), (2, .null), (3, .ref (v)), (4, .int (nI (lev)))]) hx hb dX4_conditionsHold_40 hl (by decide) rfl (fun ls hl => ?_)
            refine lv_goto (tgt := 15) hx hb dX4_conditionsHold_42 (by decide) ?_
            exact ih_ vs1 xs1 mid1 (by simp only [List.length_cons] at hm_; omega) hkd1 (hs9.trans (by rw [List.all_cons, c_30]; rfl)) ls (lv_sub hl [1, 2, 3, 4, 0] rfl)
          · refine lv_iconst (v := nI 0) hx hb dX4_conditionsHold_33 (by decide) ?_
            exact zr_z hx hb hr hlocks (by rw [ec_al, hs9, List.all_cons, c_30]; rfl) dX4_conditionsHold_34
    exact L15 ((rs.length) + 1) rs ts lo (Nat.lt_succ_self _) hkd0 rfl ls (lv_sub hl [1, 3, 4, 5, 0] rfl)
  · exfalso; omega

set_option maxHeartbeats 4000000 in
set_option maxRecDepth 100000 in
theorem c_cH_r (l : Launch) (G : zG) (f : Nat → Nat) (pf pf2 : Nat → Int32) (Z : Nat → Prop) (mt ms hm d : Nat) (IH1 : C_cH l G f pf pf2 Z mt ms hm d) (IH2 : C_fF l G f pf pf2 Z mt ms hm d) (Zs : Nat → Prop) (h sg : Nat) (ng : Bool) (vl : Nat) (pa lst nx : Option Nat) (lo hi : Nat) (rs : List Nat) (ts : List cT) (n : Nat) (sa : Nat) (q t : Nat) (v hv k a : Nat) (w : List Nat) (pl : Int32) (nxt : Option Nat) (lev : Nat) (hlev : lev + (d + 1) + t ≤ 40) (ht : t ≤ 16) (hk : okV f t k a) (hw : okW f t k a) : Met l yX4_conditionsHold wsX4_conditionsHold (rmK 60 1700 (d + 1)) (zP G [.ref (mt), .ref (h), .ref (sa), .ref (v), .int (nI (lev))] (fun H => MA G H f pf mt ms hm ∧ zO G H h 5 (rlF sg ng vl pa rs.head? lst nx) ∧ (RuL G H f pf2 Z (d + 1)).1 lo hi rs ts ∧ Spt G H Zs f n (some sa) (q) ∧ Nod G H f pf t v hv k a w pl nxt)) (zR (.int (nI (nB ((ecF f (d + 1)).1 ts q k a))))) 0 0 (fun _ => False) := by
  refine Met.ofW (cc := cX4_conditionsHold) (maxL := 6) (ret := (some .boolean)) (by decide) rfl ?_
  intro p en s m args below meth c s₁ B hml hv
  obtain ⟨rfl, hP, hK⟩ := hv
  have hx := B.exec
  have hb := B.bytes
  have hr := B.returns
  have hts := atoms_spec (ws := wsX4_conditionsHold) B.pre
  have hz : ∀ w ∈ zW, w.before _ s = true := fun w h => hts w (List.mem_cons_of_mem _ h)
  have hown : s.vm.findClass RX4 = some m.cls := findClass_of_methodNamed B.named
  have hlocks := B.notSynchronized
  obtain ⟨hMA, hH, hkd0, hSt, hN⟩ := id hP
  obtain ⟨hM, hMs, hCH⟩ := id hMA
  have hl := lv_entry ([.ref (mt), .ref (h), .ref (sa), .ref (v), .int (nI (lev))]) (n := 6) (Nat.le_of_ble_eq_true rfl)
  rw [lg_entry_eq]
  generalize (lg_sl ([.ref (mt), .ref (h), .ref (sa), .ref (v), .int (nI (lev))]) ++ List.replicate (6 - (lg_sl ([.ref (mt), .ref (h), .ref (sa), .ref (v), .int (nI (lev))])).length) Slot.unset).toArray = ls at hl ⊢
  have hl : lv_has ls 6 [(0, .ref (mt)), (1, .ref (h)), (2, .ref (sa)), (3, .ref (v)), (4, .int (nI (lev)))] := hl
  refine lv_iload hx hb dX4_conditionsHold_0 (lv_at hl 4 rfl) ?_
  refine lv_bipush (v := nI 40) hx hb dX4_conditionsHold_2 (by decide) ?_
  refine zi_icmp_le (tgt := 9) hx hb dX4_conditionsHold_4 (by decide) (by omega) (by omega) (fun c_4 => ?_) (fun c_4 => ?_)
  · refine lv_aload_n hx hb dX4_conditionsHold_9 rfl (lv_at hl 1 rfl) ?_
    refine zi_getN (C := RX6) (T := TX6) (N := 7) (v := va_rf (rs.head?)) hx hb hz wo_X6 hown hK hH rfl 4 (by decide) wf_X4_24 (fun _ h9 => h9) rfl dX4_conditionsHold_10 ?_
    refine zo_astore (lv' := [(5, va_rf (rs.head?)), (0, .ref (mt)), (1, .ref (h)), (2, .ref (sa)), (3, .ref (v)), (4, .int (nI (lev)))]) hx hb dX4_conditionsHold_13 hl (by decide) rfl (fun ls hl => ?_)
    have L15 : ∀ (n_ : Nat) (ws : List Nat) (us : List cT) (lo9 : Nat), ws.length < n_ → (kidR (RCn G s.heap f pf2 Z (RuL G s.heap f pf2 Z d).1 (RuL G s.heap f pf2 Z d).2) lo9 hi ws us) → (ts.all (fun t9 => cdS f (ecF f d).1 (ecF f d).2 t9 q k a) = us.all (fun t9 => cdS f (ecF f d).1 (ecF f d).2 t9 q k a)) → ∀ ls : Array Slot, lv_has ls 6 [(0, .ref (mt)), (2, .ref (sa)), (3, .ref (v)), (4, .int (nI (lev))), (5, va_rf (ws.head?))] → W p l en (headSpec wsX4_conditionsHold (rmK 60 1700 (d + 1))).room s m ([.ref (mt), .ref (h), .ref (sa), .ref (v), .int (nI (lev))] : List Value).toArray below meth c s.heap [] 0 0 (MQ below (zR (.int (nI (nB ((ecF f (d + 1)).1 ts q k a))))) ([.ref (mt), .ref (h), .ref (sa), .ref (v), .int (nI (lev))] : List Value).toArray s 0 0 (fun _ => False)) (F0 m 15 ls []) := by
      intro n_
      induction n_ with
      | zero => intro ws us lo9 hm_; exact absurd hm_ (Nat.not_lt_zero _)
      | succ n_ ih_ =>
        intro ws us lo9 hm_ hkd hs9 ls hl
        refine zo_aload hx hb dX4_conditionsHold_15 (lv_at hl 4 rfl) ?_
        rcases ws with _ | ⟨v1, vs1⟩
        · have hl : lv_has ls 6 [(0, .ref (mt)), (2, .ref (sa)), (3, .ref (v)), (4, .int (nI (lev))), (5, .null)] := hl
          have hus := kidR_nil hkd
          subst hus
          refine W.eq (g2 := F0 m 17 ls ([.null])) rfl ?_
          refine lv_ifnullN (tgt := 45) hx hb dX4_conditionsHold_17 (by decide) ?_
          refine lv_iconst (v := nI 1) hx hb dX4_conditionsHold_45 (by decide) ?_
          exact zr_z hx hb hr hlocks (by rw [ec_al, hs9]; rfl) dX4_conditionsHold_46
        · have hl : lv_has ls 6 [(0, .ref (mt)), (2, .ref (sa)), (3, .ref (v)), (4, .int (nI (lev))), (5, .ref (v1))] := hl
          obtain ⟨x1, xs1, rfl, mid1, hmi1, hRC1, hkd1⟩ := kidR_cons hkd
          obtain ⟨S1, ng1, y1⟩ := x1
          obtain ⟨vl1, rs1, hR1, -⟩ := id hRC1
          refine W.eq (g2 := F0 m 17 ls ([.ref (v1)])) rfl ?_
          refine lv_ifnull hx hb dX4_conditionsHold_17 ?_
          refine lv_aload_n hx hb dX4_conditionsHold_20 rfl (lv_at hl 0 rfl) ?_
          refine lv_aload hx hb dX4_conditionsHold_21 (lv_at hl 4 rfl) ?_
          refine lv_aload_n hx hb dX4_conditionsHold_23 rfl (lv_at hl 1 rfl) ?_
          refine lv_aload_n hx hb dX4_conditionsHold_24 rfl (lv_at hl 2 rfl) ?_
          refine lv_iload hx hb dX4_conditionsHold_25 (lv_at hl 3 rfl) ?_
          refine zc_V (As := [.ref (v1), .ref (sa), .ref (v), .int (nI (lev))]) (rest := []) ⟨hx, hb, hml, hown, hts⟩ (c_cd_ l G f pf pf2 Z mt ms hm d IH1 IH2 Zs lo9 v1 mid1 S1 ng1 y1 vs1.head? n (some sa) q t v hv k a w pl nxt lev hlev ht hk hw) (cwV 4 hts (zgV wm_X4_61 wv_X4_conditionHolds) rfl rfl rfl (by decide +kernel) ⟨show 50 * d + 100 + 1 ≤ 50 * (d + 1) + 60 by omega, show 8 + (7 + 11) + (1250 * d + 2870) ≤ 1250 * (d + 1) + 1700 by omega⟩) hK hM rfl ⟨hMA, hRC1, hSt, hN⟩ rfl hl.1 rfl (Nat.le_of_ble_eq_true rfl) dX4_conditionsHold_27 ⟨Nat.zero_le _, Nat.zero_le _⟩ ?_
          refine zb_if_ne (tgt := 35) hx hb dX4_conditionsHold_30 (by decide) (fun c_30 => ?_) (fun c_30 => ?_)
          · refine lv_aload hx hb dX4_conditionsHold_35 (lv_at hl 4 rfl) ?_
            refine zi_getN (C := RX6) (T := TX6) (N := 7) (v := va_rf (vs1.head?)) hx hb hz wo_X6 hown hK hR1 rfl 6 (by decide) wf_X4_34 (fun _ h9 => h9) rfl dX4_conditionsHold_37 ?_
            refine zo_astore (lv' := [(5, va_rf (vs1.head?)), (0, .ref (mt)), (2, .ref (sa)), (3, .ref (v)), (4, .int (nI (lev)))]) hx hb dX4_conditionsHold_40 hl (by decide) rfl (fun ls hl => ?_)
            refine lv_goto (tgt := 15) hx hb dX4_conditionsHold_42 (by decide) ?_
            exact ih_ vs1 xs1 mid1 (by simp only [List.length_cons] at hm_; omega) hkd1 (hs9.trans (by rw [List.all_cons, c_30]; rfl)) ls (lv_sub hl [1, 2, 3, 4, 0] rfl)
          · refine lv_iconst (v := nI 0) hx hb dX4_conditionsHold_33 (by decide) ?_
            exact zr_z hx hb hr hlocks (by rw [ec_al, hs9, List.all_cons, c_30]; rfl) dX4_conditionsHold_34
    exact L15 ((rs.length) + 1) rs ts lo (Nat.lt_succ_self _) hkd0 rfl ls (lv_sub hl [1, 3, 4, 5, 0] rfl)
  · exfalso; omega

theorem c_cH_ (l : Launch) (G : zG) (f : Nat → Nat) (pf pf2 : Nat → Int32) (Z : Nat → Prop) (mt ms hm d : Nat) (IH1 : C_cH l G f pf pf2 Z mt ms hm d) (IH2 : C_fF l G f pf pf2 Z mt ms hm d) : C_cH l G f pf pf2 Z mt ms hm (d + 1) := fun Zs h sg ng vl pa lst nx lo hi rs ts n st q t v hv k a w pl nxt lev h1 h2 h3 h4 => by
  cases st with
  | none => exact c_cH_n l G f pf pf2 Z mt ms hm d IH1 IH2 Zs h sg ng vl pa lst nx lo hi rs ts n 0 q t v hv k a w pl nxt lev h1 h2 h3 h4
  | some sa => exact c_cH_r l G f pf pf2 Z mt ms hm d IH1 IH2 Zs h sg ng vl pa lst nx lo hi rs ts n sa q t v hv k a w pl nxt lev h1 h2 h3 h4

set_option maxHeartbeats 4000000 in
set_option maxRecDepth 100000 in
theorem c_spi (l : Launch) (G : zG) (f : Nat → Nat) (pf pf2 : Nat → Int32) (Z : Nat → Prop) (mt ms hm d : Nat) (IH1 : C_cH l G f pf pf2 Z mt ms hm d) (IH2 : C_fF l G f pf pf2 Z mt ms hm d) (b : Bool) (h sg : Nat) (ng : Bool) (vl : Nat) (pa lst nx : Option Nat) (lo hi : Nat) (rs : List Nat) (es : List Nat) (t v hv a : Nat) (w : List Nat) (pl : Int32) (nxt : Option Nat) (lev : Nat) (hlev : lev + (d + 1) + t ≤ 40) (ht : t ≤ 16) (hk : okV f t 3 a) (hw : okW f t 3 a) : Met l yX4_somePartIs wsX4_somePartIs (rmK 64 1790 d) (zP G [.ref (mt), .int (nI (nB (b))), .ref (h), .ref (v), .int (nI (lev))] (fun H => MA G H f pf mt ms hm ∧ zO G H h 5 (rlF sg ng vl pa rs.head? lst nx) ∧ kidR (RPn G H f pf2 Z (RuL G H f pf2 Z d).2) lo hi rs es ∧ Nod G H f pf t v hv 3 a w pl nxt)) (zR (.int (nI (nB (es.any (fun i => (ecF f d).2 (vo f i) a == b)))))) 0 0 (fun _ => False) := by
  refine Met.ofW (cc := cX4_somePartIs) (maxL := 6) (ret := (some .boolean)) (by decide) rfl ?_
  intro p en s m args below meth c s₁ B hml hv
  obtain ⟨rfl, hP, hK⟩ := hv
  have hx := B.exec
  have hb := B.bytes
  have hr := B.returns
  have hts := atoms_spec (ws := wsX4_somePartIs) B.pre
  have hz : ∀ w ∈ zW, w.before _ s = true := fun w h => hts w (List.mem_cons_of_mem _ h)
  have hown : s.vm.findClass RX4 = some m.cls := findClass_of_methodNamed B.named
  have hlocks := B.notSynchronized
  obtain ⟨hMA, hH, hkd0, hN⟩ := id hP
  obtain ⟨hM, hMs, hCH⟩ := id hMA
  have hl := lv_entry ([.ref (mt), .int (nI (nB (b))), .ref (h), .ref (v), .int (nI (lev))]) (n := 6) (Nat.le_of_ble_eq_true rfl)
  rw [lg_entry_eq]
  generalize (lg_sl ([.ref (mt), .int (nI (nB (b))), .ref (h), .ref (v), .int (nI (lev))]) ++ List.replicate (6 - (lg_sl ([.ref (mt), .int (nI (nB (b))), .ref (h), .ref (v), .int (nI (lev))])).length) Slot.unset).toArray = ls at hl ⊢
  have hl : lv_has ls 6 [(0, .ref (mt)), (1, .int (nI (nB (b)))), (2, .ref (h)), (3, .ref (v)), (4, .int (nI (lev)))] := hl
  refine lv_aload_n hx hb dX4_somePartIs_0 rfl (lv_at hl 2 rfl) ?_
  refine zi_getN (C := RX6) (T := TX6) (N := 7) (v := va_rf (rs.head?)) hx hb hz wo_X6 hown hK hH rfl 4 (by decide) wf_X4_24 (fun _ h9 => h9) rfl dX4_somePartIs_1 ?_
  refine zo_astore (lv' := [(5, va_rf (rs.head?)), (0, .ref (mt)), (1, .int (nI (nB (b)))), (2, .ref (h)), (3, .ref (v)), (4, .int (nI (lev)))]) hx hb dX4_somePartIs_4 hl (by decide) rfl (fun ls hl => ?_)
  have L6 : ∀ (n_ : Nat) (ws : List Nat) (us : List Nat) (lo9 : Nat), ws.length < n_ → (kidR (RPn G s.heap f pf2 Z (RuL G s.heap f pf2 Z d).2) lo9 hi ws us) → (es.any (fun i => (ecF f d).2 (vo f i) a == b) = us.any (fun i => (ecF f d).2 (vo f i) a == b)) → ∀ ls : Array Slot, lv_has ls 6 [(0, .ref (mt)), (1, .int (nI (nB (b)))), (3, .ref (v)), (4, .int (nI (lev))), (5, va_rf (ws.head?))] → W p l en (headSpec wsX4_somePartIs (rmK 64 1790 d)).room s m ([.ref (mt), .int (nI (nB (b))), .ref (h), .ref (v), .int (nI (lev))] : List Value).toArray below meth c s.heap [] 0 0 (MQ below (zR (.int (nI (nB (es.any (fun i => (ecF f d).2 (vo f i) a == b)))))) ([.ref (mt), .int (nI (nB (b))), .ref (h), .ref (v), .int (nI (lev))] : List Value).toArray s 0 0 (fun _ => False)) (F0 m 6 ls []) := by
    intro n_
    induction n_ with
    | zero => intro ws us lo9 hm_; exact absurd hm_ (Nat.not_lt_zero _)
    | succ n_ ih_ =>
      intro ws us lo9 hm_ hkd hs9 ls hl
      refine zo_aload hx hb dX4_somePartIs_6 (lv_at hl 4 rfl) ?_
      rcases ws with _ | ⟨v1, vs1⟩
      · have hl : lv_has ls 6 [(0, .ref (mt)), (1, .int (nI (nB (b)))), (3, .ref (v)), (4, .int (nI (lev))), (5, .null)] := hl
        have hus := kidR_nil hkd
        subst hus
        refine W.eq (g2 := F0 m 8 ls ([.null])) rfl ?_
        refine lv_ifnullN (tgt := 46) hx hb dX4_somePartIs_8 (by decide) ?_
        refine lv_iconst (v := nI 0) hx hb dX4_somePartIs_46 (by decide) ?_
        exact zr_z hx hb hr hlocks (by rw [hs9]; rfl) dX4_somePartIs_47
      · have hl : lv_has ls 6 [(0, .ref (mt)), (1, .int (nI (nB (b)))), (3, .ref (v)), (4, .int (nI (lev))), (5, .ref (v1))] := hl
        obtain ⟨x1, xs1, rfl, mid1, hmi1, hRC1, hkd1⟩ := kidR_cons hkd
        obtain ⟨vl1, rs1, hR1, hlo1, hhi1, hVN1, hPF1⟩ := id hRC1
        refine W.eq (g2 := F0 m 8 ls ([.ref (v1)])) rfl ?_
        refine lv_ifnull hx hb dX4_somePartIs_8 ?_
        refine lv_aload_n hx hb dX4_somePartIs_11 rfl (lv_at hl 0 rfl) ?_
        refine lv_aload hx hb dX4_somePartIs_12 (lv_at hl 4 rfl) ?_
        refine lv_aload_n hx hb dX4_somePartIs_14 rfl (lv_at hl 2 rfl) ?_
        refine lv_iload hx hb dX4_somePartIs_15 (lv_at hl 3 rfl) ?_
        refine lv_iconst (v := nI 1) hx hb dX4_somePartIs_17 (by decide) ?_
        refine zi_add hx hb dX4_somePartIs_18 ?_
        refine zc_V (As := [.ref (v1), .ref (v), .int (nI (lev + 1))]) (rest := []) ⟨hx, hb, hml, hown, hts⟩ (IH2 v1 1 false vl1 none rs1.getLast? vs1.head? (v1 + 1) mid1 rs1 (vo f x1) t v hv a w pl nxt (lev + 1) (by omega) ht hk hw) (cwV 3 hts (zgV wm_X4_57 wv_X4_firstFailing) rfl rfl rfl (by decide +kernel) ⟨show 50 * d + 63 + 1 ≤ 50 * d + 64 by omega, show 8 + (6 + 11) + (1250 * d + 1760) ≤ 1250 * d + 1790 by omega⟩) hK hM rfl ⟨hMA, hR1, hPF1, hN⟩ rfl hl.1 rfl (Nat.le_of_ble_eq_true rfl) dX4_somePartIs_19 ⟨Nat.zero_le _, Nat.zero_le _⟩ ?_
        refine lv_if_ge (tgt := 29) hx hb dX4_somePartIs_22 (by decide) (fun c_22 => ?_) (fun c_22 => ?_)
        · have hE : (ecF f d).2 (vo f x1) a = false := fh_ge (RuF_d hPF1) c_22
          refine lv_iconst (v := nI 0) hx hb dX4_somePartIs_29 (by decide) ?_
          refine lv_iload_n hx hb dX4_somePartIs_30 rfl (lv_at hl 1 rfl) ?_
          refine zi_icmp_ne (tgt := 36) hx hb dX4_somePartIs_31 (by decide) (by omega) (Nat.lt_trans (nB_lt _) (by decide)) (fun c_31 => ?_) (fun c_31 => ?_)
          · refine lv_aload hx hb dX4_somePartIs_36 (lv_at hl 4 rfl) ?_
            refine zi_getN (C := RX6) (T := TX6) (N := 7) (v := va_rf (vs1.head?)) hx hb hz wo_X6 hown hK hR1 rfl 6 (by decide) wf_X4_34 (fun _ h9 => h9) rfl dX4_somePartIs_38 ?_
            refine zo_astore (lv' := [(5, va_rf (vs1.head?)), (0, .ref (mt)), (1, .int (nI (nB (b)))), (3, .ref (v)), (4, .int (nI (lev)))]) hx hb dX4_somePartIs_41 hl (by decide) rfl (fun ls hl => ?_)
            refine lv_goto (tgt := 6) hx hb dX4_somePartIs_43 (by decide) ?_
            exact ih_ vs1 xs1 mid1 (by simp only [List.length_cons] at hm_; omega) hkd1 (hs9.trans (by rw [List.any_cons, hE]; revert c_31; cases b <;> first | (intro z; exact absurd rfl z) | (intro _; rfl))) ls (lv_sub hl [1, 2, 3, 4, 0] rfl)
          · refine lv_iconst (v := nI 1) hx hb dX4_somePartIs_34 (by decide) ?_
            exact zr_z hx hb hr hlocks (by rw [hs9, List.any_cons, hE]; revert c_31; cases b <;> first | (intro z; exact absurd z (by decide)) | (intro _; rfl)) dX4_somePartIs_35
        · have hE : (ecF f d).2 (vo f x1) a = true := fh_lt (RuF_d hPF1) c_22
          refine lv_iconst (v := nI 1) hx hb dX4_somePartIs_25 (by decide) ?_
          refine lv_goto (tgt := 30) hx hb dX4_somePartIs_26 (by decide) ?_
          refine lv_iload_n hx hb dX4_somePartIs_30 rfl (lv_at hl 1 rfl) ?_
          refine zi_icmp_ne (tgt := 36) hx hb dX4_somePartIs_31 (by decide) (by omega) (Nat.lt_trans (nB_lt _) (by decide)) (fun c_31 => ?_) (fun c_31 => ?_)
          · refine lv_aload hx hb dX4_somePartIs_36 (lv_at hl 4 rfl) ?_
            refine zi_getN (C := RX6) (T := TX6) (N := 7) (v := va_rf (vs1.head?)) hx hb hz wo_X6 hown hK hR1 rfl 6 (by decide) wf_X4_34 (fun _ h9 => h9) rfl dX4_somePartIs_38 ?_
            refine zo_astore (lv' := [(5, va_rf (vs1.head?)), (0, .ref (mt)), (1, .int (nI (nB (b)))), (3, .ref (v)), (4, .int (nI (lev)))]) hx hb dX4_somePartIs_41 hl (by decide) rfl (fun ls hl => ?_)
            refine lv_goto (tgt := 6) hx hb dX4_somePartIs_43 (by decide) ?_
            exact ih_ vs1 xs1 mid1 (by simp only [List.length_cons] at hm_; omega) hkd1 (hs9.trans (by rw [List.any_cons, hE]; revert c_31; cases b <;> first | (intro z; exact absurd rfl z) | (intro _; rfl))) ls (lv_sub hl [1, 2, 3, 4, 0] rfl)
          · refine lv_iconst (v := nI 1) hx hb dX4_somePartIs_34 (by decide) ?_
            exact zr_z hx hb hr hlocks (by rw [hs9, List.any_cons, hE]; revert c_31; cases b <;> first | (intro z; exact absurd z (by decide)) | (intro _; rfl)) dX4_somePartIs_35
  exact L6 ((rs.length) + 1) rs es lo (Nat.lt_succ_self _) hkd0 rfl ls (lv_sub hl [1, 2, 4, 5, 0] rfl)

set_option maxHeartbeats 4000000 in
set_option maxRecDepth 100000 in
theorem c_cl_and (l : Launch) (G : zG) (f : Nat → Nat) (pf pf2 : Nat → Int32) (Z : Nat → Prop) (mt ms hm d : Nat) (IH1 : C_cH l G f pf pf2 Z mt ms hm d) (IH2 : C_fF l G f pf pf2 Z mt ms hm d) (lo r hi e : Nat) (nx : Option Nat) (t v hv a : Nat) (w : List Nat) (pl : Int32) (nxt : Option Nat) (lev : Nat) (hlev : lev + (d + 1) + t ≤ 40) (ht : t ≤ 16) (hk : okV f t 3 a) (hw : okW f t 3 a) (hj : f (e + 1) = 36) (ha : isA f e wAnd = true) : Met l yX4_clauseHolds wsX4_clauseHolds (rmK 112 2980 d) (zP G [.ref (mt), .ref (r), .ref (v), .int (nI (lev))] (fun H => MA G H f pf mt ms hm ∧ RFn G H f pf2 Z d lo r hi e nx ∧ Nod G H f pf t v hv 3 a w pl nxt)) (zR (.int (nI (nB (clS f (ecF f d).1 (ecF f d).2 e a))))) 0 0 (fun _ => False) := by
  refine Met.ofW (cc := cX4_clauseHolds) (maxL := 4) (ret := (some .boolean)) (by decide) rfl ?_
  intro p en s m args below meth c s₁ B hml hv
  obtain ⟨rfl, hP, hK⟩ := hv
  have hx := B.exec
  have hb := B.bytes
  have hr := B.returns
  have hts := atoms_spec (ws := wsX4_clauseHolds) B.pre
  have hz : ∀ w ∈ zW, w.before _ s = true := fun w h => hts w (List.mem_cons_of_mem _ h)
  have hown : s.vm.findClass RX4 = some m.cls := findClass_of_methodNamed B.named
  have hlocks := B.notSynchronized
  obtain ⟨hMA, hRF, hN⟩ := id hP
  obtain ⟨hM, hMs, hCH⟩ := id hMA
  obtain ⟨vl, rs, hR, hlo, hhi, hVN, hkd⟩ := RFn_j hj hRF
  rw [if_pos ha] at hR
  have hl := lv_entry ([.ref (mt), .ref (r), .ref (v), .int (nI (lev))]) (n := 4) (Nat.le_of_ble_eq_true rfl)
  rw [lg_entry_eq]
  generalize (lg_sl ([.ref (mt), .ref (r), .ref (v), .int (nI (lev))]) ++ List.replicate (4 - (lg_sl ([.ref (mt), .ref (r), .ref (v), .int (nI (lev))])).length) Slot.unset).toArray = ls at hl ⊢
  have hl : lv_has ls 4 [(0, .ref (mt)), (1, .ref (r)), (2, .ref (v)), (3, .int (nI (lev)))] := hl
  refine lv_iload_n hx hb dX4_clauseHolds_0 rfl (lv_at hl 3 rfl) ?_
  refine lv_bipush (v := nI 40) hx hb dX4_clauseHolds_1 (by decide) ?_
  refine zi_icmp_le (tgt := 8) hx hb dX4_clauseHolds_3 (by decide) (by omega) (by omega) (fun c_3 => ?_) (fun c_3 => ?_)
  · refine lv_aload_n hx hb dX4_clauseHolds_8 rfl (lv_at hl 1 rfl) ?_
    refine zi_getN (C := RX6) (T := TX6) (N := 7) (v := .int (nI (2))) hx hb hz wo_X6 hown hK hR rfl 0 (by decide) wf_X4_37 (fun _ h9 => h9) rfl dX4_clauseHolds_9 ?_
    refine lv_lookup (off := 28) (tgt := 40) hx hb dX4_clauseHolds_12 (by decide) (by decide +kernel) (by decide) ?_
    refine lv_aload_n hx hb dX4_clauseHolds_40 rfl (lv_at hl 0 rfl) ?_
    refine lv_iconst (v := nI 0) hx hb dX4_clauseHolds_41 (by decide) ?_
    refine lv_aload_n hx hb dX4_clauseHolds_42 rfl (lv_at hl 1 rfl) ?_
    refine lv_aload_n hx hb dX4_clauseHolds_43 rfl (lv_at hl 2 rfl) ?_
    refine lv_iload_n hx hb dX4_clauseHolds_44 rfl (lv_at hl 3 rfl) ?_
    refine zc_V (As := [.int (nI (0)), .ref (r), .ref (v), .int (nI (lev))]) (rest := []) ⟨hx, hb, hml, hown, hts⟩ (c_spi l G f pf pf2 Z mt ms hm d IH1 IH2 false r 2 (isA f e wNor) vl none rs.getLast? nx (r + 1) hi rs (els f (vo f e)) t v hv a w pl nxt lev hlev ht hk hw) (cwV 4 hts (zgV wm_X4_41 wv_X4_somePartIs) rfl rfl rfl (by decide +kernel) ⟨show 50 * d + 64 + 1 ≤ 50 * d + 112 by omega, show 8 + (6 + 11) + (1250 * d + 1790) ≤ 1250 * d + 2980 by omega⟩) hK hM rfl ⟨hMA, hR, hkd, hN⟩ rfl hl.1 rfl (Nat.le_of_ble_eq_true rfl) dX4_clauseHolds_45 ⟨Nat.zero_le _, Nat.zero_le _⟩ ?_
    refine zb_if_ne (tgt := 55) hx hb dX4_clauseHolds_48 (by decide) (fun c_48 => ?_) (fun c_48 => ?_)
    · refine lv_iconst (v := nI 0) hx hb dX4_clauseHolds_55 (by decide) ?_
      exact zr_z hx hb hr hlocks (by rw [clS, if_pos hj, if_pos ha, c_48]; rfl) dX4_clauseHolds_56
    · refine lv_iconst (v := nI 1) hx hb dX4_clauseHolds_51 (by decide) ?_
      refine lv_goto (tgt := 56) hx hb dX4_clauseHolds_52 (by decide) ?_
      exact zr_z hx hb hr hlocks (by rw [clS, if_pos hj, if_pos ha, c_48]; rfl) dX4_clauseHolds_56
  · exfalso; omega

set_option maxHeartbeats 4000000 in
set_option maxRecDepth 100000 in
theorem c_cl_or (l : Launch) (G : zG) (f : Nat → Nat) (pf pf2 : Nat → Int32) (Z : Nat → Prop) (mt ms hm d : Nat) (IH1 : C_cH l G f pf pf2 Z mt ms hm d) (IH2 : C_fF l G f pf pf2 Z mt ms hm d) (lo r hi e : Nat) (nx : Option Nat) (t v hv a : Nat) (w : List Nat) (pl : Int32) (nxt : Option Nat) (lev : Nat) (hlev : lev + (d + 1) + t ≤ 40) (ht : t ≤ 16) (hk : okV f t 3 a) (hw : okW f t 3 a) (hj : f (e + 1) = 36) (ha : ¬ isA f e wAnd = true) : Met l yX4_clauseHolds wsX4_clauseHolds (rmK 112 2980 d) (zP G [.ref (mt), .ref (r), .ref (v), .int (nI (lev))] (fun H => MA G H f pf mt ms hm ∧ RFn G H f pf2 Z d lo r hi e nx ∧ Nod G H f pf t v hv 3 a w pl nxt)) (zR (.int (nI (nB (clS f (ecF f d).1 (ecF f d).2 e a))))) 0 0 (fun _ => False) := by
  refine Met.ofW (cc := cX4_clauseHolds) (maxL := 4) (ret := (some .boolean)) (by decide) rfl ?_
  intro p en s m args below meth c s₁ B hml hv
  obtain ⟨rfl, hP, hK⟩ := hv
  have hx := B.exec
  have hb := B.bytes
  have hr := B.returns
  have hts := atoms_spec (ws := wsX4_clauseHolds) B.pre
  have hz : ∀ w ∈ zW, w.before _ s = true := fun w h => hts w (List.mem_cons_of_mem _ h)
  have hown : s.vm.findClass RX4 = some m.cls := findClass_of_methodNamed B.named
  have hlocks := B.notSynchronized
  obtain ⟨hMA, hRF, hN⟩ := id hP
  obtain ⟨hM, hMs, hCH⟩ := id hMA
  obtain ⟨vl, rs, hR, hlo, hhi, hVN, hkd⟩ := RFn_j hj hRF
  rw [if_neg ha] at hR
  have hl := lv_entry ([.ref (mt), .ref (r), .ref (v), .int (nI (lev))]) (n := 4) (Nat.le_of_ble_eq_true rfl)
  rw [lg_entry_eq]
  generalize (lg_sl ([.ref (mt), .ref (r), .ref (v), .int (nI (lev))]) ++ List.replicate (4 - (lg_sl ([.ref (mt), .ref (r), .ref (v), .int (nI (lev))])).length) Slot.unset).toArray = ls at hl ⊢
  have hl : lv_has ls 4 [(0, .ref (mt)), (1, .ref (r)), (2, .ref (v)), (3, .int (nI (lev)))] := hl
  refine lv_iload_n hx hb dX4_clauseHolds_0 rfl (lv_at hl 3 rfl) ?_
  refine lv_bipush (v := nI 40) hx hb dX4_clauseHolds_1 (by decide) ?_
  refine zi_icmp_le (tgt := 8) hx hb dX4_clauseHolds_3 (by decide) (by omega) (by omega) (fun c_3 => ?_) (fun c_3 => ?_)
  · refine lv_aload_n hx hb dX4_clauseHolds_8 rfl (lv_at hl 1 rfl) ?_
    refine zi_getN (C := RX6) (T := TX6) (N := 7) (v := .int (nI (3))) hx hb hz wo_X6 hown hK hR rfl 0 (by decide) wf_X4_37 (fun _ h9 => h9) rfl dX4_clauseHolds_9 ?_
    refine lv_lookup (off := 45) (tgt := 57) hx hb dX4_clauseHolds_12 (by decide) (by decide +kernel) (by decide) ?_
    refine lv_aload_n hx hb dX4_clauseHolds_57 rfl (lv_at hl 0 rfl) ?_
    refine lv_iconst (v := nI 1) hx hb dX4_clauseHolds_58 (by decide) ?_
    refine lv_aload_n hx hb dX4_clauseHolds_59 rfl (lv_at hl 1 rfl) ?_
    refine lv_aload_n hx hb dX4_clauseHolds_60 rfl (lv_at hl 2 rfl) ?_
    refine lv_iload_n hx hb dX4_clauseHolds_61 rfl (lv_at hl 3 rfl) ?_
    refine zc_V (As := [.int (nI (1)), .ref (r), .ref (v), .int (nI (lev))]) (rest := []) ⟨hx, hb, hml, hown, hts⟩ (c_spi l G f pf pf2 Z mt ms hm d IH1 IH2 true r 3 (isA f e wNor) vl none rs.getLast? nx (r + 1) hi rs (els f (vo f e)) t v hv a w pl nxt lev hlev ht hk hw) (cwV 4 hts (zgV wm_X4_41 wv_X4_somePartIs) rfl rfl rfl (by decide +kernel) ⟨show 50 * d + 64 + 1 ≤ 50 * d + 112 by omega, show 8 + (6 + 11) + (1250 * d + 1790) ≤ 1250 * d + 2980 by omega⟩) hK hM rfl ⟨hMA, hR, hkd, hN⟩ rfl hl.1 rfl (Nat.le_of_ble_eq_true rfl) dX4_clauseHolds_62 ⟨Nat.zero_le _, Nat.zero_le _⟩ ?_
    refine lv_aload_n hx hb dX4_clauseHolds_65 rfl (lv_at hl 1 rfl) ?_
    refine zi_getN (C := RX6) (T := TX6) (N := 7) (v := .int (nI (nB (isA f e wNor)))) hx hb hz wo_X6 hown hK hR rfl 1 (by decide) wf_X4_45 (fun _ h9 => h9) rfl dX4_clauseHolds_66 ?_
    refine zi_icmp_eq (tgt := 76) hx hb dX4_clauseHolds_69 (by decide) (Nat.lt_trans (nB_lt _) (by decide)) (Nat.lt_trans (nB_lt _) (by decide)) (fun c_69 => ?_) (fun c_69 => ?_)
    · refine lv_iconst (v := nI 0) hx hb dX4_clauseHolds_76 (by decide) ?_
      exact zr_z hx hb hr hlocks (by rw [clS, if_pos hj, if_neg ha, bneB_f c_69]; rfl) dX4_clauseHolds_77
    · refine lv_iconst (v := nI 1) hx hb dX4_clauseHolds_72 (by decide) ?_
      refine lv_goto (tgt := 77) hx hb dX4_clauseHolds_73 (by decide) ?_
      exact zr_z hx hb hr hlocks (by rw [clS, if_pos hj, if_neg ha, bneB_t c_69]; rfl) dX4_clauseHolds_77
  · exfalso; omega

set_option maxHeartbeats 4000000 in
set_option maxRecDepth 100000 in
theorem c_cl_pc (l : Launch) (G : zG) (f : Nat → Nat) (pf pf2 : Nat → Int32) (Z : Nat → Prop) (mt ms hm d : Nat) (IH1 : C_cH l G f pf pf2 Z mt ms hm d) (IH2 : C_fF l G f pf pf2 Z mt ms hm d) (lo r hi e : Nat) (nx : Option Nat) (t v hv a : Nat) (w : List Nat) (pl : Int32) (nxt : Option Nat) (lev : Nat) (hlev : lev + (d + 1) + t ≤ 40) (ht : t ≤ 16) (hk : okV f t 3 a) (hw : okW f t 3 a) (hj : f (e + 1) ≠ 36) (hc : isC f (f e) (vo f e) = true) : Met l yX4_clauseHolds wsX4_clauseHolds (rmK 112 2980 d) (zP G [.ref (mt), .ref (r), .ref (v), .int (nI (lev))] (fun H => MA G H f pf mt ms hm ∧ RFn G H f pf2 Z d lo r hi e nx ∧ Nod G H f pf t v hv 3 a w pl nxt)) (zR (.int (nI (nB (clS f (ecF f d).1 (ecF f d).2 e a))))) 0 0 (fun _ => False) := by
  refine Met.ofW (cc := cX4_clauseHolds) (maxL := 4) (ret := (some .boolean)) (by decide) rfl ?_
  intro p en s m args below meth c s₁ B hml hv
  obtain ⟨rfl, hP, hK⟩ := hv
  have hx := B.exec
  have hb := B.bytes
  have hr := B.returns
  have hts := atoms_spec (ws := wsX4_clauseHolds) B.pre
  have hz : ∀ w ∈ zW, w.before _ s = true := fun w h => hts w (List.mem_cons_of_mem _ h)
  have hown : s.vm.findClass RX4 = some m.cls := findClass_of_methodNamed B.named
  have hlocks := B.notSynchronized
  obtain ⟨hMA, hRF, hN⟩ := id hP
  obtain ⟨hM, hMs, hCH⟩ := id hMA
  obtain ⟨vl, rs, sa, hR, hlo, hhi, hVN, hSt, hPC, hPA⟩ := RFn_w hj hRF
  have hl := lv_entry ([.ref (mt), .ref (r), .ref (v), .int (nI (lev))]) (n := 4) (Nat.le_of_ble_eq_true rfl)
  rw [lg_entry_eq]
  generalize (lg_sl ([.ref (mt), .ref (r), .ref (v), .int (nI (lev))]) ++ List.replicate (4 - (lg_sl ([.ref (mt), .ref (r), .ref (v), .int (nI (lev))])).length) Slot.unset).toArray = ls at hl ⊢
  have hl : lv_has ls 4 [(0, .ref (mt)), (1, .ref (r)), (2, .ref (v)), (3, .int (nI (lev)))] := hl
  refine lv_iload_n hx hb dX4_clauseHolds_0 rfl (lv_at hl 3 rfl) ?_
  refine lv_bipush (v := nI 40) hx hb dX4_clauseHolds_1 (by decide) ?_
  refine zi_icmp_le (tgt := 8) hx hb dX4_clauseHolds_3 (by decide) (by omega) (by omega) (fun c_3 => ?_) (fun c_3 => ?_)
  · refine lv_aload_n hx hb dX4_clauseHolds_8 rfl (lv_at hl 1 rfl) ?_
    refine zi_getN (C := RX6) (T := TX6) (N := 7) (v := .int (nI (4))) hx hb hz wo_X6 hown hK hR rfl 0 (by decide) wf_X4_37 (fun _ h9 => h9) rfl dX4_clauseHolds_9 ?_
    refine lv_lookup (off := 66) (tgt := 78) hx hb dX4_clauseHolds_12 (by decide) (by decide +kernel) (by decide) ?_
    refine lv_aload_n hx hb dX4_clauseHolds_78 rfl (lv_at hl 0 rfl) ?_
    refine lv_aload_n hx hb dX4_clauseHolds_79 rfl (lv_at hl 1 rfl) ?_
    refine lv_aload_n hx hb dX4_clauseHolds_80 rfl (lv_at hl 1 rfl) ?_
    refine zi_getN (C := RX6) (T := TX6) (N := 7) (v := .ref (sa)) hx hb hz wo_X6 hown hK hR rfl 3 (by decide) wf_X4_49 (fun _ h9 => h9) rfl dX4_clauseHolds_81 ?_
    refine lv_aload_n hx hb dX4_clauseHolds_84 rfl (lv_at hl 2 rfl) ?_
    refine lv_iload_n hx hb dX4_clauseHolds_85 rfl (lv_at hl 3 rfl) ?_
    refine zc_V (As := [.ref (r), .ref (sa), .ref (v), .int (nI (lev))]) (rest := []) ⟨hx, hb, hml, hown, hts⟩ (IH1 (fun q => Z q ∨ (lo ≤ q ∧ q < r) ∨ q < cB G) r 4 false vl (some sa) rs.getLast? nx (r + 1) hi rs (conds f e) 9 (some sa) (e + 1) t v hv 3 a w pl nxt lev (by omega) ht hk hw) (cwV 4 hts (zgV wm_X4_53 wv_X4_conditionsHold) rfl rfl rfl (by decide +kernel) ⟨show 50 * d + 60 + 1 ≤ 50 * d + 112 by omega, show 8 + (6 + 11) + (1250 * d + 1700) ≤ 1250 * d + 2980 by omega⟩) hK hM rfl ⟨hMA, hR, hPC hc, hSt, hN⟩ rfl hl.1 rfl (Nat.le_of_ble_eq_true rfl) dX4_clauseHolds_86 ⟨Nat.zero_le _, Nat.zero_le _⟩ ?_
    exact zr_z hx hb hr hlocks (by rw [clS, if_neg hj, if_pos hc]) dX4_clauseHolds_89
  · exfalso; omega

set_option maxHeartbeats 4000000 in
set_option maxRecDepth 100000 in
theorem c_cl_pa (l : Launch) (G : zG) (f : Nat → Nat) (pf pf2 : Nat → Int32) (Z : Nat → Prop) (mt ms hm d : Nat) (IH1 : C_cH l G f pf pf2 Z mt ms hm d) (IH2 : C_fF l G f pf pf2 Z mt ms hm d) (lo r hi e : Nat) (nx : Option Nat) (t v hv a : Nat) (w : List Nat) (pl : Int32) (nxt : Option Nat) (lev : Nat) (hlev : lev + (d + 1) + t ≤ 40) (ht : t ≤ 16) (hk : okV f t 3 a) (hw : okW f t 3 a) (hj : f (e + 1) ≠ 36) (hc : isC f (f e) (vo f e) = false) : Met l yX4_clauseHolds wsX4_clauseHolds (rmK 112 2980 d) (zP G [.ref (mt), .ref (r), .ref (v), .int (nI (lev))] (fun H => MA G H f pf mt ms hm ∧ RFn G H f pf2 Z d lo r hi e nx ∧ Nod G H f pf t v hv 3 a w pl nxt)) (zR (.int (nI (nB (clS f (ecF f d).1 (ecF f d).2 e a))))) 0 0 (fun _ => False) := by
  refine Met.ofW (cc := cX4_clauseHolds) (maxL := 4) (ret := (some .boolean)) (by decide) rfl ?_
  intro p en s m args below meth c s₁ B hml hv
  obtain ⟨rfl, hP, hK⟩ := hv
  have hx := B.exec
  have hb := B.bytes
  have hr := B.returns
  have hts := atoms_spec (ws := wsX4_clauseHolds) B.pre
  have hz : ∀ w ∈ zW, w.before _ s = true := fun w h => hts w (List.mem_cons_of_mem _ h)
  have hown : s.vm.findClass RX4 = some m.cls := findClass_of_methodNamed B.named
  have hlocks := B.notSynchronized
  obtain ⟨hMA, hRF, hN⟩ := id hP
  obtain ⟨hM, hMs, hCH⟩ := id hMA
  obtain ⟨vl, rs, sa, hR, hlo, hhi, hVN, hSt, hPC, hPA⟩ := RFn_w hj hRF
  have hl := lv_entry ([.ref (mt), .ref (r), .ref (v), .int (nI (lev))]) (n := 4) (Nat.le_of_ble_eq_true rfl)
  rw [lg_entry_eq]
  generalize (lg_sl ([.ref (mt), .ref (r), .ref (v), .int (nI (lev))]) ++ List.replicate (4 - (lg_sl ([.ref (mt), .ref (r), .ref (v), .int (nI (lev))])).length) Slot.unset).toArray = ls at hl ⊢
  have hl : lv_has ls 4 [(0, .ref (mt)), (1, .ref (r)), (2, .ref (v)), (3, .int (nI (lev)))] := hl
  refine lv_iload_n hx hb dX4_clauseHolds_0 rfl (lv_at hl 3 rfl) ?_
  refine lv_bipush (v := nI 40) hx hb dX4_clauseHolds_1 (by decide) ?_
  refine zi_icmp_le (tgt := 8) hx hb dX4_clauseHolds_3 (by decide) (by omega) (by omega) (fun c_3 => ?_) (fun c_3 => ?_)
  · refine lv_aload_n hx hb dX4_clauseHolds_8 rfl (lv_at hl 1 rfl) ?_
    refine zi_getN (C := RX6) (T := TX6) (N := 7) (v := .int (nI (4))) hx hb hz wo_X6 hown hK hR rfl 0 (by decide) wf_X4_37 (fun _ h9 => h9) rfl dX4_clauseHolds_9 ?_
    refine lv_lookup (off := 66) (tgt := 78) hx hb dX4_clauseHolds_12 (by decide) (by decide +kernel) (by decide) ?_
    refine lv_aload_n hx hb dX4_clauseHolds_78 rfl (lv_at hl 0 rfl) ?_
    refine lv_aload_n hx hb dX4_clauseHolds_79 rfl (lv_at hl 1 rfl) ?_
    refine lv_aload_n hx hb dX4_clauseHolds_80 rfl (lv_at hl 1 rfl) ?_
    refine zi_getN (C := RX6) (T := TX6) (N := 7) (v := .ref (sa)) hx hb hz wo_X6 hown hK hR rfl 3 (by decide) wf_X4_49 (fun _ h9 => h9) rfl dX4_clauseHolds_81 ?_
    refine lv_aload_n hx hb dX4_clauseHolds_84 rfl (lv_at hl 2 rfl) ?_
    refine lv_iload_n hx hb dX4_clauseHolds_85 rfl (lv_at hl 3 rfl) ?_
    refine zc_V (As := [.ref (r), .ref (sa), .ref (v), .int (nI (lev))]) (rest := []) ⟨hx, hb, hml, hown, hts⟩ (c_cH_ l G f pf pf2 Z mt ms hm d IH1 IH2 (fun q => Z q ∨ (lo ≤ q ∧ q < r) ∨ q < cB G) r 4 false vl (some sa) rs.getLast? nx (r + 1) hi rs [(5, false, e)] 9 (some sa) (e + 1) t v hv 3 a w pl nxt lev (by omega) ht hk hw) (cwV 4 hts (zgV wm_X4_53 wv_X4_conditionsHold) rfl rfl rfl (by decide +kernel) ⟨show 50 * (d + 1) + 60 + 1 ≤ 50 * d + 112 by omega, show 8 + (6 + 11) + (1250 * (d + 1) + 1700) ≤ 1250 * d + 2980 by omega⟩) hK hM rfl ⟨hMA, hR, hPA hc, hSt, hN⟩ rfl hl.1 rfl (Nat.le_of_ble_eq_true rfl) dX4_clauseHolds_86 ⟨Nat.zero_le _, Nat.zero_le _⟩ ?_
    exact zr_z hx hb hr hlocks (by rw [clS, if_neg hj, if_neg (by rw [hc]; decide), ec_al, List.all_cons, List.all_nil, Bool.and_true]) dX4_clauseHolds_89
  · exfalso; omega

theorem c_cl_ (l : Launch) (G : zG) (f : Nat → Nat) (pf pf2 : Nat → Int32) (Z : Nat → Prop) (mt ms hm d : Nat) (IH1 : C_cH l G f pf pf2 Z mt ms hm d) (IH2 : C_fF l G f pf pf2 Z mt ms hm d) : C_cl l G f pf pf2 Z mt ms hm d := fun lo r hi e nx t v hv a w pl nxt lev h1 h2 h3 h4 => by
  by_cases hj : f (e + 1) = 36
  · by_cases ha : isA f e wAnd = true
    · exact c_cl_and l G f pf pf2 Z mt ms hm d IH1 IH2 lo r hi e nx t v hv a w pl nxt lev h1 h2 h3 h4 hj ha
    · exact c_cl_or l G f pf pf2 Z mt ms hm d IH1 IH2 lo r hi e nx t v hv a w pl nxt lev h1 h2 h3 h4 hj ha
  · cases hc : isC f (f e) (vo f e) with
    | true => exact c_cl_pc l G f pf pf2 Z mt ms hm d IH1 IH2 lo r hi e nx t v hv a w pl nxt lev h1 h2 h3 h4 hj hc
    | false => exact c_cl_pa l G f pf pf2 Z mt ms hm d IH1 IH2 lo r hi e nx t v hv a w pl nxt lev h1 h2 h3 h4 hj hc

set_option maxHeartbeats 4000000 in
set_option maxRecDepth 100000 in
theorem c_fF_ (l : Launch) (G : zG) (f : Nat → Nat) (pf pf2 : Nat → Int32) (Z : Nat → Prop) (mt ms hm d : Nat) (IH1 : C_cH l G f pf pf2 Z mt ms hm d) (IH2 : C_fF l G f pf pf2 Z mt ms hm d) (h sg : Nat) (ng : Bool) (vl : Nat) (pa lst nx : Option Nat) (lo hi : Nat) (rs : List Nat) (x : Nat) (t v hv a : Nat) (w : List Nat) (pl : Int32) (nxt : Option Nat) (lev : Nat) (hlev : lev + (d + 1) + t ≤ 40) (ht : t ≤ 16) (hk : okV f t 3 a) (hw : okW f t 3 a) : Met l yX4_firstFailing wsX4_firstFailing (rmK 63 1760 (d + 1)) (zP G [.ref (mt), .ref (h), .ref (v), .int (nI (lev))] (fun H => MA G H f pf mt ms hm ∧ zO G H h 5 (rlF sg ng vl pa rs.head? lst nx) ∧ (RuL G H f pf2 Z (d + 1)).2 lo hi rs (els f x) ∧ Nod G H f pf t v hv 3 a w pl nxt)) (zR (.int (fI (fun e => clS f (ecF f d).1 (ecF f d).2 e a) (els f x) 0))) 0 0 (fun _ => False) := by
  refine Met.ofW (cc := cX4_firstFailing) (maxL := 6) (ret := (some .int)) (by decide) rfl ?_
  intro p en s m args below meth c s₁ B hml hv
  obtain ⟨rfl, hP, hK⟩ := hv
  have hx := B.exec
  have hb := B.bytes
  have hr := B.returns
  have hts := atoms_spec (ws := wsX4_firstFailing) B.pre
  have hz : ∀ w ∈ zW, w.before _ s = true := fun w h => hts w (List.mem_cons_of_mem _ h)
  have hown : s.vm.findClass RX4 = some m.cls := findClass_of_methodNamed B.named
  have hlocks := B.notSynchronized
  obtain ⟨hMA, hH, hkd0, hN⟩ := id hP
  obtain ⟨hM, hMs, hCH⟩ := id hMA
  have hl := lv_entry ([.ref (mt), .ref (h), .ref (v), .int (nI (lev))]) (n := 6) (Nat.le_of_ble_eq_true rfl)
  rw [lg_entry_eq]
  generalize (lg_sl ([.ref (mt), .ref (h), .ref (v), .int (nI (lev))]) ++ List.replicate (6 - (lg_sl ([.ref (mt), .ref (h), .ref (v), .int (nI (lev))])).length) Slot.unset).toArray = ls at hl ⊢
  have hl : lv_has ls 6 [(0, .ref (mt)), (1, .ref (h)), (2, .ref (v)), (3, .int (nI (lev)))] := hl
  refine lv_iconst (v := nI 0) hx hb dX4_firstFailing_0 (by decide) ?_
  refine lv_istore (lv' := [(4, .int (nI (0))), (0, .ref (mt)), (1, .ref (h)), (2, .ref (v)), (3, .int (nI (lev)))]) hx hb dX4_firstFailing_1 hl (by decide) rfl (fun ls hl => ?_)
  refine lv_aload_n hx hb dX4_firstFailing_3 rfl (lv_at hl 2 rfl) ?_
  refine zi_getN (C := RX6) (T := TX6) (N := 7) (v := va_rf (rs.head?)) hx hb hz wo_X6 hown hK hH rfl 4 (by decide) wf_X4_24 (fun _ h9 => h9) rfl dX4_firstFailing_4 ?_
  refine zo_astore (lv' := [(5, va_rf (rs.head?)), (4, .int (nI (0))), (0, .ref (mt)), (1, .ref (h)), (2, .ref (v)), (3, .int (nI (lev)))]) hx hb dX4_firstFailing_7 hl (by decide) rfl (fun ls hl => ?_)
  have L9 : ∀ (n_ : Nat) (ws : List Nat) (us : List Nat) (lo9 : Nat) (j : Nat), ws.length < n_ → (kidR (RFn G s.heap f pf2 Z d) lo9 hi ws us) → (fI (fun e => clS f (ecF f d).1 (ecF f d).2 e a) (els f x) 0 = fI (fun e => clS f (ecF f d).1 (ecF f d).2 e a) us j) → ∀ ls : Array Slot, lv_has ls 6 [(0, .ref (mt)), (2, .ref (v)), (3, .int (nI (lev))), (4, .int (nI (j))), (5, va_rf (ws.head?))] → W p l en (headSpec wsX4_firstFailing (rmK 63 1760 (d + 1))).room s m ([.ref (mt), .ref (h), .ref (v), .int (nI (lev))] : List Value).toArray below meth c s.heap [] 0 0 (MQ below (zR (.int (fI (fun e => clS f (ecF f d).1 (ecF f d).2 e a) (els f x) 0))) ([.ref (mt), .ref (h), .ref (v), .int (nI (lev))] : List Value).toArray s 0 0 (fun _ => False)) (F0 m 9 ls []) := by
    intro n_
    induction n_ with
    | zero => intro ws us lo9 j hm_; exact absurd hm_ (Nat.not_lt_zero _)
    | succ n_ ih_ =>
      intro ws us lo9 j hm_ hkd hs9 ls hl
      refine zo_aload hx hb dX4_firstFailing_9 (lv_at hl 4 rfl) ?_
      rcases ws with _ | ⟨v1, vs1⟩
      · have hl : lv_has ls 6 [(0, .ref (mt)), (2, .ref (v)), (3, .int (nI (lev))), (4, .int (nI (j))), (5, .null)] := hl
        have hus := kidR_nil hkd
        subst hus
        refine W.eq (g2 := F0 m 11 ls ([.null])) rfl ?_
        refine lv_ifnullN (tgt := 41) hx hb dX4_firstFailing_11 (by decide) ?_
        refine lv_iconst (v := (-1)) hx hb dX4_firstFailing_41 (by decide) ?_
        exact zr_i hx hb hr hlocks (by rw [hs9]; rfl) dX4_firstFailing_42
      · have hl : lv_has ls 6 [(0, .ref (mt)), (2, .ref (v)), (3, .int (nI (lev))), (4, .int (nI (j))), (5, .ref (v1))] := hl
        obtain ⟨x1, xs1, rfl, mid1, hmi1, hRC1, hkd1⟩ := kidR_cons hkd
        obtain ⟨sg1, ng1, vl1, pa1, fs1, ls1, hR1⟩ := RFn_o hRC1
        refine W.eq (g2 := F0 m 11 ls ([.ref (v1)])) rfl ?_
        refine lv_ifnull hx hb dX4_firstFailing_11 ?_
        refine lv_aload_n hx hb dX4_firstFailing_14 rfl (lv_at hl 0 rfl) ?_
        refine lv_aload hx hb dX4_firstFailing_15 (lv_at hl 4 rfl) ?_
        refine lv_aload_n hx hb dX4_firstFailing_17 rfl (lv_at hl 1 rfl) ?_
        refine lv_iload_n hx hb dX4_firstFailing_18 rfl (lv_at hl 2 rfl) ?_
        refine zc_V (As := [.ref (v1), .ref (v), .int (nI (lev))]) (rest := []) ⟨hx, hb, hml, hown, hts⟩ (c_cl_ l G f pf pf2 Z mt ms hm d IH1 IH2 lo9 v1 mid1 x1 vs1.head? t v hv a w pl nxt lev hlev ht hk hw) (cwV 3 hts (zgV wm_X4_30 wv_X4_clauseHolds) rfl rfl rfl (by decide +kernel) ⟨show 50 * d + 112 + 1 ≤ 50 * (d + 1) + 63 by omega, show 8 + (4 + 11) + (1250 * d + 2980) ≤ 1250 * (d + 1) + 1760 by omega⟩) hK hM rfl ⟨hMA, hRC1, hN⟩ rfl hl.1 rfl (Nat.le_of_ble_eq_true rfl) dX4_firstFailing_19 ⟨Nat.zero_le _, Nat.zero_le _⟩ ?_
        refine zb_if_ne (tgt := 28) hx hb dX4_firstFailing_22 (by decide) (fun c_22 => ?_) (fun c_22 => ?_)
        · refine lv_iinc (v := nI (j + 1)) (lv' := [(4, .int (nI (j + 1))), (0, .ref (mt)), (2, .ref (v)), (3, .int (nI (lev))), (5, .ref (v1))]) hx hb dX4_firstFailing_28 hl (k := 3) rfl (nI_add _ _) (by decide) rfl (fun ls hl => ?_)
          refine lv_aload hx hb dX4_firstFailing_31 (lv_at hl 4 rfl) ?_
          refine zi_getN (C := RX6) (T := TX6) (N := 7) (v := va_rf (vs1.head?)) hx hb hz wo_X6 hown hK hR1 rfl 6 (by decide) wf_X4_34 (fun _ h9 => h9) rfl dX4_firstFailing_33 ?_
          refine zo_astore (lv' := [(5, va_rf (vs1.head?)), (4, .int (nI (j + 1))), (0, .ref (mt)), (2, .ref (v)), (3, .int (nI (lev)))]) hx hb dX4_firstFailing_36 hl (by decide) rfl (fun ls hl => ?_)
          refine lv_goto (tgt := 9) hx hb dX4_firstFailing_38 (by decide) ?_
          exact ih_ vs1 xs1 mid1 (j + 1) (by simp only [List.length_cons] at hm_; omega) hkd1 (hs9.trans (by rw [fI, if_pos c_22])) ls (lv_sub hl [2, 3, 4, 1, 0] rfl)
        · refine lv_iload hx hb dX4_firstFailing_25 (lv_at hl 3 rfl) ?_
          exact zr_i hx hb hr hlocks (by rw [hs9, fI, if_neg (by rw [c_22]; decide)]) dX4_firstFailing_27
  exact L9 ((rs.length) + 1) rs (els f x) lo 0 (Nat.lt_succ_self _) hkd0 rfl ls (lv_sub hl [2, 4, 5, 1, 0] rfl)

theorem c_mat_all (l : Launch) (G : zG) (f : Nat → Nat) (pf pf2 : Nat → Int32) (Z : Nat → Prop) (mt ms hm : Nat) : ∀ d, C_cH l G f pf pf2 Z mt ms hm d ∧ C_fF l G f pf pf2 Z mt ms hm d
  | 0 => by
    constructor
    · intro Zs h sg ng vl pa lst nx lo hi rs ts n st q t v hv k a w pl nxt lev h1 h2 h3 h4
      refine Met.ofW (cc := cX4_conditionsHold) (maxL := 6) (ret := (some .boolean)) (by decide) rfl ?_
      intro p en s m args below meth c s₁ B hml hv9
      exact hv9.2.1.2.2.1.elim
    · intro h sg ng vl pa lst nx lo hi rs x t v hv a w pl nxt lev h1 h2 h3 h4
      refine Met.ofW (cc := cX4_firstFailing) (maxL := 6) (ret := (some .int)) (by decide) rfl ?_
      intro p en s m args below meth c s₁ B hml hv9
      exact hv9.2.1.2.2.1.elim
  | d + 1 => by
    obtain ⟨IH1, IH2⟩ := c_mat_all l G f pf pf2 Z mt ms hm d
    exact ⟨c_cH_ l G f pf pf2 Z mt ms hm d IH1 IH2, fun h sg ng vl pa lst nx lo hi rs x t v hv a w pl nxt lev h1 h2 h3 h4 => c_fF_ l G f pf pf2 Z mt ms hm d IH1 IH2 h sg ng vl pa lst nx lo hi rs x t v hv a w pl nxt lev h1 h2 h3 h4⟩
