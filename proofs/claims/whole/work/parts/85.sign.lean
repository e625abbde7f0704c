set_option maxHeartbeats 4000000 in
set_option maxRecDepth 100000 in
theorem c_jsign (l : Launch) (G : zG)  (a : Nat) (w : List Nat) (Z : Nat → Prop) : Met l yX2_joinSign wsX2_joinSign ({ frames := 2, cells := 0, slots := 0, locals := 44 }) (zP G [.ref (a)] (fun H => StrZ G H Z a w ∧ CH G H)) (zR (.int (nI (jS w)))) 0 0 (fun _ => False) := by
  refine Met.ofW (cc := cX2_joinSign) (maxL := 1) (ret := (some .int)) (by decide) rfl ?_
  intro p en s m args below meth c s₁ B hml hv
  obtain ⟨rfl, hP, hK⟩ := hv
  have hx := B.exec
  have hb := B.bytes
  have hr := B.returns
  have hts := atoms_spec (ws := wsX2_joinSign) B.pre
  have hz : ∀ w ∈ zW, w.before _ s = true := fun w h => hts w (List.mem_cons_of_mem _ h)
  have hown : s.vm.findClass RX2 = some m.cls := findClass_of_methodNamed B.named
  have hlocks := B.notSynchronized
  obtain ⟨hSt, hCH⟩ := id hP
  obtain ⟨v9, hs9, hz9, -, -, hSa⟩ := id hSt
  have hl := lv_entry ([.ref (a)]) (n := 1) (Nat.le_of_ble_eq_true rfl)
  rw [lg_entry_eq]
  generalize (lg_sl ([.ref (a)]) ++ List.replicate (1 - (lg_sl ([.ref (a)])).length) Slot.unset).toArray = ls at hl ⊢
  have hl : lv_has ls 1 [(0, .ref (a))] := hl
  refine lv_aload_n hx hb dX2_joinSign_0 rfl (lv_at hl 0 rfl) ?_
  refine va_ldcS hx hb hown (hK.2.2.1 ("FilterReader$FilterMaker", 137, "$and") (by decide)) dX2_joinSign_1 ?_
  refine zc_Vw (As := [.ref (G.2.2 "$and")]) (rest := []) ⟨hx, hb, hml, hown, hts⟩ (j_equals l G a (G.2.2 "$and") w (ltr "$and") Z _) (cwV 1 hts (zgV wm_X2_86 wv_J0_equals_9ea2d) rfl rfl rfl (by decide +kernel) ⟨Nat.le_of_ble_eq_true rfl, Nat.le_of_ble_eq_true rfl⟩) hK hSa.1 rfl ⟨hSt, hCH.2.2.1 ("FilterReader$FilterMaker", 137, "$and") (by decide), hCH⟩ rfl hl.1 rfl (Nat.le_of_ble_eq_true rfl) dX2_joinSign_3 ⟨Nat.zero_le _, Nat.zero_le _⟩ ?_
  refine zb_if_eq (tgt := 11) hx hb dX2_joinSign_6 (by decide) (fun c_6 => ?_) (fun c_6 => ?_)
  · refine lv_aload_n hx hb dX2_joinSign_11 rfl (lv_at hl 0 rfl) ?_
    refine va_ldcS hx hb hown (hK.2.2.1 ("FilterReader$FilterMaker", 139, "$or") (by decide)) dX2_joinSign_12 ?_
    refine zc_Vw (As := [.ref (G.2.2 "$or")]) (rest := []) ⟨hx, hb, hml, hown, hts⟩ (j_equals l G a (G.2.2 "$or") w (ltr "$or") Z _) (cwV 1 hts (zgV wm_X2_86 wv_J0_equals_9ea2d) rfl rfl rfl (by decide +kernel) ⟨Nat.le_of_ble_eq_true rfl, Nat.le_of_ble_eq_true rfl⟩) hK hSa.1 rfl ⟨hSt, hCH.2.2.1 ("FilterReader$FilterMaker", 139, "$or") (by decide), hCH⟩ rfl hl.1 rfl (Nat.le_of_ble_eq_true rfl) dX2_joinSign_14 ⟨Nat.zero_le _, Nat.zero_le _⟩ ?_
    refine zb_if_ne (tgt := 29) hx hb dX2_joinSign_17 (by decide) (fun c_17 => ?_) (fun c_17 => ?_)
    · refine lv_iconst (v := nI 3) hx hb dX2_joinSign_29 (by decide) ?_
      refine lv_goto (tgt := 34) hx hb dX2_joinSign_30 (by decide) ?_
      exact zr_i hx hb hr hlocks (by unfold jS; rw [c_6, c_17]; first | done | rfl) dX2_joinSign_34
    · refine lv_aload_n hx hb dX2_joinSign_20 rfl (lv_at hl 0 rfl) ?_
      refine va_ldcS hx hb hown (hK.2.2.1 ("FilterReader$FilterMaker", 84, "$nor") (by decide)) dX2_joinSign_21 ?_
      refine zc_Vw (As := [.ref (G.2.2 "$nor")]) (rest := []) ⟨hx, hb, hml, hown, hts⟩ (j_equals l G a (G.2.2 "$nor") w (ltr "$nor") Z _) (cwV 1 hts (zgV wm_X2_86 wv_J0_equals_9ea2d) rfl rfl rfl (by decide +kernel) ⟨Nat.le_of_ble_eq_true rfl, Nat.le_of_ble_eq_true rfl⟩) hK hSa.1 rfl ⟨hSt, hCH.2.2.1 ("FilterReader$FilterMaker", 84, "$nor") (by decide), hCH⟩ rfl hl.1 rfl (Nat.le_of_ble_eq_true rfl) dX2_joinSign_23 ⟨Nat.zero_le _, Nat.zero_le _⟩ ?_
      refine zb_if_eq (tgt := 33) hx hb dX2_joinSign_26 (by decide) (fun c_26 => ?_) (fun c_26 => ?_)
      · refine lv_iconst (v := nI 0) hx hb dX2_joinSign_33 (by decide) ?_
        exact zr_i hx hb hr hlocks (by unfold jS; rw [c_6, c_17, c_26]; first | done | rfl) dX2_joinSign_34
      · refine lv_iconst (v := nI 3) hx hb dX2_joinSign_29 (by decide) ?_
        refine lv_goto (tgt := 34) hx hb dX2_joinSign_30 (by decide) ?_
        exact zr_i hx hb hr hlocks (by unfold jS; rw [c_6, c_17, c_26]; first | done | rfl) dX2_joinSign_34
  · refine lv_iconst (v := nI 2) hx hb dX2_joinSign_9 (by decide) ?_
    exact zr_i hx hb hr hlocks (by unfold jS; rw [c_6]; first | done | rfl) dX2_joinSign_10

set_option maxHeartbeats 4000000 in
set_option maxRecDepth 100000 in
theorem c_osign (l : Launch) (G : zG)  (f : Nat → Nat) (pf : Nat → Int32) (d v hi k a : Nat) (w : List Nat) (pl : Int32) (nxt : Option Nat) (hk31 : k < 2 ^ 31) : Met l yX2_orderSign wsX2_orderSign ({ frames := 2, cells := 0, slots := 0, locals := 44 }) (zP G [.ref (v)] (fun H => Nod G H f pf d v hi k a w pl nxt ∧ CH G H)) (zR (.int (nI (oS1 w (decide (k = 10)))))) 0 0 (fun _ => False) := by
  refine Met.ofW (cc := cX2_orderSign) (maxL := 3) (ret := (some .int)) (by decide) rfl ?_
  intro p en s m args below meth c s₁ B hml hv
  obtain ⟨rfl, hP, hK⟩ := hv
  have hx := B.exec
  have hb := B.bytes
  have hr := B.returns
  have hts := atoms_spec (ws := wsX2_orderSign) B.pre
  have hz : ∀ w ∈ zW, w.before _ s = true := fun w h => hts w (List.mem_cons_of_mem _ h)
  have hown : s.vm.findClass RX2 = some m.cls := findClass_of_methodNamed B.named
  have hlocks := B.notSynchronized
  obtain ⟨hN, hCH⟩ := id hP
  obtain ⟨nm, tx, f1, l1, n1, hO, hSt, hT, hvl⟩ := hN.o
  obtain ⟨v9, hs9, hz9, -, -, hSa⟩ := id hSt
  have hl := lv_entry ([.ref (v)]) (n := 3) (Nat.le_of_ble_eq_true rfl)
  rw [lg_entry_eq]
  generalize (lg_sl ([.ref (v)]) ++ List.replicate (3 - (lg_sl ([.ref (v)])).length) Slot.unset).toArray = ls at hl ⊢
  have hl : lv_has ls 3 [(0, .ref (v))] := hl
  refine lv_aload_n hx hb dX2_orderSign_0 rfl (lv_at hl 0 rfl) ?_
  refine zi_getN (C := RX9) (T := TX9) (N := 9) (v := .ref (nm)) hx hb hz wo_X9 hown hK hO rfl 2 (by decide) wf_X2_46 (fun _ h9 => h9) rfl dX2_orderSign_1 ?_
  refine lv_astore_n (lv' := [(1, .ref (nm)), (0, .ref (v))]) hx hb dX2_orderSign_4 rfl hl (by decide) rfl (fun ls hl => ?_)
  refine lv_aload_n hx hb dX2_orderSign_5 rfl (lv_at hl 1 rfl) ?_
  refine zi_getN (C := RX9) (T := TX9) (N := 9) (v := .int (nI (k))) hx hb hz wo_X9 hown hK hO rfl 0 (by decide) wf_X2_72 (fun _ h9 => h9) rfl dX2_orderSign_6 ?_
  refine lv_bipush (v := nI 10) hx hb dX2_orderSign_9 (by decide) ?_
  refine zi_icmp_ne (tgt := 18) hx hb dX2_orderSign_11 (by decide) hk31 (by omega) (fun c_11 => ?_) (fun c_11 => ?_)
  · refine lv_iconst (v := nI 0) hx hb dX2_orderSign_18 (by decide) ?_
    refine lv_istore_n (lv' := [(2, .int (nI (0))), (1, .ref (nm)), (0, .ref (v))]) hx hb dX2_orderSign_19 rfl hl (by decide) rfl (fun ls hl => ?_)
    refine lv_aload_n hx hb dX2_orderSign_20 rfl (lv_at hl 1 rfl) ?_
    refine va_ldcS hx hb hown (hK.2.2.1 ("FilterReader$FilterMaker", 163, "$lt") (by decide)) dX2_orderSign_21 ?_
    refine zc_Vw (As := [.ref (G.2.2 "$lt")]) (rest := []) ⟨hx, hb, hml, hown, hts⟩ (j_equals l G nm (G.2.2 "$lt") w (ltr "$lt") (Zr G v hi) _) (cwV 1 hts (zgV wm_X2_86 wv_J0_equals_9ea2d) rfl rfl rfl (by decide +kernel) ⟨Nat.le_of_ble_eq_true rfl, Nat.le_of_ble_eq_true rfl⟩) hK hSa.1 rfl ⟨hSt, hCH.2.2.1 ("FilterReader$FilterMaker", 163, "$lt") (by decide), hCH⟩ rfl hl.1 rfl (Nat.le_of_ble_eq_true rfl) dX2_orderSign_23 ⟨Nat.zero_le _, Nat.zero_le _⟩ ?_
    refine zb_if_eq (tgt := 32) hx hb dX2_orderSign_26 (by decide) (fun c_26 => ?_) (fun c_26 => ?_)
    · refine lv_aload_n hx hb dX2_orderSign_32 rfl (lv_at hl 1 rfl) ?_
      refine va_ldcS hx hb hown (hK.2.2.1 ("FilterReader$FilterMaker", 165, "$gt") (by decide)) dX2_orderSign_33 ?_
      refine zc_Vw (As := [.ref (G.2.2 "$gt")]) (rest := []) ⟨hx, hb, hml, hown, hts⟩ (j_equals l G nm (G.2.2 "$gt") w (ltr "$gt") (Zr G v hi) _) (cwV 1 hts (zgV wm_X2_86 wv_J0_equals_9ea2d) rfl rfl rfl (by decide +kernel) ⟨Nat.le_of_ble_eq_true rfl, Nat.le_of_ble_eq_true rfl⟩) hK hSa.1 rfl ⟨hSt, hCH.2.2.1 ("FilterReader$FilterMaker", 165, "$gt") (by decide), hCH⟩ rfl hl.1 rfl (Nat.le_of_ble_eq_true rfl) dX2_orderSign_35 ⟨Nat.zero_le _, Nat.zero_le _⟩ ?_
      refine zb_if_eq (tgt := 44) hx hb dX2_orderSign_38 (by decide) (fun c_38 => ?_) (fun c_38 => ?_)
      · refine lv_aload_n hx hb dX2_orderSign_44 rfl (lv_at hl 1 rfl) ?_
        refine va_ldcS hx hb hown (hK.2.2.1 ("FilterReader$FilterMaker", 167, "$lte") (by decide)) dX2_orderSign_45 ?_
        refine zc_Vw (As := [.ref (G.2.2 "$lte")]) (rest := []) ⟨hx, hb, hml, hown, hts⟩ (j_equals l G nm (G.2.2 "$lte") w (ltr "$lte") (Zr G v hi) _) (cwV 1 hts (zgV wm_X2_86 wv_J0_equals_9ea2d) rfl rfl rfl (by decide +kernel) ⟨Nat.le_of_ble_eq_true rfl, Nat.le_of_ble_eq_true rfl⟩) hK hSa.1 rfl ⟨hSt, hCH.2.2.1 ("FilterReader$FilterMaker", 167, "$lte") (by decide), hCH⟩ rfl hl.1 rfl (Nat.le_of_ble_eq_true rfl) dX2_orderSign_47 ⟨Nat.zero_le _, Nat.zero_le _⟩ ?_
        refine zb_if_eq (tgt := 64) hx hb dX2_orderSign_50 (by decide) (fun c_50 => ?_) (fun c_50 => ?_)
        · refine lv_aload_n hx hb dX2_orderSign_64 rfl (lv_at hl 1 rfl) ?_
          refine va_ldcS hx hb hown (hK.2.2.1 ("FilterReader$FilterMaker", 169, "$gte") (by decide)) dX2_orderSign_65 ?_
          refine zc_Vw (As := [.ref (G.2.2 "$gte")]) (rest := []) ⟨hx, hb, hml, hown, hts⟩ (j_equals l G nm (G.2.2 "$gte") w (ltr "$gte") (Zr G v hi) _) (cwV 1 hts (zgV wm_X2_86 wv_J0_equals_9ea2d) rfl rfl rfl (by decide +kernel) ⟨Nat.le_of_ble_eq_true rfl, Nat.le_of_ble_eq_true rfl⟩) hK hSa.1 rfl ⟨hSt, hCH.2.2.1 ("FilterReader$FilterMaker", 169, "$gte") (by decide), hCH⟩ rfl hl.1 rfl (Nat.le_of_ble_eq_true rfl) dX2_orderSign_67 ⟨Nat.zero_le _, Nat.zero_le _⟩ ?_
          refine zb_if_eq (tgt := 84) hx hb dX2_orderSign_70 (by decide) (fun c_70 => ?_) (fun c_70 => ?_)
          · refine lv_iconst (v := nI 0) hx hb dX2_orderSign_84 (by decide) ?_
            exact zr_i hx hb hr hlocks (by unfold oS1; rw [decide_eq_false c_11, c_26, c_38, c_50, c_70]; first | done | rfl) dX2_orderSign_85
          · refine lv_iload_n hx hb dX2_orderSign_73 rfl (lv_at hl 0 rfl) ?_
            refine zi_if_eq (tgt := 81) hx hb dX2_orderSign_74 (by decide) (by omega) (fun c_74 => ?_) (fun c_74 => absurd c_74 (by decide))
            refine lv_bipush (v := nI 10) hx hb dX2_orderSign_81 (by decide) ?_
            exact zr_i hx hb hr hlocks (by unfold oS1; rw [decide_eq_false c_11, c_26, c_38, c_50, c_70]; first | done | rfl) dX2_orderSign_83
        · refine lv_iload_n hx hb dX2_orderSign_53 rfl (lv_at hl 0 rfl) ?_
          refine zi_if_eq (tgt := 61) hx hb dX2_orderSign_54 (by decide) (by omega) (fun c_54 => ?_) (fun c_54 => absurd c_54 (by decide))
          refine lv_bipush (v := nI 8) hx hb dX2_orderSign_61 (by decide) ?_
          exact zr_i hx hb hr hlocks (by unfold oS1; rw [decide_eq_false c_11, c_26, c_38, c_50]; first | done | rfl) dX2_orderSign_63
      · refine lv_bipush (v := nI 9) hx hb dX2_orderSign_41 (by decide) ?_
        exact zr_i hx hb hr hlocks (by unfold oS1; rw [decide_eq_false c_11, c_26, c_38]; first | done | rfl) dX2_orderSign_43
    · refine lv_bipush (v := nI 7) hx hb dX2_orderSign_29 (by decide) ?_
      exact zr_i hx hb hr hlocks (by unfold oS1; rw [decide_eq_false c_11, c_26]; first | done | rfl) dX2_orderSign_31
  · refine lv_iconst (v := nI 1) hx hb dX2_orderSign_14 (by decide) ?_
    refine lv_goto (tgt := 19) hx hb dX2_orderSign_15 (by decide) ?_
    refine lv_istore_n (lv' := [(2, .int (nI (1))), (1, .ref (nm)), (0, .ref (v))]) hx hb dX2_orderSign_19 rfl hl (by decide) rfl (fun ls hl => ?_)
    refine lv_aload_n hx hb dX2_orderSign_20 rfl (lv_at hl 1 rfl) ?_
    refine va_ldcS hx hb hown (hK.2.2.1 ("FilterReader$FilterMaker", 163, "$lt") (by decide)) dX2_orderSign_21 ?_
    refine zc_Vw (As := [.ref (G.2.2 "$lt")]) (rest := []) ⟨hx, hb, hml, hown, hts⟩ (j_equals l G nm (G.2.2 "$lt") w (ltr "$lt") (Zr G v hi) _) (cwV 1 hts (zgV wm_X2_86 wv_J0_equals_9ea2d) rfl rfl rfl (by decide +kernel) ⟨Nat.le_of_ble_eq_true rfl, Nat.le_of_ble_eq_true rfl⟩) hK hSa.1 rfl ⟨hSt, hCH.2.2.1 ("FilterReader$FilterMaker", 163, "$lt") (by decide), hCH⟩ rfl hl.1 rfl (Nat.le_of_ble_eq_true rfl) dX2_orderSign_23 ⟨Nat.zero_le _, Nat.zero_le _⟩ ?_
    refine zb_if_eq (tgt := 32) hx hb dX2_orderSign_26 (by decide) (fun c_26 => ?_) (fun c_26 => ?_)
    · refine lv_aload_n hx hb dX2_orderSign_32 rfl (lv_at hl 1 rfl) ?_
      refine va_ldcS hx hb hown (hK.2.2.1 ("FilterReader$FilterMaker", 165, "$gt") (by decide)) dX2_orderSign_33 ?_
      refine zc_Vw (As := [.ref (G.2.2 "$gt")]) (rest := []) ⟨hx, hb, hml, hown, hts⟩ (j_equals l G nm (G.2.2 "$gt") w (ltr "$gt") (Zr G v hi) _) (cwV 1 hts (zgV wm_X2_86 wv_J0_equals_9ea2d) rfl rfl rfl (by decide +kernel) ⟨Nat.le_of_ble_eq_true rfl, Nat.le_of_ble_eq_true rfl⟩) hK hSa.1 rfl ⟨hSt, hCH.2.2.1 ("FilterReader$FilterMaker", 165, "$gt") (by decide), hCH⟩ rfl hl.1 rfl (Nat.le_of_ble_eq_true rfl) dX2_orderSign_35 ⟨Nat.zero_le _, Nat.zero_le _⟩ ?_
      refine zb_if_eq (tgt := 44) hx hb dX2_orderSign_38 (by decide) (fun c_38 => ?_) (fun c_38 => ?_)
      · refine lv_aload_n hx hb dX2_orderSign_44 rfl (lv_at hl 1 rfl) ?_
        refine va_ldcS hx hb hown (hK.2.2.1 ("FilterReader$FilterMaker", 167, "$lte") (by decide)) dX2_orderSign_45 ?_
        refine zc_Vw (As := [.ref (G.2.2 "$lte")]) (rest := []) ⟨hx, hb, hml, hown, hts⟩ (j_equals l G nm (G.2.2 "$lte") w (ltr "$lte") (Zr G v hi) _) (cwV 1 hts (zgV wm_X2_86 wv_J0_equals_9ea2d) rfl rfl rfl (by decide +kernel) ⟨Nat.le_of_ble_eq_true rfl, Nat.le_of_ble_eq_true rfl⟩) hK hSa.1 rfl ⟨hSt, hCH.2.2.1 ("FilterReader$FilterMaker", 167, "$lte") (by decide), hCH⟩ rfl hl.1 rfl (Nat.le_of_ble_eq_true rfl) dX2_orderSign_47 ⟨Nat.zero_le _, Nat.zero_le _⟩ ?_
        refine zb_if_eq (tgt := 64) hx hb dX2_orderSign_50 (by decide) (fun c_50 => ?_) (fun c_50 => ?_)
        · refine lv_aload_n hx hb dX2_orderSign_64 rfl (lv_at hl 1 rfl) ?_
          refine va_ldcS hx hb hown (hK.2.2.1 ("FilterReader$FilterMaker", 169, "$gte") (by decide)) dX2_orderSign_65 ?_
          refine zc_Vw (As := [.ref (G.2.2 "$gte")]) (rest := []) ⟨hx, hb, hml, hown, hts⟩ (j_equals l G nm (G.2.2 "$gte") w (ltr "$gte") (Zr G v hi) _) (cwV 1 hts (zgV wm_X2_86 wv_J0_equals_9ea2d) rfl rfl rfl (by decide +kernel) ⟨Nat.le_of_ble_eq_true rfl, Nat.le_of_ble_eq_true rfl⟩) hK hSa.1 rfl ⟨hSt, hCH.2.2.1 ("FilterReader$FilterMaker", 169, "$gte") (by decide), hCH⟩ rfl hl.1 rfl (Nat.le_of_ble_eq_true rfl) dX2_orderSign_67 ⟨Nat.zero_le _, Nat.zero_le _⟩ ?_
          refine zb_if_eq (tgt := 84) hx hb dX2_orderSign_70 (by decide) (fun c_70 => ?_) (fun c_70 => ?_)
          · refine lv_iconst (v := nI 0) hx hb dX2_orderSign_84 (by decide) ?_
            exact zr_i hx hb hr hlocks (by unfold oS1; rw [decide_eq_true c_11, c_26, c_38, c_50, c_70]; first | done | rfl) dX2_orderSign_85
          · refine lv_iload_n hx hb dX2_orderSign_73 rfl (lv_at hl 0 rfl) ?_
            refine zi_if_eq (tgt := 81) hx hb dX2_orderSign_74 (by decide) (by omega) (fun c_74 => absurd c_74 (by decide)) (fun c_74 => ?_)
            refine lv_iconst (v := nI 5) hx hb dX2_orderSign_77 (by decide) ?_
            refine lv_goto (tgt := 83) hx hb dX2_orderSign_78 (by decide) ?_
            exact zr_i hx hb hr hlocks (by unfold oS1; rw [decide_eq_true c_11, c_26, c_38, c_50, c_70]; first | done | rfl) dX2_orderSign_83
        · refine lv_iload_n hx hb dX2_orderSign_53 rfl (lv_at hl 0 rfl) ?_
          refine zi_if_eq (tgt := 61) hx hb dX2_orderSign_54 (by decide) (by omega) (fun c_54 => absurd c_54 (by decide)) (fun c_54 => ?_)
          refine lv_iconst (v := nI 5) hx hb dX2_orderSign_57 (by decide) ?_
          refine lv_goto (tgt := 63) hx hb dX2_orderSign_58 (by decide) ?_
          exact zr_i hx hb hr hlocks (by unfold oS1; rw [decide_eq_true c_11, c_26, c_38, c_50]; first | done | rfl) dX2_orderSign_63
      · refine lv_bipush (v := nI 9) hx hb dX2_orderSign_41 (by decide) ?_
        exact zr_i hx hb hr hlocks (by unfold oS1; rw [decide_eq_true c_11, c_26, c_38]; first | done | rfl) dX2_orderSign_43
    · refine lv_bipush (v := nI 7) hx hb dX2_orderSign_29 (by decide) ?_
      exact zr_i hx hb hr hlocks (by unfold oS1; rw [decide_eq_true c_11, c_26]; first | done | rfl) dX2_orderSign_31

set_option maxHeartbeats 4000000 in
set_option maxRecDepth 100000 in
theorem c_esign (l : Launch) (G : zG)  (f : Nat → Nat) (pf : Nat → Int32) (d v hi k a : Nat) (w : List Nat) (pl : Int32) (nxt : Option Nat) (hkB : okV f (d + 1) k a) (hk3 : k = 3 → ∀ x ∈ els f a, f (ne f x) = 0) : Met l yX2_elemSign wsX2_elemSign ({ frames := 6, cells := 0, slots := 0, locals := 125 }) (zP G [.ref (v)] (fun H => Nod G H f pf (d + 1) v hi k a w pl nxt ∧ CH G H)) (zR (.int (nI (eS1 f k a)))) 0 0 (fun _ => False) := by
  refine Met.ofW (cc := cX2_elemSign) (maxL := 2) (ret := (some .int)) (by decide) rfl ?_
  intro p en s m args below meth c s₁ B hml hv
  obtain ⟨rfl, hP, hK⟩ := hv
  have hx := B.exec
  have hb := B.bytes
  have hr := B.returns
  have hts := atoms_spec (ws := wsX2_elemSign) B.pre
  have hz : ∀ w ∈ zW, w.before _ s = true := fun w h => hts w (List.mem_cons_of_mem _ h)
  have hown : s.vm.findClass RX2 = some m.cls := findClass_of_methodNamed B.named
  have hlocks := B.notSynchronized
  obtain ⟨hN, hCH⟩ := id hP
  obtain ⟨nm, tx, vs, hX⟩ := hN.x
  obtain ⟨hO, hSt, hT, hvl, hkd⟩ := id hX
  have hk31 := hkB.b.lt
  have hl := lv_entry ([.ref (v)]) (n := 2) (Nat.le_of_ble_eq_true rfl)
  rw [lg_entry_eq]
  generalize (lg_sl ([.ref (v)]) ++ List.replicate (2 - (lg_sl ([.ref (v)])).length) Slot.unset).toArray = ls at hl ⊢
  have hl : lv_has ls 2 [(0, .ref (v))] := hl
  refine lv_aload_n hx hb dX2_elemSign_0 rfl (lv_at hl 0 rfl) ?_
  refine zi_getN (C := RX9) (T := TX9) (N := 9) (v := va_rf (vs.head?)) hx hb hz wo_X9 hown hK hO rfl 5 (by decide) wf_X2_38 (fun _ h9 => h9) rfl dX2_elemSign_1 ?_
  rcases vs with _ | ⟨v1, vs1⟩
  · have hl : lv_has ls 2 [(0, .ref (v))] := hl
    have hxs := kidL_nil hkd
    refine W.eq (g2 := F0 m 4 ls ([.null])) rfl ?_
    refine lv_ifnullN (tgt := 24) hx hb dX2_elemSign_4 (by decide) ?_
    refine lv_iconst (v := nI 0) hx hb dX2_elemSign_24 (by decide) ?_
    refine lv_istore_n (lv' := [(1, .int (nI (0))), (0, .ref (v))]) hx hb dX2_elemSign_25 rfl hl (by decide) rfl (fun ls hl => ?_)
    refine lv_aload_n hx hb dX2_elemSign_26 rfl (lv_at hl 1 rfl) ?_
    refine zc_VN (As := []) (rest := []) ⟨hx, hb, hml, hown, hts⟩ (c_isConditions l G f pf d v hi k a w pl nxt nm tx [] hkB) ⟨va_cnB 0 hts (zgN wc_X9_isConditions) rfl rfl rfl (hK.2.1 _ wm_X2_108) (hz _ wi_X9) (by decide +kernel) ⟨Nat.le_of_ble_eq_true rfl, Nat.le_of_ble_eq_true rfl⟩, hz _ wn_X9_isConditions, hz _ we_X9_isConditions⟩ hK hO rfl ⟨hX, hCH⟩ rfl hl.1 rfl (Nat.le_of_ble_eq_true rfl) dX2_elemSign_27 ⟨Nat.zero_le _, Nat.zero_le _⟩ ?_
    refine zb_if_eq (tgt := 42) hx hb dX2_elemSign_30 (by decide) (fun c_30 => ?_) (fun c_30 => ?_)
    · refine lv_bipush (v := nI 14) hx hb dX2_elemSign_42 (by decide) ?_
      exact zr_i hx hb hr hlocks (by rw [eS1_c c_30]) dX2_elemSign_44
    · refine lv_iload_n hx hb dX2_elemSign_33 rfl (lv_at hl 0 rfl) ?_
      refine zi_if_ne (tgt := 42) hx hb dX2_elemSign_34 (by decide) (by omega) (fun c_34 => absurd c_34 (by decide)) (fun c_34 => ?_)
      refine lv_bipush (v := nI 13) hx hb dX2_elemSign_37 (by decide) ?_
      refine lv_goto (tgt := 44) hx hb dX2_elemSign_39 (by decide) ?_
      exact zr_i hx hb hr hlocks (by exact absurd c_30 (by rw [isC_no0 hkB hxs]; decide)) dX2_elemSign_44
  · have hl : lv_has ls 2 [(0, .ref (v))] := hl
    obtain ⟨x1, xs1, hxs, hlo1, mid1, hmi1, hN1, hkd1⟩ := kidL_cons hkd
    obtain ⟨nm1, tx1, f1, l1, n1, hO1, hS1, hT1, hv1⟩ := hN1.o
    refine W.eq (g2 := F0 m 4 ls ([.ref (v1)])) rfl ?_
    refine lv_ifnull hx hb dX2_elemSign_4 ?_
    refine lv_aload_n hx hb dX2_elemSign_7 rfl (lv_at hl 0 rfl) ?_
    refine zi_getN (C := RX9) (T := TX9) (N := 9) (v := .ref (v1)) hx hb hz wo_X9 hown hK hO rfl 5 (by decide) wf_X2_38 (fun _ h9 => h9) rfl dX2_elemSign_8 ?_
    refine zi_getN (C := RX9) (T := TX9) (N := 9) (v := .ref (nm1)) hx hb hz wo_X9 hown hK hO1 rfl 2 (by decide) wf_X2_46 (fun _ h9 => h9) rfl dX2_elemSign_11 ?_
    refine zc_S (As := [.ref (nm1)]) (rest := []) ⟨hx, hb, hml, hown, hts⟩ (c_jsign l G nm1 (nL f x1) (Zr G v1 mid1)) (cwS 1 hts (zgS wm_X2_64 wu_X2_joinSign) rfl rfl rfl (by decide +kernel) ⟨Nat.le_of_ble_eq_true rfl, Nat.le_of_ble_eq_true rfl⟩) hK ⟨hS1, hCH⟩ rfl hl.1 rfl (Nat.le_of_ble_eq_true rfl) dX2_elemSign_14 ⟨Nat.zero_le _, Nat.zero_le _⟩ ?_
    refine zi_if_eq (tgt := 24) hx hb dX2_elemSign_17 (by decide) (by unfold jS; (repeat' split) <;> decide) (fun c_17 => ?_) (fun c_17 => ?_)
    · refine lv_iconst (v := nI 0) hx hb dX2_elemSign_24 (by decide) ?_
      refine lv_istore_n (lv' := [(1, .int (nI (0))), (0, .ref (v))]) hx hb dX2_elemSign_25 rfl hl (by decide) rfl (fun ls hl => ?_)
      refine lv_aload_n hx hb dX2_elemSign_26 rfl (lv_at hl 1 rfl) ?_
      refine zc_VN (As := []) (rest := []) ⟨hx, hb, hml, hown, hts⟩ (c_isConditions l G f pf d v hi k a w pl nxt nm tx (v1 :: vs1) hkB) ⟨va_cnB 0 hts (zgN wc_X9_isConditions) rfl rfl rfl (hK.2.1 _ wm_X2_108) (hz _ wi_X9) (by decide +kernel) ⟨Nat.le_of_ble_eq_true rfl, Nat.le_of_ble_eq_true rfl⟩, hz _ wn_X9_isConditions, hz _ we_X9_isConditions⟩ hK hO rfl ⟨hX, hCH⟩ rfl hl.1 rfl (Nat.le_of_ble_eq_true rfl) dX2_elemSign_27 ⟨Nat.zero_le _, Nat.zero_le _⟩ ?_
      refine zb_if_eq (tgt := 42) hx hb dX2_elemSign_30 (by decide) (fun c_30 => ?_) (fun c_30 => ?_)
      · refine lv_bipush (v := nI 14) hx hb dX2_elemSign_42 (by decide) ?_
        exact zr_i hx hb hr hlocks (by rw [eS1_c c_30]) dX2_elemSign_44
      · refine lv_iload_n hx hb dX2_elemSign_33 rfl (lv_at hl 0 rfl) ?_
        refine zi_if_ne (tgt := 42) hx hb dX2_elemSign_34 (by decide) (by omega) (fun c_34 => absurd c_34 (by decide)) (fun c_34 => ?_)
        refine lv_bipush (v := nI 13) hx hb dX2_elemSign_37 (by decide) ?_
        refine lv_goto (tgt := 44) hx hb dX2_elemSign_39 (by decide) ?_
        exact zr_i hx hb hr hlocks (by rw [eS1_y hkB hk3 hxs c_30 c_17]) dX2_elemSign_44
    · refine lv_iconst (v := nI 1) hx hb dX2_elemSign_20 (by decide) ?_
      refine lv_goto (tgt := 25) hx hb dX2_elemSign_21 (by decide) ?_
      refine lv_istore_n (lv' := [(1, .int (nI (1))), (0, .ref (v))]) hx hb dX2_elemSign_25 rfl hl (by decide) rfl (fun ls hl => ?_)
      refine lv_aload_n hx hb dX2_elemSign_26 rfl (lv_at hl 1 rfl) ?_
      refine zc_VN (As := []) (rest := []) ⟨hx, hb, hml, hown, hts⟩ (c_isConditions l G f pf d v hi k a w pl nxt nm tx (v1 :: vs1) hkB) ⟨va_cnB 0 hts (zgN wc_X9_isConditions) rfl rfl rfl (hK.2.1 _ wm_X2_108) (hz _ wi_X9) (by decide +kernel) ⟨Nat.le_of_ble_eq_true rfl, Nat.le_of_ble_eq_true rfl⟩, hz _ wn_X9_isConditions, hz _ we_X9_isConditions⟩ hK hO rfl ⟨hX, hCH⟩ rfl hl.1 rfl (Nat.le_of_ble_eq_true rfl) dX2_elemSign_27 ⟨Nat.zero_le _, Nat.zero_le _⟩ ?_
      refine zb_if_eq (tgt := 42) hx hb dX2_elemSign_30 (by decide) (fun c_30 => ?_) (fun c_30 => ?_)
      · refine lv_bipush (v := nI 14) hx hb dX2_elemSign_42 (by decide) ?_
        exact zr_i hx hb hr hlocks (by rw [eS1_c c_30]) dX2_elemSign_44
      · refine lv_iload_n hx hb dX2_elemSign_33 rfl (lv_at hl 0 rfl) ?_
        refine zi_if_ne (tgt := 42) hx hb dX2_elemSign_34 (by decide) (by omega) (fun c_34 => ?_) (fun c_34 => absurd c_34 (by decide))
        refine lv_bipush (v := nI 14) hx hb dX2_elemSign_42 (by decide) ?_
        exact zr_i hx hb hr hlocks (by rw [eS1_n hkB hk3 hxs c_30 c_17]) dX2_elemSign_44

set_option maxHeartbeats 4000000 in
set_option maxRecDepth 100000 in
theorem c_csign (l : Launch) (G : zG)  (f : Nat → Nat) (pf : Nat → Int32) (d v hi k a : Nat) (w : List Nat) (pl : Int32) (nxt : Option Nat) (hkB : okV f (d + 1) k a) (hk3 : k = 3 → ∀ x ∈ els f a, f (ne f x) = 0) : Met l yX2_conditionSign wsX2_conditionSign ({ frames := 7, cells := 0, slots := 0, locals := 146 }) (zP G [.ref (v)] (fun H => Nod G H f pf (d + 1) v hi k a w pl nxt ∧ CH G H)) (zR (.int (nI (cS1 w (eS1 f k a) (decide (k = 10)))))) 0 0 (fun _ => False) := by
  refine Met.ofW (cc := cX2_conditionSign) (maxL := 2) (ret := (some .int)) (by decide) rfl ?_
  intro p en s m args below meth c s₁ B hml hv
  obtain ⟨rfl, hP, hK⟩ := hv
  have hx := B.exec
  have hb := B.bytes
  have hr := B.returns
  have hts := atoms_spec (ws := wsX2_conditionSign) B.pre
  have hz : ∀ w ∈ zW, w.before _ s = true := fun w h => hts w (List.mem_cons_of_mem _ h)
  have hown : s.vm.findClass RX2 = some m.cls := findClass_of_methodNamed B.named
  have hlocks := B.notSynchronized
  obtain ⟨hN, hCH⟩ := id hP
  obtain ⟨nm, tx, f1, l1, n1, hO, hSt, hT, hvl⟩ := hN.o
  obtain ⟨v9, hs9, hz9, -, -, hSa⟩ := id hSt
  have hk31 := hkB.b.lt
  have hl := lv_entry ([.ref (v)]) (n := 2) (Nat.le_of_ble_eq_true rfl)
  rw [lg_entry_eq]
  generalize (lg_sl ([.ref (v)]) ++ List.replicate (2 - (lg_sl ([.ref (v)])).length) Slot.unset).toArray = ls at hl ⊢
  have hl : lv_has ls 2 [(0, .ref (v))] := hl
  refine lv_aload_n hx hb dX2_conditionSign_0 rfl (lv_at hl 0 rfl) ?_
  refine zi_getN (C := RX9) (T := TX9) (N := 9) (v := .ref (nm)) hx hb hz wo_X9 hown hK hO rfl 2 (by decide) wf_X2_46 (fun _ h9 => h9) rfl dX2_conditionSign_1 ?_
  refine lv_astore_n (lv' := [(1, .ref (nm)), (0, .ref (v))]) hx hb dX2_conditionSign_4 rfl hl (by decide) rfl (fun ls hl => ?_)
  refine lv_aload_n hx hb dX2_conditionSign_5 rfl (lv_at hl 0 rfl) ?_
  refine va_ldcS hx hb hown (hK.2.2.1 ("FilterReader$FilterMaker", 141, "$eq") (by decide)) dX2_conditionSign_6 ?_
  refine zc_Vw (As := [.ref (G.2.2 "$eq")]) (rest := []) ⟨hx, hb, hml, hown, hts⟩ (j_equals l G nm (G.2.2 "$eq") w (ltr "$eq") (Zr G v hi) _) (cwV 1 hts (zgV wm_X2_86 wv_J0_equals_9ea2d) rfl rfl rfl (by decide +kernel) ⟨Nat.le_of_ble_eq_true rfl, Nat.le_of_ble_eq_true rfl⟩) hK hSa.1 rfl ⟨hSt, hCH.2.2.1 ("FilterReader$FilterMaker", 141, "$eq") (by decide), hCH⟩ rfl hl.1 rfl (Nat.le_of_ble_eq_true rfl) dX2_conditionSign_8 ⟨Nat.zero_le _, Nat.zero_le _⟩ ?_
  refine zb_if_ne (tgt := 23) hx hb dX2_conditionSign_11 (by decide) (fun c_11 => ?_) (fun c_11 => ?_)
  · refine lv_iconst (v := nI 5) hx hb dX2_conditionSign_23 (by decide) ?_
    exact zr_i hx hb hr hlocks (by unfold cS1; rw [c_11]; first | done | rfl) dX2_conditionSign_24
  · refine lv_aload_n hx hb dX2_conditionSign_14 rfl (lv_at hl 0 rfl) ?_
    refine va_ldcS hx hb hown (hK.2.2.1 ("FilterReader$FilterMaker", 143, "$ne") (by decide)) dX2_conditionSign_15 ?_
    refine zc_Vw (As := [.ref (G.2.2 "$ne")]) (rest := []) ⟨hx, hb, hml, hown, hts⟩ (j_equals l G nm (G.2.2 "$ne") w (ltr "$ne") (Zr G v hi) _) (cwV 1 hts (zgV wm_X2_86 wv_J0_equals_9ea2d) rfl rfl rfl (by decide +kernel) ⟨Nat.le_of_ble_eq_true rfl, Nat.le_of_ble_eq_true rfl⟩) hK hSa.1 rfl ⟨hSt, hCH.2.2.1 ("FilterReader$FilterMaker", 143, "$ne") (by decide), hCH⟩ rfl hl.1 rfl (Nat.le_of_ble_eq_true rfl) dX2_conditionSign_17 ⟨Nat.zero_le _, Nat.zero_le _⟩ ?_
    refine zb_if_eq (tgt := 25) hx hb dX2_conditionSign_20 (by decide) (fun c_20 => ?_) (fun c_20 => ?_)
    · refine lv_aload_n hx hb dX2_conditionSign_25 rfl (lv_at hl 0 rfl) ?_
      refine va_ldcS hx hb hown (hK.2.2.1 ("FilterReader$FilterMaker", 145, "$in") (by decide)) dX2_conditionSign_26 ?_
      refine zc_Vw (As := [.ref (G.2.2 "$in")]) (rest := []) ⟨hx, hb, hml, hown, hts⟩ (j_equals l G nm (G.2.2 "$in") w (ltr "$in") (Zr G v hi) _) (cwV 1 hts (zgV wm_X2_86 wv_J0_equals_9ea2d) rfl rfl rfl (by decide +kernel) ⟨Nat.le_of_ble_eq_true rfl, Nat.le_of_ble_eq_true rfl⟩) hK hSa.1 rfl ⟨hSt, hCH.2.2.1 ("FilterReader$FilterMaker", 145, "$in") (by decide), hCH⟩ rfl hl.1 rfl (Nat.le_of_ble_eq_true rfl) dX2_conditionSign_28 ⟨Nat.zero_le _, Nat.zero_le _⟩ ?_
      refine zb_if_ne (tgt := 43) hx hb dX2_conditionSign_31 (by decide) (fun c_31 => ?_) (fun c_31 => ?_)
      · refine lv_bipush (v := nI 6) hx hb dX2_conditionSign_43 (by decide) ?_
        exact zr_i hx hb hr hlocks (by unfold cS1; rw [c_11, c_20, c_31]; first | done | rfl) dX2_conditionSign_45
      · refine lv_aload_n hx hb dX2_conditionSign_34 rfl (lv_at hl 0 rfl) ?_
        refine va_ldcS hx hb hown (hK.2.2.1 ("FilterReader$FilterMaker", 147, "$nin") (by decide)) dX2_conditionSign_35 ?_
        refine zc_Vw (As := [.ref (G.2.2 "$nin")]) (rest := []) ⟨hx, hb, hml, hown, hts⟩ (j_equals l G nm (G.2.2 "$nin") w (ltr "$nin") (Zr G v hi) _) (cwV 1 hts (zgV wm_X2_86 wv_J0_equals_9ea2d) rfl rfl rfl (by decide +kernel) ⟨Nat.le_of_ble_eq_true rfl, Nat.le_of_ble_eq_true rfl⟩) hK hSa.1 rfl ⟨hSt, hCH.2.2.1 ("FilterReader$FilterMaker", 147, "$nin") (by decide), hCH⟩ rfl hl.1 rfl (Nat.le_of_ble_eq_true rfl) dX2_conditionSign_37 ⟨Nat.zero_le _, Nat.zero_le _⟩ ?_
        refine zb_if_eq (tgt := 46) hx hb dX2_conditionSign_40 (by decide) (fun c_40 => ?_) (fun c_40 => ?_)
        · refine lv_aload_n hx hb dX2_conditionSign_46 rfl (lv_at hl 0 rfl) ?_
          refine va_ldcS hx hb hown (hK.2.2.1 ("FilterReader$FilterMaker", 149, "$exists") (by decide)) dX2_conditionSign_47 ?_
          refine zc_Vw (As := [.ref (G.2.2 "$exists")]) (rest := []) ⟨hx, hb, hml, hown, hts⟩ (j_equals l G nm (G.2.2 "$exists") w (ltr "$exists") (Zr G v hi) _) (cwV 1 hts (zgV wm_X2_86 wv_J0_equals_9ea2d) rfl rfl rfl (by decide +kernel) ⟨Nat.le_of_ble_eq_true rfl, Nat.le_of_ble_eq_true rfl⟩) hK hSa.1 rfl ⟨hSt, hCH.2.2.1 ("FilterReader$FilterMaker", 149, "$exists") (by decide), hCH⟩ rfl hl.1 rfl (Nat.le_of_ble_eq_true rfl) dX2_conditionSign_49 ⟨Nat.zero_le _, Nat.zero_le _⟩ ?_
          refine zb_if_eq (tgt := 58) hx hb dX2_conditionSign_52 (by decide) (fun c_52 => ?_) (fun c_52 => ?_)
          · refine lv_aload_n hx hb dX2_conditionSign_58 rfl (lv_at hl 0 rfl) ?_
            refine va_ldcS hx hb hown (hK.2.2.1 ("FilterReader$FilterMaker", 151, "$size") (by decide)) dX2_conditionSign_59 ?_
            refine zc_Vw (As := [.ref (G.2.2 "$size")]) (rest := []) ⟨hx, hb, hml, hown, hts⟩ (j_equals l G nm (G.2.2 "$size") w (ltr "$size") (Zr G v hi) _) (cwV 1 hts (zgV wm_X2_86 wv_J0_equals_9ea2d) rfl rfl rfl (by decide +kernel) ⟨Nat.le_of_ble_eq_true rfl, Nat.le_of_ble_eq_true rfl⟩) hK hSa.1 rfl ⟨hSt, hCH.2.2.1 ("FilterReader$FilterMaker", 151, "$size") (by decide), hCH⟩ rfl hl.1 rfl (Nat.le_of_ble_eq_true rfl) dX2_conditionSign_61 ⟨Nat.zero_le _, Nat.zero_le _⟩ ?_
            refine zb_if_eq (tgt := 70) hx hb dX2_conditionSign_64 (by decide) (fun c_64 => ?_) (fun c_64 => ?_)
            · refine lv_aload_n hx hb dX2_conditionSign_70 rfl (lv_at hl 0 rfl) ?_
              refine va_ldcS hx hb hown (hK.2.2.1 ("FilterReader$FilterMaker", 153, "$elem") (by decide)) dX2_conditionSign_71 ?_
              refine zc_Vw (As := [.ref (G.2.2 "$elem")]) (rest := []) ⟨hx, hb, hml, hown, hts⟩ (j_equals l G nm (G.2.2 "$elem") w (ltr "$elem") (Zr G v hi) _) (cwV 1 hts (zgV wm_X2_86 wv_J0_equals_9ea2d) rfl rfl rfl (by decide +kernel) ⟨Nat.le_of_ble_eq_true rfl, Nat.le_of_ble_eq_true rfl⟩) hK hSa.1 rfl ⟨hSt, hCH.2.2.1 ("FilterReader$FilterMaker", 153, "$elem") (by decide), hCH⟩ rfl hl.1 rfl (Nat.le_of_ble_eq_true rfl) dX2_conditionSign_73 ⟨Nat.zero_le _, Nat.zero_le _⟩ ?_
              refine zb_if_eq (tgt := 84) hx hb dX2_conditionSign_76 (by decide) (fun c_76 => ?_) (fun c_76 => ?_)
              · refine lv_aload_n hx hb dX2_conditionSign_84 rfl (lv_at hl 0 rfl) ?_
                refine va_ldcS hx hb hown (hK.2.2.1 ("FilterReader$FilterMaker", 158, "$not") (by decide)) dX2_conditionSign_85 ?_
                refine zc_Vw (As := [.ref (G.2.2 "$not")]) (rest := []) ⟨hx, hb, hml, hown, hts⟩ (j_equals l G nm (G.2.2 "$not") w (ltr "$not") (Zr G v hi) _) (cwV 1 hts (zgV wm_X2_86 wv_J0_equals_9ea2d) rfl rfl rfl (by decide +kernel) ⟨Nat.le_of_ble_eq_true rfl, Nat.le_of_ble_eq_true rfl⟩) hK hSa.1 rfl ⟨hSt, hCH.2.2.1 ("FilterReader$FilterMaker", 158, "$not") (by decide), hCH⟩ rfl hl.1 rfl (Nat.le_of_ble_eq_true rfl) dX2_conditionSign_87 ⟨Nat.zero_le _, Nat.zero_le _⟩ ?_
                refine zb_if_eq (tgt := 98) hx hb dX2_conditionSign_90 (by decide) (fun c_90 => ?_) (fun c_90 => ?_)
                · refine lv_aload_n hx hb dX2_conditionSign_98 rfl (lv_at hl 1 rfl) ?_
                  refine zc_S (As := [.ref (v)]) (rest := []) ⟨hx, hb, hml, hown, hts⟩ (c_osign l G f pf (d + 1) v hi k a w pl nxt hk31) (cwS 1 hts (zgS wm_X2_160 wu_X2_orderSign) rfl rfl rfl (by decide +kernel) ⟨Nat.le_of_ble_eq_true rfl, Nat.le_of_ble_eq_true rfl⟩) hK ⟨hN, hCH⟩ rfl hl.1 rfl (Nat.le_of_ble_eq_true rfl) dX2_conditionSign_99 ⟨Nat.zero_le _, Nat.zero_le _⟩ ?_
                  exact zr_i hx hb hr hlocks (by unfold cS1; rw [c_11, c_20, c_31, c_40, c_52, c_64, c_76, c_90]; first | done | rfl) dX2_conditionSign_102
                · refine lv_bipush (v := nI 15) hx hb dX2_conditionSign_93 (by decide) ?_
                  refine lv_goto (tgt := 102) hx hb dX2_conditionSign_95 (by decide) ?_
                  exact zr_i hx hb hr hlocks (by unfold cS1; rw [c_11, c_20, c_31, c_40, c_52, c_64, c_76, c_90]; first | done | rfl) dX2_conditionSign_102
              · refine lv_aload_n hx hb dX2_conditionSign_79 rfl (lv_at hl 1 rfl) ?_
                refine zc_S (As := [.ref (v)]) (rest := []) ⟨hx, hb, hml, hown, hts⟩ (c_esign l G f pf d v hi k a w pl nxt hkB hk3) (cwS 1 hts (zgS wm_X2_155 wu_X2_elemSign) rfl rfl rfl (by decide +kernel) ⟨Nat.le_of_ble_eq_true rfl, Nat.le_of_ble_eq_true rfl⟩) hK ⟨hN, hCH⟩ rfl hl.1 rfl (Nat.le_of_ble_eq_true rfl) dX2_conditionSign_80 ⟨Nat.zero_le _, Nat.zero_le _⟩ ?_
                exact zr_i hx hb hr hlocks (by unfold cS1; rw [c_11, c_20, c_31, c_40, c_52, c_64, c_76]; first | done | rfl) dX2_conditionSign_83
            · refine lv_bipush (v := nI 12) hx hb dX2_conditionSign_67 (by decide) ?_
              exact zr_i hx hb hr hlocks (by unfold cS1; rw [c_11, c_20, c_31, c_40, c_52, c_64]; first | done | rfl) dX2_conditionSign_69
          · refine lv_bipush (v := nI 11) hx hb dX2_conditionSign_55 (by decide) ?_
            exact zr_i hx hb hr hlocks (by unfold cS1; rw [c_11, c_20, c_31, c_40, c_52]; first | done | rfl) dX2_conditionSign_57
        · refine lv_bipush (v := nI 6) hx hb dX2_conditionSign_43 (by decide) ?_
          exact zr_i hx hb hr hlocks (by unfold cS1; rw [c_11, c_20, c_31, c_40]; first | done | rfl) dX2_conditionSign_45
    · refine lv_iconst (v := nI 5) hx hb dX2_conditionSign_23 (by decide) ?_
      exact zr_i hx hb hr hlocks (by unfold cS1; rw [c_11, c_20]; first | done | rfl) dX2_conditionSign_24

set_option maxHeartbeats 4000000 in
set_option maxRecDepth 100000 in
theorem c_isneg (l : Launch) (G : zG)  (f : Nat → Nat) (pf : Nat → Int32) (d v hi k a : Nat) (w : List Nat) (pl : Int32) (nxt : Option Nat) : Met l yX2_isNegated wsX2_isNegated ({ frames := 2, cells := 0, slots := 0, locals := 44 }) (zP G [.ref (v)] (fun H => Nod G H f pf d v hi k a w pl nxt ∧ CH G H)) (zR (.int (nI (nB (nS1 w (decide (numv f k a = 0))))))) 0 0 (fun _ => False) := by
  refine Met.ofW (cc := cX2_isNegated) (maxL := 2) (ret := (some .boolean)) (by decide) rfl ?_
  intro p en s m args below meth c s₁ B hml hv
  obtain ⟨rfl, hP, hK⟩ := hv
  have hx := B.exec
  have hb := B.bytes
  have hr := B.returns
  have hts := atoms_spec (ws := wsX2_isNegated) B.pre
  have hz : ∀ w ∈ zW, w.before _ s = true := fun w h => hts w (List.mem_cons_of_mem _ h)
  have hown : s.vm.findClass RX2 = some m.cls := findClass_of_methodNamed B.named
  have hlocks := B.notSynchronized
  obtain ⟨hN, hCH⟩ := id hP
  obtain ⟨nm, tx, f1, l1, n1, hO, hSt, hT, hvl⟩ := hN.o
  obtain ⟨v9, hs9, hz9, -, -, hSa⟩ := id hSt
  have hl := lv_entry ([.ref (v)]) (n := 2) (Nat.le_of_ble_eq_true rfl)
  rw [lg_entry_eq]
  generalize (lg_sl ([.ref (v)]) ++ List.replicate (2 - (lg_sl ([.ref (v)])).length) Slot.unset).toArray = ls at hl ⊢
  have hl : lv_has ls 2 [(0, .ref (v))] := hl
  refine lv_aload_n hx hb dX2_isNegated_0 rfl (lv_at hl 0 rfl) ?_
  refine zi_getN (C := RX9) (T := TX9) (N := 9) (v := .ref (nm)) hx hb hz wo_X9 hown hK hO rfl 2 (by decide) wf_X2_46 (fun _ h9 => h9) rfl dX2_isNegated_1 ?_
  refine lv_astore_n (lv' := [(1, .ref (nm)), (0, .ref (v))]) hx hb dX2_isNegated_4 rfl hl (by decide) rfl (fun ls hl => ?_)
  refine lv_aload_n hx hb dX2_isNegated_5 rfl (lv_at hl 0 rfl) ?_
  refine va_ldcS hx hb hown (hK.2.2.1 ("FilterReader$FilterMaker", 149, "$exists") (by decide)) dX2_isNegated_6 ?_
  refine zc_Vw (As := [.ref (G.2.2 "$exists")]) (rest := []) ⟨hx, hb, hml, hown, hts⟩ (j_equals l G nm (G.2.2 "$exists") w (ltr "$exists") (Zr G v hi) _) (cwV 1 hts (zgV wm_X2_86 wv_J0_equals_9ea2d) rfl rfl rfl (by decide +kernel) ⟨Nat.le_of_ble_eq_true rfl, Nat.le_of_ble_eq_true rfl⟩) hK hSa.1 rfl ⟨hSt, hCH.2.2.1 ("FilterReader$FilterMaker", 149, "$exists") (by decide), hCH⟩ rfl hl.1 rfl (Nat.le_of_ble_eq_true rfl) dX2_isNegated_8 ⟨Nat.zero_le _, Nat.zero_le _⟩ ?_
  refine zb_if_eq (tgt := 29) hx hb dX2_isNegated_11 (by decide) (fun c_11 => ?_) (fun c_11 => ?_)
  · refine lv_aload_n hx hb dX2_isNegated_29 rfl (lv_at hl 0 rfl) ?_
    refine va_ldcS hx hb hown (hK.2.2.1 ("FilterReader$FilterMaker", 143, "$ne") (by decide)) dX2_isNegated_30 ?_
    refine zc_Vw (As := [.ref (G.2.2 "$ne")]) (rest := []) ⟨hx, hb, hml, hown, hts⟩ (j_equals l G nm (G.2.2 "$ne") w (ltr "$ne") (Zr G v hi) _) (cwV 1 hts (zgV wm_X2_86 wv_J0_equals_9ea2d) rfl rfl rfl (by decide +kernel) ⟨Nat.le_of_ble_eq_true rfl, Nat.le_of_ble_eq_true rfl⟩) hK hSa.1 rfl ⟨hSt, hCH.2.2.1 ("FilterReader$FilterMaker", 143, "$ne") (by decide), hCH⟩ rfl hl.1 rfl (Nat.le_of_ble_eq_true rfl) dX2_isNegated_32 ⟨Nat.zero_le _, Nat.zero_le _⟩ ?_
    refine zb_if_ne (tgt := 56) hx hb dX2_isNegated_35 (by decide) (fun c_35 => ?_) (fun c_35 => ?_)
    · refine lv_iconst (v := nI 1) hx hb dX2_isNegated_56 (by decide) ?_
      refine lv_goto (tgt := 61) hx hb dX2_isNegated_57 (by decide) ?_
      exact zr_z hx hb hr hlocks (by unfold nS1; rw [c_11, c_35]; first | done | rfl) dX2_isNegated_61
    · refine lv_aload_n hx hb dX2_isNegated_38 rfl (lv_at hl 0 rfl) ?_
      refine va_ldcS hx hb hown (hK.2.2.1 ("FilterReader$FilterMaker", 147, "$nin") (by decide)) dX2_isNegated_39 ?_
      refine zc_Vw (As := [.ref (G.2.2 "$nin")]) (rest := []) ⟨hx, hb, hml, hown, hts⟩ (j_equals l G nm (G.2.2 "$nin") w (ltr "$nin") (Zr G v hi) _) (cwV 1 hts (zgV wm_X2_86 wv_J0_equals_9ea2d) rfl rfl rfl (by decide +kernel) ⟨Nat.le_of_ble_eq_true rfl, Nat.le_of_ble_eq_true rfl⟩) hK hSa.1 rfl ⟨hSt, hCH.2.2.1 ("FilterReader$FilterMaker", 147, "$nin") (by decide), hCH⟩ rfl hl.1 rfl (Nat.le_of_ble_eq_true rfl) dX2_isNegated_41 ⟨Nat.zero_le _, Nat.zero_le _⟩ ?_
      refine zb_if_ne (tgt := 56) hx hb dX2_isNegated_44 (by decide) (fun c_44 => ?_) (fun c_44 => ?_)
      · refine lv_iconst (v := nI 1) hx hb dX2_isNegated_56 (by decide) ?_
        refine lv_goto (tgt := 61) hx hb dX2_isNegated_57 (by decide) ?_
        exact zr_z hx hb hr hlocks (by unfold nS1; rw [c_11, c_35, c_44]; first | done | rfl) dX2_isNegated_61
      · refine lv_aload_n hx hb dX2_isNegated_47 rfl (lv_at hl 0 rfl) ?_
        refine va_ldcS hx hb hown (hK.2.2.1 ("FilterReader$FilterMaker", 158, "$not") (by decide)) dX2_isNegated_48 ?_
        refine zc_Vw (As := [.ref (G.2.2 "$not")]) (rest := []) ⟨hx, hb, hml, hown, hts⟩ (j_equals l G nm (G.2.2 "$not") w (ltr "$not") (Zr G v hi) _) (cwV 1 hts (zgV wm_X2_86 wv_J0_equals_9ea2d) rfl rfl rfl (by decide +kernel) ⟨Nat.le_of_ble_eq_true rfl, Nat.le_of_ble_eq_true rfl⟩) hK hSa.1 rfl ⟨hSt, hCH.2.2.1 ("FilterReader$FilterMaker", 158, "$not") (by decide), hCH⟩ rfl hl.1 rfl (Nat.le_of_ble_eq_true rfl) dX2_isNegated_50 ⟨Nat.zero_le _, Nat.zero_le _⟩ ?_
        refine zb_if_eq (tgt := 60) hx hb dX2_isNegated_53 (by decide) (fun c_53 => ?_) (fun c_53 => ?_)
        · refine lv_iconst (v := nI 0) hx hb dX2_isNegated_60 (by decide) ?_
          exact zr_z hx hb hr hlocks (by unfold nS1; rw [c_11, c_35, c_44, c_53]; first | done | rfl) dX2_isNegated_61
        · refine lv_iconst (v := nI 1) hx hb dX2_isNegated_56 (by decide) ?_
          refine lv_goto (tgt := 61) hx hb dX2_isNegated_57 (by decide) ?_
          exact zr_z hx hb hr hlocks (by unfold nS1; rw [c_11, c_35, c_44, c_53]; first | done | rfl) dX2_isNegated_61
  · refine lv_aload_n hx hb dX2_isNegated_14 rfl (lv_at hl 1 rfl) ?_
    refine zi_getN (C := RX9) (T := TX9) (N := 9) (v := .long (numv f k a)) hx hb hz wo_X9 hown hK hO rfl 4 (by decide) wf_X2_171 (fun _ h9 => h9) rfl dX2_isNegated_15 ?_
    refine lv_lconst (v := 0) hx hb dX2_isNegated_18 (by decide) ?_
    refine W.lcmp hx hb dX2_isNegated_19 ?_
    refine lv_if_ne (tgt := 27) hx hb dX2_isNegated_20 (by decide) (fun c_20 => ?_) (fun c_20 => ?_)
    · refine lv_iconst (v := nI 0) hx hb dX2_isNegated_27 (by decide) ?_
      exact zr_z hx hb hr hlocks (by unfold nS1; rw [c_11, decide_eq_false (fun z => c_20 ((lg_cmp_eq _ _).mpr z))]; first | done | rfl) dX2_isNegated_28
    · refine lv_iconst (v := nI 1) hx hb dX2_isNegated_23 (by decide) ?_
      refine lv_goto (tgt := 28) hx hb dX2_isNegated_24 (by decide) ?_
      exact zr_z hx hb hr hlocks (by unfold nS1; rw [c_11, decide_eq_true ((lg_cmp_eq _ _).mp c_20)]; first | done | rfl) dX2_isNegated_28

set_option maxHeartbeats 4000000 in
set_option maxRecDepth 100000 in
theorem c_isval (l : Launch) (G : zG)  (S : Nat) (hS : S < 16) (f : Nat → Nat) (pf : Nat → Int32) (d v hi k a : Nat) (w : List Nat) (pl : Int32) (nxt : Option Nat) (hkB : okV f (d + 1) k a) : Met l yX2_isValueFor wsX2_isValueFor ({ frames := 6, cells := 0, slots := 0, locals := 125 }) (zP G [.int (nI (S)), .ref (v)] (fun H => Nod G H f pf (d + 1) v hi k a w pl nxt ∧ CH G H)) (zR (.int (nI (nB (vS1 f S k a))))) 0 0 (fun _ => False) := by
  refine Met.ofW (cc := cX2_isValueFor) (maxL := 2) (ret := (some .boolean)) (by decide) rfl ?_
  intro p en s m args below meth c s₁ B hml hv
  obtain ⟨rfl, hP, hK⟩ := hv
  have hx := B.exec
  have hb := B.bytes
  have hr := B.returns
  have hts := atoms_spec (ws := wsX2_isValueFor) B.pre
  have hz : ∀ w ∈ zW, w.before _ s = true := fun w h => hts w (List.mem_cons_of_mem _ h)
  have hown : s.vm.findClass RX2 = some m.cls := findClass_of_methodNamed B.named
  have hlocks := B.notSynchronized
  obtain ⟨hN, hCH⟩ := id hP
  obtain ⟨nm, tx, vs, hX⟩ := hN.x
  obtain ⟨hO, hSt, hT, hvl, hkd⟩ := id hX
  have hk31 := hkB.b.lt
  have hl := lv_entry ([.int (nI (S)), .ref (v)]) (n := 2) (Nat.le_of_ble_eq_true rfl)
  rw [lg_entry_eq]
  generalize (lg_sl ([.int (nI (S)), .ref (v)]) ++ List.replicate (2 - (lg_sl ([.int (nI (S)), .ref (v)])).length) Slot.unset).toArray = ls at hl ⊢
  have hl : lv_has ls 2 [(0, .int (nI (S))), (1, .ref (v))] := hl
  refine lv_iload_n hx hb dX2_isValueFor_0 rfl (lv_at hl 0 rfl) ?_
  by_cases c_1_6 : S = 6
  · refine zi_tab hx hb dX2_isValueFor_1 (Nat.lt_trans hS (by decide)) 56 (by rw [c_1_6]; decide) ?_
    refine lv_aload_n hx hb dX2_isValueFor_56 rfl (lv_at hl 1 rfl) ?_
    refine zi_getN (C := RX9) (T := TX9) (N := 9) (v := .int (nI (k))) hx hb hz wo_X9 hown hK hO rfl 0 (by decide) wf_X2_72 (fun _ h9 => h9) rfl dX2_isValueFor_57 ?_
    refine lv_iconst (v := nI 4) hx hb dX2_isValueFor_60 (by decide) ?_
    refine zi_icmp_ne (tgt := 68) hx hb dX2_isValueFor_61 (by decide) hk31 (by omega) (fun c_61 => ?_) (fun c_61 => ?_)
    · refine lv_iconst (v := nI 0) hx hb dX2_isValueFor_68 (by decide) ?_
      exact zr_z hx hb hr hlocks (by rw [vS1, if_pos c_1_6, decide_eq_false c_61]; rfl) dX2_isValueFor_69
    · refine lv_iconst (v := nI 1) hx hb dX2_isValueFor_64 (by decide) ?_
      refine lv_goto (tgt := 69) hx hb dX2_isValueFor_65 (by decide) ?_
      exact zr_z hx hb hr hlocks (by rw [vS1, if_pos c_1_6, decide_eq_true c_61]; rfl) dX2_isValueFor_69
  by_cases c_1_11 : S = 11
  · refine zi_tab hx hb dX2_isValueFor_1 (Nat.lt_trans hS (by decide)) 70 (by rw [c_1_11]; decide) ?_
    refine lv_aload_n hx hb dX2_isValueFor_70 rfl (lv_at hl 1 rfl) ?_
    refine zi_getN (C := RX9) (T := TX9) (N := 9) (v := .int (nI (k))) hx hb hz wo_X9 hown hK hO rfl 0 (by decide) wf_X2_72 (fun _ h9 => h9) rfl dX2_isValueFor_71 ?_
    refine lv_bipush (v := nI 8) hx hb dX2_isValueFor_74 (by decide) ?_
    refine zi_icmp_ne (tgt := 83) hx hb dX2_isValueFor_76 (by decide) hk31 (by omega) (fun c_76 => ?_) (fun c_76 => ?_)
    · refine lv_iconst (v := nI 0) hx hb dX2_isValueFor_83 (by decide) ?_
      exact zr_z hx hb hr hlocks (by rw [vS1, if_neg c_1_6, if_pos c_1_11, decide_eq_false c_76]; rfl) dX2_isValueFor_84
    · refine lv_iconst (v := nI 1) hx hb dX2_isValueFor_79 (by decide) ?_
      refine lv_goto (tgt := 84) hx hb dX2_isValueFor_80 (by decide) ?_
      exact zr_z hx hb hr hlocks (by rw [vS1, if_neg c_1_6, if_pos c_1_11, decide_eq_true c_76]; rfl) dX2_isValueFor_84
  by_cases c_1_12 : S = 12
  · refine zi_tab hx hb dX2_isValueFor_1 (Nat.lt_trans hS (by decide)) 85 (by rw [c_1_12]; decide) ?_
    refine lv_aload_n hx hb dX2_isValueFor_85 rfl (lv_at hl 1 rfl) ?_
    refine zi_getN (C := RX9) (T := TX9) (N := 9) (v := .int (nI (k))) hx hb hz wo_X9 hown hK hO rfl 0 (by decide) wf_X2_72 (fun _ h9 => h9) rfl dX2_isValueFor_86 ?_
    refine zc_SN (As := [.int (nI (k))]) (rest := []) ⟨hx, hb, hml, hown, hts⟩ (c_classOf l G k hk31) ⟨va_cnB 1 hts (zgN wc_X3_classOf) rfl rfl rfl (hK.2.1 _ wm_X2_175) (hz _ wi_X3) (by decide +kernel) ⟨Nat.le_of_ble_eq_true rfl, Nat.le_of_ble_eq_true rfl⟩, hz _ wt_X3_classOf, trivial⟩ hK trivial rfl hl.1 rfl (Nat.le_of_ble_eq_true rfl) dX2_isValueFor_89 ⟨Nat.zero_le _, Nat.zero_le _⟩ ?_
    refine lv_iconst (v := nI 2) hx hb dX2_isValueFor_92 (by decide) ?_
    refine zi_icmp_ne (tgt := 109) hx hb dX2_isValueFor_93 (by decide) (Nat.lt_trans (clO_lt _) (by decide)) (by omega) (fun c_93 => ?_) (fun c_93 => ?_)
    · refine lv_iconst (v := nI 0) hx hb dX2_isValueFor_109 (by decide) ?_
      exact zr_z hx hb hr hlocks (by rw [vS1, if_neg c_1_6, if_neg c_1_11, if_pos c_1_12, decide_eq_false c_93, Bool.false_and]; rfl) dX2_isValueFor_110
    · refine lv_aload_n hx hb dX2_isValueFor_96 rfl (lv_at hl 1 rfl) ?_
      refine zi_getN (C := RX9) (T := TX9) (N := 9) (v := .long (numv f k a)) hx hb hz wo_X9 hown hK hO rfl 4 (by decide) wf_X2_171 (fun _ h9 => h9) rfl dX2_isValueFor_97 ?_
      refine lv_lconst (v := 0) hx hb dX2_isValueFor_100 (by decide) ?_
      refine W.lcmp hx hb dX2_isValueFor_101 ?_
      refine lv_if_lt (tgt := 109) hx hb dX2_isValueFor_102 (by decide) (fun c_102 => ?_) (fun c_102 => ?_)
      · refine lv_iconst (v := nI 0) hx hb dX2_isValueFor_109 (by decide) ?_
        exact zr_z hx hb hr hlocks (by rw [vS1, if_neg c_1_6, if_neg c_1_11, if_pos c_1_12, decide_eq_false (fun z => absurd c_102 (Int32.not_lt.mpr ((lg_cmp_ge _ _).mpr z))), Bool.and_false]; rfl) dX2_isValueFor_110
      · refine lv_iconst (v := nI 1) hx hb dX2_isValueFor_105 (by decide) ?_
        refine lv_goto (tgt := 110) hx hb dX2_isValueFor_106 (by decide) ?_
        exact zr_z hx hb hr hlocks (by rw [vS1, if_neg c_1_6, if_neg c_1_11, if_pos c_1_12, decide_eq_true c_93, decide_eq_true ((lg_cmp_ge _ _).mp (Int32.not_lt.mp c_102))]; rfl) dX2_isValueFor_110
  by_cases c_1_13 : S = 13
  · refine zi_tab hx hb dX2_isValueFor_1 (Nat.lt_trans hS (by decide)) 111 (by rw [c_1_13]; decide) ?_
    refine lv_aload_n hx hb dX2_isValueFor_111 rfl (lv_at hl 1 rfl) ?_
    refine zi_getN (C := RX9) (T := TX9) (N := 9) (v := .int (nI (k))) hx hb hz wo_X9 hown hK hO rfl 0 (by decide) wf_X2_72 (fun _ h9 => h9) rfl dX2_isValueFor_112 ?_
    refine lv_iconst (v := nI 3) hx hb dX2_isValueFor_115 (by decide) ?_
    refine zi_icmp_ne (tgt := 123) hx hb dX2_isValueFor_116 (by decide) hk31 (by omega) (fun c_116 => ?_) (fun c_116 => ?_)
    · refine lv_iconst (v := nI 0) hx hb dX2_isValueFor_123 (by decide) ?_
      exact zr_z hx hb hr hlocks (by rw [vS1_e (by omega), decide_eq_false c_116]; rfl) dX2_isValueFor_124
    · refine lv_iconst (v := nI 1) hx hb dX2_isValueFor_119 (by decide) ?_
      refine lv_goto (tgt := 124) hx hb dX2_isValueFor_120 (by decide) ?_
      exact zr_z hx hb hr hlocks (by rw [vS1_e (by omega), decide_eq_true c_116]; rfl) dX2_isValueFor_124
  by_cases c_1_14 : S = 14
  · refine zi_tab hx hb dX2_isValueFor_1 (Nat.lt_trans hS (by decide)) 111 (by rw [c_1_14]; decide) ?_
    refine lv_aload_n hx hb dX2_isValueFor_111 rfl (lv_at hl 1 rfl) ?_
    refine zi_getN (C := RX9) (T := TX9) (N := 9) (v := .int (nI (k))) hx hb hz wo_X9 hown hK hO rfl 0 (by decide) wf_X2_72 (fun _ h9 => h9) rfl dX2_isValueFor_112 ?_
    refine lv_iconst (v := nI 3) hx hb dX2_isValueFor_115 (by decide) ?_
    refine zi_icmp_ne (tgt := 123) hx hb dX2_isValueFor_116 (by decide) hk31 (by omega) (fun c_116 => ?_) (fun c_116 => ?_)
    · refine lv_iconst (v := nI 0) hx hb dX2_isValueFor_123 (by decide) ?_
      exact zr_z hx hb hr hlocks (by rw [vS1_e (by omega), decide_eq_false c_116]; rfl) dX2_isValueFor_124
    · refine lv_iconst (v := nI 1) hx hb dX2_isValueFor_119 (by decide) ?_
      refine lv_goto (tgt := 124) hx hb dX2_isValueFor_120 (by decide) ?_
      exact zr_z hx hb hr hlocks (by rw [vS1_e (by omega), decide_eq_true c_116]; rfl) dX2_isValueFor_124
  by_cases c_1_15 : S = 15
  · refine zi_tab hx hb dX2_isValueFor_1 (Nat.lt_trans hS (by decide)) 125 (by rw [c_1_15]; decide) ?_
    refine lv_aload_n hx hb dX2_isValueFor_125 rfl (lv_at hl 1 rfl) ?_
    refine zc_VN (As := []) (rest := []) ⟨hx, hb, hml, hown, hts⟩ (c_isConditions l G f pf d v hi k a w pl nxt nm tx vs hkB) ⟨va_cnB 0 hts (zgN wc_X9_isConditions) rfl rfl rfl (hK.2.1 _ wm_X2_108) (hz _ wi_X9) (by decide +kernel) ⟨Nat.le_of_ble_eq_true rfl, Nat.le_of_ble_eq_true rfl⟩, hz _ wn_X9_isConditions, hz _ we_X9_isConditions⟩ hK hO rfl ⟨hX, hCH⟩ rfl hl.1 rfl (Nat.le_of_ble_eq_true rfl) dX2_isValueFor_126 ⟨Nat.zero_le _, Nat.zero_le _⟩ ?_
    exact zr_z hx hb hr hlocks (by rw [vS1, if_neg c_1_6, if_neg c_1_11, if_neg c_1_12, if_neg c_1_13, if_neg c_1_14, if_pos c_1_15]) dX2_isValueFor_129
  refine zi_tab hx hb dX2_isValueFor_1 (Nat.lt_trans hS (by decide)) 130 ((zTab_d [6, 11, 12, 13, 14, 15] (by decide +kernel) (by simp only [List.mem_cons, List.not_mem_nil, or_false, not_or]; exact ⟨c_1_6, c_1_11, c_1_12, c_1_13, c_1_14, c_1_15⟩)).trans (by decide)) ?_
  refine lv_iconst (v := nI 1) hx hb dX2_isValueFor_130 (by decide) ?_
  exact zr_z hx hb hr hlocks (by rw [vS1, if_neg c_1_6, if_neg c_1_11, if_neg c_1_12, if_neg c_1_13, if_neg c_1_14, if_neg c_1_15]; rfl) dX2_isValueFor_131
