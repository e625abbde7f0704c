set_option maxHeartbeats 4000000 in
set_option maxRecDepth 100000 in
theorem m_stop (l : Launch) (G : zG) (o : Nat) (w : Nat → Value) (q : Nat → Nat) (fa nd : Nat) (g pa be nm ed bx mn rw : Nat → Nat) (y : Nat) (z : Int32) (hfa : fa < 100) : Met l yX11_stop wsX11_stop ({ frames := 0, cells := 0, slots := 0, locals := 0 }) (zP G [.ref (o), .int (nI (y)), .int (z)] (fun H => MD G o w q fa nd g pa be nm ed bx mn rw H)) (zQ (dAx o q) none (fun H => MD G o w q (dSt fa y) nd g pa be nm ed bx mn rw H)) 0 0 (dAx o q) := by
  refine Met.ofW (cc := cX11_stop) (maxL := 3) (ret := none) (by decide) rfl ?_
  intro p en s m args below meth c s₁ B hml hv
  obtain ⟨rfl, hP, hK⟩ := hv
  have hx := B.exec
  have hb := B.bytes
  have hr := B.returns
  have hts := atoms_spec (ws := wsX11_stop) B.pre
  have hz : ∀ w ∈ zW, w.before _ s = true := fun w h => hts w (List.mem_cons_of_mem _ h)
  have hown : s.vm.findClass RX11 = some m.cls := findClass_of_methodNamed B.named
  have hlocks := B.notSynchronized
  obtain ⟨hO, -, -, -, h8⟩ := id hP
  have hS : va_S (dAx o q) s.heap s.heap [] := va_S.rf
  have hl := lv_entry ([.ref (o), .int (nI (y)), .int (z)]) (n := 3) (Nat.le_of_ble_eq_true rfl)
  rw [lg_entry_eq]
  generalize (lg_sl ([.ref (o), .int (nI (y)), .int (z)]) ++ List.replicate (3 - (lg_sl ([.ref (o), .int (nI (y)), .int (z)])).length) Slot.unset).toArray = ls at hl ⊢
  have hl : lv_has ls 3 [(0, .ref (o)), (1, .int (nI (y))), (2, .int (z))] := hl
  refine lv_aload_n hx hb dX11_stop_0 rfl (lv_at hl 0 rfl) ?_
  refine lv_aload_n hx hb dX11_stop_1 rfl (lv_at hl 0 rfl) ?_
  refine zi_get (C := RX11) (T := TX11) (N := 23) (v := .int (nI (fa))) hx hb hz wo_X11 hown hK hO rfl 13 (by decide) (hz _ wf_X11_68) (fun _ h9 => h9) rfl dX11_stop_2 ?_
  refine zi_if_ne (tgt := 12) hx hb dX11_stop_5 (by decide) (by omega) (fun c_5 => ?_) (fun c_5 => ?_)
  · refine lv_aload_n hx hb dX11_stop_12 rfl (lv_at hl 0 rfl) ?_
    refine zi_get (C := RX11) (T := TX11) (N := 23) (v := .int (nI (fa))) hx hb hz wo_X11 hown hK hO rfl 13 (by decide) (hz _ wf_X11_68) (fun _ h9 => h9) rfl dX11_stop_13 ?_
    refine zi_put (C := RX11) (T := TX11) (N := 23) (ty := .int) (v := .int (nI (fa))) hx hb hz wo_X11 tyX11 tyX11_ok nmX11 hown hK hO rfl 13 (by decide) (hz _ wf_X11_68) (fun _ h9 => h9) rfl (by decide +kernel) rfl rfl (by show 13 < 23; decide) (A := (dAx o q)) (Or.inl rfl) hS dX11_stop_16 (fun H locs _ hk9 hO9 hS => ?_)
    have hP : MD G o w q fa nd g pa be nm ed bx mn rw H := hP.put hk9 hO9
    have hO := hP.1
    have h8 := hP.2.2.2.2
    exact zr_v hx hb hr hlocks (by rw [dSt, if_neg c_5]; exact hP) hS dX11_stop_19
  · refine lv_iload_n hx hb dX11_stop_8 rfl (lv_at hl 1 rfl) ?_
    refine lv_goto (tgt := 16) hx hb dX11_stop_9 (by decide) ?_
    refine zi_put (C := RX11) (T := TX11) (N := 23) (ty := .int) (v := .int (nI (y))) hx hb hz wo_X11 tyX11 tyX11_ok nmX11 hown hK hO rfl 13 (by decide) (hz _ wf_X11_68) (fun _ h9 => h9) rfl (by decide +kernel) rfl rfl (by show 13 < 23; decide) (A := (dAx o q)) (Or.inl rfl) hS dX11_stop_16 (fun H locs _ hk9 hO9 hS => ?_)
    have hP : MD G o w q y nd g pa be nm ed bx mn rw H := hP.put hk9 hO9
    have hO := hP.1
    have h8 := hP.2.2.2.2
    exact zr_v hx hb hr hlocks (by rw [dSt, if_pos c_5]; exact hP) hS dX11_stop_19

set_option maxHeartbeats 4000000 in
set_option maxRecDepth 100000 in
theorem m_text (l : Launch) (G : zG) (o : Nat) (w : Nat → Value) (q : Nat → Nat) (fa nd : Nat) (g pa be nm ed bx mn rw : Nat → Nat) (a last : Nat) (hal : a ≤ last) (hlast : last ≤ 2000) : Met l yX11_text wsX11_text ({ frames := 2, cells := 0, slots := 0, locals := 50 }) (zP G [.ref (o), .int (nI (a)), .int (nI (last))] (fun H => MD G o w q 0 nd g pa be nm ed bx mn rw H)) (zQ (dAx o q) (some (.int (nI (txR g a last)))) (fun H => MD G o w q (txF g a last) nd g pa be nm ed bx mn rw H)) 0 0 (dAx o q) := by
  refine Met.ofW (cc := cX11_text) (maxL := 8) (ret := (some .int)) (by decide) rfl ?_
  intro p en s m args below meth c s₁ B hml hv
  obtain ⟨rfl, hP, hK⟩ := hv
  have hx := B.exec
  have hb := B.bytes
  have hr := B.returns
  have hts := atoms_spec (ws := wsX11_text) B.pre
  have hz : ∀ w ∈ zW, w.before _ s = true := fun w h => hts w (List.mem_cons_of_mem _ h)
  have hown : s.vm.findClass RX11 = some m.cls := findClass_of_methodNamed B.named
  have hlocks := B.notSynchronized
  obtain ⟨hO, -, -, -, h8⟩ := id hP
  have hS : va_S (dAx o q) s.heap s.heap [] := va_S.rf
  have hl := lv_entry ([.ref (o), .int (nI (a)), .int (nI (last))]) (n := 8) (Nat.le_of_ble_eq_true rfl)
  rw [lg_entry_eq]
  generalize (lg_sl ([.ref (o), .int (nI (a)), .int (nI (last))]) ++ List.replicate (8 - (lg_sl ([.ref (o), .int (nI (a)), .int (nI (last))])).length) Slot.unset).toArray = ls at hl ⊢
  have hl : lv_has ls 8 [(0, .ref (o)), (1, .int (nI (a))), (2, .int (nI (last)))] := hl
  refine lv_iload_n hx hb dX11_text_0 rfl (lv_at hl 2 rfl) ?_
  refine lv_iload_n hx hb dX11_text_1 rfl (lv_at hl 1 rfl) ?_
  refine zi_sub hx hb (by omega) dX11_text_2 ?_
  refine lv_istore_n (lv' := [(3, .int (nI (last - a))), (0, .ref (o)), (1, .int (nI (a))), (2, .int (nI (last)))]) hx hb dX11_text_3 rfl hl (by decide) rfl (fun ls hl => ?_)
  refine lv_iload_n hx hb dX11_text_4 rfl (lv_at hl 0 rfl) ?_
  refine lv_iconst (v := nI 4) hx hb dX11_text_5 (by decide) ?_
  refine zi_icmp_ge (tgt := 17) hx hb dX11_text_6 (by decide) (by omega) (by omega) (fun c_6 => ?_) (fun c_6 => ?_)
  · refine lv_aload_n hx hb dX11_text_17 rfl (lv_at hl 1 rfl) ?_
    refine lv_iload_n hx hb dX11_text_18 rfl (lv_at hl 2 rfl) ?_
    refine lv_iconst (v := nI 4) hx hb dX11_text_19 (by decide) ?_
    refine zc_V (As := [.int (nI (a)), .int (nI (4))]) (rest := []) ⟨hx, hb, hml, hown, hts⟩ (m_low l G o (q 12) (dF w q 0 nd) g a 4 (by decide) (by omega)) (cwV 2 hts (zgV wm_X11_75 wv_X11_low) rfl rfl rfl (by decide +kernel) ⟨Nat.le_of_ble_eq_true rfl, Nat.le_of_ble_eq_true rfl⟩) hK hO rfl ⟨hP.1, hP.a12, rfl, h8⟩ rfl hl.1 rfl (Nat.le_of_ble_eq_true rfl) dX11_text_20 ⟨Nat.zero_le _, Nat.zero_le _⟩ ?_
    rw [lN_wh g a]
    refine lv_lstore (lv' := [(4, .long (lN (wh g a))), (3, .int (nI (last - a))), (0, .ref (o)), (1, .int (nI (a))), (2, .int (nI (last)))]) hx hb dX11_text_23 hl (by decide) rfl (fun ls hl => ?_)
    refine lv_lload hx hb dX11_text_25 (lv_at hl 0 rfl) ?_
    refine lv_lconst (v := 1) hx hb dX11_text_27 (by decide) ?_
    refine W.lcmp hx hb dX11_text_28 ?_
    refine lv_if_ge (tgt := 42) hx hb dX11_text_29 (by decide) (fun c_29 => ?_) (fun c_29 => ?_)
    · have hn1 : ¬ wh g a < 1 := by have h7 := (lg_cmp_ge _ _).mp c_29; have h6 := pk_lLE (a := 1) (b := wh g a) (by decide) (Nat.lt_trans (wh_lt h8 a) (by decide)); rw [show lN 1 = (1 : Int64) by decide] at h6; rw [h6] at h7; omega
      refine lv_lload hx hb dX11_text_42 (lv_at hl 0 rfl) ?_
      refine lv_iload_n hx hb dX11_text_44 rfl (lv_at hl 1 rfl) ?_
      refine lv_iconst (v := nI 4) hx hb dX11_text_45 (by decide) ?_
      refine zi_sub hx hb (by omega) dX11_text_46 ?_
      refine lv_i2l (v := lN (last - a - 4)) hx hb dX11_text_47 (nI_l (by omega)) ?_
      refine W.lcmp hx hb dX11_text_48 ?_
      refine lv_if_le (tgt := 58) hx hb dX11_text_49 (by decide) (fun c_49 => ?_) (fun c_49 => ?_)
      · have hn2 : ¬ last - a - 4 < wh g a := by have h7 := (lg_cmp_le _ _).mp c_49; rw [pk_lLE (a := wh g a) (b := last - a - 4) (Nat.lt_trans (wh_lt h8 a) (by decide)) (by omega)] at h7; omega
        refine lv_aload_n hx hb dX11_text_58 rfl (lv_at hl 2 rfl) ?_
        refine zi_get (C := RX11) (T := TX11) (N := 23) (v := .int (nI (0))) hx hb hz wo_X11 hown hK hO rfl 13 (by decide) (hz _ wf_X11_68) (fun _ h9 => h9) rfl dX11_text_59 ?_
        refine zi_if_eq (tgt := 67) hx hb dX11_text_62 (by decide) (by decide) (fun c_62 => ?_) (fun c_62 => absurd c_62 (by decide))
        refine lv_iload_n hx hb dX11_text_67 rfl (lv_at hl 3 rfl) ?_
        refine lv_iconst (v := nI 4) hx hb dX11_text_68 (by decide) ?_
        refine zi_add hx hb dX11_text_69 ?_
        refine lv_lload hx hb dX11_text_70 (lv_at hl 0 rfl) ?_
        refine lv_l2i (v := nI (wh g a)) hx hb dX11_text_72 (lN_i _) ?_
        refine zi_add hx hb dX11_text_73 ?_
        refine lv_istore (lv' := [(6, .int (nI (a + 4 + (wh g a)))), (4, .long (lN (wh g a))), (3, .int (nI (last - a))), (0, .ref (o)), (1, .int (nI (a))), (2, .int (nI (last)))]) hx hb dX11_text_74 hl (by decide) rfl (fun ls hl => ?_)
        refine lv_aload_n hx hb dX11_text_76 rfl (lv_at hl 3 rfl) ?_
        refine zi_get (C := RX11) (T := TX11) (N := 23) (v := .ref (q 12)) hx hb hz wo_X11 hown hK hO rfl 12 (by decide) (hz _ wf_X11_26) (fun _ h9 => h9) rfl dX11_text_77 ?_
        refine lv_iload hx hb dX11_text_80 (lv_at hl 0 rfl) ?_
        refine lv_iconst (v := nI 1) hx hb dX11_text_82 (by decide) ?_
        refine zi_sub hx hb (by omega) dX11_text_83 ?_
        refine zi_ald hx hb hK hP.a12 (by omega) (by decide) dX11_text_84 ?_
        refine zi_if_eq (tgt := 98) hx hb dX11_text_85 (by decide) (Nat.lt_trans (h8 _) (by decide)) (fun c_85 => ?_) (fun c_85 => ?_)
        · refine lv_aload_n hx hb dX11_text_98 rfl (lv_at hl 3 rfl) ?_
          refine zi_get (C := RX11) (T := TX11) (N := 23) (v := .ref (q 12)) hx hb hz wo_X11 hown hK hO rfl 12 (by decide) (hz _ wf_X11_26) (fun _ h9 => h9) rfl dX11_text_99 ?_
          refine lv_iload_n hx hb dX11_text_102 rfl (lv_at hl 4 rfl) ?_
          refine lv_iconst (v := nI 4) hx hb dX11_text_103 (by decide) ?_
          refine zi_add hx hb dX11_text_104 ?_
          refine lv_iload hx hb dX11_text_105 (lv_at hl 0 rfl) ?_
          refine lv_iconst (v := nI 1) hx hb dX11_text_107 (by decide) ?_
          refine zi_sub hx hb (by omega) dX11_text_108 ?_
          refine zc_S (As := [.ref (q 12), .int (nI (a + 4)), .int (nI (a + 4 + (wh g a) - 1))]) (rest := []) ⟨hx, hb, hml, hown, hts⟩ (m_badText l G (q 12) 2000 g (by decide) h8 (a + 4) (a + 4 + wh g a - 1) (by omega) (by omega)) (cwS 3 hts (zgS wm_X11_96 wu_X11_badText) rfl rfl rfl (by decide +kernel) ⟨Nat.le_of_ble_eq_true rfl, Nat.le_of_ble_eq_true rfl⟩) hK hP.a12 rfl hl.1 rfl (Nat.le_of_ble_eq_true rfl) dX11_text_109 ⟨Nat.zero_le _, Nat.zero_le _⟩ ?_
          refine lv_istore (lv' := [(7, .int (bd g (a + 4) (a + 4 + wh g a - 1))), (6, .int (nI (a + 4 + (wh g a)))), (4, .long (lN (wh g a))), (3, .int (nI (last - a))), (0, .ref (o)), (1, .int (nI (a))), (2, .int (nI (last)))]) hx hb dX11_text_112 hl (by decide) rfl (fun ls hl => ?_)
          refine lv_iload hx hb dX11_text_114 (lv_at hl 0 rfl) ?_
          refine lv_if_lt (tgt := 126) hx hb dX11_text_116 (by decide) (fun c_116 => ?_) (fun c_116 => ?_)
          · refine lv_iload hx hb dX11_text_126 (lv_at hl 1 rfl) ?_
            exact zr_ie hx hb hr hlocks (by rw [txR, if_neg (by omega), if_neg hn1, if_neg hn2]) (by rw [txF, if_neg (by omega), if_neg hn1, if_neg hn2, if_pos c_116, if_pos c_85]; exact hP) hS dX11_text_128
          · refine lv_aload_n hx hb dX11_text_119 rfl (lv_at hl 4 rfl) ?_
            refine lv_iconst (v := nI 4) hx hb dX11_text_120 (by decide) ?_
            refine lv_iload hx hb dX11_text_121 (lv_at hl 0 rfl) ?_
            refine zc_VE (As := [.int (nI (4)), .int (bd g (a + 4) (a + 4 + wh g a - 1))]) (rest := []) ⟨hx, hb, hml, hown, hts⟩ (m_stop l G o w q 0 nd g pa be nm ed bx mn rw 4 (bd g (a + 4) (a + 4 + wh g a - 1)) (by decide)) (cwV 2 hts (zgV wm_X11_71 wv_X11_stop) rfl rfl rfl (by decide +kernel) ⟨Nat.le_of_ble_eq_true rfl, Nat.le_of_ble_eq_true rfl⟩) hK hO rfl hP rfl hl.1 rfl (Nat.le_of_ble_eq_true rfl) dX11_text_123 ⟨Nat.zero_le _, Nat.zero_le _⟩ hS (fun _ h9 => h9) (fun H locs hP hz9 hk9 hS => ?_)
            obtain ⟨hO, -, -, -, h8⟩ := id hP
            refine W.eq (g2 := F0 m 126 ls ([])) rfl ?_
            refine lv_iload hx hb dX11_text_126 (lv_at hl 1 rfl) ?_
            exact zr_ie hx hb hr hlocks (by rw [txR, if_neg (by omega), if_neg hn1, if_neg hn2]) (by rw [txF, if_neg (by omega), if_neg hn1, if_neg hn2, if_neg c_116, if_pos c_85]; exact hP) hS dX11_text_128
        · refine lv_aload_n hx hb dX11_text_88 rfl (lv_at hl 3 rfl) ?_
          refine lv_bipush (v := nI 6) hx hb dX11_text_89 (by decide) ?_
          refine lv_iload hx hb dX11_text_91 (lv_at hl 0 rfl) ?_
          refine lv_iconst (v := nI 1) hx hb dX11_text_93 (by decide) ?_
          refine zi_sub hx hb (by omega) dX11_text_94 ?_
          refine zc_VE (As := [.int (nI (6)), .int (nI (a + 4 + (wh g a) - 1))]) (rest := []) ⟨hx, hb, hml, hown, hts⟩ (m_stop l G o w q 0 nd g pa be nm ed bx mn rw 6 (nI (a + 4 + (wh g a) - 1)) (by decide)) (cwV 2 hts (zgV wm_X11_71 wv_X11_stop) rfl rfl rfl (by decide +kernel) ⟨Nat.le_of_ble_eq_true rfl, Nat.le_of_ble_eq_true rfl⟩) hK hO rfl hP rfl hl.1 rfl (Nat.le_of_ble_eq_true rfl) dX11_text_95 ⟨Nat.zero_le _, Nat.zero_le _⟩ hS (fun _ h9 => h9) (fun H locs hP hz9 hk9 hS => ?_)
          obtain ⟨hO, -, -, -, h8⟩ := id hP
          refine W.eq (g2 := F0 m 98 ls ([])) rfl ?_
          refine lv_aload_n hx hb dX11_text_98 rfl (lv_at hl 3 rfl) ?_
          refine zi_get (C := RX11) (T := TX11) (N := 23) (v := .ref (q 12)) hx hb hz wo_X11 hown hK hO rfl 12 (by decide) (hz _ wf_X11_26) (fun _ h9 => h9) rfl dX11_text_99 ?_
          refine lv_iload_n hx hb dX11_text_102 rfl (lv_at hl 4 rfl) ?_
          refine lv_iconst (v := nI 4) hx hb dX11_text_103 (by decide) ?_
          refine zi_add hx hb dX11_text_104 ?_
          refine lv_iload hx hb dX11_text_105 (lv_at hl 0 rfl) ?_
          refine lv_iconst (v := nI 1) hx hb dX11_text_107 (by decide) ?_
          refine zi_sub hx hb (by omega) dX11_text_108 ?_
          refine zc_S (As := [.ref (q 12), .int (nI (a + 4)), .int (nI (a + 4 + (wh g a) - 1))]) (rest := []) ⟨hx, hb, hml, hown, hts⟩ (m_badText l G (q 12) 2000 g (by decide) h8 (a + 4) (a + 4 + wh g a - 1) (by omega) (by omega)) (cwS 3 hts (zgS wm_X11_96 wu_X11_badText) rfl rfl rfl (by decide +kernel) ⟨Nat.le_of_ble_eq_true rfl, Nat.le_of_ble_eq_true rfl⟩) hK hP.a12 rfl hl.1 rfl (Nat.le_of_ble_eq_true rfl) dX11_text_109 ⟨Nat.zero_le _, Nat.zero_le _⟩ ?_
          refine lv_istore (lv' := [(7, .int (bd g (a + 4) (a + 4 + wh g a - 1))), (6, .int (nI (a + 4 + (wh g a)))), (4, .long (lN (wh g a))), (3, .int (nI (last - a))), (0, .ref (o)), (1, .int (nI (a))), (2, .int (nI (last)))]) hx hb dX11_text_112 hl (by decide) rfl (fun ls hl => ?_)
          refine lv_iload hx hb dX11_text_114 (lv_at hl 0 rfl) ?_
          refine lv_if_lt (tgt := 126) hx hb dX11_text_116 (by decide) (fun c_116 => ?_) (fun c_116 => ?_)
          · refine lv_iload hx hb dX11_text_126 (lv_at hl 1 rfl) ?_
            exact zr_ie hx hb hr hlocks (by rw [txR, if_neg (by omega), if_neg hn1, if_neg hn2]) (by rw [txF, if_neg (by omega), if_neg hn1, if_neg hn2, if_pos c_116, if_neg c_85]; exact hP) hS dX11_text_128
          · refine lv_aload_n hx hb dX11_text_119 rfl (lv_at hl 4 rfl) ?_
            refine lv_iconst (v := nI 4) hx hb dX11_text_120 (by decide) ?_
            refine lv_iload hx hb dX11_text_121 (lv_at hl 0 rfl) ?_
            refine zc_VE (As := [.int (nI (4)), .int (bd g (a + 4) (a + 4 + wh g a - 1))]) (rest := []) ⟨hx, hb, hml, hown, hts⟩ (m_stop l G o w q (dSt 0 6) nd g pa be nm ed bx mn rw 4 (bd g (a + 4) (a + 4 + wh g a - 1)) (by decide)) (cwV 2 hts (zgV wm_X11_71 wv_X11_stop) rfl rfl rfl (by decide +kernel) ⟨Nat.le_of_ble_eq_true rfl, Nat.le_of_ble_eq_true rfl⟩) hK hO rfl hP rfl hl.1 rfl (Nat.le_of_ble_eq_true rfl) dX11_text_123 ⟨Nat.zero_le _, Nat.zero_le _⟩ hS (fun _ h9 => h9) (fun H locs hP hz9 hk9 hS => ?_)
            obtain ⟨hO, -, -, -, h8⟩ := id hP
            refine W.eq (g2 := F0 m 126 ls ([])) rfl ?_
            refine lv_iload hx hb dX11_text_126 (lv_at hl 1 rfl) ?_
            exact zr_ie hx hb hr hlocks (by rw [txR, if_neg (by omega), if_neg hn1, if_neg hn2]) (by rw [txF, if_neg (by omega), if_neg hn1, if_neg hn2, if_neg c_116, if_neg c_85]; exact hP) hS dX11_text_128
      · have hn2 : last - a - 4 < wh g a := by have h7 : ¬ lN (wh g a) ≤ lN (last - a - 4) := fun z => c_49 ((lg_cmp_le _ _).mpr z); rw [pk_lLE (a := wh g a) (b := last - a - 4) (Nat.lt_trans (wh_lt h8 a) (by decide)) (by omega)] at h7; omega
        refine lv_aload_n hx hb dX11_text_52 rfl (lv_at hl 2 rfl) ?_
        refine lv_iconst (v := nI 1) hx hb dX11_text_53 (by decide) ?_
        refine lv_iload_n hx hb dX11_text_54 rfl (lv_at hl 3 rfl) ?_
        refine zc_VE (As := [.int (nI (1)), .int (nI (a))]) (rest := []) ⟨hx, hb, hml, hown, hts⟩ (m_stop l G o w q 0 nd g pa be nm ed bx mn rw 1 (nI (a)) (by decide)) (cwV 2 hts (zgV wm_X11_71 wv_X11_stop) rfl rfl rfl (by decide +kernel) ⟨Nat.le_of_ble_eq_true rfl, Nat.le_of_ble_eq_true rfl⟩) hK hO rfl hP rfl hl.1 rfl (Nat.le_of_ble_eq_true rfl) dX11_text_55 ⟨Nat.zero_le _, Nat.zero_le _⟩ hS (fun _ h9 => h9) (fun H locs hP hz9 hk9 hS => ?_)
        obtain ⟨hO, -, -, -, h8⟩ := id hP
        refine W.eq (g2 := F0 m 58 ls ([])) rfl ?_
        refine lv_aload_n hx hb dX11_text_58 rfl (lv_at hl 2 rfl) ?_
        refine zi_get (C := RX11) (T := TX11) (N := 23) (v := .int (nI (dSt 0 1))) hx hb hz wo_X11 hown hK hO rfl 13 (by decide) (hz _ wf_X11_68) (fun _ h9 => h9) rfl dX11_text_59 ?_
        refine zi_if_eq (tgt := 67) hx hb dX11_text_62 (by decide) (by decide) (fun c_62 => ?_) (fun c_62 => ?_)
        · exact absurd c_62 (by decide)
        · refine lv_iload_n hx hb dX11_text_65 rfl (lv_at hl 3 rfl) ?_
          exact zr_ie hx hb hr hlocks (by rw [txR, if_neg (by omega), if_neg hn1, if_pos hn2]) (by rw [txF, if_neg (by omega), if_neg hn1, if_pos hn2]; exact hP) hS dX11_text_66
    · have hn1 : wh g a < 1 := by have h7 : ¬ (1 : Int64) ≤ lN (wh g a) := fun z => c_29 ((lg_cmp_ge _ _).mpr z); have h6 := pk_lLE (a := 1) (b := wh g a) (by decide) (Nat.lt_trans (wh_lt h8 a) (by decide)); rw [show lN 1 = (1 : Int64) by decide] at h6; rw [h6] at h7; omega
      refine lv_aload_n hx hb dX11_text_32 rfl (lv_at hl 2 rfl) ?_
      refine lv_bipush (v := nI 6) hx hb dX11_text_33 (by decide) ?_
      refine lv_iload_n hx hb dX11_text_35 rfl (lv_at hl 3 rfl) ?_
      refine zc_VE (As := [.int (nI (6)), .int (nI (a))]) (rest := []) ⟨hx, hb, hml, hown, hts⟩ (m_stop l G o w q 0 nd g pa be nm ed bx mn rw 6 (nI (a)) (by decide)) (cwV 2 hts (zgV wm_X11_71 wv_X11_stop) rfl rfl rfl (by decide +kernel) ⟨Nat.le_of_ble_eq_true rfl, Nat.le_of_ble_eq_true rfl⟩) hK hO rfl hP rfl hl.1 rfl (Nat.le_of_ble_eq_true rfl) dX11_text_36 ⟨Nat.zero_le _, Nat.zero_le _⟩ hS (fun _ h9 => h9) (fun H locs hP hz9 hk9 hS => ?_)
      obtain ⟨hO, -, -, -, h8⟩ := id hP
      refine W.eq (g2 := F0 m 39 ls ([])) rfl ?_
      refine lv_goto (tgt := 58) hx hb dX11_text_39 (by decide) ?_
      refine lv_aload_n hx hb dX11_text_58 rfl (lv_at hl 2 rfl) ?_
      refine zi_get (C := RX11) (T := TX11) (N := 23) (v := .int (nI (dSt 0 6))) hx hb hz wo_X11 hown hK hO rfl 13 (by decide) (hz _ wf_X11_68) (fun _ h9 => h9) rfl dX11_text_59 ?_
      refine zi_if_eq (tgt := 67) hx hb dX11_text_62 (by decide) (by decide) (fun c_62 => ?_) (fun c_62 => ?_)
      · exact absurd c_62 (by decide)
      · refine lv_iload_n hx hb dX11_text_65 rfl (lv_at hl 3 rfl) ?_
        exact zr_ie hx hb hr hlocks (by rw [txR, if_neg (by omega), if_pos hn1]) (by rw [txF, if_neg (by omega), if_pos hn1]; exact hP) hS dX11_text_66
  · refine lv_aload_n hx hb dX11_text_9 rfl (lv_at hl 1 rfl) ?_
    refine lv_iconst (v := nI 1) hx hb dX11_text_10 (by decide) ?_
    refine lv_iload_n hx hb dX11_text_11 rfl (lv_at hl 2 rfl) ?_
    refine zc_VE (As := [.int (nI (1)), .int (nI (a))]) (rest := []) ⟨hx, hb, hml, hown, hts⟩ (m_stop l G o w q 0 nd g pa be nm ed bx mn rw 1 (nI (a)) (by decide)) (cwV 2 hts (zgV wm_X11_71 wv_X11_stop) rfl rfl rfl (by decide +kernel) ⟨Nat.le_of_ble_eq_true rfl, Nat.le_of_ble_eq_true rfl⟩) hK hO rfl hP rfl hl.1 rfl (Nat.le_of_ble_eq_true rfl) dX11_text_12 ⟨Nat.zero_le _, Nat.zero_le _⟩ hS (fun _ h9 => h9) (fun H locs hP hz9 hk9 hS => ?_)
    obtain ⟨hO, -, -, -, h8⟩ := id hP
    refine W.eq (g2 := F0 m 15 ls ([])) rfl ?_
    refine lv_iload_n hx hb dX11_text_15 rfl (lv_at hl 2 rfl) ?_
    exact zr_ie hx hb hr hlocks (by rw [txR, if_pos c_6]) (by rw [txF, if_pos c_6]; exact hP) hS dX11_text_16

set_option maxHeartbeats 4000000 in
set_option maxRecDepth 100000 in
theorem m_value (l : Launch) (G : zG) (o : Nat) (w : Nat → Value) (q : Nat → Nat) (fa nd : Nat) (g pa be nm ed bx mn rw : Nat → Nat) (k a last : Nat) (hk : k < 256) (hal : a ≤ last) (hlast : last < 2000) : Met l yX11_value wsX11_value ({ frames := 3, cells := 0, slots := 0, locals := 77 }) (zP G [.ref (o), .int (nI (k)), .int (nI (a)), .int (nI (last))] (fun H => MD G o w q 0 nd g pa be nm ed bx mn rw H)) (zQ (dAx o q) (some (.int (nI (vaR g k a last)))) (fun H => MD G o w q (vaF g k a last) nd g pa be nm ed bx mn rw H)) 0 0 (dAx o q) := by
  refine Met.ofW (cc := cX11_value) (maxL := 6) (ret := (some .int)) (by decide) rfl ?_
  intro p en s m args below meth c s₁ B hml hv
  obtain ⟨rfl, hP, hK⟩ := hv
  have hx := B.exec
  have hb := B.bytes
  have hr := B.returns
  have hts := atoms_spec (ws := wsX11_value) B.pre
  have hz : ∀ w ∈ zW, w.before _ s = true := fun w h => hts w (List.mem_cons_of_mem _ h)
  have hown : s.vm.findClass RX11 = some m.cls := findClass_of_methodNamed B.named
  have hlocks := B.notSynchronized
  obtain ⟨hO, -, -, -, h8⟩ := id hP
  have hS : va_S (dAx o q) s.heap s.heap [] := va_S.rf
  have hl := lv_entry ([.ref (o), .int (nI (k)), .int (nI (a)), .int (nI (last))]) (n := 6) (Nat.le_of_ble_eq_true rfl)
  rw [lg_entry_eq]
  generalize (lg_sl ([.ref (o), .int (nI (k)), .int (nI (a)), .int (nI (last))]) ++ List.replicate (6 - (lg_sl ([.ref (o), .int (nI (k)), .int (nI (a)), .int (nI (last))])).length) Slot.unset).toArray = ls at hl ⊢
  have hl : lv_has ls 6 [(0, .ref (o)), (1, .int (nI (k))), (2, .int (nI (a))), (3, .int (nI (last)))] := hl
  refine lv_iload_n hx hb dX11_value_0 rfl (lv_at hl 3 rfl) ?_
  refine lv_iload_n hx hb dX11_value_1 rfl (lv_at hl 2 rfl) ?_
  refine zi_sub hx hb (by omega) dX11_value_2 ?_
  refine lv_istore (lv' := [(4, .int (nI (last - a))), (0, .ref (o)), (1, .int (nI (k))), (2, .int (nI (a))), (3, .int (nI (last)))]) hx hb dX11_value_3 hl (by decide) rfl (fun ls hl => ?_)
  refine lv_iload_n hx hb dX11_value_5 rfl (lv_at hl 2 rfl) ?_
  refine lv_bipush (v := nI 16) hx hb dX11_value_6 (by decide) ?_
  refine zi_icmp_eq (tgt := 23) hx hb dX11_value_8 (by decide) (by omega) (by omega) (fun c_8 => ?_) (fun c_8 => ?_)
  · refine lv_iload_n hx hb dX11_value_23 rfl (lv_at hl 2 rfl) ?_
    refine lv_bipush (v := nI 16) hx hb dX11_value_24 (by decide) ?_
    refine zi_icmp_ne (tgt := 33) hx hb dX11_value_26 (by decide) (by omega) (by omega) (fun c_26 => ?_) (fun c_26 => ?_)
    · refine lv_iload_n hx hb dX11_value_33 rfl (lv_at hl 2 rfl) ?_
      refine lv_bipush (v := nI 18) hx hb dX11_value_34 (by decide) ?_
      refine zi_icmp_ne (tgt := 44) hx hb dX11_value_36 (by decide) (by omega) (by omega) (fun c_36 => ?_) (fun c_36 => ?_)
      · refine lv_iconst (v := nI 1) hx hb dX11_value_44 (by decide) ?_
        refine lv_istore (lv' := [(5, .int (nI (1))), (4, .int (nI (last - a))), (0, .ref (o)), (1, .int (nI (k))), (2, .int (nI (a))), (3, .int (nI (last)))]) hx hb dX11_value_45 hl (by decide) rfl (fun ls hl => ?_)
        refine lv_iload hx hb dX11_value_47 (lv_at hl 1 rfl) ?_
        refine lv_iload hx hb dX11_value_49 (lv_at hl 0 rfl) ?_
        refine zi_icmp_ge (tgt := 63) hx hb dX11_value_51 (by decide) (by omega) (by omega) (fun c_51 => ?_) (fun c_51 => ?_)
        · refine lv_iload_n hx hb dX11_value_63 rfl (lv_at hl 3 rfl) ?_
          refine lv_bipush (v := nI 8) hx hb dX11_value_64 (by decide) ?_
          refine zi_icmp_ne (tgt := 85) hx hb dX11_value_66 (by decide) (by omega) (by omega) (fun c_66 => ?_) (fun c_66 => ?_)
          · refine lv_iload_n hx hb dX11_value_85 rfl (lv_at hl 4 rfl) ?_
            refine lv_iload hx hb dX11_value_86 (lv_at hl 0 rfl) ?_
            refine zi_add hx hb dX11_value_88 ?_
            exact zr_ie hx hb hr hlocks (by first | (exfalso; omega) | rw [vaR, if_pos (Or.inl c_8), vaN, if_neg c_26, if_neg c_36]) (by first | (exfalso; omega) | (rw [vaF, if_pos (Or.inl c_8), vaN, if_neg c_26, if_neg c_36, if_neg (by omega), if_neg (fun z => c_66 z.1)]; exact hP)) hS dX11_value_89
          · refine lv_aload_n hx hb dX11_value_69 rfl (lv_at hl 2 rfl) ?_
            refine zi_get (C := RX11) (T := TX11) (N := 23) (v := .ref (q 12)) hx hb hz wo_X11 hown hK hO rfl 12 (by decide) (hz _ wf_X11_26) (fun _ h9 => h9) rfl dX11_value_70 ?_
            refine lv_iload_n hx hb dX11_value_73 rfl (lv_at hl 4 rfl) ?_
            refine zi_ald hx hb hK hP.a12 (by omega) (by decide) dX11_value_74 ?_
            refine lv_iconst (v := nI 1) hx hb dX11_value_75 (by decide) ?_
            refine zi_icmp_le (tgt := 85) hx hb dX11_value_76 (by decide) (Nat.lt_trans (h8 _) (by decide)) (by omega) (fun c_76 => ?_) (fun c_76 => ?_)
            · refine lv_iload_n hx hb dX11_value_85 rfl (lv_at hl 4 rfl) ?_
              refine lv_iload hx hb dX11_value_86 (lv_at hl 0 rfl) ?_
              refine zi_add hx hb dX11_value_88 ?_
              exact zr_ie hx hb hr hlocks (by first | (exfalso; omega) | rw [vaR, if_pos (Or.inl c_8), vaN, if_neg c_26, if_neg c_36]) (by first | (exfalso; omega) | (rw [vaF, if_pos (Or.inl c_8), vaN, if_neg c_26, if_neg c_36, if_neg (by omega), if_neg (fun z => by omega)]; exact hP)) hS dX11_value_89
            · refine lv_aload_n hx hb dX11_value_79 rfl (lv_at hl 2 rfl) ?_
              refine lv_iconst (v := nI 5) hx hb dX11_value_80 (by decide) ?_
              refine lv_iload_n hx hb dX11_value_81 rfl (lv_at hl 4 rfl) ?_
              refine zc_VE (As := [.int (nI (5)), .int (nI (a))]) (rest := []) ⟨hx, hb, hml, hown, hts⟩ (m_stop l G o w q 0 nd g pa be nm ed bx mn rw 5 (nI (a)) (by decide)) (cwV 2 hts (zgV wm_X11_71 wv_X11_stop) rfl rfl rfl (by decide +kernel) ⟨Nat.le_of_ble_eq_true rfl, Nat.le_of_ble_eq_true rfl⟩) hK hO rfl hP rfl hl.1 rfl (Nat.le_of_ble_eq_true rfl) dX11_value_82 ⟨Nat.zero_le _, Nat.zero_le _⟩ hS (fun _ h9 => h9) (fun H locs hP hz9 hk9 hS => ?_)
              obtain ⟨hO, -, -, -, h8⟩ := id hP
              refine W.eq (g2 := F0 m 85 ls ([])) rfl ?_
              refine lv_iload_n hx hb dX11_value_85 rfl (lv_at hl 4 rfl) ?_
              refine lv_iload hx hb dX11_value_86 (lv_at hl 0 rfl) ?_
              refine zi_add hx hb dX11_value_88 ?_
              exact zr_ie hx hb hr hlocks (by first | (exfalso; omega) | rw [vaR, if_pos (Or.inl c_8), vaN, if_neg c_26, if_neg c_36]) (by first | (exfalso; omega) | (rw [vaF, if_pos (Or.inl c_8), vaN, if_neg c_26, if_neg c_36, if_neg (by omega), if_pos ⟨c_66, c_76⟩]; exact hP)) hS dX11_value_89
        · refine lv_aload_n hx hb dX11_value_54 rfl (lv_at hl 2 rfl) ?_
          refine lv_iconst (v := nI 1) hx hb dX11_value_55 (by decide) ?_
          refine lv_iload_n hx hb dX11_value_56 rfl (lv_at hl 4 rfl) ?_
          refine zc_VE (As := [.int (nI (1)), .int (nI (a))]) (rest := []) ⟨hx, hb, hml, hown, hts⟩ (m_stop l G o w q 0 nd g pa be nm ed bx mn rw 1 (nI (a)) (by decide)) (cwV 2 hts (zgV wm_X11_71 wv_X11_stop) rfl rfl rfl (by decide +kernel) ⟨Nat.le_of_ble_eq_true rfl, Nat.le_of_ble_eq_true rfl⟩) hK hO rfl hP rfl hl.1 rfl (Nat.le_of_ble_eq_true rfl) dX11_value_57 ⟨Nat.zero_le _, Nat.zero_le _⟩ hS (fun _ h9 => h9) (fun H locs hP hz9 hk9 hS => ?_)
          obtain ⟨hO, -, -, -, h8⟩ := id hP
          refine W.eq (g2 := F0 m 60 ls ([])) rfl ?_
          refine lv_goto (tgt := 85) hx hb dX11_value_60 (by decide) ?_
          refine lv_iload_n hx hb dX11_value_85 rfl (lv_at hl 4 rfl) ?_
          refine lv_iload hx hb dX11_value_86 (lv_at hl 0 rfl) ?_
          refine zi_add hx hb dX11_value_88 ?_
          exact zr_ie hx hb hr hlocks (by first | (exfalso; omega) | rw [vaR, if_pos (Or.inl c_8), vaN, if_neg c_26, if_neg c_36]) (by first | (exfalso; omega) | (rw [vaF, if_pos (Or.inl c_8), vaN, if_neg c_26, if_neg c_36, if_pos c_51]; exact hP)) hS dX11_value_89
      · refine lv_bipush (v := nI 8) hx hb dX11_value_39 (by decide) ?_
        refine lv_goto (tgt := 45) hx hb dX11_value_41 (by decide) ?_
        refine lv_istore (lv' := [(5, .int (nI (8))), (4, .int (nI (last - a))), (0, .ref (o)), (1, .int (nI (k))), (2, .int (nI (a))), (3, .int (nI (last)))]) hx hb dX11_value_45 hl (by decide) rfl (fun ls hl => ?_)
        refine lv_iload hx hb dX11_value_47 (lv_at hl 1 rfl) ?_
        refine lv_iload hx hb dX11_value_49 (lv_at hl 0 rfl) ?_
        refine zi_icmp_ge (tgt := 63) hx hb dX11_value_51 (by decide) (by omega) (by omega) (fun c_51 => ?_) (fun c_51 => ?_)
        · refine lv_iload_n hx hb dX11_value_63 rfl (lv_at hl 3 rfl) ?_
          refine lv_bipush (v := nI 8) hx hb dX11_value_64 (by decide) ?_
          refine zi_icmp_ne (tgt := 85) hx hb dX11_value_66 (by decide) (by omega) (by omega) (fun c_66 => ?_) (fun c_66 => ?_)
          · refine lv_iload_n hx hb dX11_value_85 rfl (lv_at hl 4 rfl) ?_
            refine lv_iload hx hb dX11_value_86 (lv_at hl 0 rfl) ?_
            refine zi_add hx hb dX11_value_88 ?_
            exact zr_ie hx hb hr hlocks (by first | (exfalso; omega) | rw [vaR, if_pos (Or.inl c_8), vaN, if_neg c_26, if_pos c_36]) (by first | (exfalso; omega) | (rw [vaF, if_pos (Or.inl c_8), vaN, if_neg c_26, if_pos c_36, if_neg (by omega), if_neg (fun z => c_66 z.1)]; exact hP)) hS dX11_value_89
          · refine lv_aload_n hx hb dX11_value_69 rfl (lv_at hl 2 rfl) ?_
            refine zi_get (C := RX11) (T := TX11) (N := 23) (v := .ref (q 12)) hx hb hz wo_X11 hown hK hO rfl 12 (by decide) (hz _ wf_X11_26) (fun _ h9 => h9) rfl dX11_value_70 ?_
            refine lv_iload_n hx hb dX11_value_73 rfl (lv_at hl 4 rfl) ?_
            refine zi_ald hx hb hK hP.a12 (by omega) (by decide) dX11_value_74 ?_
            refine lv_iconst (v := nI 1) hx hb dX11_value_75 (by decide) ?_
            refine zi_icmp_le (tgt := 85) hx hb dX11_value_76 (by decide) (Nat.lt_trans (h8 _) (by decide)) (by omega) (fun c_76 => ?_) (fun c_76 => ?_)
            · refine lv_iload_n hx hb dX11_value_85 rfl (lv_at hl 4 rfl) ?_
              refine lv_iload hx hb dX11_value_86 (lv_at hl 0 rfl) ?_
              refine zi_add hx hb dX11_value_88 ?_
              exact zr_ie hx hb hr hlocks (by first | (exfalso; omega) | rw [vaR, if_pos (Or.inl c_8), vaN, if_neg c_26, if_pos c_36]) (by first | (exfalso; omega) | (rw [vaF, if_pos (Or.inl c_8), vaN, if_neg c_26, if_pos c_36, if_neg (by omega), if_neg (fun z => by omega)]; exact hP)) hS dX11_value_89
            · refine lv_aload_n hx hb dX11_value_79 rfl (lv_at hl 2 rfl) ?_
              refine lv_iconst (v := nI 5) hx hb dX11_value_80 (by decide) ?_
              refine lv_iload_n hx hb dX11_value_81 rfl (lv_at hl 4 rfl) ?_
              refine zc_VE (As := [.int (nI (5)), .int (nI (a))]) (rest := []) ⟨hx, hb, hml, hown, hts⟩ (m_stop l G o w q 0 nd g pa be nm ed bx mn rw 5 (nI (a)) (by decide)) (cwV 2 hts (zgV wm_X11_71 wv_X11_stop) rfl rfl rfl (by decide +kernel) ⟨Nat.le_of_ble_eq_true rfl, Nat.le_of_ble_eq_true rfl⟩) hK hO rfl hP rfl hl.1 rfl (Nat.le_of_ble_eq_true rfl) dX11_value_82 ⟨Nat.zero_le _, Nat.zero_le _⟩ hS (fun _ h9 => h9) (fun H locs hP hz9 hk9 hS => ?_)
              obtain ⟨hO, -, -, -, h8⟩ := id hP
              refine W.eq (g2 := F0 m 85 ls ([])) rfl ?_
              refine lv_iload_n hx hb dX11_value_85 rfl (lv_at hl 4 rfl) ?_
              refine lv_iload hx hb dX11_value_86 (lv_at hl 0 rfl) ?_
              refine zi_add hx hb dX11_value_88 ?_
              exact zr_ie hx hb hr hlocks (by first | (exfalso; omega) | rw [vaR, if_pos (Or.inl c_8), vaN, if_neg c_26, if_pos c_36]) (by first | (exfalso; omega) | (rw [vaF, if_pos (Or.inl c_8), vaN, if_neg c_26, if_pos c_36, if_neg (by omega), if_pos ⟨c_66, c_76⟩]; exact hP)) hS dX11_value_89
        · refine lv_aload_n hx hb dX11_value_54 rfl (lv_at hl 2 rfl) ?_
          refine lv_iconst (v := nI 1) hx hb dX11_value_55 (by decide) ?_
          refine lv_iload_n hx hb dX11_value_56 rfl (lv_at hl 4 rfl) ?_
          refine zc_VE (As := [.int (nI (1)), .int (nI (a))]) (rest := []) ⟨hx, hb, hml, hown, hts⟩ (m_stop l G o w q 0 nd g pa be nm ed bx mn rw 1 (nI (a)) (by decide)) (cwV 2 hts (zgV wm_X11_71 wv_X11_stop) rfl rfl rfl (by decide +kernel) ⟨Nat.le_of_ble_eq_true rfl, Nat.le_of_ble_eq_true rfl⟩) hK hO rfl hP rfl hl.1 rfl (Nat.le_of_ble_eq_true rfl) dX11_value_57 ⟨Nat.zero_le _, Nat.zero_le _⟩ hS (fun _ h9 => h9) (fun H locs hP hz9 hk9 hS => ?_)
          obtain ⟨hO, -, -, -, h8⟩ := id hP
          refine W.eq (g2 := F0 m 60 ls ([])) rfl ?_
          refine lv_goto (tgt := 85) hx hb dX11_value_60 (by decide) ?_
          refine lv_iload_n hx hb dX11_value_85 rfl (lv_at hl 4 rfl) ?_
          refine lv_iload hx hb dX11_value_86 (lv_at hl 0 rfl) ?_
          refine zi_add hx hb dX11_value_88 ?_
          exact zr_ie hx hb hr hlocks (by first | (exfalso; omega) | rw [vaR, if_pos (Or.inl c_8), vaN, if_neg c_26, if_pos c_36]) (by first | (exfalso; omega) | (rw [vaF, if_pos (Or.inl c_8), vaN, if_neg c_26, if_pos c_36, if_pos c_51]; exact hP)) hS dX11_value_89
    · refine lv_iconst (v := nI 4) hx hb dX11_value_29 (by decide) ?_
      refine lv_goto (tgt := 45) hx hb dX11_value_30 (by decide) ?_
      refine lv_istore (lv' := [(5, .int (nI (4))), (4, .int (nI (last - a))), (0, .ref (o)), (1, .int (nI (k))), (2, .int (nI (a))), (3, .int (nI (last)))]) hx hb dX11_value_45 hl (by decide) rfl (fun ls hl => ?_)
      refine lv_iload hx hb dX11_value_47 (lv_at hl 1 rfl) ?_
      refine lv_iload hx hb dX11_value_49 (lv_at hl 0 rfl) ?_
      refine zi_icmp_ge (tgt := 63) hx hb dX11_value_51 (by decide) (by omega) (by omega) (fun c_51 => ?_) (fun c_51 => ?_)
      · refine lv_iload_n hx hb dX11_value_63 rfl (lv_at hl 3 rfl) ?_
        refine lv_bipush (v := nI 8) hx hb dX11_value_64 (by decide) ?_
        refine zi_icmp_ne (tgt := 85) hx hb dX11_value_66 (by decide) (by omega) (by omega) (fun c_66 => ?_) (fun c_66 => ?_)
        · refine lv_iload_n hx hb dX11_value_85 rfl (lv_at hl 4 rfl) ?_
          refine lv_iload hx hb dX11_value_86 (lv_at hl 0 rfl) ?_
          refine zi_add hx hb dX11_value_88 ?_
          exact zr_ie hx hb hr hlocks (by first | (exfalso; omega) | rw [vaR, if_pos (Or.inl c_8), vaN, if_pos c_26]) (by first | (exfalso; omega) | (rw [vaF, if_pos (Or.inl c_8), vaN, if_pos c_26, if_neg (by omega), if_neg (fun z => c_66 z.1)]; exact hP)) hS dX11_value_89
        · refine lv_aload_n hx hb dX11_value_69 rfl (lv_at hl 2 rfl) ?_
          refine zi_get (C := RX11) (T := TX11) (N := 23) (v := .ref (q 12)) hx hb hz wo_X11 hown hK hO rfl 12 (by decide) (hz _ wf_X11_26) (fun _ h9 => h9) rfl dX11_value_70 ?_
          refine lv_iload_n hx hb dX11_value_73 rfl (lv_at hl 4 rfl) ?_
          refine zi_ald hx hb hK hP.a12 (by omega) (by decide) dX11_value_74 ?_
          refine lv_iconst (v := nI 1) hx hb dX11_value_75 (by decide) ?_
          refine zi_icmp_le (tgt := 85) hx hb dX11_value_76 (by decide) (Nat.lt_trans (h8 _) (by decide)) (by omega) (fun c_76 => ?_) (fun c_76 => ?_)
          · refine lv_iload_n hx hb dX11_value_85 rfl (lv_at hl 4 rfl) ?_
            refine lv_iload hx hb dX11_value_86 (lv_at hl 0 rfl) ?_
            refine zi_add hx hb dX11_value_88 ?_
            exact zr_ie hx hb hr hlocks (by first | (exfalso; omega) | rw [vaR, if_pos (Or.inl c_8), vaN, if_pos c_26]) (by first | (exfalso; omega) | (rw [vaF, if_pos (Or.inl c_8), vaN, if_pos c_26, if_neg (by omega), if_neg (fun z => by omega)]; exact hP)) hS dX11_value_89
          · refine lv_aload_n hx hb dX11_value_79 rfl (lv_at hl 2 rfl) ?_
            refine lv_iconst (v := nI 5) hx hb dX11_value_80 (by decide) ?_
            refine lv_iload_n hx hb dX11_value_81 rfl (lv_at hl 4 rfl) ?_
            refine zc_VE (As := [.int (nI (5)), .int (nI (a))]) (rest := []) ⟨hx, hb, hml, hown, hts⟩ (m_stop l G o w q 0 nd g pa be nm ed bx mn rw 5 (nI (a)) (by decide)) (cwV 2 hts (zgV wm_X11_71 wv_X11_stop) rfl rfl rfl (by decide +kernel) ⟨Nat.le_of_ble_eq_true rfl, Nat.le_of_ble_eq_true rfl⟩) hK hO rfl hP rfl hl.1 rfl (Nat.le_of_ble_eq_true rfl) dX11_value_82 ⟨Nat.zero_le _, Nat.zero_le _⟩ hS (fun _ h9 => h9) (fun H locs hP hz9 hk9 hS => ?_)
            obtain ⟨hO, -, -, -, h8⟩ := id hP
            refine W.eq (g2 := F0 m 85 ls ([])) rfl ?_
            refine lv_iload_n hx hb dX11_value_85 rfl (lv_at hl 4 rfl) ?_
            refine lv_iload hx hb dX11_value_86 (lv_at hl 0 rfl) ?_
            refine zi_add hx hb dX11_value_88 ?_
            exact zr_ie hx hb hr hlocks (by first | (exfalso; omega) | rw [vaR, if_pos (Or.inl c_8), vaN, if_pos c_26]) (by first | (exfalso; omega) | (rw [vaF, if_pos (Or.inl c_8), vaN, if_pos c_26, if_neg (by omega), if_pos ⟨c_66, c_76⟩]; exact hP)) hS dX11_value_89
      · refine lv_aload_n hx hb dX11_value_54 rfl (lv_at hl 2 rfl) ?_
        refine lv_iconst (v := nI 1) hx hb dX11_value_55 (by decide) ?_
        refine lv_iload_n hx hb dX11_value_56 rfl (lv_at hl 4 rfl) ?_
        refine zc_VE (As := [.int (nI (1)), .int (nI (a))]) (rest := []) ⟨hx, hb, hml, hown, hts⟩ (m_stop l G o w q 0 nd g pa be nm ed bx mn rw 1 (nI (a)) (by decide)) (cwV 2 hts (zgV wm_X11_71 wv_X11_stop) rfl rfl rfl (by decide +kernel) ⟨Nat.le_of_ble_eq_true rfl, Nat.le_of_ble_eq_true rfl⟩) hK hO rfl hP rfl hl.1 rfl (Nat.le_of_ble_eq_true rfl) dX11_value_57 ⟨Nat.zero_le _, Nat.zero_le _⟩ hS (fun _ h9 => h9) (fun H locs hP hz9 hk9 hS => ?_)
        obtain ⟨hO, -, -, -, h8⟩ := id hP
        refine W.eq (g2 := F0 m 60 ls ([])) rfl ?_
        refine lv_goto (tgt := 85) hx hb dX11_value_60 (by decide) ?_
        refine lv_iload_n hx hb dX11_value_85 rfl (lv_at hl 4 rfl) ?_
        refine lv_iload hx hb dX11_value_86 (lv_at hl 0 rfl) ?_
        refine zi_add hx hb dX11_value_88 ?_
        exact zr_ie hx hb hr hlocks (by first | (exfalso; omega) | rw [vaR, if_pos (Or.inl c_8), vaN, if_pos c_26]) (by first | (exfalso; omega) | (rw [vaF, if_pos (Or.inl c_8), vaN, if_pos c_26, if_pos c_51]; exact hP)) hS dX11_value_89
  · refine lv_iload_n hx hb dX11_value_11 rfl (lv_at hl 2 rfl) ?_
    refine lv_bipush (v := nI 18) hx hb dX11_value_12 (by decide) ?_
    refine zi_icmp_eq (tgt := 23) hx hb dX11_value_14 (by decide) (by omega) (by omega) (fun c_14 => ?_) (fun c_14 => ?_)
    · refine lv_iload_n hx hb dX11_value_23 rfl (lv_at hl 2 rfl) ?_
      refine lv_bipush (v := nI 16) hx hb dX11_value_24 (by decide) ?_
      refine zi_icmp_ne (tgt := 33) hx hb dX11_value_26 (by decide) (by omega) (by omega) (fun c_26 => ?_) (fun c_26 => ?_)
      · refine lv_iload_n hx hb dX11_value_33 rfl (lv_at hl 2 rfl) ?_
        refine lv_bipush (v := nI 18) hx hb dX11_value_34 (by decide) ?_
        refine zi_icmp_ne (tgt := 44) hx hb dX11_value_36 (by decide) (by omega) (by omega) (fun c_36 => ?_) (fun c_36 => ?_)
        · refine lv_iconst (v := nI 1) hx hb dX11_value_44 (by decide) ?_
          refine lv_istore (lv' := [(5, .int (nI (1))), (4, .int (nI (last - a))), (0, .ref (o)), (1, .int (nI (k))), (2, .int (nI (a))), (3, .int (nI (last)))]) hx hb dX11_value_45 hl (by decide) rfl (fun ls hl => ?_)
          refine lv_iload hx hb dX11_value_47 (lv_at hl 1 rfl) ?_
          refine lv_iload hx hb dX11_value_49 (lv_at hl 0 rfl) ?_
          refine zi_icmp_ge (tgt := 63) hx hb dX11_value_51 (by decide) (by omega) (by omega) (fun c_51 => ?_) (fun c_51 => ?_)
          · refine lv_iload_n hx hb dX11_value_63 rfl (lv_at hl 3 rfl) ?_
            refine lv_bipush (v := nI 8) hx hb dX11_value_64 (by decide) ?_
            refine zi_icmp_ne (tgt := 85) hx hb dX11_value_66 (by decide) (by omega) (by omega) (fun c_66 => ?_) (fun c_66 => ?_)
            · refine lv_iload_n hx hb dX11_value_85 rfl (lv_at hl 4 rfl) ?_
              refine lv_iload hx hb dX11_value_86 (lv_at hl 0 rfl) ?_
              refine zi_add hx hb dX11_value_88 ?_
              exact zr_ie hx hb hr hlocks (by first | (exfalso; omega) | rw [vaR, if_pos (Or.inr (Or.inl c_14)), vaN, if_neg c_26, if_neg c_36]) (by first | (exfalso; omega) | (rw [vaF, if_pos (Or.inr (Or.inl c_14)), vaN, if_neg c_26, if_neg c_36, if_neg (by omega), if_neg (fun z => c_66 z.1)]; exact hP)) hS dX11_value_89
            · refine lv_aload_n hx hb dX11_value_69 rfl (lv_at hl 2 rfl) ?_
              refine zi_get (C := RX11) (T := TX11) (N := 23) (v := .ref (q 12)) hx hb hz wo_X11 hown hK hO rfl 12 (by decide) (hz _ wf_X11_26) (fun _ h9 => h9) rfl dX11_value_70 ?_
              refine lv_iload_n hx hb dX11_value_73 rfl (lv_at hl 4 rfl) ?_
              refine zi_ald hx hb hK hP.a12 (by omega) (by decide) dX11_value_74 ?_
              refine lv_iconst (v := nI 1) hx hb dX11_value_75 (by decide) ?_
              refine zi_icmp_le (tgt := 85) hx hb dX11_value_76 (by decide) (Nat.lt_trans (h8 _) (by decide)) (by omega) (fun c_76 => ?_) (fun c_76 => ?_)
              · refine lv_iload_n hx hb dX11_value_85 rfl (lv_at hl 4 rfl) ?_
                refine lv_iload hx hb dX11_value_86 (lv_at hl 0 rfl) ?_
                refine zi_add hx hb dX11_value_88 ?_
                exact zr_ie hx hb hr hlocks (by first | (exfalso; omega) | rw [vaR, if_pos (Or.inr (Or.inl c_14)), vaN, if_neg c_26, if_neg c_36]) (by first | (exfalso; omega) | (rw [vaF, if_pos (Or.inr (Or.inl c_14)), vaN, if_neg c_26, if_neg c_36, if_neg (by omega), if_neg (fun z => by omega)]; exact hP)) hS dX11_value_89
              · refine lv_aload_n hx hb dX11_value_79 rfl (lv_at hl 2 rfl) ?_
                refine lv_iconst (v := nI 5) hx hb dX11_value_80 (by decide) ?_
                refine lv_iload_n hx hb dX11_value_81 rfl (lv_at hl 4 rfl) ?_
                refine zc_VE (As := [.int (nI (5)), .int (nI (a))]) (rest := []) ⟨hx, hb, hml, hown, hts⟩ (m_stop l G o w q 0 nd g pa be nm ed bx mn rw 5 (nI (a)) (by decide)) (cwV 2 hts (zgV wm_X11_71 wv_X11_stop) rfl rfl rfl (by decide +kernel) ⟨Nat.le_of_ble_eq_true rfl, Nat.le_of_ble_eq_true rfl⟩) hK hO rfl hP rfl hl.1 rfl (Nat.le_of_ble_eq_true rfl) dX11_value_82 ⟨Nat.zero_le _, Nat.zero_le _⟩ hS (fun _ h9 => h9) (fun H locs hP hz9 hk9 hS => ?_)
                obtain ⟨hO, -, -, -, h8⟩ := id hP
                refine W.eq (g2 := F0 m 85 ls ([])) rfl ?_
                refine lv_iload_n hx hb dX11_value_85 rfl (lv_at hl 4 rfl) ?_
                refine lv_iload hx hb dX11_value_86 (lv_at hl 0 rfl) ?_
                refine zi_add hx hb dX11_value_88 ?_
                exact zr_ie hx hb hr hlocks (by first | (exfalso; omega) | rw [vaR, if_pos (Or.inr (Or.inl c_14)), vaN, if_neg c_26, if_neg c_36]) (by first | (exfalso; omega) | (rw [vaF, if_pos (Or.inr (Or.inl c_14)), vaN, if_neg c_26, if_neg c_36, if_neg (by omega), if_pos ⟨c_66, c_76⟩]; exact hP)) hS dX11_value_89
          · refine lv_aload_n hx hb dX11_value_54 rfl (lv_at hl 2 rfl) ?_
            refine lv_iconst (v := nI 1) hx hb dX11_value_55 (by decide) ?_
            refine lv_iload_n hx hb dX11_value_56 rfl (lv_at hl 4 rfl) ?_
            refine zc_VE (As := [.int (nI (1)), .int (nI (a))]) (rest := []) ⟨hx, hb, hml, hown, hts⟩ (m_stop l G o w q 0 nd g pa be nm ed bx mn rw 1 (nI (a)) (by decide)) (cwV 2 hts (zgV wm_X11_71 wv_X11_stop) rfl rfl rfl (by decide +kernel) ⟨Nat.le_of_ble_eq_true rfl, Nat.le_of_ble_eq_true rfl⟩) hK hO rfl hP rfl hl.1 rfl (Nat.le_of_ble_eq_true rfl) dX11_value_57 ⟨Nat.zero_le _, Nat.zero_le _⟩ hS (fun _ h9 => h9) (fun H locs hP hz9 hk9 hS => ?_)
            obtain ⟨hO, -, -, -, h8⟩ := id hP
            refine W.eq (g2 := F0 m 60 ls ([])) rfl ?_
            refine lv_goto (tgt := 85) hx hb dX11_value_60 (by decide) ?_
            refine lv_iload_n hx hb dX11_value_85 rfl (lv_at hl 4 rfl) ?_
            refine lv_iload hx hb dX11_value_86 (lv_at hl 0 rfl) ?_
            refine zi_add hx hb dX11_value_88 ?_
            exact zr_ie hx hb hr hlocks (by first | (exfalso; omega) | rw [vaR, if_pos (Or.inr (Or.inl c_14)), vaN, if_neg c_26, if_neg c_36]) (by first | (exfalso; omega) | (rw [vaF, if_pos (Or.inr (Or.inl c_14)), vaN, if_neg c_26, if_neg c_36, if_pos c_51]; exact hP)) hS dX11_value_89
        · refine lv_bipush (v := nI 8) hx hb dX11_value_39 (by decide) ?_
          refine lv_goto (tgt := 45) hx hb dX11_value_41 (by decide) ?_
          refine lv_istore (lv' := [(5, .int (nI (8))), (4, .int (nI (last - a))), (0, .ref (o)), (1, .int (nI (k))), (2, .int (nI (a))), (3, .int (nI (last)))]) hx hb dX11_value_45 hl (by decide) rfl (fun ls hl => ?_)
          refine lv_iload hx hb dX11_value_47 (lv_at hl 1 rfl) ?_
          refine lv_iload hx hb dX11_value_49 (lv_at hl 0 rfl) ?_
          refine zi_icmp_ge (tgt := 63) hx hb dX11_value_51 (by decide) (by omega) (by omega) (fun c_51 => ?_) (fun c_51 => ?_)
          · refine lv_iload_n hx hb dX11_value_63 rfl (lv_at hl 3 rfl) ?_
            refine lv_bipush (v := nI 8) hx hb dX11_value_64 (by decide) ?_
            refine zi_icmp_ne (tgt := 85) hx hb dX11_value_66 (by decide) (by omega) (by omega) (fun c_66 => ?_) (fun c_66 => ?_)
            · refine lv_iload_n hx hb dX11_value_85 rfl (lv_at hl 4 rfl) ?_
              refine lv_iload hx hb dX11_value_86 (lv_at hl 0 rfl) ?_
              refine zi_add hx hb dX11_value_88 ?_
              exact zr_ie hx hb hr hlocks (by first | (exfalso; omega) | rw [vaR, if_pos (Or.inr (Or.inl c_14)), vaN, if_neg c_26, if_pos c_36]) (by first | (exfalso; omega) | (rw [vaF, if_pos (Or.inr (Or.inl c_14)), vaN, if_neg c_26, if_pos c_36, if_neg (by omega), if_neg (fun z => c_66 z.1)]; exact hP)) hS dX11_value_89
            · refine lv_aload_n hx hb dX11_value_69 rfl (lv_at hl 2 rfl) ?_
              refine zi_get (C := RX11) (T := TX11) (N := 23) (v := .ref (q 12)) hx hb hz wo_X11 hown hK hO rfl 12 (by decide) (hz _ wf_X11_26) (fun _ h9 => h9) rfl dX11_value_70 ?_
              refine lv_iload_n hx hb dX11_value_73 rfl (lv_at hl 4 rfl) ?_
              refine zi_ald hx hb hK hP.a12 (by omega) (by decide) dX11_value_74 ?_
              refine lv_iconst (v := nI 1) hx hb dX11_value_75 (by decide) ?_
              refine zi_icmp_le (tgt := 85) hx hb dX11_value_76 (by decide) (Nat.lt_trans (h8 _) (by decide)) (by omega) (fun c_76 => ?_) (fun c_76 => ?_)
              · refine lv_iload_n hx hb dX11_value_85 rfl (lv_at hl 4 rfl) ?_
                refine lv_iload hx hb dX11_value_86 (lv_at hl 0 rfl) ?_
                refine zi_add hx hb dX11_value_88 ?_
                exact zr_ie hx hb hr hlocks (by first | (exfalso; omega) | rw [vaR, if_pos (Or.inr (Or.inl c_14)), vaN, if_neg c_26, if_pos c_36]) (by first | (exfalso; omega) | (rw [vaF, if_pos (Or.inr (Or.inl c_14)), vaN, if_neg c_26, if_pos c_36, if_neg (by omega), if_neg (fun z => by omega)]; exact hP)) hS dX11_value_89
              · refine lv_aload_n hx hb dX11_value_79 rfl (lv_at hl 2 rfl) ?_
                refine lv_iconst (v := nI 5) hx hb dX11_value_80 (by decide) ?_
                refine lv_iload_n hx hb dX11_value_81 rfl (lv_at hl 4 rfl) ?_
                refine zc_VE (As := [.int (nI (5)), .int (nI (a))]) (rest := []) ⟨hx, hb, hml, hown, hts⟩ (m_stop l G o w q 0 nd g pa be nm ed bx mn rw 5 (nI (a)) (by decide)) (cwV 2 hts (zgV wm_X11_71 wv_X11_stop) rfl rfl rfl (by decide +kernel) ⟨Nat.le_of_ble_eq_true rfl, Nat.le_of_ble_eq_true rfl⟩) hK hO rfl hP rfl hl.1 rfl (Nat.le_of_ble_eq_true rfl) dX11_value_82 ⟨Nat.zero_le _, Nat.zero_le _⟩ hS (fun _ h9 => h9) (fun H locs hP hz9 hk9 hS => ?_)
                obtain ⟨hO, -, -, -, h8⟩ := id hP
                refine W.eq (g2 := F0 m 85 ls ([])) rfl ?_
                refine lv_iload_n hx hb dX11_value_85 rfl (lv_at hl 4 rfl) ?_
                refine lv_iload hx hb dX11_value_86 (lv_at hl 0 rfl) ?_
                refine zi_add hx hb dX11_value_88 ?_
                exact zr_ie hx hb hr hlocks (by first | (exfalso; omega) | rw [vaR, if_pos (Or.inr (Or.inl c_14)), vaN, if_neg c_26, if_pos c_36]) (by first | (exfalso; omega) | (rw [vaF, if_pos (Or.inr (Or.inl c_14)), vaN, if_neg c_26, if_pos c_36, if_neg (by omega), if_pos ⟨c_66, c_76⟩]; exact hP)) hS dX11_value_89
          · refine lv_aload_n hx hb dX11_value_54 rfl (lv_at hl 2 rfl) ?_
            refine lv_iconst (v := nI 1) hx hb dX11_value_55 (by decide) ?_
            refine lv_iload_n hx hb dX11_value_56 rfl (lv_at hl 4 rfl) ?_
            refine zc_VE (As := [.int (nI (1)), .int (nI (a))]) (rest := []) ⟨hx, hb, hml, hown, hts⟩ (m_stop l G o w q 0 nd g pa be nm ed bx mn rw 1 (nI (a)) (by decide)) (cwV 2 hts (zgV wm_X11_71 wv_X11_stop) rfl rfl rfl (by decide +kernel) ⟨Nat.le_of_ble_eq_true rfl, Nat.le_of_ble_eq_true rfl⟩) hK hO rfl hP rfl hl.1 rfl (Nat.le_of_ble_eq_true rfl) dX11_value_57 ⟨Nat.zero_le _, Nat.zero_le _⟩ hS (fun _ h9 => h9) (fun H locs hP hz9 hk9 hS => ?_)
            obtain ⟨hO, -, -, -, h8⟩ := id hP
            refine W.eq (g2 := F0 m 60 ls ([])) rfl ?_
            refine lv_goto (tgt := 85) hx hb dX11_value_60 (by decide) ?_
            refine lv_iload_n hx hb dX11_value_85 rfl (lv_at hl 4 rfl) ?_
            refine lv_iload hx hb dX11_value_86 (lv_at hl 0 rfl) ?_
            refine zi_add hx hb dX11_value_88 ?_
            exact zr_ie hx hb hr hlocks (by first | (exfalso; omega) | rw [vaR, if_pos (Or.inr (Or.inl c_14)), vaN, if_neg c_26, if_pos c_36]) (by first | (exfalso; omega) | (rw [vaF, if_pos (Or.inr (Or.inl c_14)), vaN, if_neg c_26, if_pos c_36, if_pos c_51]; exact hP)) hS dX11_value_89
      · refine lv_iconst (v := nI 4) hx hb dX11_value_29 (by decide) ?_
        refine lv_goto (tgt := 45) hx hb dX11_value_30 (by decide) ?_
        refine lv_istore (lv' := [(5, .int (nI (4))), (4, .int (nI (last - a))), (0, .ref (o)), (1, .int (nI (k))), (2, .int (nI (a))), (3, .int (nI (last)))]) hx hb dX11_value_45 hl (by decide) rfl (fun ls hl => ?_)
        refine lv_iload hx hb dX11_value_47 (lv_at hl 1 rfl) ?_
        refine lv_iload hx hb dX11_value_49 (lv_at hl 0 rfl) ?_
        refine zi_icmp_ge (tgt := 63) hx hb dX11_value_51 (by decide) (by omega) (by omega) (fun c_51 => ?_) (fun c_51 => ?_)
        · refine lv_iload_n hx hb dX11_value_63 rfl (lv_at hl 3 rfl) ?_
          refine lv_bipush (v := nI 8) hx hb dX11_value_64 (by decide) ?_
          refine zi_icmp_ne (tgt := 85) hx hb dX11_value_66 (by decide) (by omega) (by omega) (fun c_66 => ?_) (fun c_66 => ?_)
          · refine lv_iload_n hx hb dX11_value_85 rfl (lv_at hl 4 rfl) ?_
            refine lv_iload hx hb dX11_value_86 (lv_at hl 0 rfl) ?_
            refine zi_add hx hb dX11_value_88 ?_
            exact zr_ie hx hb hr hlocks (by first | (exfalso; omega) | rw [vaR, if_pos (Or.inr (Or.inl c_14)), vaN, if_pos c_26]) (by first | (exfalso; omega) | (rw [vaF, if_pos (Or.inr (Or.inl c_14)), vaN, if_pos c_26, if_neg (by omega), if_neg (fun z => c_66 z.1)]; exact hP)) hS dX11_value_89
          · refine lv_aload_n hx hb dX11_value_69 rfl (lv_at hl 2 rfl) ?_
            refine zi_get (C := RX11) (T := TX11) (N := 23) (v := .ref (q 12)) hx hb hz wo_X11 hown hK hO rfl 12 (by decide) (hz _ wf_X11_26) (fun _ h9 => h9) rfl dX11_value_70 ?_
            refine lv_iload_n hx hb dX11_value_73 rfl (lv_at hl 4 rfl) ?_
            refine zi_ald hx hb hK hP.a12 (by omega) (by decide) dX11_value_74 ?_
            refine lv_iconst (v := nI 1) hx hb dX11_value_75 (by decide) ?_
            refine zi_icmp_le (tgt := 85) hx hb dX11_value_76 (by decide) (Nat.lt_trans (h8 _) (by decide)) (by omega) (fun c_76 => ?_) (fun c_76 => ?_)
            · refine lv_iload_n hx hb dX11_value_85 rfl (lv_at hl 4 rfl) ?_
              refine lv_iload hx hb dX11_value_86 (lv_at hl 0 rfl) ?_
              refine zi_add hx hb dX11_value_88 ?_
              exact zr_ie hx hb hr hlocks (by first | (exfalso; omega) | rw [vaR, if_pos (Or.inr (Or.inl c_14)), vaN, if_pos c_26]) (by first | (exfalso; omega) | (rw [vaF, if_pos (Or.inr (Or.inl c_14)), vaN, if_pos c_26, if_neg (by omega), if_neg (fun z => by omega)]; exact hP)) hS dX11_value_89
            · refine lv_aload_n hx hb dX11_value_79 rfl (lv_at hl 2 rfl) ?_
              refine lv_iconst (v := nI 5) hx hb dX11_value_80 (by decide) ?_
              refine lv_iload_n hx hb dX11_value_81 rfl (lv_at hl 4 rfl) ?_
              refine zc_VE (As := [.int (nI (5)), .int (nI (a))]) (rest := []) ⟨hx, hb, hml, hown, hts⟩ (m_stop l G o w q 0 nd g pa be nm ed bx mn rw 5 (nI (a)) (by decide)) (cwV 2 hts (zgV wm_X11_71 wv_X11_stop) rfl rfl rfl (by decide +kernel) ⟨Nat.le_of_ble_eq_true rfl, Nat.le_of_ble_eq_true rfl⟩) hK hO rfl hP rfl hl.1 rfl (Nat.le_of_ble_eq_true rfl) dX11_value_82 ⟨Nat.zero_le _, Nat.zero_le _⟩ hS (fun _ h9 => h9) (fun H locs hP hz9 hk9 hS => ?_)
              obtain ⟨hO, -, -, -, h8⟩ := id hP
              refine W.eq (g2 := F0 m 85 ls ([])) rfl ?_
              refine lv_iload_n hx hb dX11_value_85 rfl (lv_at hl 4 rfl) ?_
              refine lv_iload hx hb dX11_value_86 (lv_at hl 0 rfl) ?_
              refine zi_add hx hb dX11_value_88 ?_
              exact zr_ie hx hb hr hlocks (by first | (exfalso; omega) | rw [vaR, if_pos (Or.inr (Or.inl c_14)), vaN, if_pos c_26]) (by first | (exfalso; omega) | (rw [vaF, if_pos (Or.inr (Or.inl c_14)), vaN, if_pos c_26, if_neg (by omega), if_pos ⟨c_66, c_76⟩]; exact hP)) hS dX11_value_89
        · refine lv_aload_n hx hb dX11_value_54 rfl (lv_at hl 2 rfl) ?_
          refine lv_iconst (v := nI 1) hx hb dX11_value_55 (by decide) ?_
          refine lv_iload_n hx hb dX11_value_56 rfl (lv_at hl 4 rfl) ?_
          refine zc_VE (As := [.int (nI (1)), .int (nI (a))]) (rest := []) ⟨hx, hb, hml, hown, hts⟩ (m_stop l G o w q 0 nd g pa be nm ed bx mn rw 1 (nI (a)) (by decide)) (cwV 2 hts (zgV wm_X11_71 wv_X11_stop) rfl rfl rfl (by decide +kernel) ⟨Nat.le_of_ble_eq_true rfl, Nat.le_of_ble_eq_true rfl⟩) hK hO rfl hP rfl hl.1 rfl (Nat.le_of_ble_eq_true rfl) dX11_value_57 ⟨Nat.zero_le _, Nat.zero_le _⟩ hS (fun _ h9 => h9) (fun H locs hP hz9 hk9 hS => ?_)
          obtain ⟨hO, -, -, -, h8⟩ := id hP
          refine W.eq (g2 := F0 m 60 ls ([])) rfl ?_
          refine lv_goto (tgt := 85) hx hb dX11_value_60 (by decide) ?_
          refine lv_iload_n hx hb dX11_value_85 rfl (lv_at hl 4 rfl) ?_
          refine lv_iload hx hb dX11_value_86 (lv_at hl 0 rfl) ?_
          refine zi_add hx hb dX11_value_88 ?_
          exact zr_ie hx hb hr hlocks (by first | (exfalso; omega) | rw [vaR, if_pos (Or.inr (Or.inl c_14)), vaN, if_pos c_26]) (by first | (exfalso; omega) | (rw [vaF, if_pos (Or.inr (Or.inl c_14)), vaN, if_pos c_26, if_pos c_51]; exact hP)) hS dX11_value_89
    · refine lv_iload_n hx hb dX11_value_17 rfl (lv_at hl 2 rfl) ?_
      refine lv_bipush (v := nI 8) hx hb dX11_value_18 (by decide) ?_
      refine zi_icmp_ne (tgt := 90) hx hb dX11_value_20 (by decide) (by omega) (by omega) (fun c_20 => ?_) (fun c_20 => ?_)
      · refine lv_iload_n hx hb dX11_value_90 rfl (lv_at hl 2 rfl) ?_
        refine lv_iconst (v := nI 2) hx hb dX11_value_91 (by decide) ?_
        refine zi_icmp_ne (tgt := 104) hx hb dX11_value_92 (by decide) (by omega) (by omega) (fun c_92 => ?_) (fun c_92 => ?_)
        · refine lv_iload_n hx hb dX11_value_104 rfl (lv_at hl 3 rfl) ?_
          exact zr_ie hx hb hr hlocks (by rw [vaR, if_neg (by omega), if_neg c_92]) (by rw [vaF, if_neg (by omega), if_neg c_92]; exact hP) hS dX11_value_105
        · refine lv_aload_n hx hb dX11_value_95 rfl (lv_at hl 1 rfl) ?_
          refine lv_iload_n hx hb dX11_value_96 rfl (lv_at hl 3 rfl) ?_
          refine lv_iload_n hx hb dX11_value_97 rfl (lv_at hl 4 rfl) ?_
          refine zc_VE (As := [.int (nI (a)), .int (nI (last))]) (rest := []) ⟨hx, hb, hml, hown, hts⟩ (m_text l G o w q fa nd g pa be nm ed bx mn rw a last hal (by omega)) (cwV 2 hts (zgV wm_X11_118 wv_X11_text) rfl rfl rfl (by decide +kernel) ⟨Nat.le_of_ble_eq_true rfl, Nat.le_of_ble_eq_true rfl⟩) hK hO rfl hP rfl hl.1 rfl (Nat.le_of_ble_eq_true rfl) dX11_value_98 ⟨Nat.zero_le _, Nat.zero_le _⟩ hS (fun _ h9 => h9) (fun H locs hP hz9 hk9 hS => ?_)
          obtain ⟨hO, -, -, -, h8⟩ := id hP
          refine W.eq (g2 := F0 m 101 ls ([.int (nI (txR g a last))])) rfl ?_
          refine lv_goto (tgt := 105) hx hb dX11_value_101 (by decide) ?_
          exact zr_ie hx hb hr hlocks (by rw [vaR, if_neg (by omega), if_pos c_92]) (by rw [vaF, if_neg (by omega), if_pos c_92]; exact hP) hS dX11_value_105
      · refine lv_iload_n hx hb dX11_value_23 rfl (lv_at hl 2 rfl) ?_
        refine lv_bipush (v := nI 16) hx hb dX11_value_24 (by decide) ?_
        refine zi_icmp_ne (tgt := 33) hx hb dX11_value_26 (by decide) (by omega) (by omega) (fun c_26 => ?_) (fun c_26 => ?_)
        · refine lv_iload_n hx hb dX11_value_33 rfl (lv_at hl 2 rfl) ?_
          refine lv_bipush (v := nI 18) hx hb dX11_value_34 (by decide) ?_
          refine zi_icmp_ne (tgt := 44) hx hb dX11_value_36 (by decide) (by omega) (by omega) (fun c_36 => ?_) (fun c_36 => ?_)
          · refine lv_iconst (v := nI 1) hx hb dX11_value_44 (by decide) ?_
            refine lv_istore (lv' := [(5, .int (nI (1))), (4, .int (nI (last - a))), (0, .ref (o)), (1, .int (nI (k))), (2, .int (nI (a))), (3, .int (nI (last)))]) hx hb dX11_value_45 hl (by decide) rfl (fun ls hl => ?_)
            refine lv_iload hx hb dX11_value_47 (lv_at hl 1 rfl) ?_
            refine lv_iload hx hb dX11_value_49 (lv_at hl 0 rfl) ?_
            refine zi_icmp_ge (tgt := 63) hx hb dX11_value_51 (by decide) (by omega) (by omega) (fun c_51 => ?_) (fun c_51 => ?_)
            · refine lv_iload_n hx hb dX11_value_63 rfl (lv_at hl 3 rfl) ?_
              refine lv_bipush (v := nI 8) hx hb dX11_value_64 (by decide) ?_
              refine zi_icmp_ne (tgt := 85) hx hb dX11_value_66 (by decide) (by omega) (by omega) (fun c_66 => ?_) (fun c_66 => ?_)
              · refine lv_iload_n hx hb dX11_value_85 rfl (lv_at hl 4 rfl) ?_
                refine lv_iload hx hb dX11_value_86 (lv_at hl 0 rfl) ?_
                refine zi_add hx hb dX11_value_88 ?_
                exact zr_ie hx hb hr hlocks (by first | (exfalso; omega) | rw [vaR, if_pos (Or.inr (Or.inr c_20)), vaN, if_neg c_26, if_neg c_36]) (by first | (exfalso; omega) | (rw [vaF, if_pos (Or.inr (Or.inr c_20)), vaN, if_neg c_26, if_neg c_36, if_neg (by omega), if_neg (fun z => c_66 z.1)]; exact hP)) hS dX11_value_89
              · refine lv_aload_n hx hb dX11_value_69 rfl (lv_at hl 2 rfl) ?_
                refine zi_get (C := RX11) (T := TX11) (N := 23) (v := .ref (q 12)) hx hb hz wo_X11 hown hK hO rfl 12 (by decide) (hz _ wf_X11_26) (fun _ h9 => h9) rfl dX11_value_70 ?_
                refine lv_iload_n hx hb dX11_value_73 rfl (lv_at hl 4 rfl) ?_
                refine zi_ald hx hb hK hP.a12 (by omega) (by decide) dX11_value_74 ?_
                refine lv_iconst (v := nI 1) hx hb dX11_value_75 (by decide) ?_
                refine zi_icmp_le (tgt := 85) hx hb dX11_value_76 (by decide) (Nat.lt_trans (h8 _) (by decide)) (by omega) (fun c_76 => ?_) (fun c_76 => ?_)
                · refine lv_iload_n hx hb dX11_value_85 rfl (lv_at hl 4 rfl) ?_
                  refine lv_iload hx hb dX11_value_86 (lv_at hl 0 rfl) ?_
                  refine zi_add hx hb dX11_value_88 ?_
                  exact zr_ie hx hb hr hlocks (by first | (exfalso; omega) | rw [vaR, if_pos (Or.inr (Or.inr c_20)), vaN, if_neg c_26, if_neg c_36]) (by first | (exfalso; omega) | (rw [vaF, if_pos (Or.inr (Or.inr c_20)), vaN, if_neg c_26, if_neg c_36, if_neg (by omega), if_neg (fun z => by omega)]; exact hP)) hS dX11_value_89
                · refine lv_aload_n hx hb dX11_value_79 rfl (lv_at hl 2 rfl) ?_
                  refine lv_iconst (v := nI 5) hx hb dX11_value_80 (by decide) ?_
                  refine lv_iload_n hx hb dX11_value_81 rfl (lv_at hl 4 rfl) ?_
                  refine zc_VE (As := [.int (nI (5)), .int (nI (a))]) (rest := []) ⟨hx, hb, hml, hown, hts⟩ (m_stop l G o w q 0 nd g pa be nm ed bx mn rw 5 (nI (a)) (by decide)) (cwV 2 hts (zgV wm_X11_71 wv_X11_stop) rfl rfl rfl (by decide +kernel) ⟨Nat.le_of_ble_eq_true rfl, Nat.le_of_ble_eq_true rfl⟩) hK hO rfl hP rfl hl.1 rfl (Nat.le_of_ble_eq_true rfl) dX11_value_82 ⟨Nat.zero_le _, Nat.zero_le _⟩ hS (fun _ h9 => h9) (fun H locs hP hz9 hk9 hS => ?_)
                  obtain ⟨hO, -, -, -, h8⟩ := id hP
                  refine W.eq (g2 := F0 m 85 ls ([])) rfl ?_
                  refine lv_iload_n hx hb dX11_value_85 rfl (lv_at hl 4 rfl) ?_
                  refine lv_iload hx hb dX11_value_86 (lv_at hl 0 rfl) ?_
                  refine zi_add hx hb dX11_value_88 ?_
                  exact zr_ie hx hb hr hlocks (by first | (exfalso; omega) | rw [vaR, if_pos (Or.inr (Or.inr c_20)), vaN, if_neg c_26, if_neg c_36]) (by first | (exfalso; omega) | (rw [vaF, if_pos (Or.inr (Or.inr c_20)), vaN, if_neg c_26, if_neg c_36, if_neg (by omega), if_pos ⟨c_66, c_76⟩]; exact hP)) hS dX11_value_89
            · refine lv_aload_n hx hb dX11_value_54 rfl (lv_at hl 2 rfl) ?_
              refine lv_iconst (v := nI 1) hx hb dX11_value_55 (by decide) ?_
              refine lv_iload_n hx hb dX11_value_56 rfl (lv_at hl 4 rfl) ?_
              refine zc_VE (As := [.int (nI (1)), .int (nI (a))]) (rest := []) ⟨hx, hb, hml, hown, hts⟩ (m_stop l G o w q 0 nd g pa be nm ed bx mn rw 1 (nI (a)) (by decide)) (cwV 2 hts (zgV wm_X11_71 wv_X11_stop) rfl rfl rfl (by decide +kernel) ⟨Nat.le_of_ble_eq_true rfl, Nat.le_of_ble_eq_true rfl⟩) hK hO rfl hP rfl hl.1 rfl (Nat.le_of_ble_eq_true rfl) dX11_value_57 ⟨Nat.zero_le _, Nat.zero_le _⟩ hS (fun _ h9 => h9) (fun H locs hP hz9 hk9 hS => ?_)
              obtain ⟨hO, -, -, -, h8⟩ := id hP
              refine W.eq (g2 := F0 m 60 ls ([])) rfl ?_
              refine lv_goto (tgt := 85) hx hb dX11_value_60 (by decide) ?_
              refine lv_iload_n hx hb dX11_value_85 rfl (lv_at hl 4 rfl) ?_
              refine lv_iload hx hb dX11_value_86 (lv_at hl 0 rfl) ?_
              refine zi_add hx hb dX11_value_88 ?_
              exact zr_ie hx hb hr hlocks (by first | (exfalso; omega) | rw [vaR, if_pos (Or.inr (Or.inr c_20)), vaN, if_neg c_26, if_neg c_36]) (by first | (exfalso; omega) | (rw [vaF, if_pos (Or.inr (Or.inr c_20)), vaN, if_neg c_26, if_neg c_36, if_pos c_51]; exact hP)) hS dX11_value_89
          · refine lv_bipush (v := nI 8) hx hb dX11_value_39 (by decide) ?_
            refine lv_goto (tgt := 45) hx hb dX11_value_41 (by decide) ?_
            refine lv_istore (lv' := [(5, .int (nI (8))), (4, .int (nI (last - a))), (0, .ref (o)), (1, .int (nI (k))), (2, .int (nI (a))), (3, .int (nI (last)))]) hx hb dX11_value_45 hl (by decide) rfl (fun ls hl => ?_)
            refine lv_iload hx hb dX11_value_47 (lv_at hl 1 rfl) ?_
            refine lv_iload hx hb dX11_value_49 (lv_at hl 0 rfl) ?_
            refine zi_icmp_ge (tgt := 63) hx hb dX11_value_51 (by decide) (by omega) (by omega) (fun c_51 => ?_) (fun c_51 => ?_)
            · refine lv_iload_n hx hb dX11_value_63 rfl (lv_at hl 3 rfl) ?_
              refine lv_bipush (v := nI 8) hx hb dX11_value_64 (by decide) ?_
              refine zi_icmp_ne (tgt := 85) hx hb dX11_value_66 (by decide) (by omega) (by omega) (fun c_66 => ?_) (fun c_66 => ?_)
              · refine lv_iload_n hx hb dX11_value_85 rfl (lv_at hl 4 rfl) ?_
                refine lv_iload hx hb dX11_value_86 (lv_at hl 0 rfl) ?_
                refine zi_add hx hb dX11_value_88 ?_
                exact zr_ie hx hb hr hlocks (by first | (exfalso; omega) | rw [vaR, if_pos (Or.inr (Or.inr c_20)), vaN, if_neg c_26, if_pos c_36]) (by first | (exfalso; omega) | (rw [vaF, if_pos (Or.inr (Or.inr c_20)), vaN, if_neg c_26, if_pos c_36, if_neg (by omega), if_neg (fun z => c_66 z.1)]; exact hP)) hS dX11_value_89
              · refine lv_aload_n hx hb dX11_value_69 rfl (lv_at hl 2 rfl) ?_
                refine zi_get (C := RX11) (T := TX11) (N := 23) (v := .ref (q 12)) hx hb hz wo_X11 hown hK hO rfl 12 (by decide) (hz _ wf_X11_26) (fun _ h9 => h9) rfl dX11_value_70 ?_
                refine lv_iload_n hx hb dX11_value_73 rfl (lv_at hl 4 rfl) ?_
                refine zi_ald hx hb hK hP.a12 (by omega) (by decide) dX11_value_74 ?_
                refine lv_iconst (v := nI 1) hx hb dX11_value_75 (by decide) ?_
                refine zi_icmp_le (tgt := 85) hx hb dX11_value_76 (by decide) (Nat.lt_trans (h8 _) (by decide)) (by omega) (fun c_76 => ?_) (fun c_76 => ?_)
                · refine lv_iload_n hx hb dX11_value_85 rfl (lv_at hl 4 rfl) ?_
                  refine lv_iload hx hb dX11_value_86 (lv_at hl 0 rfl) ?_
                  refine zi_add hx hb dX11_value_88 ?_
                  exact zr_ie hx hb hr hlocks (by first | (exfalso; omega) | rw [vaR, if_pos (Or.inr (Or.inr c_20)), vaN, if_neg c_26, if_pos c_36]) (by first | (exfalso; omega) | (rw [vaF, if_pos (Or.inr (Or.inr c_20)), vaN, if_neg c_26, if_pos c_36, if_neg (by omega), if_neg (fun z => by omega)]; exact hP)) hS dX11_value_89
                · refine lv_aload_n hx hb dX11_value_79 rfl (lv_at hl 2 rfl) ?_
                  refine lv_iconst (v := nI 5) hx hb dX11_value_80 (by decide) ?_
                  refine lv_iload_n hx hb dX11_value_81 rfl (lv_at hl 4 rfl) ?_
                  refine zc_VE (As := [.int (nI (5)), .int (nI (a))]) (rest := []) ⟨hx, hb, hml, hown, hts⟩ (m_stop l G o w q 0 nd g pa be nm ed bx mn rw 5 (nI (a)) (by decide)) (cwV 2 hts (zgV wm_X11_71 wv_X11_stop) rfl rfl rfl (by decide +kernel) ⟨Nat.le_of_ble_eq_true rfl, Nat.le_of_ble_eq_true rfl⟩) hK hO rfl hP rfl hl.1 rfl (Nat.le_of_ble_eq_true rfl) dX11_value_82 ⟨Nat.zero_le _, Nat.zero_le _⟩ hS (fun _ h9 => h9) (fun H locs hP hz9 hk9 hS => ?_)
                  obtain ⟨hO, -, -, -, h8⟩ := id hP
                  refine W.eq (g2 := F0 m 85 ls ([])) rfl ?_
                  refine lv_iload_n hx hb dX11_value_85 rfl (lv_at hl 4 rfl) ?_
                  refine lv_iload hx hb dX11_value_86 (lv_at hl 0 rfl) ?_
                  refine zi_add hx hb dX11_value_88 ?_
                  exact zr_ie hx hb hr hlocks (by first | (exfalso; omega) | rw [vaR, if_pos (Or.inr (Or.inr c_20)), vaN, if_neg c_26, if_pos c_36]) (by first | (exfalso; omega) | (rw [vaF, if_pos (Or.inr (Or.inr c_20)), vaN, if_neg c_26, if_pos c_36, if_neg (by omega), if_pos ⟨c_66, c_76⟩]; exact hP)) hS dX11_value_89
            · refine lv_aload_n hx hb dX11_value_54 rfl (lv_at hl 2 rfl) ?_
              refine lv_iconst (v := nI 1) hx hb dX11_value_55 (by decide) ?_
              refine lv_iload_n hx hb dX11_value_56 rfl (lv_at hl 4 rfl) ?_
              refine zc_VE (As := [.int (nI (1)), .int (nI (a))]) (rest := []) ⟨hx, hb, hml, hown, hts⟩ (m_stop l G o w q 0 nd g pa be nm ed bx mn rw 1 (nI (a)) (by decide)) (cwV 2 hts (zgV wm_X11_71 wv_X11_stop) rfl rfl rfl (by decide +kernel) ⟨Nat.le_of_ble_eq_true rfl, Nat.le_of_ble_eq_true rfl⟩) hK hO rfl hP rfl hl.1 rfl (Nat.le_of_ble_eq_true rfl) dX11_value_57 ⟨Nat.zero_le _, Nat.zero_le _⟩ hS (fun _ h9 => h9) (fun H locs hP hz9 hk9 hS => ?_)
              obtain ⟨hO, -, -, -, h8⟩ := id hP
              refine W.eq (g2 := F0 m 60 ls ([])) rfl ?_
              refine lv_goto (tgt := 85) hx hb dX11_value_60 (by decide) ?_
              refine lv_iload_n hx hb dX11_value_85 rfl (lv_at hl 4 rfl) ?_
              refine lv_iload hx hb dX11_value_86 (lv_at hl 0 rfl) ?_
              refine zi_add hx hb dX11_value_88 ?_
              exact zr_ie hx hb hr hlocks (by first | (exfalso; omega) | rw [vaR, if_pos (Or.inr (Or.inr c_20)), vaN, if_neg c_26, if_pos c_36]) (by first | (exfalso; omega) | (rw [vaF, if_pos (Or.inr (Or.inr c_20)), vaN, if_neg c_26, if_pos c_36, if_pos c_51]; exact hP)) hS dX11_value_89
        · refine lv_iconst (v := nI 4) hx hb dX11_value_29 (by decide) ?_
          refine lv_goto (tgt := 45) hx hb dX11_value_30 (by decide) ?_
          refine lv_istore (lv' := [(5, .int (nI (4))), (4, .int (nI (last - a))), (0, .ref (o)), (1, .int (nI (k))), (2, .int (nI (a))), (3, .int (nI (last)))]) hx hb dX11_value_45 hl (by decide) rfl (fun ls hl => ?_)
          refine lv_iload hx hb dX11_value_47 (lv_at hl 1 rfl) ?_
          refine lv_iload hx hb dX11_value_49 (lv_at hl 0 rfl) ?_
          refine zi_icmp_ge (tgt := 63) hx hb dX11_value_51 (by decide) (by omega) (by omega) (fun c_51 => ?_) (fun c_51 => ?_)
          · refine lv_iload_n hx hb dX11_value_63 rfl (lv_at hl 3 rfl) ?_
            refine lv_bipush (v := nI 8) hx hb dX11_value_64 (by decide) ?_
            refine zi_icmp_ne (tgt := 85) hx hb dX11_value_66 (by decide) (by omega) (by omega) (fun c_66 => ?_) (fun c_66 => ?_)
            · refine lv_iload_n hx hb dX11_value_85 rfl (lv_at hl 4 rfl) ?_
              refine lv_iload hx hb dX11_value_86 (lv_at hl 0 rfl) ?_
              refine zi_add hx hb dX11_value_88 ?_
              exact zr_ie hx hb hr hlocks (by first | (exfalso; omega) | rw [vaR, if_pos (Or.inr (Or.inr c_20)), vaN, if_pos c_26]) (by first | (exfalso; omega) | (rw [vaF, if_pos (Or.inr (Or.inr c_20)), vaN, if_pos c_26, if_neg (by omega), if_neg (fun z => c_66 z.1)]; exact hP)) hS dX11_value_89
            · refine lv_aload_n hx hb dX11_value_69 rfl (lv_at hl 2 rfl) ?_
              refine zi_get (C := RX11) (T := TX11) (N := 23) (v := .ref (q 12)) hx hb hz wo_X11 hown hK hO rfl 12 (by decide) (hz _ wf_X11_26) (fun _ h9 => h9) rfl dX11_value_70 ?_
              refine lv_iload_n hx hb dX11_value_73 rfl (lv_at hl 4 rfl) ?_
              refine zi_ald hx hb hK hP.a12 (by omega) (by decide) dX11_value_74 ?_
              refine lv_iconst (v := nI 1) hx hb dX11_value_75 (by decide) ?_
              refine zi_icmp_le (tgt := 85) hx hb dX11_value_76 (by decide) (Nat.lt_trans (h8 _) (by decide)) (by omega) (fun c_76 => ?_) (fun c_76 => ?_)
              · refine lv_iload_n hx hb dX11_value_85 rfl (lv_at hl 4 rfl) ?_
                refine lv_iload hx hb dX11_value_86 (lv_at hl 0 rfl) ?_
                refine zi_add hx hb dX11_value_88 ?_
                exact zr_ie hx hb hr hlocks (by first | (exfalso; omega) | rw [vaR, if_pos (Or.inr (Or.inr c_20)), vaN, if_pos c_26]) (by first | (exfalso; omega) | (rw [vaF, if_pos (Or.inr (Or.inr c_20)), vaN, if_pos c_26, if_neg (by omega), if_neg (fun z => by omega)]; exact hP)) hS dX11_value_89
              · refine lv_aload_n hx hb dX11_value_79 rfl (lv_at hl 2 rfl) ?_
                refine lv_iconst (v := nI 5) hx hb dX11_value_80 (by decide) ?_
                refine lv_iload_n hx hb dX11_value_81 rfl (lv_at hl 4 rfl) ?_
                refine zc_VE (As := [.int (nI (5)), .int (nI (a))]) (rest := []) ⟨hx, hb, hml, hown, hts⟩ (m_stop l G o w q 0 nd g pa be nm ed bx mn rw 5 (nI (a)) (by decide)) (cwV 2 hts (zgV wm_X11_71 wv_X11_stop) rfl rfl rfl (by decide +kernel) ⟨Nat.le_of_ble_eq_true rfl, Nat.le_of_ble_eq_true rfl⟩) hK hO rfl hP rfl hl.1 rfl (Nat.le_of_ble_eq_true rfl) dX11_value_82 ⟨Nat.zero_le _, Nat.zero_le _⟩ hS (fun _ h9 => h9) (fun H locs hP hz9 hk9 hS => ?_)
                obtain ⟨hO, -, -, -, h8⟩ := id hP
                refine W.eq (g2 := F0 m 85 ls ([])) rfl ?_
                refine lv_iload_n hx hb dX11_value_85 rfl (lv_at hl 4 rfl) ?_
                refine lv_iload hx hb dX11_value_86 (lv_at hl 0 rfl) ?_
                refine zi_add hx hb dX11_value_88 ?_
                exact zr_ie hx hb hr hlocks (by first | (exfalso; omega) | rw [vaR, if_pos (Or.inr (Or.inr c_20)), vaN, if_pos c_26]) (by first | (exfalso; omega) | (rw [vaF, if_pos (Or.inr (Or.inr c_20)), vaN, if_pos c_26, if_neg (by omega), if_pos ⟨c_66, c_76⟩]; exact hP)) hS dX11_value_89
          · refine lv_aload_n hx hb dX11_value_54 rfl (lv_at hl 2 rfl) ?_
            refine lv_iconst (v := nI 1) hx hb dX11_value_55 (by decide) ?_
            refine lv_iload_n hx hb dX11_value_56 rfl (lv_at hl 4 rfl) ?_
            refine zc_VE (As := [.int (nI (1)), .int (nI (a))]) (rest := []) ⟨hx, hb, hml, hown, hts⟩ (m_stop l G o w q 0 nd g pa be nm ed bx mn rw 1 (nI (a)) (by decide)) (cwV 2 hts (zgV wm_X11_71 wv_X11_stop) rfl rfl rfl (by decide +kernel) ⟨Nat.le_of_ble_eq_true rfl, Nat.le_of_ble_eq_true rfl⟩) hK hO rfl hP rfl hl.1 rfl (Nat.le_of_ble_eq_true rfl) dX11_value_57 ⟨Nat.zero_le _, Nat.zero_le _⟩ hS (fun _ h9 => h9) (fun H locs hP hz9 hk9 hS => ?_)
            obtain ⟨hO, -, -, -, h8⟩ := id hP
            refine W.eq (g2 := F0 m 60 ls ([])) rfl ?_
            refine lv_goto (tgt := 85) hx hb dX11_value_60 (by decide) ?_
            refine lv_iload_n hx hb dX11_value_85 rfl (lv_at hl 4 rfl) ?_
            refine lv_iload hx hb dX11_value_86 (lv_at hl 0 rfl) ?_
            refine zi_add hx hb dX11_value_88 ?_
            exact zr_ie hx hb hr hlocks (by first | (exfalso; omega) | rw [vaR, if_pos (Or.inr (Or.inr c_20)), vaN, if_pos c_26]) (by first | (exfalso; omega) | (rw [vaF, if_pos (Or.inr (Or.inr c_20)), vaN, if_pos c_26, if_pos c_51]; exact hP)) hS dX11_value_89
