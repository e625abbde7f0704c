set_option maxHeartbeats 4000000 in
set_option maxRecDepth 100000 in
theorem m_stop (l : Launch) (G : zG) (o : Nat) (w : Nat → Value) (q : Nat → Nat) (fa nd : Nat) (g pa be nm ed bx mn rw : Nat → Nat) (y : Nat) (z : Int32) (hfa : fa < 100) : Met l yX11_stop wsX11_stop ({ frames := 0, cells := 0, slots := 0, locals := 0 }) (zP G [.ref (o), .int (nI (y)), .int (z)] (fun H => MD G o w q fa nd g pa be nm ed bx mn rw H)) (zQ (dAx o q) none (fun H => MD G o w q (dSt fa y) nd g pa be nm ed bx mn rw H)) 0 0 (dAx o q) := by
  refine Met.ofW (cc := cX11_stop) (maxL := 3) (ret := none) (by decide) rfl ?_
  intro p en s m args below meth c s₁ B hml hv
  obtain ⟨rfl, hP, hK⟩ := hv
  have hx := B.exec
  have hb := B.bytes
  have hr := B.returns
  have hts := atoms_spec (ws := wsX11_stop) B.pre
  have hz : ∀ w ∈ zW, w.before _ s = true := fun w h => hts w (List.mem_cons_of_mem _ h)
  have hown : s.vm.findClass RX11 = some m.cls := findClass_of_methodNamed B.named
  have hlocks := B.notSynchronized
  obtain ⟨hO, -, -, -, h8⟩ := id hP
  have hS : va_S (dAx o q) s.heap s.heap [] := va_S.rf
  have hl := lv_entry ([.ref (o), .int (nI (y)), .int (z)]) (n := 3) (Nat.le_of_ble_eq_true rfl)
  rw [lg_entry_eq]
  generalize (lg_sl ([.ref (o), .int (nI (y)), .int (z)]) ++ List.replicate (3 - (lg_sl ([.ref (o), .int (nI (y)), .int (z)])).length) Slot.unset).toArray = ls at hl ⊢
  have hl : lv_has ls 3 [(0, .ref (o)), (1, .int (nI (y))), (2, .int (z))] := hl
  refine lv_aload_n hx hb dX11_stop_0 rfl (lv_at hl 0 rfl) ?_
  refine lv_aload_n hx hb dX11_stop_1 rfl (lv_at hl 0 rfl) ?_
  refine zi_get (C := RX11) (T := TX11) (N := 23) (v := .int (nI (fa))) hx hb hz wo_X11 hown hK hO rfl 13 (by decide) (hz _ wf_X11_68) (fun _ h9 => h9) rfl dX11_stop_2 ?_
  refine zi_if_ne (tgt := 12) hx hb dX11_stop_5 (by decide) (by omega) (fun c_5 => ?_) (fun c_5 => ?_)
  · refine lv_aload_n hx hb dX11_stop_12 rfl (lv_at hl 0 rfl) ?_
    refine zi_get (C := RX11) (T := TX11) (N := 23) (v := .int (nI (fa))) hx hb hz wo_X11 hown hK hO rfl 13 (by decide) (hz _ wf_X11_68) (fun _ h9 => h9) rfl dX11_stop_13 ?_
    refine zi_put (C := RX11) (T := TX11) (N := 23) (ty := .int) (v := .int (nI (fa))) hx hb hz wo_X11 tyX11 tyX11_ok nmX11 hown hK hO rfl 13 (by decide) (hz _ wf_X11_68) (fun _ h9 => h9) rfl (by decide +kernel) rfl rfl (by show 13 < 23; decide) (A := (dAx o q)) (Or.inl rfl) hS dX11_stop_16 (fun H locs _ hk9 hO9 hS => ?_)
    have hP : MD G o w q fa nd g pa be nm ed bx mn rw H := hP.put hk9 hO9
    have hO := hP.1
    have h8 := hP.2.2.2.2
    exact zr_v hx hb hr hlocks (by rw [dSt, if_neg c_5]; exact hP) hS dX11_stop_19
  · refine lv_iload_n hx hb dX11_stop_8 rfl (lv_at hl 1 rfl) ?_
    refine lv_goto (tgt := 16) hx hb dX11_stop_9 (by decide) ?_
    refine zi_put (C := RX11) (T := TX11) (N := 23) (ty := .int) (v := .int (nI (y))) hx hb hz wo_X11 tyX11 tyX11_ok nmX11 hown hK hO rfl 13 (by decide) (hz _ wf_X11_68) (fun _ h9 => h9) rfl (by decide +kernel) rfl rfl (by show 13 < 23; decide) (A := (dAx o q)) (Or.inl rfl) hS dX11_stop_16 (fun H locs _ hk9 hO9 hS => ?_)
    have hP : MD G o w q y nd g pa be nm ed bx mn rw H := hP.put hk9 hO9
    have hO := hP.1
    have h8 := hP.2.2.2.2
    exact zr_v hx hb hr hlocks (by rw [dSt, if_pos c_5]; exact hP) hS dX11_stop_19

set_option maxHeartbeats 4000000 in
set_option maxRecDepth 100000 in
theorem m_text (l : Launch) (G : zG) (o : Nat) (w : Nat → Value) (q : Nat → Nat) (fa nd : Nat) (g pa be nm ed bx mn rw : Nat → Nat) (a last : Nat) (hal : a ≤ last) (hlast : last ≤ 2000) : Met l yX11_text wsX11_text ({ frames := 2, cells := 0, slots := 0, locals := 50 }) (zP G [.ref (o), .int (nI (a)), .int (nI (last))] (fun H => MD G o w q 0 nd g pa be nm ed bx mn rw H)) (zQ (dAx o q) (some (.int (nI (txR g a last)))) (fun H => MD G o w q (txF g a last) nd g pa be nm ed bx mn rw H)) 0 0 (dAx o q) := by
  refine Met.ofW (cc := cX11_text) (maxL := 8) (ret := (some .int)) (by decide) rfl ?_
  intro p en s m args below meth c s₁ B hml hv
  obtain ⟨rfl, hP, hK⟩ := hv
  have hx := B.exec
  have hb := B.bytes
  have hr := B.returns
  have hts := atoms_spec (ws := wsX11_text) B.pre
  have hz : ∀ w ∈ zW, w.before _ s = true := fun w h => hts w (List.mem_cons_of_mem _ h)
  have hown : s.vm.findClass RX11 = some m.cls := findClass_of_methodNamed B.named
  have hlocks := B.notSynchronized
  obtain ⟨hO, -, -, -, h8⟩ := id hP
  have hS : va_S (dAx o q) s.heap s.heap [] := va_S.rf
  have hl := lv_entry ([.ref (o), .int (nI (a)), .int (nI (last))]) (n := 8) (Nat.le_of_ble_eq_true rfl)
  rw [lg_entry_eq]
  generalize (lg_sl ([.ref (o), .int (nI (a)), .int (nI (last))]) ++ List.replicate (8 - (lg_sl ([.ref (o), .int (nI (a)), .int (nI (last))])).length) Slot.unset).toArray = ls at hl ⊢
  have hl : lv_has ls 8 [(0, .ref (o)), (1, .int (nI (a))), (2, .int (nI (last)))] := hl
  refine lv_iload_n hx hb dX11_text_0 rfl (lv_at hl 2 rfl) ?_
  refine lv_iload_n hx hb dX11_text_1 rfl (lv_at hl 1 rfl) ?_
  refine zi_sub hx hb (by omega) dX11_text_2 ?_
  refine lv_istore_n (lv' := [(3, .int (nI (last - a))), (0, .ref (o)), (1, .int (nI (a))), (2, .int (nI (last)))]) hx hb dX11_text_3 rfl hl (by decide) rfl (fun ls hl => ?_)
  refine lv_iload_n hx hb dX11_text_4 rfl (lv_at hl 0 rfl) ?_
  refine lv_iconst (v := nI 4) hx hb dX11_text_5 (by decide) ?_
  refine zi_icmp_ge (tgt := 17) hx hb dX11_text_6 (by decide) (by omega) (by omega) (fun c_6 => ?_) (fun c_6 => ?_)
  · refine lv_aload_n hx hb dX11_text_17 rfl (lv_at hl 1 rfl) ?_
    refine lv_iload_n hx hb dX11_text_18 rfl (lv_at hl 2 rfl) ?_
    refine lv_iconst (v := nI 4) hx hb dX11_text_19 (by decide) ?_
    refine zc_V (As := [.int (nI (a)), .int (nI (4))]) (rest := []) ⟨hx, hb, hml, hown, hts⟩ (m_low l G o (q 12) (dF w q 0 nd) g a 4 (by decide) (by omega)) (cwV 2 hts (zgV wm_X11_75 wv_X11_low) rfl rfl rfl (by decide +kernel) ⟨Nat.le_of_ble_eq_true rfl, Nat.le_of_ble_eq_true rfl⟩) hK hO rfl ⟨hP.1, hP.a12, rfl, h8⟩ rfl hl.1 rfl (Nat.le_of_ble_eq_true rfl) dX11_text_20 ⟨Nat.zero_le _, Nat.zero_le _⟩ ?_
    rw [lN_wh g a]
    refine lv_lstore (lv' := [(4, .long (lN (wh g a))), (3, .int (nI (last - a))), (0, .ref (o)), (1, .int (nI (a))), (2, .int (nI (last)))]) hx hb dX11_text_23 hl (by decide) rfl (fun ls hl => ?_)
    refine lv_lload hx hb dX11_text_25 (lv_at hl 0 rfl) ?_
    refine lv_lconst (v := 1) hx hb dX11_text_27 (by decide) ?_
    refine W.lcmp hx hb dX11_text_28 ?_
    refine lv_if_ge (tgt := 42) hx hb dX11_text_29 (by decide) (fun c_29 => ?_) (fun c_29 => ?_)
    · have hn1 : ¬ wh g a < 1 := by have h7 := (lg_cmp_ge _ _).mp c_29; have h6 := pk_lLE (a := 1) (b := wh g a) (by decide) (Nat.lt_trans (wh_lt h8 a) (by decide)); rw [show lN 1 = (1 : Int64) by decide] at h6; rw [h6] at h7; omega
      refine lv_lload hx hb dX11_text_42 (lv_at hl 0 rfl) ?_
      refine lv_iload_n hx hb dX11_text_44 rfl (lv_at hl 1 rfl) ?_
      refine lv_iconst (v := nI 4) hx hb dX11_text_45 (by decide) ?_
      refine zi_sub hx hb (by omega) dX11_text_46 ?_
      refine lv_i2l (v := lN (last - a - 4)) hx hb dX11_text_47 (nI_l (by omega)) ?_
      refine W.lcmp hx hb dX11_text_48 ?_
      refine lv_if_le (tgt := 58) hx hb dX11_text_49 (by decide) (fun c_49 => ?_) (fun c_49 => ?_)
      · have hn2 : ¬ last - a - 4 < wh g a := by have h7 := (lg_cmp_le _ _).mp c_49; rw [pk_lLE (a := wh g a) (b := last - a - 4) (Nat.lt_trans (wh_lt h8 a) (by decide)) (by omega)] at h7; omega
        refine lv_aload_n hx hb dX11_text_58 rfl (lv_at hl 2 rfl) ?_
        refine zi_get (C := RX11) (T := TX11) (N := 23) (v := .int (nI (0))) hx hb hz wo_X11 hown hK hO rfl 13 (by decide) (hz _ wf_X11_68) (fun _ h9 => h9) rfl dX11_text_59 ?_
        refine zi_if_eq (tgt := 67) hx hb dX11_text_62 (by decide) (by decide) (fun c_62 => ?_) (fun c_62 => absurd c_62 (by decide))
        refine lv_iload_n hx hb dX11_text_67 rfl (lv_at hl 3 rfl) ?_
        refine lv_iconst (v := nI 4) hx hb dX11_text_68 (by decide) ?_
        refine zi_add hx hb dX11_text_69 ?_
        refine lv_lload hx hb dX11_text_70 (lv_at hl 0 rfl) ?_
        refine lv_l2i (v := nI (wh g a)) hx hb dX11_text_72 (lN_i _) ?_
        refine zi_add hx hb dX11_text_73 ?_
        refine lv_istore (lv' := [(6, .int (nI (a + 4 + (wh g a)))), (4, .long (lN (wh g a))), (3, .int (nI (last - a))), (0, .ref (o)), (1, .int (nI (a))), (2, .int (nI (last)))]) hx hb dX11_text_74 hl (by decide) rfl (fun ls hl => ?_)
        refine lv_aload_n hx hb dX11_text_76 rfl (lv_at hl 3 rfl) ?_
        refine zi_get (C := RX11) (T := TX11) (N := 23) (v := .ref (q 12)) hx hb hz wo_X11 hown hK hO rfl 12 (by decide) (hz _ wf_X11_26) (fun _ h9 => h9) rfl dX11_text_77 ?_
        refine lv_iload hx hb dX11_text_80 (lv_at hl 0 rfl) ?_
        refine lv_iconst (v := nI 1) hx hb dX11_text_82 (by decide) ?_
        refine zi_sub hx hb (by omega) dX11_text_83 ?_
        refine zi_ald hx hb hK hP.a12 (by omega) (by decide) dX11_text_84 ?_
        refine zi_if_eq (tgt := 98) hx hb dX11_text_85 (by decide) (Nat.lt_trans (h8 _) (by decide)) (fun c_85 => ?_) (fun c_85 => ?_)
        · refine lv_aload_n hx hb dX11_text_98 rfl (lv_at hl 3 rfl) ?_
          refine zi_get (C := RX11) (T := TX11) (N := 23) (v := .ref (q 12)) hx hb hz wo_X11 hown hK hO rfl 12 (by decide) (hz _ wf_X11_26) (fun _ h9 => h9) rfl dX11_text_99 ?_
          refine lv_iload_n hx hb dX11_text_102 rfl (lv_at hl 4 rfl) ?_
          refine lv_iconst (v := nI 4) hx hb dX11_text_103 (by decide) ?_
          refine zi_add hx hb dX11_text_104 ?_
          refine lv_iload hx hb dX11_text_105 (lv_at hl 0 rfl) ?_
          refine lv_iconst (v := nI 1) hx hb dX11_text_107 (by decide) ?_
          refine zi_sub hx hb (by omega) dX11_text_108 ?_
          refine zc_S (As := [.ref (q 12), .int (nI (a + 4)), .int (nI (a + 4 + (wh g a) - 1))]) (rest := []) ⟨hx, hb, hml, hown, hts⟩ (m_badText l G (q 12) 2000 g (by decide) h8 (a + 4) (a + 4 + wh g a - 1) (by omega) (by omega)) (cwS 3 hts (zgS wm_X11_96 wu_X11_badText) rfl rfl rfl (by decide +kernel) ⟨Nat.le_of_ble_eq_true rfl, Nat.le_of_ble_eq_true rfl⟩) hK hP.a12 rfl hl.1 rfl (Nat.le_of_ble_eq_true rfl) dX11_text_109 ⟨Nat.zero_le _, Nat.zero_le _⟩ ?_
          refine lv_istore (lv' := [(7, .int (bd g (a + 4) (a + 4 + wh g a - 1))), (6, .int (nI (a + 4 + (wh g a)))), (4, .long (lN (wh g a))), (3, .int (nI (last - a))), (0, .ref (o)), (1, .int (nI (a))), (2, .int (nI (last)))]) hx hb dX11_text_112 hl (by decide) rfl (fun ls hl => ?_)
          refine lv_iload hx hb dX11_text_114 (lv_at hl 0 rfl) ?_
          refine lv_if_lt (tgt := 126) hx hb dX11_text_116 (by decide) (fun c_116 => ?_) (fun c_116 => ?_)
          · refine lv_iload hx hb dX11_text_126 (lv_at hl 1 rfl) ?_
            exact zr_ie hx hb hr hlocks (by rw [txR, if_neg (by omega), if_neg hn1, if_neg hn2]) (by rw [txF, if_neg (by omega), if_neg hn1, if_neg hn2, if_pos c_116, if_pos c_85]; exact hP) hS dX11_text_128
          · refine lv_aload_n hx hb dX11_text_119 rfl (lv_at hl 4 rfl) ?_
            refine lv_iconst (v := nI 4) hx hb dX11_text_120 (by decide) ?_
            refine lv_iload hx hb dX11_text_121 (lv_at hl 0 rfl) ?_
            refine zc_VE (As := [.int (nI (4)), .int (bd g (a + 4) (a + 4 + wh g a - 1))]) (rest := []) ⟨hx, hb, hml, hown, hts⟩ (m_stop l G o w q 0 nd g pa be nm ed bx mn rw 4 (bd g (a + 4) (a + 4 + wh g a - 1)) (by decide)) (cwV 2 hts (zgV wm_X11_71 wv_X11_stop) rfl rfl rfl (by decide +kernel) ⟨Nat.le_of_ble_eq_true rfl, Nat.le_of_ble_eq_true rfl⟩) hK hO rfl hP rfl hl.1 rfl (Nat.le_of_ble_eq_true rfl) dX11_text_123 ⟨Nat.zero_le _, Nat.zero_le _⟩ hS (fun _ h9 => h9) (fun H locs hP hz9 hk9 hS => ?_)
            obtain ⟨hO, -, -, -, h8⟩ := id hP
            refine W.eq (g2 := F0 m 126 ls ([])) rfl ?_
            refine lv_iload hx hb dX11_text_126 (lv_at hl 1 rfl) ?_
            exact zr_ie hx hb hr hlocks (by rw [txR, if_neg (by omega), if_neg hn1, if_neg hn2]) (by rw [txF, if_neg (by omega), if_neg hn1, if_neg hn2, if_neg c_116, if_pos c_85]; exact hP) hS dX11_text_128
        · refine lv_aload_n hx hb dX11_text_88 rfl (lv_at hl 3 rfl) ?_
          refine lv_bipush (v := nI 6) hx hb dX11_text_89 (by decide) ?_
          refine lv_iload hx hb dX11_text_91 (lv_at hl 0 rfl) ?_
          refine lv_iconst (v := nI 1) hx hb dX11_text_93 (by decide) ?_
          refine zi_sub hx hb (by omega) dX11_text_94 ?_
          refine zc_VE (As := [.int (nI (6)), .int (nI (a + 4 + (wh g a) - 1))]) (rest := []) ⟨hx, hb, hml, hown, hts⟩ (m_stop l G o w q 0 nd g pa be nm ed bx mn rw 6 (nI (a + 4 + (wh g a) - 1)) (by decide)) (cwV 2 hts (zgV wm_X11_71 wv_X11_stop) rfl rfl rfl (by decide +kernel) ⟨Nat.le_of_ble_eq_true rfl, Nat.le_of_ble_eq_true rfl⟩) hK hO rfl hP rfl hl.1 rfl (Nat.le_of_ble_eq_true rfl) dX11_text_95 ⟨Nat.zero_le _, Nat.zero_le _⟩ hS (fun _ h9 => h9) (fun H locs hP hz9 hk9 hS => ?_)
          obtain ⟨hO, -, -, -, h8⟩ := id hP
          refine W.eq (g2 := F0 m 98 ls ([])) rfl ?_
          refine lv_aload_n hx hb dX11_text_98 rfl (lv_at hl 3 rfl) ?_
          refine zi_get (C := RX11) (T := TX11) (N := 23) (v := .ref (q 12)) hx hb hz wo_X11 hown hK hO rfl 12 (by decide) (hz _ wf_X11_26) (fun _ h9 => h9) rfl dX11_text_99 ?_
          refine lv_iload_n hx hb dX11_text_102 rfl (lv_at hl 4 rfl) ?_
          refine lv_iconst (v := nI 4) hx hb dX11_text_103 (by decide) ?_
          refine zi_add hx hb dX11_text_104 ?_
          refine lv_iload hx hb dX11_text_105 (lv_at hl 0 rfl) ?_
          refine lv_iconst (v := nI 1) hx hb dX11_text_107 (by decide) ?_
          refine zi_sub hx hb (by omega) dX11_text_108 ?_
          refine zc_S (As := [.ref (q 12), .int (nI (a + 4)), .int (nI (a + 4 + (wh g a) - 1))]) (rest := []) ⟨hx, hb, hml, hown, hts⟩ (m_badText l G (q 12) 2000 g (by decide) h8 (a + 4) (a + 4 + wh g a - 1) (by omega) (by omega)) (cwS 3 hts (zgS wm_X11_96 wu_X11_badText) rfl rfl rfl (by decide +kernel) ⟨Nat.le_of_ble_eq_true rfl, Nat.le_of_ble_eq_true rfl⟩) hK hP.a12 rfl hl.1 rfl (Nat.le_of_ble_eq_true rfl) dX11_text_109 ⟨Nat.zero_le _, Nat.zero_le _⟩ ?_
          refine lv_istore (lv' := [(7, .int (bd g (a + 4) (a + 4 + wh g a - 1))), (6, .int (nI (a + 4 + (wh g a)))), (4, .long (lN (wh g a))), (3, .int (nI (last - a))), (0, .ref (o)), (1, .int (nI (a))), (2, .int (nI (last)))]) hx hb dX11_text_112 hl (by decide) rfl (fun ls hl => ?_)
          refine lv_iload hx hb dX11_text_114 (lv_at hl 0 rfl) ?_
          refine lv_if_lt (tgt := 126) hx hb dX11_text_116 (by decide) (fun c_116 => ?_) (fun c_116 => ?_)
          · refine lv_iload hx hb dX11_text_126 (lv_at hl 1 rfl) ?_
            exact zr_ie hx hb hr hlocks (by rw [txR, if_neg (by omega), if_neg hn1, if_neg hn2]) (by rw [txF, if_neg (by omega), if_neg hn1, if_neg hn2, if_pos c_116, if_neg c_85]; exact hP) hS dX11_text_128
          · refine lv_aload_n hx hb dX11_text_119 rfl (lv_at hl 4 rfl) ?_
            refine lv_iconst (v := nI 4) hx hb dX11_text_120 (by decide) ?_
            refine lv_iload hx hb dX11_text_121 (lv_at hl 0 rfl) ?_
            refine zc_VE (As := [.int (nI (4)), .int (bd g (a + 4) (a + 4 + wh g a - 1))]) (rest := []) ⟨hx, hb, hml, hown, hts⟩ (m_stop l G o w q (dSt 0 6) nd g pa be nm ed bx mn rw 4 (bd g (a + 4) (a + 4 + wh g a - 1)) (by decide)) (cwV 2 hts (zgV wm_X11_71 wv_X11_stop) rfl rfl rfl (by decide +kernel) ⟨Nat.le_of_ble_eq_true rfl, Nat.le_of_ble_eq_true rfl⟩) hK hO rfl hP rfl hl.1 rfl (Nat.le_of_ble_eq_true rfl) dX11_text_123 ⟨Nat.zero_le _, Nat.zero_le _⟩ hS (fun _ h9 => h9) (fun H locs hP hz9 hk9 hS => ?_)
            obtain ⟨hO, -, -, -, h8⟩ := id hP
            refine W.eq (g2 := F0 m 126 ls ([])) rfl ?_
            refine lv_iload hx hb dX11_text_126 (lv_at hl 1 rfl) ?_
            exact zr_ie hx hb hr hlocks (by rw [txR, if_neg (by omega), if_neg hn1, if_neg hn2]) (by rw [txF, if_neg (by omega), if_neg hn1, if_neg hn2, if_neg c_116, if_neg c_85]; exact hP) hS dX11_text_128
      · have hn2 : last - a - 4 < wh g a := by have h7 : ¬ lN (wh g a) ≤ lN (last - a - 4) := fun z => c_49 ((lg_cmp_le _ _).mpr z); rw [pk_lLE (a := wh g a) (b := last - a - 4) (Nat.lt_trans (wh_lt h8 a) (by decide)) (by omega)] at h7; omega
        refine lv_aload_n hx hb dX11_text_52 rfl (lv_at hl 2 rfl) ?_
        refine lv_iconst (v := nI 1) hx hb dX11_text_53 (by decide) ?_
        refine lv_iload_n hx hb dX11_text_54 rfl (lv_at hl 3 rfl) ?_
        refine zc_VE (As := [.int (nI (1)), .int (nI (a))]) (rest := []) ⟨hx, hb, hml, hown, hts⟩ (m_stop l G o w q 0 nd g pa be nm ed bx mn rw 1 (nI (a)) (by decide)) (cwV 2 hts (zgV wm_X11_71 wv_X11_stop) rfl rfl rfl (by decide +kernel) ⟨Nat.le_of_ble_eq_true rfl, Nat.le_of_ble_eq_true rfl⟩) hK hO rfl hP rfl hl.1 rfl (Nat.le_of_ble_eq_true rfl) dX11_text_55 ⟨Nat.zero_le _, Nat.zero_le _⟩ hS (fun _ h9 => h9) (fun H locs hP hz9 hk9 hS => ?_)
        obtain ⟨hO, -, -, -, h8⟩ := id hP
        refine W.eq (g2 := F0 m 58 ls ([])) rfl ?_
        refine lv_aload_n hx hb dX11_text_58 rfl (lv_at hl 2 rfl) ?_
        refine zi_get (C := RX11) (T := TX11) (N := 23) (v := .int (nI (dSt 0 1))) hx hb hz wo_X11 hown hK hO rfl 13 (by decide) (hz _ wf_X11_68) (fun _ h9 => h9) rfl dX11_text_59 ?_
        refine zi_if_eq (tgt := 67) hx hb dX11_text_62 (by decide) (by decide) (fun c_62 => ?_) (fun c_62 => ?_)
        · exact absurd c_62 (by decide)
        · refine lv_iload_n hx hb dX11_text_65 rfl (lv_at hl 3 rfl) ?_
          exact zr_ie hx hb hr hlocks (by rw [txR, if_neg (by omega), if_neg hn1, if_pos hn2]) (by rw [txF, if_neg (by omega), if_neg hn1, if_pos hn2]; exact hP) hS dX11_text_66
    · have hn1 : wh g a < 1 := by have h7 : ¬ (1 : Int64) ≤ lN (wh g a) := fun z => c_29 ((lg_cmp_ge _ _).mpr z); have h6 := pk_lLE (a := 1) (b := wh g a) (by decide) (Nat.lt_trans (wh_lt h8 a) (by decide)); rw [show lN 1 = (1 : Int64) by decide] at h6; rw [h6] at h7; omega
      refine lv_aload_n hx hb dX11_text_32 rfl (lv_at hl 2 rfl) ?_
      refine lv_bipush (v := nI 6) hx hb dX11_text_33 (by decide) ?_
      refine lv_iload_n hx hb dX11_text_35 rfl (lv_at hl 3 rfl) ?_
      refine zc_VE (As := [.int (nI (6)), .int (nI (a))]) (rest := []) ⟨hx, hb, hml, hown, hts⟩ (m_stop l G o w q 0 nd g pa be nm ed bx mn rw 6 (nI (a)) (by decide)) (cwV 2 hts (zgV wm_X11_71 wv_X11_stop) rfl rfl rfl (by decide +kernel) ⟨Nat.le_of_ble_eq_true rfl, Nat.le_of_ble_eq_true rfl⟩) hK hO rfl hP rfl hl.1 rfl (Nat.le_of_ble_eq_true rfl) dX11_text_36 ⟨Nat.zero_le _, Nat.zero_le _⟩ hS (fun _ h9 => h9) (fun H locs hP hz9 hk9 hS => ?_)
      obtain ⟨hO, -, -, -, h8⟩ := id hP
      refine W.eq (g2 := F0 m 39 ls ([])) rfl ?_
      refine lv_goto (tgt := 58) hx hb dX11_text_39 (by decide) ?_
      refine lv_aload_n hx hb dX11_text_58 rfl (lv_at hl 2 rfl) ?_
      refine zi_get (C := RX11) (T := TX11) (N := 23) (v := .int (nI (dSt 0 6))) hx hb hz wo_X11 hown hK hO rfl 13 (by decide) (hz _ wf_X11_68) (fun _ h9 => h9) rfl dX11_text_59 ?_
      refine zi_if_eq (tgt := 67) hx hb dX11_text_62 (by decide) (by decide) (fun c_62 => ?_) (fun c_62 => ?_)
      · exact absurd c_62 (by decide)
      · refine lv_iload_n hx hb dX11_text_65 rfl (lv_at hl 3 rfl) ?_
        exact zr_ie hx hb hr hlocks (by rw [txR, if_neg (by omega), if_pos hn1]) (by rw [txF, if_neg (by omega), if_pos hn1]; exact hP) hS dX11_text_66
  · refine lv_aload_n hx hb dX11_text_9 rfl (lv_at hl 1 rfl) ?_
    refine lv_iconst (v := nI 1) hx hb dX11_text_10 (by decide) ?_
    refine lv_iload_n hx hb dX11_text_11 rfl (lv_at hl 2 rfl) ?_
    refine zc_VE (As := [.int (nI (1)), .int (nI (a))]) (rest := []) ⟨hx, hb, hml, hown, hts⟩ (m_stop l G o w q 0 nd g pa be nm ed bx mn rw 1 (nI (a)) (by decide)) (cwV 2 hts (zgV wm_X11_71 wv_X11_stop) rfl rfl rfl (by decide +kernel) ⟨Nat.le_of_ble_eq_true rfl, Nat.le_of_ble_eq_true rfl⟩) hK hO rfl hP rfl hl.1 rfl (Nat.le_of_ble_eq_true rfl) dX11_text_12 ⟨Nat.zero_le _, Nat.zero_le _⟩ hS (fun _ h9 => h9) (fun H locs hP hz9 hk9 hS => ?_)
    obtain ⟨hO, -, -, -, h8⟩ := id hP
    refine W.eq (g2 := F0 m 15 ls ([])) rfl ?_
    refine lv_iload_n hx hb dX11_text_15 rfl (lv_at hl 2 rfl) ?_
    exact zr_ie hx hb hr hlocks (by rw [txR, if_pos c_6]) (by rw [txF, if_pos c_6]; exact hP) hS dX11_text_16

set_option maxHeartbeats 4000000 in
set_option maxRecDepth 100000 in
theorem m_value (l : Launch) (G : zG) (o : Nat) (w : Nat → Value) (q : Nat → Nat) (fa nd : Nat) (g pa be nm ed bx mn rw : Nat → Nat) (k a last : Nat) (hk : k < 256) (hal : a ≤ last) (hlast : last < 2000) : Met l yX11_value wsX11_value ({ frames := 3, cells := 0, slots := 0, locals := 77 }) (zP G [.ref (o), .int (nI (k)), .int (nI (a)), .int (nI (last))] (fun H => MD G o w q 0 nd g pa be nm ed bx mn rw H)) (zQ (dAx o q) (some (.int (nI (vaR g k a last)))) (fun H => MD G o w q (vaF g k a last) nd g pa be nm ed bx mn rw H)) 0 0 (dAx o q) := by
  refine Met.ofW (cc := cX11_value) (maxL := 6) (ret := (some .int)) (by decide) rfl ?_
  intro p en s m args below meth c s₁ B hml hv
  obtain ⟨rfl, hP, hK⟩ := hv
  have hx := B.exec
  have hb := B.bytes
  have hr := B.returns
  have hts := atoms_spec (ws := wsX11_value) B.pre
  have hz : ∀ w ∈ zW, w.before _ s = true := fun w h => hts w (List.mem_cons_of_mem _ h)
  have hown : s.vm.findClass RX11 = some m.cls := findClass_of_methodNamed B.named
  have hlocks := B.notSynchronized
  obtain ⟨hO, -, -, -, h8⟩ := id hP
  have hS : va_S (dAx o q) s.heap s.heap [] := va_S.rf
  have hl := lv_entry ([.ref (o), .int (nI (k)), .int (nI (a)), .int (nI (last))]) (n := 6) (Nat.le_of_ble_eq_true rfl)
  rw [lg_entry_eq]
  generalize (lg_sl ([.ref (o), .int (nI (k)), .int (nI (a)), .int (nI (last))]) ++ List.replicate (6 - (lg_sl ([.ref (o), .int (nI (k)), .int (nI (a)), .int (nI (last))])).length) Slot.unset).toArray = ls at hl ⊢
  have hl : lv_has ls 6 [(0, .ref (o)), (1, .int (nI (k))), (2, .int (nI (a))), (3, .int (nI (last)))] := hl
  refine lv_iload_n hx hb dX11_value_0 rfl (lv_at hl 3 rfl) ?_
  refine lv_iload_n hx hb dX11_value_1 rfl (lv_at hl 2 rfl) ?_
  refine zi_sub hx hb (by omega) dX11_value_2 ?_
  refine lv_istore (lv' := [(4, .int (nI (last - a))), (0, .ref (o)), (1, .int (nI (k))), (2, .int (nI (a))), (3, .int (nI (last)))]) hx hb dX11_value_3 hl (by decide) rfl (fun ls hl => ?_)
  refine lv_iload_n hx hb dX11_value_5 rfl (lv_at hl 2 rfl) ?_
  refine lv_bipush (v := nI 16) hx hb dX11_value_6 (by decide) ?_
  refine zi_icmp_eq (tgt := 23) hx hb dX11_value_8 (by decide) (by omega) (by omega) (fun c_8 => ?_) (fun c_8 => ?_)
  · refine lv_iload_n hx hb dX11_value_23 rfl (lv_at hl 2 rfl) ?_
    refine lv_bipush (v := nI 16) hx hb dX11_value_24 (by decide) ?_
    refine zi_icmp_ne (tgt := 33) hx hb dX11_value_26 (by decide) (by omega) (by omega) (fun c_26 => ?_) (fun c_26 => ?_)
    · refine lv_iload_n hx hb dX11_value_33 rfl (lv_at hl 2 rfl) ?_
      refine lv_bipush (v := nI 18) hx hb dX11_value_34 (by decide) ?_
      refine zi_icmp_ne (tgt := 44) hx hb dX11_value_36 (by decide) (by omega) (by omega) (fun c_36 => ?_) (fun c_36 => ?_)
      · refine lv_iconst (v := nI 1) hx hb dX11_value_44 (by decide) ?_
        refine lv_istore (lv' := [(5, .int (nI (1))), (4, .int (nI (last - a))), (0, .ref (o)), (1, .int (nI (k))), (2, .int (nI (a))), (3, .int (nI (last)))]) hx hb dX11_value_45 hl (by decide) rfl (fun ls hl => ?_)
        refine lv_iload hx hb dX11_value_47 (lv_at hl 1 rfl) ?_
        refine lv_iload hx hb dX11_value_49 (lv_at hl 0 rfl) ?_
        refine zi_icmp_ge (tgt := 63) hx hb dX11_value_51 (by decide) (by omega) (by omega) (fun c_51 => ?_) (fun c_51 => ?_)
        · refine lv_iload_n hx hb dX11_value_63 rfl (lv_at hl 3 rfl) ?_
          refine lv_bipush (v := nI 8) hx hb dX11_value_64 (by decide) ?_
          refine zi_icmp_ne (tgt := 85) hx hb dX11_value_66 (by decide) (by omega) (by omega) (fun c_66 => ?_) (fun c_66 => ?_)
          · refine lv_iload_n hx hb dX11_value_85 rfl (lv_at hl 4 rfl) ?_
            refine lv_iload hx hb dX11_value_86 (lv_at hl 0 rfl) ?_
            refine zi_add hx hb dX11_value_88 ?_
            exact zr_ie hx hb hr hlocks (by first | (exfalso; omega) | rw [vaR, if_pos (Or.inl c_8), vaN, if_neg c_26, if_neg c_36]) (by first | (exfalso; omega) | (rw [vaF, if_pos (Or.inl c_8), vaN, if_neg c_26, if_neg c_36, if_neg (by omega), if_neg (fun z => c_66 z.1)]; exact hP)) hS dX11_value_89
          · refine lv_aload_n hx hb dX11_value_69 rfl (lv_at hl 2 rfl) ?_
            refine zi_get (C := RX11) (T := TX11) (N := 23) (v := .ref (q 12)) hx hb hz wo_X11 hown hK hO rfl 12 (by decide) (hz _ wf_X11_26) (fun _ h9 => h9) rfl dX11_value_70 ?_
            refine lv_iload_n hx hb dX11_value_73 rfl (lv_at hl 4 rfl) ?_
            refine zi_ald hx hb hK hP.a12 (by omega) (by decide) dX11_value_74 ?_
            refine lv_iconst (v := nI 1) hx hb dX11_value_75 (by decide) ?_
            refine zi_icmp_le (tgt := 85) hx hb dX11_value_76 (by decide) (Nat.lt_trans (h8 _) (by decide)) (by omega) (fun c_76 => ?_) (fun c_76 => ?_)
            · refine lv_iload_n hx hb dX11_value_85 rfl (lv_at hl 4 rfl) ?_
              refine lv_iload hx hb dX11_value_86 (lv_at hl 0 rfl) ?_
              refine zi_add hx hb dX11_value_88 ?_
              exact zr_ie hx hb hr hlocks (by first | (exfalso; omega) | rw [vaR, if_pos (Or.inl c_8), vaN, if_neg c_26, if_neg c_36]) (by first | (exfalso; omega) | (rw [vaF, if_pos (Or.inl c_8), vaN, if_neg c_26, if_neg c_36, if_neg (by omega), if_neg (fun z => by omega)]; exact hP)) hS dX11_value_89
            · refine lv_aload_n hx hb dX11_value_79 rfl (lv_at hl 2 rfl) ?_
              refine lv_iconst (v := nI 5) hx hb dX11_value_80 (by decide) ?_
              refine lv_iload_n hx hb dX11_value_81 rfl (lv_at hl 4 rfl) ?_
              refine zc_VE (As := [.int (nI (5)), .int (nI (a))]) (rest := []) ⟨hx, hb, hml, hown, hts⟩ (m_stop l G o w q 0 nd g pa be nm ed bx mn rw 5 (nI (a)) (by decide)) (cwV 2 hts (zgV wm_X11_71 wv_X11_stop) rfl rfl rfl (by decide +kernel) ⟨Nat.le_of_ble_eq_true rfl, Nat.le_of_ble_eq_true rfl⟩) hK hO rfl hP rfl hl.1 rfl (Nat.le_of_ble_eq_true rfl) dX11_value_82 ⟨Nat.zero_le _, Nat.zero_le _⟩ hS (fun _ h9 => h9) (fun H locs hP hz9 hk9 hS => ?_)
              obtain ⟨hO, -, -, -, h8⟩ := id hP
              refine W.eq (g2 := F0 m 85 ls ([])) rfl ?_
              refine lv_iload_n hx hb dX11_value_85 rfl (lv_at hl 4 rfl) ?_
              refine lv_iload hx hb dX11_value_86 (lv_at hl 0 rfl) ?_
              refine zi_add hx hb dX11_value_88 ?_
              exact zr_ie hx hb hr hlocks (by first | (exfalso; omega) | rw [vaR, if_pos (Or.inl c_8), vaN, if_neg c_26, if_neg c_36]) (by first | (exfalso; omega) | (rw [vaF, if_pos (Or.inl c_8), vaN, if_neg c_26, if_neg c_36, if_neg (by omega), if_pos ⟨c_66, c_76⟩]; exact hP)) hS dX11_value_89
        · refine lv_aload_n hx hb dX11_value_54 rfl (lv_at hl 2 rfl) ?_
          refine lv_iconst (v := nI 1) hx hb dX11_value_55 (by decide) ?_
          refine lv_iload_n hx hb dX11_value_56 rfl (lv_at hl 4 rfl) ?_
          refine zc_VE (As := [.int (nI (1)), .int (nI (a))]) (rest := []) ⟨hx, hb, hml, hown, hts⟩ (m_stop l G o w q 0 nd g pa be nm ed bx mn rw 1 (nI (a)) (by decide)) (cwV 2 hts (zgV wm_X11_71 wv_X11_stop) rfl rfl rfl (by decide +kernel) ⟨Nat.le_of_ble_eq_true rfl, Nat.le_of_ble_eq_true rfl⟩) hK hO rfl hP rfl hl.1 rfl (Nat.le_of_ble_eq_true rfl) dX11_value_57 ⟨Nat.zero_le _, Nat.zero_le _⟩ hS (fun _ h9 => h9) (fun H locs hP hz9 hk9 hS => ?_)
          obtain ⟨hO, -, -, -, h8⟩ := id hP
          refine W.eq (g2 := F0 m 60 ls ([])) rfl ?_
          refine lv_goto (tgt := 85) hx hb dX11_value_60 (by decide) ?_
          refine lv_iload_n hx hb dX11_value_85 rfl (lv_at hl 4 rfl) ?_
          refine lv_iload hx hb dX11_value_86 (lv_at hl 0 rfl) ?_
          refine zi_add hx hb dX11_value_88 ?_
          exact zr_ie hx hb hr hlocks (by first | (exfalso; omega) | rw [vaR, if_pos (Or.inl c_8), vaN, if_neg c_26, if_neg c_36]) (by first | (exfalso; omega) | (rw [vaF, if_pos (Or.inl c_8), vaN, if_neg c_26, if_neg c_36, if_pos c_51]; exact hP)) hS dX11_value_89
      · refine lv_bipush (v := nI 8) hx hb dX11_value_39 (by decide) ?_
        refine lv_goto (tgt := 45) hx hb dX11_value_41 (by decide) ?_
        refine lv_istore (lv' := [(5, .int (nI (8))), (4, .int (nI (last - a))), (0, .ref (o)), (1, .int (nI (k))), (2, .int (nI (a))), (3, .int (nI (last)))]) hx hb dX11_value_45 hl (by decide) rfl (fun ls hl => ?_)
        refine lv_iload hx hb dX11_value_47 (lv_at hl 1 rfl) ?_
        refine lv_iload hx hb dX11_value_49 (lv_at hl 0 rfl) ?_
        refine zi_icmp_ge (tgt := 63) hx hb dX11_value_51 (by decide) (by omega) (by omega) (fun c_51 => ?_) (fun c_51 => ?_)
        · refine lv_iload_n hx hb dX11_value_63 rfl (lv_at hl 3 rfl) ?_
          refine lv_bipush (v := nI 8) hx hb dX11_value_64 (by decide) ?_
          refine zi_icmp_ne (tgt := 85) hx hb dX11_value_66 (by decide) (by omega) (by omega) (fun c_66 => ?_) (fun c_66 => ?_)
          · refine lv_iload_n hx hb dX11_value_85 rfl (lv_at hl 4 rfl) ?_
            refine lv_iload hx hb dX11_value_86 (lv_at hl 0 rfl) ?_
            refine zi_add hx hb dX11_value_88 ?_
            exact zr_ie hx hb hr hlocks (by first | (exfalso; omega) | rw [vaR, if_pos (Or.inl c_8), vaN, if_neg c_26, if_pos c_36]) (by first | (exfalso; omega) | (rw [vaF, if_pos (Or.inl c_8), vaN, if_neg c_26, if_pos c_36, if_neg (by omega), if_neg (fun z => c_66 z.1)]; exact hP)) hS dX11_value_89
          · refine lv_aload_n hx hb dX11_value_69 rfl (lv_at hl 2 rfl) ?_
            refine zi_get (C := RX11) (T := TX11) (N := 23) (v := .ref (q 12)) hx hb hz wo_X11 hown hK hO rfl 12 (by decide) (hz _ wf_X11_26) (fun _ h9 => h9) rfl dX11_value_70 ?_
            refine lv_iload_n hx hb dX11_value_73 rfl (lv_at hl 4 rfl) ?_
            refine zi_ald hx hb hK hP.a12 (by omega) (by decide) dX11_value_74 ?_
            refine lv_iconst (v := nI 1) hx hb dX11_value_75 (by decide) ?_
            refine zi_icmp_le (tgt := 85) hx hb dX11_value_76 (by decide) (Nat.lt_trans (h8 _) (by decide)) (by omega) (fun c_76 => ?_) (fun c_76 => ?_)
            · refine lv_iload_n hx hb dX11_value_85 rfl (lv_at hl 4 rfl) ?_
              refine lv_iload hx hb dX11_value_86 (lv_at hl 0 rfl) ?_
              refine zi_add hx hb dX11_value_88 ?_
              exact zr_ie hx hb hr hlocks (by first | (exfalso; omega) | rw [vaR, if_pos (Or.inl c_8), vaN, if_neg c_26, if_pos c_36]) (by first | (exfalso; omega) | (rw [vaF, if_pos (Or.inl c_8), vaN, if_neg c_26, if_pos c_36, if_neg (by omega), if_neg (fun z => by omega)]; exact hP)) hS dX11_value_89
            · refine lv_aload_n hx hb dX11_value_79 rfl (lv_at hl 2 rfl) ?_
              refine lv_iconst (v := nI 5) hx hb dX11_value_80 (by decide) ?_
              refine lv_iload_n hx hb dX11_value_81 rfl (lv_at hl 4 rfl) ?_
              refine zc_VE (As := [.int (nI (5)), .int (nI (a))]) (rest := []) ⟨hx, hb, hml, hown, hts⟩ (m_stop l G o w q 0 nd g pa be nm ed bx mn rw 5 (nI (a)) (by decide)) (cwV 2 hts (zgV wm_X11_71 wv_X11_stop) rfl rfl rfl (by decide +kernel) ⟨Nat.le_of_ble_eq_true rfl, Nat.le_of_ble_eq_true rfl⟩) hK hO rfl hP rfl hl.1 rfl (Nat.le_of_ble_eq_true rfl) dX11_value_82 ⟨Nat.zero_le _, Nat.zero_le _⟩ hS (fun _ h9 => h9) (fun H locs hP hz9 hk9 hS => ?_)
              obtain ⟨hO, -, -, -, h8⟩ := id hP
              refine W.eq (g2 := F0 m 85 ls ([])) rfl ?_
              refine lv_iload_n hx hb dX11_value_85 rfl (lv_at hl 4 rfl) ?_
              refine lv_iload hx hb dX11_value_86 (lv_at hl 0 rfl) ?_
              refine zi_add hx hb dX11_value_88 ?_
              exact zr_ie hx hb hr hlocks (by first | (exfalso; omega) | rw [vaR, if_pos (Or.inl c_8), vaN, if_neg c_26, if_pos c_36]) (by first | (exfalso; omega) | (rw [vaF, if_pos (Or.inl c_8), vaN, if_neg c_26, if_pos c_36, if_neg (by omega), if_pos ⟨c_66, c_76⟩]; exact hP)) hS dX11_value_89
        · refine lv_aload_n hx hb dX11_value_54 rfl (lv_at hl 2 rfl) ?_
          refine lv_iconst (v := nI 1) hx hb dX11_value_55 (by decide) ?_
          refine lv_iload_n hx hb dX11_value_56 rfl (lv_at hl 4 rfl) ?_
          refine zc_VE (As := [.int (nI (1)), .int (nI (a))]) (rest := []) ⟨hx, hb, hml, hown, hts⟩ (m_stop l G o w q 0 nd g pa be nm ed bx mn rw 1 (nI (a)) (by decide)) (cwV 2 hts (zgV wm_X11_71 wv_X11_stop) rfl rfl rfl (by decide +kernel) ⟨Nat.le_of_ble_eq_true rfl, Nat.le_of_ble_eq_true rfl⟩) hK hO rfl hP rfl hl.1 rfl (Nat.le_of_ble_eq_true rfl) dX11_value_57 ⟨Nat.zero_le _, Nat.zero_le _⟩ hS (fun _ h9 => h9) (fun H locs hP hz9 hk9 hS => ?_)
          obtain ⟨hO, -, -, -, h8⟩ := id hP
          refine W.eq (g2 := F0 m 60 ls ([])) rfl ?_
          refine lv_goto (tgt := 85) hx hb dX11_value_60 (by decide) ?_
          refine lv_iload_n hx hb dX11_value_85 rfl (lv_at hl 4 rfl) ?_
          refine lv_iload hx hb dX11_value_86 (lv_at hl 0 rfl) ?_
          refine zi_add hx hb dX11_value_88 ?_
          exact zr_ie hx hb hr hlocks (by first | (exfalso; omega) | rw [vaR, if_pos (Or.inl c_8), vaN, if_neg c_26, if_pos c_36]) (by first | (exfalso; omega) | (rw [vaF, if_pos (Or.inl c_8), vaN, if_neg c_26, if_pos c_36, if_pos c_51]; exact hP)) hS dX11_value_89
    · refine lv_iconst (v := nI 4) hx hb dX11_value_29 (by decide) ?_
      refine lv_goto (tgt := 45) hx hb dX11_value_30 (by decide) ?_
      refine lv_istore (lv' := [(5, .int (nI (4))), (4, .int (nI (last - a))), (0, .ref (o)), (1, .int (nI (k))), (2, .int (nI (a))), (3, .int (nI (last)))]) hx hb dX11_value_45 hl (by decide) rfl (fun ls hl => ?_)
      refine lv_iload hx hb dX11_value_47 (lv_at hl 1 rfl) ?_
      refine lv_iload hx hb dX11_value_49 (lv_at hl 0 rfl) ?_
      refine zi_icmp_ge (tgt := 63) hx hb dX11_value_51 (by decide) (by omega) (by omega) (fun c_51 => ?_) (fun c_51 => ?_)
      · refine lv_iload_n hx hb dX11_value_63 rfl (lv_at hl 3 rfl) ?_
        refine lv_bipush (v := nI 8) hx hb dX11_value_64 (by decide) ?_
        refine zi_icmp_ne (tgt := 85) hx hb dX11_value_66 (by decide) (by omega) (by omega) (fun c_66 => ?_) (fun c_66 => ?_)
        · refine lv_iload_n hx hb dX11_value_85 rfl (lv_at hl 4 rfl) ?_
          refine lv_iload hx hb dX11_value_86 (lv_at hl 0 rfl) ?_
          refine zi_add hx hb dX11_value_88 ?_
          exact zr_ie hx hb hr hlocks (by first | (exfalso; omega) | rw [vaR, if_pos (Or.inl c_8), vaN, if_pos c_26]) (by first | (exfalso; omega) | (rw [vaF, if_pos (Or.inl c_8), vaN, if_pos c_26, if_neg (by omega), if_neg (fun z => c_66 z.1)]; exact hP)) hS dX11_value_89
        · refine lv_aload_n hx hb dX11_value_69 rfl (lv_at hl 2 rfl) ?_
          refine zi_get (C := RX11) (T := TX11) (N := 23) (v := .ref (q 12)) hx hb hz wo_X11 hown hK hO rfl 12 (by decide) (hz _ wf_X11_26) (fun _ h9 => h9) rfl dX11_value_70 ?_
          refine lv_iload_n hx hb dX11_value_73 rfl (lv_at hl 4 rfl) ?_
          refine zi_ald hx hb hK hP.a12 (by omega) (by decide) dX11_value_74 ?_
          refine lv_iconst (v := nI 1) hx hb dX11_value_75 (by decide) ?_
          refine zi_icmp_le (tgt := 85) hx hb dX11_value_76 (by decide) (Nat.lt_trans (h8 _) (by decide)) (by omega) (fun c_76 => ?_) (fun c_76 => ?_)
          · refine lv_iload_n hx hb dX11_value_85 rfl (lv_at hl 4 rfl) ?_
            refine lv_iload hx hb dX11_value_86 (lv_at hl 0 rfl) ?_
            refine zi_add hx hb dX11_value_88 ?_
            exact zr_ie hx hb hr hlocks (by first | (exfalso; omega) | rw [vaR, if_pos (Or.inl c_8), vaN, if_pos c_26]) (by first | (exfalso; omega) | (rw [vaF, if_pos (Or.inl c_8), vaN, if_pos c_26, if_neg (by omega), if_neg (fun z => by omega)]; exact hP)) hS dX11_value_89
          · refine lv_aload_n hx hb dX11_value_79 rfl (lv_at hl 2 rfl) ?_
            refine lv_iconst (v := nI 5) hx hb dX11_value_80 (by decide) ?_
            refine lv_iload_n hx hb dX11_value_81 rfl (lv_at hl 4 rfl) ?_
            refine zc_VE (As := [.int (nI (5)), .int (nI (a))]) (rest := []) ⟨hx, hb, hml, hown, hts⟩ (m_stop l G o w q 0 nd g pa be nm ed bx mn rw 5 (nI (a)) (by decide)) (cwV 2 hts (zgV wm_X11_71 wv_X11_stop) rfl rfl rfl (by decide +kernel) ⟨Nat.le_of_ble_eq_true rfl, Nat.le_of_ble_eq_true rfl⟩) hK hO rfl hP rfl hl.1 rfl (Nat.le_of_ble_eq_true rfl) dX11_value_82 ⟨Nat.zero_le _, Nat.zero_le _⟩ hS (fun _ h9 => h9) (fun H locs hP hz9 hk9 hS => ?_)
            obtain ⟨hO, -, -, -, h8⟩ := id hP
            refine W.eq (g2 := F0 m 85 ls ([])) rfl ?_
            refine lv_iload_n hx hb dX11_value_85 rfl (lv_at hl 4 rfl) ?_
            refine lv_iload hx hb dX11_value_86 (lv_at hl 0 rfl) ?_
            refine zi_add hx hb dX11_value_88 ?_
            exact zr_ie hx hb hr hlocks (by first | (exfalso; omega) | rw [vaR, if_pos (Or.inl c_8), vaN, if_pos c_26]) (by first | (exfalso; omega) | (rw [vaF, if_pos (Or.inl c_8), vaN, if_pos c_26, if_neg (by omega), if_pos ⟨c_66, c_76⟩]; exact hP)) hS dX11_value_89
      · refine lv_aload_n hx hb dX11_value_54 rfl (lv_at hl 2 rfl) ?_
        refine lv_iconst (v := nI 1) hx hb dX11_value_55 (by decide) ?_
        refine lv_iload_n hx hb dX11_value_56 rfl (lv_at hl 4 rfl) ?_
        refine zc_VE (As := [.int (nI (1)), .int (nI (a))]) (rest := []) ⟨hx, hb, hml, hown, hts⟩ (m_stop l G o w q 0 nd g pa be nm ed bx mn rw 1 (nI (a)) (by decide)) (cwV 2 hts (zgV wm_X11_71 wv_X11_stop) rfl rfl rfl (by decide +kernel) ⟨Nat.le_of_ble_eq_true rfl, Nat.le_of_ble_eq_true rfl⟩) hK hO rfl hP rfl hl.1 rfl (Nat.le_of_ble_eq_true rfl) dX11_value_57 ⟨Nat.zero_le _, Nat.zero_le _⟩ hS (fun _ h9 => h9) (fun H locs hP hz9 hk9 hS => ?_)
        obtain ⟨hO, -, -, -, h8⟩ := id hP
        refine W.eq (g2 := F0 m 60 ls ([])) rfl ?_
        refine lv_goto (tgt := 85) hx hb dX11_value_60 (by decide) ?_
        refine lv_iload_n hx hb dX11_value_85 rfl (lv_at hl 4 rfl) ?_
        refine lv_iload hx hb dX11_value_86 (lv_at hl 0 rfl) ?_
        refine zi_add hx hb dX11_value_88 ?_
        exact zr_ie hx hb hr hlocks (by first | (exfalso; omega) | rw [vaR, if_pos (Or.inl c_8), vaN, if_pos c_26]) (by first | (exfalso; omega) | (rw [vaF, if_pos (Or.inl c_8), vaN, if_pos c_26, if_pos c_51]; exact hP)) hS dX11_value_89
  · refine lv_iload_n hx hb dX11_value_11 rfl (lv_at hl 2 rfl) ?_
    refine lv_bipush (v := nI 18) hx hb dX11_value_12 (by decide) ?_
    refine zi_icmp_eq (tgt := 23) hx hb dX11_value_14 (by decide) (by omega) (by omega) (fun c_14 => ?_) (fun c_14 => ?_)
    · refine lv_iload_n hx hb dX11_value_23 rfl (lv_at hl 2 rfl) ?_
      refine lv_bipush (v := nI 16) hx hb dX11_value_24 (by decide) ?_
      refine zi_icmp_ne (tgt := 33) hx hb dX11_value_26 (by decide) (by omega) (by omega) (fun c_26 => ?_) (fun c_26 => ?_)
      · refine lv_iload_n hx hb dX11_value_33 rfl (lv_at hl 2 rfl) ?_
        refine lv_bipush (v := nI 18) hx hb dX11_value_34 (by decide) ?_
        refine zi_icmp_ne (tgt := 44) hx hb dX11_value_36 (by decide) (by omega) (by omega) (fun c_36 => ?_) (fun c_36 => ?_)
        · refine lv_iconst (v := nI 1) hx hb dX11_value_44 (by decide) ?_
          refine lv_istore (lv' := [(5, .int (nI (1))), (4, .int (nI (last - a))), (0, .ref (o)), (1, .int (nI (k))), (2, .int (nI (a))), (3, .int (nI (last)))]) hx hb dX11_value_45 hl (by decide) rfl (fun ls hl => ?_)
          refine lv_iload hx hb dX11_value_47 (lv_at hl 1 rfl) ?_
          refine lv_iload hx hb dX11_value_49 (lv_at hl 0 rfl) ?_
          refine zi_icmp_ge (tgt := 63) hx hb dX11_value_51 (by decide) (by omega) (by omega) (fun c_51 => ?_) (fun c_51 => ?_)
          · refine lv_iload_n hx hb dX11_value_63 rfl (lv_at hl 3 rfl) ?_
            refine lv_bipush (v := nI 8) hx hb dX11_value_64 (by decide) ?_
            refine zi_icmp_ne (tgt := 85) hx hb dX11_value_66 (by decide) (by omega) (by omega) (fun c_66 => ?_) (fun c_66 => ?_)
            · refine lv_iload_n hx hb dX11_value_85 rfl (lv_at hl 4 rfl) ?_
              refine lv_iload hx hb dX11_value_86 (lv_at hl 0 rfl) ?_
              refine zi_add hx hb dX11_value_88 ?_
              exact zr_ie hx hb hr hlocks (by first | (exfalso; omega) | rw [vaR, if_pos (Or.inr (Or.inl c_14)), vaN, if_neg c_26, if_neg c_36]) (by first | (exfalso; omega) | (rw [vaF, if_pos (Or.inr (Or.inl c_14)), vaN, if_neg c_26, if_neg c_36, if_neg (by omega), if_neg (fun z => c_66 z.1)]; exact hP)) hS dX11_value_89
            · refine lv_aload_n hx hb dX11_value_69 rfl (lv_at hl 2 rfl) ?_
              refine zi_get (C := RX11) (T := TX11) (N := 23) (v := .ref (q 12)) hx hb hz wo_X11 hown hK hO rfl 12 (by decide) (hz _ wf_X11_26) (fun _ h9 => h9) rfl dX11_value_70 ?_
              refine lv_iload_n hx hb dX11_value_73 rfl (lv_at hl 4 rfl) ?_
              refine zi_ald hx hb hK hP.a12 (by omega) (by decide) dX11_value_74 ?_
              refine lv_iconst (v := nI 1) hx hb dX11_value_75 (by decide) ?_
              refine zi_icmp_le (tgt := 85) hx hb dX11_value_76 (by decide) (Nat.lt_trans (h8 _) (by decide)) (by omega) (fun c_76 => ?_) (fun c_76 => ?_)
              · refine lv_iload_n hx hb dX11_value_85 rfl (lv_at hl 4 rfl) ?_
                refine lv_iload hx hb dX11_value_86 (lv_at hl 0 rfl) ?_
                refine zi_add hx hb dX11_value_88 ?_
                exact zr_ie hx hb hr hlocks (by first | (exfalso; omega) | rw [vaR, if_pos (Or.inr (Or.inl c_14)), vaN, if_neg c_26, if_neg c_36]) (by first | (exfalso; omega) | (rw [vaF, if_pos (Or.inr (Or.inl c_14)), vaN, if_neg c_26, if_neg c_36, if_neg (by omega), if_neg (fun z => by omega)]; exact hP)) hS dX11_value_89
              · refine lv_aload_n hx hb dX11_value_79 rfl (lv_at hl 2 rfl) ?_
                refine lv_iconst (v := nI 5) hx hb dX11_value_80 (by decide) ?_
                refine lv_iload_n hx hb dX11_value_81 rfl (lv_at hl 4 rfl) ?_
                refine zc_VE (As := [.int (nI (5)), .int (nI (a))]) (rest := []) ⟨hx, hb, hml, hown, hts⟩ (m_stop l G o w q 0 nd g pa be nm ed bx mn rw 5 (nI (a)) (by decide)) (cwV 2 hts (zgV wm_X11_71 wv_X11_stop) rfl rfl rfl (by decide +kernel) ⟨Nat.le_of_ble_eq_true rfl, Nat.le_of_ble_eq_true rfl⟩) hK hO rfl hP rfl hl.1 rfl (Nat.le_of_ble_eq_true rfl) dX11_value_82 ⟨Nat.zero_le _, Nat.zero_le _⟩ hS (fun _ h9 => h9) (fun H locs hP hz9 hk9 hS => ?_)
                obtain ⟨hO, -, -, -, h8⟩ := id hP
                refine W.eq (g2 := F0 m 85 ls ([])) rfl ?_
                refine lv_iload_n hx hb dX11_value_85 rfl (lv_at hl 4 rfl) ?_
                refine lv_iload hx hb dX11_value_86 (lv_at hl 0 rfl) ?_
                refine zi_add hx hb dX11_value_88 ?_
                exact zr_ie hx hb hr hlocks (by first | (exfalso; omega) | rw [vaR, if_pos (Or.inr (Or.inl c_14)), vaN, if_neg c_26, if_neg c_36]) (by first | (exfalso; omega) | (rw [vaF, if_pos (Or.inr (Or.inl c_14)), vaN, if_neg c_26, if_neg c_36, if_neg (by omega), if_pos ⟨c_66, c_76⟩]; exact hP)) hS dX11_value_89
          · refine lv_aload_n hx hb dX11_value_54 rfl (lv_at hl 2 rfl) ?_
            refine lv_iconst (v := nI 1) hx hb dX11_value_55 (by decide) ?_
            refine lv_iload_n hx hb dX11_value_56 rfl (lv_at hl 4 rfl) ?_
            refine zc_VE (As := [.int (nI (1)), .int (nI (a))]) (rest := []) ⟨hx, hb, hml, hown, hts⟩ (m_stop l G o w q 0 nd g pa be nm ed bx mn rw 1 (nI (a)) (by decide)) (cwV 2 hts (zgV wm_X11_71 wv_X11_stop) rfl rfl rfl (by decide +kernel) ⟨Nat.le_of_ble_eq_true rfl, Nat.le_of_ble_eq_true rfl⟩) hK hO rfl hP rfl hl.1 rfl (Nat.le_of_ble_eq_true rfl) dX11_value_57 ⟨Nat.zero_le _, Nat.zero_le _⟩ hS (fun _ h9 => h9) (fun H locs hP hz9 hk9 hS => ?_)
            obtain ⟨hO, -, -, -, h8⟩ := id hP
            refine W.eq (g2 := F0 m 60 ls ([])) rfl ?_
            refine lv_goto (tgt := 85) hx hb dX11_value_60 (by decide) ?_
            refine lv_iload_n hx hb dX11_value_85 rfl (lv_at hl 4 rfl) ?_
            refine lv_iload hx hb dX11_value_86 (lv_at hl 0 rfl) ?_
            refine zi_add hx hb dX11_value_88 ?_
            exact zr_ie hx hb hr hlocks (by first | (exfalso; omega) | rw [vaR, if_pos (Or.inr (Or.inl c_14)), vaN, if_neg c_26, if_neg c_36]) (by first | (exfalso; omega) | (rw [vaF, if_pos (Or.inr (Or.inl c_14)), vaN, if_neg c_26, if_neg c_36, if_pos c_51]; exact hP)) hS dX11_value_89
        · refine lv_bipush (v := nI 8) hx hb dX11_value_39 (by decide) ?_
          refine lv_goto (tgt := 45) hx hb dX11_value_41 (by decide) ?_
          refine lv_istore (lv' := [(5, .int (nI (8))), (4, .int (nI (last - a))), (0, .ref (o)), (1, .int (nI (k))), (2, .int (nI (a))), (3, .int (nI (last)))]) hx hb dX11_value_45 hl (by decide) rfl (fun ls hl => ?_)
          refine lv_iload hx hb dX11_value_47 (lv_at hl 1 rfl) ?_
          refine lv_iload hx hb dX11_value_49 (lv_at hl 0 rfl) ?_
          refine zi_icmp_ge (tgt := 63) hx hb dX11_value_51 (by decide) (by omega) (by omega) (fun c_51 => ?_) (fun c_51 => ?_)
          · refine lv_iload_n hx hb dX11_value_63 rfl (lv_at hl 3 rfl) ?_
            refine lv_bipush (v := nI 8) hx hb dX11_value_64 (by decide) ?_
            refine zi_icmp_ne (tgt := 85) hx hb dX11_value_66 (by decide) (by omega) (by omega) (fun c_66 => ?_) (fun c_66 => ?_)
            · refine lv_iload_n hx hb dX11_value_85 rfl (lv_at hl 4 rfl) ?_
              refine lv_iload hx hb dX11_value_86 (lv_at hl 0 rfl) ?_
              refine zi_add hx hb dX11_value_88 ?_
              exact zr_ie hx hb hr hlocks (by first | (exfalso; omega) | rw [vaR, if_pos (Or.inr (Or.inl c_14)), vaN, if_neg c_26, if_pos c_36]) (by first | (exfalso; omega) | (rw [vaF, if_pos (Or.inr (Or.inl c_14)), vaN, if_neg c_26, if_pos c_36, if_neg (by omega), if_neg (fun z => c_66 z.1)]; exact hP)) hS dX11_value_89
            · refine lv_aload_n hx hb dX11_value_69 rfl (lv_at hl 2 rfl) ?_
              refine zi_get (C := RX11) (T := TX11) (N := 23) (v := .ref (q 12)) hx hb hz wo_X11 hown hK hO rfl 12 (by decide) (hz _ wf_X11_26) (fun _ h9 => h9) rfl dX11_value_70 ?_
              refine lv_iload_n hx hb dX11_value_73 rfl (lv_at hl 4 rfl) ?_
              refine zi_ald hx hb hK hP.a12 (by omega) (by decide) dX11_value_74 ?_
              refine lv_iconst (v := nI 1) hx hb dX11_value_75 (by decide) ?_
              refine zi_icmp_le (tgt := 85) hx hb dX11_value_76 (by decide) (Nat.lt_trans (h8 _) (by decide)) (by omega) (fun c_76 => ?_) (fun c_76 => ?_)
              · refine lv_iload_n hx hb dX11_value_85 rfl (lv_at hl 4 rfl) ?_
                refine lv_iload hx hb dX11_value_86 (lv_at hl 0 rfl) ?_
                refine zi_add hx hb dX11_value_88 ?_
                exact zr_ie hx hb hr hlocks (by first | (exfalso; omega) | rw [vaR, if_pos (Or.inr (Or.inl c_14)), vaN, if_neg c_26, if_pos c_36]) (by first | (exfalso; omega) | (rw [vaF, if_pos (Or.inr (Or.inl c_14)), vaN, if_neg c_26, if_pos c_36, if_neg (by omega), if_neg (fun z => by omega)]; exact hP)) hS dX11_value_89
              · refine lv_aload_n hx hb dX11_value_79 rfl (lv_at hl 2 rfl) ?_
                refine lv_iconst (v := nI 5) hx hb dX11_value_80 (by decide) ?_
                refine lv_iload_n hx hb dX11_value_81 rfl (lv_at hl 4 rfl) ?_
                refine zc_VE (As := [.int (nI (5)), .int (nI (a))]) (rest := []) ⟨hx, hb, hml, hown, hts⟩ (m_stop l G o w q 0 nd g pa be nm ed bx mn rw 5 (nI (a)) (by decide)) (cwV 2 hts (zgV wm_X11_71 wv_X11_stop) rfl rfl rfl (by decide +kernel) ⟨Nat.le_of_ble_eq_true rfl, Nat.le_of_ble_eq_true rfl⟩) hK hO rfl hP rfl hl.1 rfl (Nat.le_of_ble_eq_true rfl) dX11_value_82 ⟨Nat.zero_le _, Nat.zero_le _⟩ hS (fun _ h9 => h9) (fun H locs hP hz9 hk9 hS => ?_)
                obtain ⟨hO, -, -, -, h8⟩ := id hP
                refine W.eq (g2 := F0 m 85 ls ([])) rfl ?_
                refine lv_iload_n hx hb dX11_value_85 rfl (lv_at hl 4 rfl) ?_
                refine lv_iload hx hb dX11_value_86 (lv_at hl 0 rfl) ?_
                refine zi_add hx hb dX11_value_88 ?_
                exact zr_ie hx hb hr hlocks (by first | (exfalso; omega) | rw [vaR, if_pos (Or.inr (Or.inl c_14)), vaN, if_neg c_26, if_pos c_36]) (by first | (exfalso; omega) | (rw [vaF, if_pos (Or.inr (Or.inl c_14)), vaN, if_neg c_26, if_pos c_36, if_neg (by omega), if_pos ⟨c_66, c_76⟩]; exact hP)) hS dX11_value_89
          · refine lv_aload_n hx hb dX11_value_54 rfl (lv_at hl 2 rfl) ?_
            refine lv_iconst (v := nI 1) hx hb dX11_value_55 (by decide) ?_
            refine lv_iload_n hx hb dX11_value_56 rfl (lv_at hl 4 rfl) ?_
            refine zc_VE (As := [.int (nI (1)), .int (nI (a))]) (rest := []) ⟨hx, hb, hml, hown, hts⟩ (m_stop l G o w q 0 nd g pa be nm ed bx mn rw 1 (nI (a)) (by decide)) (cwV 2 hts (zgV wm_X11_71 wv_X11_stop) rfl rfl rfl (by decide +kernel) ⟨Nat.le_of_ble_eq_true rfl, Nat.le_of_ble_eq_true rfl⟩) hK hO rfl hP rfl hl.1 rfl (Nat.le_of_ble_eq_true rfl) dX11_value_57 ⟨Nat.zero_le _, Nat.zero_le _⟩ hS (fun _ h9 => h9) (fun H locs hP hz9 hk9 hS => ?_)
            obtain ⟨hO, -, -, -, h8⟩ := id hP
            refine W.eq (g2 := F0 m 60 ls ([])) rfl ?_
            refine lv_goto (tgt := 85) hx hb dX11_value_60 (by decide) ?_
            refine lv_iload_n hx hb dX11_value_85 rfl (lv_at hl 4 rfl) ?_
            refine lv_iload hx hb dX11_value_86 (lv_at hl 0 rfl) ?_
            refine zi_add hx hb dX11_value_88 ?_
            exact zr_ie hx hb hr hlocks (by first | (exfalso; omega) | rw [vaR, if_pos (Or.inr (Or.inl c_14)), vaN, if_neg c_26, if_pos c_36]) (by first | (exfalso; omega) | (rw [vaF, if_pos (Or.inr (Or.inl c_14)), vaN, if_neg c_26, if_pos c_36, if_pos c_51]; exact hP)) hS dX11_value_89
      · refine lv_iconst (v := nI 4) hx hb dX11_value_29 (by decide) ?_
        refine lv_goto (tgt := 45) hx hb dX11_value_30 (by decide) ?_
        refine lv_istore (lv' := [(5, .int (nI (4))), (4, .int (nI (last - a))), (0, .ref (o)), (1, .int (nI (k))), (2, .int (nI (a))), (3, .int (nI (last)))]) hx hb dX11_value_45 hl (by decide) rfl (fun ls hl => ?_)
        refine lv_iload hx hb dX11_value_47 (lv_at hl 1 rfl) ?_
        refine lv_iload hx hb dX11_value_49 (lv_at hl 0 rfl) ?_
        refine zi_icmp_ge (tgt := 63) hx hb dX11_value_51 (by decide) (by omega) (by omega) (fun c_51 => ?_) (fun c_51 => ?_)
        · refine lv_iload_n hx hb dX11_value_63 rfl (lv_at hl 3 rfl) ?_
          refine lv_bipush (v := nI 8) hx hb dX11_value_64 (by decide) ?_
          refine zi_icmp_ne (tgt := 85) hx hb dX11_value_66 (by decide) (by omega) (by omega) (fun c_66 => ?_) (fun c_66 => ?_)
          · refine lv_iload_n hx hb dX11_value_85 rfl (lv_at hl 4 rfl) ?_
            refine lv_iload hx hb dX11_value_86 (lv_at hl 0 rfl) ?_
            refine zi_add hx hb dX11_value_88 ?_
            exact zr_ie hx hb hr hlocks (by first | (exfalso; omega) | rw [vaR, if_pos (Or.inr (Or.inl c_14)), vaN, if_pos c_26]) (by first | (exfalso; omega) | (rw [vaF, if_pos (Or.inr (Or.inl c_14)), vaN, if_pos c_26, if_neg (by omega), if_neg (fun z => c_66 z.1)]; exact hP)) hS dX11_value_89
          · refine lv_aload_n hx hb dX11_value_69 rfl (lv_at hl 2 rfl) ?_
            refine zi_get (C := RX11) (T := TX11) (N := 23) (v := .ref (q 12)) hx hb hz wo_X11 hown hK hO rfl 12 (by decide) (hz _ wf_X11_26) (fun _ h9 => h9) rfl dX11_value_70 ?_
            refine lv_iload_n hx hb dX11_value_73 rfl (lv_at hl 4 rfl) ?_
            refine zi_ald hx hb hK hP.a12 (by omega) (by decide) dX11_value_74 ?_
            refine lv_iconst (v := nI 1) hx hb dX11_value_75 (by decide) ?_
            refine zi_icmp_le (tgt := 85) hx hb dX11_value_76 (by decide) (Nat.lt_trans (h8 _) (by decide)) (by omega) (fun c_76 => ?_) (fun c_76 => ?_)
            · refine lv_iload_n hx hb dX11_value_85 rfl (lv_at hl 4 rfl) ?_
              refine lv_iload hx hb dX11_value_86 (lv_at hl 0 rfl) ?_
              refine zi_add hx hb dX11_value_88 ?_
              exact zr_ie hx hb hr hlocks (by first | (exfalso; omega) | rw [vaR, if_pos (Or.inr (Or.inl c_14)), vaN, if_pos c_26]) (by first | (exfalso; omega) | (rw [vaF, if_pos (Or.inr (Or.inl c_14)), vaN, if_pos c_26, if_neg (by omega), if_neg (fun z => by omega)]; exact hP)) hS dX11_value_89
            · refine lv_aload_n hx hb dX11_value_79 rfl (lv_at hl 2 rfl) ?_
              refine lv_iconst (v := nI 5) hx hb dX11_value_80 (by decide) ?_
              refine lv_iload_n hx hb dX11_value_81 rfl (lv_at hl 4 rfl) ?_
              refine zc_VE (As := [.int (nI (5)), .int (nI (a))]) (rest := []) ⟨hx, hb, hml, hown, hts⟩ (m_stop l G o w q 0 nd g pa be nm ed bx mn rw 5 (nI (a)) (by decide)) (cwV 2 hts (zgV wm_X11_71 wv_X11_stop) rfl rfl rfl (by decide +kernel) ⟨Nat.le_of_ble_eq_true rfl, Nat.le_of_ble_eq_true rfl⟩) hK hO rfl hP rfl hl.1 rfl (Nat.le_of_ble_eq_true rfl) dX11_value_82 ⟨Nat.zero_le _, Nat.zero_le _⟩ hS (fun _ h9 => h9) (fun H locs hP hz9 hk9 hS => ?_)
              obtain ⟨hO, -, -, -, h8⟩ := id hP
              refine W.eq (g2 := F0 m 85 ls ([])) rfl ?_
              refine lv_iload_n hx hb dX11_value_85 rfl (lv_at hl 4 rfl) ?_
              refine lv_iload hx hb dX11_value_86 (lv_at hl 0 rfl) ?_
              refine zi_add hx hb dX11_value_88 ?_
              exact zr_ie hx hb hr hlocks (by first | (exfalso; omega) | rw [vaR, if_pos (Or.inr (Or.inl c_14)), vaN, if_pos c_26]) (by first | (exfalso; omega) | (rw [vaF, if_pos (Or.inr (Or.inl c_14)), vaN, if_pos c_26, if_neg (by omega), if_pos ⟨c_66, c_76⟩]; exact hP)) hS dX11_value_89
        · refine lv_aload_n hx hb dX11_value_54 rfl (lv_at hl 2 rfl) ?_
          refine lv_iconst (v := nI 1) hx hb dX11_value_55 (by decide) ?_
          refine lv_iload_n hx hb dX11_value_56 rfl (lv_at hl 4 rfl) ?_
          refine zc_VE (As := [.int (nI (1)), .int (nI (a))]) (rest := []) ⟨hx, hb, hml, hown, hts⟩ (m_stop l G o w q 0 nd g pa be nm ed bx mn rw 1 (nI (a)) (by decide)) (cwV 2 hts (zgV wm_X11_71 wv_X11_stop) rfl rfl rfl (by decide +kernel) ⟨Nat.le_of_ble_eq_true rfl, Nat.le_of_ble_eq_true rfl⟩) hK hO rfl hP rfl hl.1 rfl (Nat.le_of_ble_eq_true rfl) dX11_value_57 ⟨Nat.zero_le _, Nat.zero_le _⟩ hS (fun _ h9 => h9) (fun H locs hP hz9 hk9 hS => ?_)
          obtain ⟨hO, -, -, -, h8⟩ := id hP
          refine W.eq (g2 := F0 m 60 ls ([])) rfl ?_
          refine lv_goto (tgt := 85) hx hb dX11_value_60 (by decide) ?_
          refine lv_iload_n hx hb dX11_value_85 rfl (lv_at hl 4 rfl) ?_
          refine lv_iload hx hb dX11_value_86 (lv_at hl 0 rfl) ?_
          refine zi_add hx hb dX11_value_88 ?_
          exact zr_ie hx hb hr hlocks (by first | (exfalso; omega) | rw [vaR, if_pos (Or.inr (Or.inl c_14)), vaN, if_pos c_26]) (by first | (exfalso; omega) | (rw [vaF, if_pos (Or.inr (Or.inl c_14)), vaN, if_pos c_26, if_pos c_51]; exact hP)) hS dX11_value_89
    · refine lv_iload_n hx hb dX11_value_17 rfl (lv_at hl 2 rfl) ?_
      refine lv_bipush (v := nI 8) hx hb dX11_value_18 (by decide) ?_
      refine zi_icmp_ne (tgt := 90) hx hb dX11_value_20 (by decide) (by omega) (by omega) (fun c_20 => ?_) (fun c_20 => ?_)
      · refine lv_iload_n hx hb dX11_value_90 rfl (lv_at hl 2 rfl) ?_
        refine lv_iconst (v := nI 2) hx hb dX11_value_91 (by decide) ?_
        refine zi_icmp_ne (tgt := 104) hx hb dX11_value_92 (by decide) (by omega) (by omega) (fun c_92 => ?_) (fun c_92 => ?_)
        · refine lv_iload_n hx hb dX11_value_104 rfl (lv_at hl 3 rfl) ?_
          exact zr_ie hx hb hr hlocks (by rw [vaR, if_neg (by omega), if_neg c_92]) (by rw [vaF, if_neg (by omega), if_neg c_92]; exact hP) hS dX11_value_105
        · refine lv_aload_n hx hb dX11_value_95 rfl (lv_at hl 1 rfl) ?_
          refine lv_iload_n hx hb dX11_value_96 rfl (lv_at hl 3 rfl) ?_
          refine lv_iload_n hx hb dX11_value_97 rfl (lv_at hl 4 rfl) ?_
          refine zc_VE (As := [.int (nI (a)), .int (nI (last))]) (rest := []) ⟨hx, hb, hml, hown, hts⟩ (m_text l G o w q fa nd g pa be nm ed bx mn rw a last hal (by omega)) (cwV 2 hts (zgV wm_X11_118 wv_X11_text) rfl rfl rfl (by decide +kernel) ⟨Nat.le_of_ble_eq_true rfl, Nat.le_of_ble_eq_true rfl⟩) hK hO rfl hP rfl hl.1 rfl (Nat.le_of_ble_eq_true rfl) dX11_value_98 ⟨Nat.zero_le _, Nat.zero_le _⟩ hS (fun _ h9 => h9) (fun H locs hP hz9 hk9 hS => ?_)
          obtain ⟨hO, -, -, -, h8⟩ := id hP
          refine W.eq (g2 := F0 m 101 ls ([.int (nI (txR g a last))])) rfl ?_
          refine lv_goto (tgt := 105) hx hb dX11_value_101 (by decide) ?_
          exact zr_ie hx hb hr hlocks (by rw [vaR, if_neg (by omega), if_pos c_92]) (by rw [vaF, if_neg (by omega), if_pos c_92]; exact hP) hS dX11_value_105
      · refine lv_iload_n hx hb dX11_value_23 rfl (lv_at hl 2 rfl) ?_
        refine lv_bipush (v := nI 16) hx hb dX11_value_24 (by decide) ?_
        refine zi_icmp_ne (tgt := 33) hx hb dX11_value_26 (by decide) (by omega) (by omega) (fun c_26 => ?_) (fun c_26 => ?_)
        · refine lv_iload_n hx hb dX11_value_33 rfl (lv_at hl 2 rfl) ?_
          refine lv_bipush (v := nI 18) hx hb dX11_value_34 (by decide) ?_
          refine zi_icmp_ne (tgt := 44) hx hb dX11_value_36 (by decide) (by omega) (by omega) (fun c_36 => ?_) (fun c_36 => ?_)
          · refine lv_iconst (v := nI 1) hx hb dX11_value_44 (by decide) ?_
            refine lv_istore (lv' := [(5, .int (nI (1))), (4, .int (nI (last - a))), (0, .ref (o)), (1, .int (nI (k))), (2, .int (nI (a))), (3, .int (nI (last)))]) hx hb dX11_value_45 hl (by decide) rfl (fun ls hl => ?_)
            refine lv_iload hx hb dX11_value_47 (lv_at hl 1 rfl) ?_
            refine lv_iload hx hb dX11_value_49 (lv_at hl 0 rfl) ?_
            refine zi_icmp_ge (tgt := 63) hx hb dX11_value_51 (by decide) (by omega) (by omega) (fun c_51 => ?_) (fun c_51 => ?_)
            · refine lv_iload_n hx hb dX11_value_63 rfl (lv_at hl 3 rfl) ?_
              refine lv_bipush (v := nI 8) hx hb dX11_value_64 (by decide) ?_
              refine zi_icmp_ne (tgt := 85) hx hb dX11_value_66 (by decide) (by omega) (by omega) (fun c_66 => ?_) (fun c_66 => ?_)
              · refine lv_iload_n hx hb dX11_value_85 rfl (lv_at hl 4 rfl) ?_
                refine lv_iload hx hb dX11_value_86 (lv_at hl 0 rfl) ?_
                refine zi_add hx hb dX11_value_88 ?_
                exact zr_ie hx hb hr hlocks (by first | (exfalso; omega) | rw [vaR, if_pos (Or.inr (Or.inr c_20)), vaN, if_neg c_26, if_neg c_36]) (by first | (exfalso; omega) | (rw [vaF, if_pos (Or.inr (Or.inr c_20)), vaN, if_neg c_26, if_neg c_36, if_neg (by omega), if_neg (fun z => c_66 z.1)]; exact hP)) hS dX11_value_89
              · refine lv_aload_n hx hb dX11_value_69 rfl (lv_at hl 2 rfl) ?_
                refine zi_get (C := RX11) (T := TX11) (N := 23) (v := .ref (q 12)) hx hb hz wo_X11 hown hK hO rfl 12 (by decide) (hz _ wf_X11_26) (fun _ h9 => h9) rfl dX11_value_70 ?_
                refine lv_iload_n hx hb dX11_value_73 rfl (lv_at hl 4 rfl) ?_
                refine zi_ald hx hb hK hP.a12 (by omega) (by decide) dX11_value_74 ?_
                refine lv_iconst (v := nI 1) hx hb dX11_value_75 (by decide) ?_
                refine zi_icmp_le (tgt := 85) hx hb dX11_value_76 (by decide) (Nat.lt_trans (h8 _) (by decide)) (by omega) (fun c_76 => ?_) (fun c_76 => ?_)
                · refine lv_iload_n hx hb dX11_value_85 rfl (lv_at hl 4 rfl) ?_
                  refine lv_iload hx hb dX11_value_86 (lv_at hl 0 rfl) ?_
                  refine zi_add hx hb dX11_value_88 ?_
                  exact zr_ie hx hb hr hlocks (by first | (exfalso; omega) | rw [vaR, if_pos (Or.inr (Or.inr c_20)), vaN, if_neg c_26, if_neg c_36]) (by first | (exfalso; omega) | (rw [vaF, if_pos (Or.inr (Or.inr c_20)), vaN, if_neg c_26, if_neg c_36, if_neg (by omega), if_neg (fun z => by omega)]; exact hP)) hS dX11_value_89
                · refine lv_aload_n hx hb dX11_value_79 rfl (lv_at hl 2 rfl) ?_
                  refine lv_iconst (v := nI 5) hx hb dX11_value_80 (by decide) ?_
                  refine lv_iload_n hx hb dX11_value_81 rfl (lv_at hl 4 rfl) ?_
                  refine zc_VE (As := [.int (nI (5)), .int (nI (a))]) (rest := []) ⟨hx, hb, hml, hown, hts⟩ (m_stop l G o w q 0 nd g pa be nm ed bx mn rw 5 (nI (a)) (by decide)) (cwV 2 hts (zgV wm_X11_71 wv_X11_stop) rfl rfl rfl (by decide +kernel) ⟨Nat.le_of_ble_eq_true rfl, Nat.le_of_ble_eq_true rfl⟩) hK hO rfl hP rfl hl.1 rfl (Nat.le_of_ble_eq_true rfl) dX11_value_82 ⟨Nat.zero_le _, Nat.zero_le _⟩ hS (fun _ h9 => h9) (fun H locs hP hz9 hk9 hS => ?_)
                  obtain ⟨hO, -, -, -, h8⟩ := id hP
                  refine W.eq (g2 := F0 m 85 ls ([])) rfl ?_
                  refine lv_iload_n hx hb dX11_value_85 rfl (lv_at hl 4 rfl) ?_
                  refine lv_iload hx hb dX11_value_86 (lv_at hl 0 rfl) ?_
                  refine zi_add hx hb dX11_value_88 ?_
                  exact zr_ie hx hb hr hlocks (by first | (exfalso; omega) | rw [vaR, if_pos (Or.inr (Or.inr c_20)), vaN, if_neg c_26, if_neg c_36]) (by first | (exfalso; omega) | (rw [vaF, if_pos (Or.inr (Or.inr c_20)), vaN, if_neg c_26, if_neg c_36, if_neg (by omega), if_pos ⟨c_66, c_76⟩]; exact hP)) hS dX11_value_89
            · refine lv_aload_n hx hb dX11_value_54 rfl (lv_at hl 2 rfl) ?_
              refine lv_iconst (v := nI 1) hx hb dX11_value_55 (by decide) ?_
              refine lv_iload_n hx hb dX11_value_56 rfl (lv_at hl 4 rfl) ?_
              refine zc_VE (As := [.int (nI (1)), .int (nI (a))]) (rest := []) ⟨hx, hb, hml, hown, hts⟩ (m_stop l G o w q 0 nd g pa be nm ed bx mn rw 1 (nI (a)) (by decide)) (cwV 2 hts (zgV wm_X11_71 wv_X11_stop) rfl rfl rfl (by decide +kernel) ⟨Nat.le_of_ble_eq_true rfl, Nat.le_of_ble_eq_true rfl⟩) hK hO rfl hP rfl hl.1 rfl (Nat.le_of_ble_eq_true rfl) dX11_value_57 ⟨Nat.zero_le _, Nat.zero_le _⟩ hS (fun _ h9 => h9) (fun H locs hP hz9 hk9 hS => ?_)
              obtain ⟨hO, -, -, -, h8⟩ := id hP
              refine W.eq (g2 := F0 m 60 ls ([])) rfl ?_
              refine lv_goto (tgt := 85) hx hb dX11_value_60 (by decide) ?_
              refine lv_iload_n hx hb dX11_value_85 rfl (lv_at hl 4 rfl) ?_
              refine lv_iload hx hb dX11_value_86 (lv_at hl 0 rfl) ?_
              refine zi_add hx hb dX11_value_88 ?_
              exact zr_ie hx hb hr hlocks (by first | (exfalso; omega) | rw [vaR, if_pos (Or.inr (Or.inr c_20)), vaN, if_neg c_26, if_neg c_36]) (by first | (exfalso; omega) | (rw [vaF, if_pos (Or.inr (Or.inr c_20)), vaN, if_neg c_26, if_neg c_36, if_pos c_51]; exact hP)) hS dX11_value_89
          · refine lv_bipush (v := nI 8) hx hb dX11_value_39 (by decide) ?_
            refine lv_goto (tgt := 45) hx hb dX11_value_41 (by decide) ?_
            refine lv_istore (lv' := [(5, .int (nI (8))), (4, .int (nI (last - a))), (0, .ref (o)), (1, .int (nI (k))), (2, .int (nI (a))), (3, .int (nI (last)))]) hx hb dX11_value_45 hl (by decide) rfl (fun ls hl => ?_)
            refine lv_iload hx hb dX11_value_47 (lv_at hl 1 rfl) ?_
            refine lv_iload hx hb dX11_value_49 (lv_at hl 0 rfl) ?_
            refine zi_icmp_ge (tgt := 63) hx hb dX11_value_51 (by decide) (by omega) (by omega) (fun c_51 => ?_) (fun c_51 => ?_)
            · refine lv_iload_n hx hb dX11_value_63 rfl (lv_at hl 3 rfl) ?_
              refine lv_bipush (v := nI 8) hx hb dX11_value_64 (by decide) ?_
              refine zi_icmp_ne (tgt := 85) hx hb dX11_value_66 (by decide) (by omega) (by omega) (fun c_66 => ?_) (fun c_66 => ?_)
              · refine lv_iload_n hx hb dX11_value_85 rfl (lv_at hl 4 rfl) ?_
                refine lv_iload hx hb dX11_value_86 (lv_at hl 0 rfl) ?_
                refine zi_add hx hb dX11_value_88 ?_
                exact zr_ie hx hb hr hlocks (by first | (exfalso; omega) | rw [vaR, if_pos (Or.inr (Or.inr c_20)), vaN, if_neg c_26, if_pos c_36]) (by first | (exfalso; omega) | (rw [vaF, if_pos (Or.inr (Or.inr c_20)), vaN, if_neg c_26, if_pos c_36, if_neg (by omega), if_neg (fun z => c_66 z.1)]; exact hP)) hS dX11_value_89
              · refine lv_aload_n hx hb dX11_value_69 rfl (lv_at hl 2 rfl) ?_
                refine zi_get (C := RX11) (T := TX11) (N := 23) (v := .ref (q 12)) hx hb hz wo_X11 hown hK hO rfl 12 (by decide) (hz _ wf_X11_26) (fun _ h9 => h9) rfl dX11_value_70 ?_
                refine lv_iload_n hx hb dX11_value_73 rfl (lv_at hl 4 rfl) ?_
                refine zi_ald hx hb hK hP.a12 (by omega) (by decide) dX11_value_74 ?_
                refine lv_iconst (v := nI 1) hx hb dX11_value_75 (by decide) ?_
                refine zi_icmp_le (tgt := 85) hx hb dX11_value_76 (by decide) (Nat.lt_trans (h8 _) (by decide)) (by omega) (fun c_76 => ?_) (fun c_76 => ?_)
                · refine lv_iload_n hx hb dX11_value_85 rfl (lv_at hl 4 rfl) ?_
                  refine lv_iload hx hb dX11_value_86 (lv_at hl 0 rfl) ?_
                  refine zi_add hx hb dX11_value_88 ?_
                  exact zr_ie hx hb hr hlocks (by first | (exfalso; omega) | rw [vaR, if_pos (Or.inr (Or.inr c_20)), vaN, if_neg c_26, if_pos c_36]) (by first | (exfalso; omega) | (rw [vaF, if_pos (Or.inr (Or.inr c_20)), vaN, if_neg c_26, if_pos c_36, if_neg (by omega), if_neg (fun z => by omega)]; exact hP)) hS dX11_value_89
                · refine lv_aload_n hx hb dX11_value_79 rfl (lv_at hl 2 rfl) ?_
                  refine lv_iconst (v := nI 5) hx hb dX11_value_80 (by decide) ?_
                  refine lv_iload_n hx hb dX11_value_81 rfl (lv_at hl 4 rfl) ?_
                  refine zc_VE (As := [.int (nI (5)), .int (nI (a))]) (rest := []) ⟨hx, hb, hml, hown, hts⟩ (m_stop l G o w q 0 nd g pa be nm ed bx mn rw 5 (nI (a)) (by decide)) (cwV 2 hts (zgV wm_X11_71 wv_X11_stop) rfl rfl rfl (by decide +kernel) ⟨Nat.le_of_ble_eq_true rfl, Nat.le_of_ble_eq_true rfl⟩) hK hO rfl hP rfl hl.1 rfl (Nat.le_of_ble_eq_true rfl) dX11_value_82 ⟨Nat.zero_le _, Nat.zero_le _⟩ hS (fun _ h9 => h9) (fun H locs hP hz9 hk9 hS => ?_)
                  obtain ⟨hO, -, -, -, h8⟩ := id hP
                  refine W.eq (g2 := F0 m 85 ls ([])) rfl ?_
                  refine lv_iload_n hx hb dX11_value_85 rfl (lv_at hl 4 rfl) ?_
                  refine lv_iload hx hb dX11_value_86 (lv_at hl 0 rfl) ?_
                  refine zi_add hx hb dX11_value_88 ?_
                  exact zr_ie hx hb hr hlocks (by first | (exfalso; omega) | rw [vaR, if_pos (Or.inr (Or.inr c_20)), vaN, if_neg c_26, if_pos c_36]) (by first | (exfalso; omega) | (rw [vaF, if_pos (Or.inr (Or.inr c_20)), vaN, if_neg c_26, if_pos c_36, if_neg (by omega), if_pos ⟨c_66, c_76⟩]; exact hP)) hS dX11_value_89
            · refine lv_aload_n hx hb dX11_value_54 rfl (lv_at hl 2 rfl) ?_
              refine lv_iconst (v := nI 1) hx hb dX11_value_55 (by decide) ?_
              refine lv_iload_n hx hb dX11_value_56 rfl (lv_at hl 4 rfl) ?_
              refine zc_VE (As := [.int (nI (1)), .int (nI (a))]) (rest := []) ⟨hx, hb, hml, hown, hts⟩ (m_stop l G o w q 0 nd g pa be nm ed bx mn rw 1 (nI (a)) (by decide)) (cwV 2 hts (zgV wm_X11_71 wv_X11_stop) rfl rfl rfl (by decide +kernel) ⟨Nat.le_of_ble_eq_true rfl, Nat.le_of_ble_eq_true rfl⟩) hK hO rfl hP rfl hl.1 rfl (Nat.le_of_ble_eq_true rfl) dX11_value_57 ⟨Nat.zero_le _, Nat.zero_le _⟩ hS (fun _ h9 => h9) (fun H locs hP hz9 hk9 hS => ?_)
              obtain ⟨hO, -, -, -, h8⟩ := id hP
              refine W.eq (g2 := F0 m 60 ls ([])) rfl ?_
              refine lv_goto (tgt := 85) hx hb dX11_value_60 (by decide) ?_
              refine lv_iload_n hx hb dX11_value_85 rfl (lv_at hl 4 rfl) ?_
              refine lv_iload hx hb dX11_value_86 (lv_at hl 0 rfl) ?_
              refine zi_add hx hb dX11_value_88 ?_
              exact zr_ie hx hb hr hlocks (by first | (exfalso; omega) | rw [vaR, if_pos (Or.inr (Or.inr c_20)), vaN, if_neg c_26, if_pos c_36]) (by first | (exfalso; omega) | (rw [vaF, if_pos (Or.inr (Or.inr c_20)), vaN, if_neg c_26, if_pos c_36, if_pos c_51]; exact hP)) hS dX11_value_89
        · refine lv_iconst (v := nI 4) hx hb dX11_value_29 (by decide) ?_
          refine lv_goto (tgt := 45) hx hb dX11_value_30 (by decide) ?_
          refine lv_istore (lv' := [(5, .int (nI (4))), (4, .int (nI (last - a))), (0, .ref (o)), (1, .int (nI (k))), (2, .int (nI (a))), (3, .int (nI (last)))]) hx hb dX11_value_45 hl (by decide) rfl (fun ls hl => ?_)
          refine lv_iload hx hb dX11_value_47 (lv_at hl 1 rfl) ?_
          refine lv_iload hx hb dX11_value_49 (lv_at hl 0 rfl) ?_
          refine zi_icmp_ge (tgt := 63) hx hb dX11_value_51 (by decide) (by omega) (by omega) (fun c_51 => ?_) (fun c_51 => ?_)
          · refine lv_iload_n hx hb dX11_value_63 rfl (lv_at hl 3 rfl) ?_
            refine lv_bipush (v := nI 8) hx hb dX11_value_64 (by decide) ?_
            refine zi_icmp_ne (tgt := 85) hx hb dX11_value_66 (by decide) (by omega) (by omega) (fun c_66 => ?_) (fun c_66 => ?_)
            · refine lv_iload_n hx hb dX11_value_85 rfl (lv_at hl 4 rfl) ?_
              refine lv_iload hx hb dX11_value_86 (lv_at hl 0 rfl) ?_
              refine zi_add hx hb dX11_value_88 ?_
              exact zr_ie hx hb hr hlocks (by first | (exfalso; omega) | rw [vaR, if_pos (Or.inr (Or.inr c_20)), vaN, if_pos c_26]) (by first | (exfalso; omega) | (rw [vaF, if_pos (Or.inr (Or.inr c_20)), vaN, if_pos c_26, if_neg (by omega), if_neg (fun z => c_66 z.1)]; exact hP)) hS dX11_value_89
            · refine lv_aload_n hx hb dX11_value_69 rfl (lv_at hl 2 rfl) ?_
              refine zi_get (C := RX11) (T := TX11) (N := 23) (v := .ref (q 12)) hx hb hz wo_X11 hown hK hO rfl 12 (by decide) (hz _ wf_X11_26) (fun _ h9 => h9) rfl dX11_value_70 ?_
              refine lv_iload_n hx hb dX11_value_73 rfl (lv_at hl 4 rfl) ?_
              refine zi_ald hx hb hK hP.a12 (by omega) (by decide) dX11_value_74 ?_
              refine lv_iconst (v := nI 1) hx hb dX11_value_75 (by decide) ?_
              refine zi_icmp_le (tgt := 85) hx hb dX11_value_76 (by decide) (Nat.lt_trans (h8 _) (by decide)) (by omega) (fun c_76 => ?_) (fun c_76 => ?_)
              · refine lv_iload_n hx hb dX11_value_85 rfl (lv_at hl 4 rfl) ?_
                refine lv_iload hx hb dX11_value_86 (lv_at hl 0 rfl) ?_
                refine zi_add hx hb dX11_value_88 ?_
                exact zr_ie hx hb hr hlocks (by first | (exfalso; omega) | rw [vaR, if_pos (Or.inr (Or.inr c_20)), vaN, if_pos c_26]) (by first | (exfalso; omega) | (rw [vaF, if_pos (Or.inr (Or.inr c_20)), vaN, if_pos c_26, if_neg (by omega), if_neg (fun z => by omega)]; exact hP)) hS dX11_value_89
              · refine lv_aload_n hx hb dX11_value_79 rfl (lv_at hl 2 rfl) ?_
                refine lv_iconst (v := nI 5) hx hb dX11_value_80 (by decide) ?_
                refine lv_iload_n hx hb dX11_value_81 rfl (lv_at hl 4 rfl) ?_
                refine zc_VE (As := [.int (nI (5)), .int (nI (a))]) (rest := []) ⟨hx, hb, hml, hown, hts⟩ (m_stop l G o w q 0 nd g pa be nm ed bx mn rw 5 (nI (a)) (by decide)) (cwV 2 hts (zgV wm_X11_71 wv_X11_stop) rfl rfl rfl (by decide +kernel) ⟨Nat.le_of_ble_eq_true rfl, Nat.le_of_ble_eq_true rfl⟩) hK hO rfl hP rfl hl.1 rfl (Nat.le_of_ble_eq_true rfl) dX11_value_82 ⟨Nat.zero_le _, Nat.zero_le _⟩ hS (fun _ h9 => h9) (fun H locs hP hz9 hk9 hS => ?_)
                obtain ⟨hO, -, -, -, h8⟩ := id hP
                refine W.eq (g2 := F0 m 85 ls ([])) rfl ?_
                refine lv_iload_n hx hb dX11_value_85 rfl (lv_at hl 4 rfl) ?_
                refine lv_iload hx hb dX11_value_86 (lv_at hl 0 rfl) ?_
                refine zi_add hx hb dX11_value_88 ?_
                exact zr_ie hx hb hr hlocks (by first | (exfalso; omega) | rw [vaR, if_pos (Or.inr (Or.inr c_20)), vaN, if_pos c_26]) (by first | (exfalso; omega) | (rw [vaF, if_pos (Or.inr (Or.inr c_20)), vaN, if_pos c_26, if_neg (by omega), if_pos ⟨c_66, c_76⟩]; exact hP)) hS dX11_value_89
          · refine lv_aload_n hx hb dX11_value_54 rfl (lv_at hl 2 rfl) ?_
            refine lv_iconst (v := nI 1) hx hb dX11_value_55 (by decide) ?_
            refine lv_iload_n hx hb dX11_value_56 rfl (lv_at hl 4 rfl) ?_
            refine zc_VE (As := [.int (nI (1)), .int (nI (a))]) (rest := []) ⟨hx, hb, hml, hown, hts⟩ (m_stop l G o w q 0 nd g pa be nm ed bx mn rw 1 (nI (a)) (by decide)) (cwV 2 hts (zgV wm_X11_71 wv_X11_stop) rfl rfl rfl (by decide +kernel) ⟨Nat.le_of_ble_eq_true rfl, Nat.le_of_ble_eq_true rfl⟩) hK hO rfl hP rfl hl.1 rfl (Nat.le_of_ble_eq_true rfl) dX11_value_57 ⟨Nat.zero_le _, Nat.zero_le _⟩ hS (fun _ h9 => h9) (fun H locs hP hz9 hk9 hS => ?_)
            obtain ⟨hO, -, -, -, h8⟩ := id hP
            refine W.eq (g2 := F0 m 60 ls ([])) rfl ?_
            refine lv_goto (tgt := 85) hx hb dX11_value_60 (by decide) ?_
            refine lv_iload_n hx hb dX11_value_85 rfl (lv_at hl 4 rfl) ?_
            refine lv_iload hx hb dX11_value_86 (lv_at hl 0 rfl) ?_
            refine zi_add hx hb dX11_value_88 ?_
            exact zr_ie hx hb hr hlocks (by first | (exfalso; omega) | rw [vaR, if_pos (Or.inr (Or.inr c_20)), vaN, if_pos c_26]) (by first | (exfalso; omega) | (rw [vaF, if_pos (Or.inr (Or.inr c_20)), vaN, if_pos c_26, if_pos c_51]; exact hP)) hS dX11_value_89

set_option maxHeartbeats 4000000 in
set_option maxRecDepth 100000 in
theorem m_opens (l : Launch) (G : zG) (o : Nat) (w : Nat → Value) (q : Nat → Nat) (fa nd : Nat) (g pa be nm ed bx mn rw : Nat → Nat) (a left op nn : Nat) (rb : Bool) (hal : a + left ≤ 2000) (hop : op ≤ 16) (hnn : nn < 1000) : Met l yX11_opens wsX11_opens ({ frames := 1, cells := 0, slots := 0, locals := 25 }) (zP G [.ref (o), .int (nI (a)), .int (nI (left)), .int (nI (op)), .int (nI (nn)), .int (nI (nB (rb)))] (fun H => MD G o w q 0 nd g pa be nm ed bx mn rw H)) (zQ (dAx o q) (some (.int (nI (nB (decide (opF g a left op = 0)))))) (fun H => MD G o w q (opF g a left op) nd g pa be nm (if opF g a left op = 0 then upN ed op (a + wh g a) else ed) (if opF g a left op = 0 then upN bx op nn else bx) (if opF g a left op = 0 then upN mn op 0 else mn) (if opF g a left op = 0 then upN rw op (nB rb) else rw) H)) 0 0 (dAx o q) := by
  refine Met.ofW (cc := cX11_opens) (maxL := 8) (ret := (some .boolean)) (by decide) rfl ?_
  intro p en s m args below meth c s₁ B hml hv
  obtain ⟨rfl, hP, hK⟩ := hv
  have hx := B.exec
  have hb := B.bytes
  have hr := B.returns
  have hts := atoms_spec (ws := wsX11_opens) B.pre
  have hz : ∀ w ∈ zW, w.before _ s = true := fun w h => hts w (List.mem_cons_of_mem _ h)
  have hown : s.vm.findClass RX11 = some m.cls := findClass_of_methodNamed B.named
  have hlocks := B.notSynchronized
  obtain ⟨hO, -, -, -, h8⟩ := id hP
  have hS : va_S (dAx o q) s.heap s.heap [] := va_S.rf
  have hl := lv_entry ([.ref (o), .int (nI (a)), .int (nI (left)), .int (nI (op)), .int (nI (nn)), .int (nI (nB (rb)))]) (n := 8) (Nat.le_of_ble_eq_true rfl)
  rw [lg_entry_eq]
  generalize (lg_sl ([.ref (o), .int (nI (a)), .int (nI (left)), .int (nI (op)), .int (nI (nn)), .int (nI (nB (rb)))]) ++ List.replicate (8 - (lg_sl ([.ref (o), .int (nI (a)), .int (nI (left)), .int (nI (op)), .int (nI (nn)), .int (nI (nB (rb)))])).length) Slot.unset).toArray = ls at hl ⊢
  have hl : lv_has ls 8 [(0, .ref (o)), (1, .int (nI (a))), (2, .int (nI (left))), (3, .int (nI (op))), (4, .int (nI (nn))), (5, .int (nI (nB (rb))))] := hl
  refine lv_iload_n hx hb dX11_opens_0 rfl (lv_at hl 2 rfl) ?_
  refine lv_iconst (v := nI 4) hx hb dX11_opens_1 (by decide) ?_
  refine zi_icmp_ge (tgt := 13) hx hb dX11_opens_2 (by decide) (by omega) (by omega) (fun c_2 => ?_) (fun c_2 => ?_)
  · refine lv_aload_n hx hb dX11_opens_13 rfl (lv_at hl 0 rfl) ?_
    refine lv_iload_n hx hb dX11_opens_14 rfl (lv_at hl 1 rfl) ?_
    refine lv_iconst (v := nI 4) hx hb dX11_opens_15 (by decide) ?_
    refine zc_V (As := [.int (nI (a)), .int (nI (4))]) (rest := []) ⟨hx, hb, hml, hown, hts⟩ (m_low l G o (q 12) (dF w q 0 nd) g a 4 (by decide) (by omega)) (cwV 2 hts (zgV wm_X11_75 wv_X11_low) rfl rfl rfl (by decide +kernel) ⟨Nat.le_of_ble_eq_true rfl, Nat.le_of_ble_eq_true rfl⟩) hK hO rfl ⟨hP.1, hP.a12, rfl, h8⟩ rfl hl.1 rfl (Nat.le_of_ble_eq_true rfl) dX11_opens_16 ⟨Nat.zero_le _, Nat.zero_le _⟩ ?_
    rw [lN_wh g a]
    refine lv_lstore (lv' := [(6, .long (lN (wh g a))), (0, .ref (o)), (1, .int (nI (a))), (2, .int (nI (left))), (3, .int (nI (op))), (4, .int (nI (nn))), (5, .int (nI (nB (rb))))]) hx hb dX11_opens_19 hl (by decide) rfl (fun ls hl => ?_)
    refine lv_lload hx hb dX11_opens_21 (lv_at hl 0 rfl) ?_
    refine lv_ldc2 (v := 5) hx hb hown (hz _ wk_X11_79) dX11_opens_23 ?_
    refine W.lcmp hx hb dX11_opens_26 ?_
    refine lv_if_lt (tgt := 42) hx hb dX11_opens_27 (by decide) (fun c_27 => ?_) (fun c_27 => ?_)
    · have hn5 := (cmp_lt h8 (by decide)).mp c_27
      refine lv_aload_n hx hb dX11_opens_42 rfl (lv_at hl 1 rfl) ?_
      refine lv_iconst (v := nI 2) hx hb dX11_opens_43 (by decide) ?_
      refine lv_iload_n hx hb dX11_opens_44 rfl (lv_at hl 2 rfl) ?_
      refine zc_VE (As := [.int (nI (2)), .int (nI (a))]) (rest := []) ⟨hx, hb, hml, hown, hts⟩ (m_stop l G o w q 0 nd g pa be nm ed bx mn rw 2 (nI (a)) (by decide)) (cwV 2 hts (zgV wm_X11_71 wv_X11_stop) rfl rfl rfl (by decide +kernel) ⟨Nat.le_of_ble_eq_true rfl, Nat.le_of_ble_eq_true rfl⟩) hK hO rfl hP rfl hl.1 rfl (Nat.le_of_ble_eq_true rfl) dX11_opens_45 ⟨Nat.zero_le _, Nat.zero_le _⟩ hS (fun _ h9 => h9) (fun H locs hP hz9 hk9 hS => ?_)
      obtain ⟨hO, -, -, -, h8⟩ := id hP
      refine W.eq (g2 := F0 m 48 ls ([])) rfl ?_
      refine lv_goto (tgt := 81) hx hb dX11_opens_48 (by decide) ?_
      have h0F : opF g a left op = 2 := by rw [opF, if_neg (Nat.not_lt.mpr c_2), if_pos (Or.inl hn5)]
      refine lv_aload_n hx hb dX11_opens_81 rfl (lv_at hl 1 rfl) ?_
      refine zi_get (C := RX11) (T := TX11) (N := 23) (v := .int (nI (dSt 0 2))) hx hb hz wo_X11 hown hK hO rfl 13 (by decide) (hz _ wf_X11_68) (fun _ h9 => h9) rfl dX11_opens_82 ?_
      refine zi_if_eq (tgt := 90) hx hb dX11_opens_85 (by decide) (by decide) (fun c_85 => ?_) (fun c_85 => ?_)
      · exact absurd c_85 (by decide)
      · refine lv_iconst (v := nI 0) hx hb dX11_opens_88 (by decide) ?_
        exact zr_ze hx hb hr hlocks (by rw [h0F]; rfl) (by rw [h0F, if_neg (by decide), if_neg (by decide), if_neg (by decide), if_neg (by decide)]; exact hP) hS dX11_opens_89
    · have hn5 : ¬ wh g a < 5 := fun z => c_27 ((cmp_lt h8 (y := 5) (by decide)).mpr z)
      refine lv_iload_n hx hb dX11_opens_30 rfl (lv_at hl 4 rfl) ?_
      refine zi_if_ne (tgt := 51) hx hb dX11_opens_31 (by decide) (by omega) (fun c_31 => ?_) (fun c_31 => ?_)
      · refine lv_lload hx hb dX11_opens_51 (lv_at hl 0 rfl) ?_
        refine lv_iload_n hx hb dX11_opens_53 rfl (lv_at hl 3 rfl) ?_
        refine lv_i2l (v := lN (left)) hx hb dX11_opens_54 (nI_l (by omega)) ?_
        refine W.lcmp hx hb dX11_opens_55 ?_
        refine lv_if_le (tgt := 68) hx hb dX11_opens_56 (by decide) (fun c_56 => ?_) (fun c_56 => ?_)
        · have hn7 : ¬ left < wh g a := Nat.not_lt.mpr ((cmp_le h8 (by omega)).mp c_56)
          refine lv_iload_n hx hb dX11_opens_68 rfl (lv_at hl 4 rfl) ?_
          refine lv_bipush (v := nI 16) hx hb dX11_opens_69 (by decide) ?_
          refine zi_icmp_ne (tgt := 81) hx hb dX11_opens_71 (by decide) (by omega) (by omega) (fun c_71 => ?_) (fun c_71 => ?_)
          · have h0F : opF g a left op = 0 := by rw [opF, if_neg (Nat.not_lt.mpr c_2), if_neg (fun z => z.elim hn5 (fun z => c_31 z.1)), if_neg hn7, if_neg c_71]
            refine lv_aload_n hx hb dX11_opens_81 rfl (lv_at hl 1 rfl) ?_
            refine zi_get (C := RX11) (T := TX11) (N := 23) (v := .int (nI (0))) hx hb hz wo_X11 hown hK hO rfl 13 (by decide) (hz _ wf_X11_68) (fun _ h9 => h9) rfl dX11_opens_82 ?_
            refine zi_if_eq (tgt := 90) hx hb dX11_opens_85 (by decide) (by decide) (fun c_85 => ?_) (fun c_85 => absurd c_85 (by decide))
            refine lv_aload_n hx hb dX11_opens_90 rfl (lv_at hl 1 rfl) ?_
            refine zi_get (C := RX11) (T := TX11) (N := 23) (v := .ref (q 18)) hx hb hz wo_X11 hown hK hO rfl 18 (by decide) (hz _ wf_X11_38) (fun _ h9 => h9) rfl dX11_opens_91 ?_
            refine lv_iload_n hx hb dX11_opens_94 rfl (lv_at hl 4 rfl) ?_
            refine lv_iload_n hx hb dX11_opens_95 rfl (lv_at hl 2 rfl) ?_
            refine lv_lload hx hb dX11_opens_96 (lv_at hl 0 rfl) ?_
            refine lv_l2i (v := nI (wh g a)) hx hb dX11_opens_98 (lN_i _) ?_
            refine zi_add hx hb dX11_opens_99 ?_
            refine zi_ast hx hb hK hP.a18 (by omega) (by decide) (A := (dAx o q)) (Or.inr ⟨18, by decide, rfl⟩) hS dX11_opens_100 (fun H locs _ hk9 hA9 hS => ?_)
            have hP : MD G o w q 0 nd g pa be nm (upN ed op (a + (wh g a))) bx mn rw H := hP.s18 hk9 hA9
            have hO := hP.1
            have h8 := hP.2.2.2.2
            refine lv_aload_n hx hb dX11_opens_101 rfl (lv_at hl 1 rfl) ?_
            refine zi_get (C := RX11) (T := TX11) (N := 23) (v := .ref (q 19)) hx hb hz wo_X11 hown hK hO rfl 19 (by decide) (hz _ wf_X11_41) (fun _ h9 => h9) rfl dX11_opens_102 ?_
            refine lv_iload_n hx hb dX11_opens_105 rfl (lv_at hl 4 rfl) ?_
            refine lv_iload hx hb dX11_opens_106 (lv_at hl 5 rfl) ?_
            refine zi_ast hx hb hK hP.a19 (by omega) (by decide) (A := (dAx o q)) (Or.inr ⟨19, by decide, rfl⟩) hS dX11_opens_108 (fun H locs _ hk9 hA9 hS => ?_)
            have hP : MD G o w q 0 nd g pa be nm (upN ed op (a + (wh g a))) (upN bx op nn) mn rw H := hP.s19 hk9 hA9
            have hO := hP.1
            have h8 := hP.2.2.2.2
            refine lv_aload_n hx hb dX11_opens_109 rfl (lv_at hl 1 rfl) ?_
            refine zi_get (C := RX11) (T := TX11) (N := 23) (v := .ref (q 20)) hx hb hz wo_X11 hown hK hO rfl 20 (by decide) (hz _ wf_X11_44) (fun _ h9 => h9) rfl dX11_opens_110 ?_
            refine lv_iload_n hx hb dX11_opens_113 rfl (lv_at hl 4 rfl) ?_
            refine lv_iconst (v := nI 0) hx hb dX11_opens_114 (by decide) ?_
            refine zi_ast hx hb hK hP.a20 (by omega) (by decide) (A := (dAx o q)) (Or.inr ⟨20, by decide, rfl⟩) hS dX11_opens_115 (fun H locs _ hk9 hA9 hS => ?_)
            have hP : MD G o w q 0 nd g pa be nm (upN ed op (a + (wh g a))) (upN bx op nn) (upN mn op 0) rw H := hP.s20 hk9 hA9
            have hO := hP.1
            have h8 := hP.2.2.2.2
            refine lv_aload_n hx hb dX11_opens_116 rfl (lv_at hl 1 rfl) ?_
            refine zi_get (C := RX11) (T := TX11) (N := 23) (v := .ref (q 21)) hx hb hz wo_X11 hown hK hO rfl 21 (by decide) (hz _ wf_X11_47) (fun _ h9 => h9) rfl dX11_opens_117 ?_
            refine lv_iload_n hx hb dX11_opens_120 rfl (lv_at hl 4 rfl) ?_
            refine lv_iload hx hb dX11_opens_121 (lv_at hl 6 rfl) ?_
            refine zb_if_eq (tgt := 130) hx hb dX11_opens_123 (by decide) (fun c_123 => ?_) (fun c_123 => ?_)
            · refine lv_iconst (v := nI 0) hx hb dX11_opens_130 (by decide) ?_
              refine zi_ast hx hb hK hP.a21 (by omega) (by decide) (A := (dAx o q)) (Or.inr ⟨21, by decide, rfl⟩) hS dX11_opens_131 (fun H locs _ hk9 hA9 hS => ?_)
              have hP : MD G o w q 0 nd g pa be nm (upN ed op (a + (wh g a))) (upN bx op nn) (upN mn op 0) (upN rw op 0) H := hP.s21 hk9 hA9
              have hO := hP.1
              have h8 := hP.2.2.2.2
              refine lv_iconst (v := nI 1) hx hb dX11_opens_132 (by decide) ?_
              exact zr_ze hx hb hr hlocks (by rw [h0F]; rfl) (by rw [h0F, if_pos rfl, if_pos rfl, if_pos rfl, if_pos rfl, c_123]; exact hP) hS dX11_opens_133
            · refine lv_iconst (v := nI 1) hx hb dX11_opens_126 (by decide) ?_
              refine lv_goto (tgt := 131) hx hb dX11_opens_127 (by decide) ?_
              refine zi_ast hx hb hK hP.a21 (by omega) (by decide) (A := (dAx o q)) (Or.inr ⟨21, by decide, rfl⟩) hS dX11_opens_131 (fun H locs _ hk9 hA9 hS => ?_)
              have hP : MD G o w q 0 nd g pa be nm (upN ed op (a + (wh g a))) (upN bx op nn) (upN mn op 0) (upN rw op 1) H := hP.s21 hk9 hA9
              have hO := hP.1
              have h8 := hP.2.2.2.2
              refine lv_iconst (v := nI 1) hx hb dX11_opens_132 (by decide) ?_
              exact zr_ze hx hb hr hlocks (by rw [h0F]; rfl) (by rw [h0F, if_pos rfl, if_pos rfl, if_pos rfl, if_pos rfl, c_123]; exact hP) hS dX11_opens_133
          · refine lv_aload_n hx hb dX11_opens_74 rfl (lv_at hl 1 rfl) ?_
            refine lv_bipush (v := nI 8) hx hb dX11_opens_75 (by decide) ?_
            refine lv_iload_n hx hb dX11_opens_77 rfl (lv_at hl 2 rfl) ?_
            refine zc_VE (As := [.int (nI (8)), .int (nI (a))]) (rest := []) ⟨hx, hb, hml, hown, hts⟩ (m_stop l G o w q 0 nd g pa be nm ed bx mn rw 8 (nI (a)) (by decide)) (cwV 2 hts (zgV wm_X11_71 wv_X11_stop) rfl rfl rfl (by decide +kernel) ⟨Nat.le_of_ble_eq_true rfl, Nat.le_of_ble_eq_true rfl⟩) hK hO rfl hP rfl hl.1 rfl (Nat.le_of_ble_eq_true rfl) dX11_opens_78 ⟨Nat.zero_le _, Nat.zero_le _⟩ hS (fun _ h9 => h9) (fun H locs hP hz9 hk9 hS => ?_)
            obtain ⟨hO, -, -, -, h8⟩ := id hP
            refine W.eq (g2 := F0 m 81 ls ([])) rfl ?_
            have h0F : opF g a left op = 8 := by rw [opF, if_neg (Nat.not_lt.mpr c_2), if_neg (fun z => z.elim hn5 (fun z => c_31 z.1)), if_neg hn7, if_pos c_71]
            refine lv_aload_n hx hb dX11_opens_81 rfl (lv_at hl 1 rfl) ?_
            refine zi_get (C := RX11) (T := TX11) (N := 23) (v := .int (nI (dSt 0 8))) hx hb hz wo_X11 hown hK hO rfl 13 (by decide) (hz _ wf_X11_68) (fun _ h9 => h9) rfl dX11_opens_82 ?_
            refine zi_if_eq (tgt := 90) hx hb dX11_opens_85 (by decide) (by decide) (fun c_85 => ?_) (fun c_85 => ?_)
            · exact absurd c_85 (by decide)
            · refine lv_iconst (v := nI 0) hx hb dX11_opens_88 (by decide) ?_
              exact zr_ze hx hb hr hlocks (by rw [h0F]; rfl) (by rw [h0F, if_neg (by decide), if_neg (by decide), if_neg (by decide), if_neg (by decide)]; exact hP) hS dX11_opens_89
        · have hn7 : left < wh g a := Nat.lt_of_not_le (fun z => c_56 ((cmp_le h8 (by omega)).mpr z))
          refine lv_aload_n hx hb dX11_opens_59 rfl (lv_at hl 1 rfl) ?_
          refine lv_iconst (v := nI 1) hx hb dX11_opens_60 (by decide) ?_
          refine lv_iload_n hx hb dX11_opens_61 rfl (lv_at hl 2 rfl) ?_
          refine zc_VE (As := [.int (nI (1)), .int (nI (a))]) (rest := []) ⟨hx, hb, hml, hown, hts⟩ (m_stop l G o w q 0 nd g pa be nm ed bx mn rw 1 (nI (a)) (by decide)) (cwV 2 hts (zgV wm_X11_71 wv_X11_stop) rfl rfl rfl (by decide +kernel) ⟨Nat.le_of_ble_eq_true rfl, Nat.le_of_ble_eq_true rfl⟩) hK hO rfl hP rfl hl.1 rfl (Nat.le_of_ble_eq_true rfl) dX11_opens_62 ⟨Nat.zero_le _, Nat.zero_le _⟩ hS (fun _ h9 => h9) (fun H locs hP hz9 hk9 hS => ?_)
          obtain ⟨hO, -, -, -, h8⟩ := id hP
          refine W.eq (g2 := F0 m 65 ls ([])) rfl ?_
          refine lv_goto (tgt := 81) hx hb dX11_opens_65 (by decide) ?_
          have h0F : opF g a left op = 1 := by rw [opF, if_neg (Nat.not_lt.mpr c_2), if_neg (fun z => z.elim hn5 (fun z => c_31 z.1)), if_pos hn7]
          refine lv_aload_n hx hb dX11_opens_81 rfl (lv_at hl 1 rfl) ?_
          refine zi_get (C := RX11) (T := TX11) (N := 23) (v := .int (nI (dSt 0 1))) hx hb hz wo_X11 hown hK hO rfl 13 (by decide) (hz _ wf_X11_68) (fun _ h9 => h9) rfl dX11_opens_82 ?_
          refine zi_if_eq (tgt := 90) hx hb dX11_opens_85 (by decide) (by decide) (fun c_85 => ?_) (fun c_85 => ?_)
          · exact absurd c_85 (by decide)
          · refine lv_iconst (v := nI 0) hx hb dX11_opens_88 (by decide) ?_
            exact zr_ze hx hb hr hlocks (by rw [h0F]; rfl) (by rw [h0F, if_neg (by decide), if_neg (by decide), if_neg (by decide), if_neg (by decide)]; exact hP) hS dX11_opens_89
      · refine lv_lload hx hb dX11_opens_34 (lv_at hl 0 rfl) ?_
        refine lv_iload_n hx hb dX11_opens_36 rfl (lv_at hl 3 rfl) ?_
        refine lv_i2l (v := lN (left)) hx hb dX11_opens_37 (nI_l (by omega)) ?_
        refine W.lcmp hx hb dX11_opens_38 ?_
        refine lv_if_ge (tgt := 51) hx hb dX11_opens_39 (by decide) (fun c_39 => ?_) (fun c_39 => ?_)
        · have hn6 : ¬ wh g a < left := Nat.not_lt.mpr ((cmp_ge h8 (by omega)).mp c_39)
          refine lv_lload hx hb dX11_opens_51 (lv_at hl 0 rfl) ?_
          refine lv_iload_n hx hb dX11_opens_53 rfl (lv_at hl 3 rfl) ?_
          refine lv_i2l (v := lN (left)) hx hb dX11_opens_54 (nI_l (by omega)) ?_
          refine W.lcmp hx hb dX11_opens_55 ?_
          refine lv_if_le (tgt := 68) hx hb dX11_opens_56 (by decide) (fun c_56 => ?_) (fun c_56 => ?_)
          · have hn7 : ¬ left < wh g a := Nat.not_lt.mpr ((cmp_le h8 (by omega)).mp c_56)
            refine lv_iload_n hx hb dX11_opens_68 rfl (lv_at hl 4 rfl) ?_
            refine lv_bipush (v := nI 16) hx hb dX11_opens_69 (by decide) ?_
            refine zi_icmp_ne (tgt := 81) hx hb dX11_opens_71 (by decide) (by omega) (by omega) (fun c_71 => ?_) (fun c_71 => ?_)
            · have h0F : opF g a left op = 0 := by rw [opF, if_neg (Nat.not_lt.mpr c_2), if_neg (fun z => z.elim hn5 (fun z => hn6 z.2)), if_neg hn7, if_neg c_71]
              refine lv_aload_n hx hb dX11_opens_81 rfl (lv_at hl 1 rfl) ?_
              refine zi_get (C := RX11) (T := TX11) (N := 23) (v := .int (nI (0))) hx hb hz wo_X11 hown hK hO rfl 13 (by decide) (hz _ wf_X11_68) (fun _ h9 => h9) rfl dX11_opens_82 ?_
              refine zi_if_eq (tgt := 90) hx hb dX11_opens_85 (by decide) (by decide) (fun c_85 => ?_) (fun c_85 => absurd c_85 (by decide))
              refine lv_aload_n hx hb dX11_opens_90 rfl (lv_at hl 1 rfl) ?_
              refine zi_get (C := RX11) (T := TX11) (N := 23) (v := .ref (q 18)) hx hb hz wo_X11 hown hK hO rfl 18 (by decide) (hz _ wf_X11_38) (fun _ h9 => h9) rfl dX11_opens_91 ?_
              refine lv_iload_n hx hb dX11_opens_94 rfl (lv_at hl 4 rfl) ?_
              refine lv_iload_n hx hb dX11_opens_95 rfl (lv_at hl 2 rfl) ?_
              refine lv_lload hx hb dX11_opens_96 (lv_at hl 0 rfl) ?_
              refine lv_l2i (v := nI (wh g a)) hx hb dX11_opens_98 (lN_i _) ?_
              refine zi_add hx hb dX11_opens_99 ?_
              refine zi_ast hx hb hK hP.a18 (by omega) (by decide) (A := (dAx o q)) (Or.inr ⟨18, by decide, rfl⟩) hS dX11_opens_100 (fun H locs _ hk9 hA9 hS => ?_)
              have hP : MD G o w q 0 nd g pa be nm (upN ed op (a + (wh g a))) bx mn rw H := hP.s18 hk9 hA9
              have hO := hP.1
              have h8 := hP.2.2.2.2
              refine lv_aload_n hx hb dX11_opens_101 rfl (lv_at hl 1 rfl) ?_
              refine zi_get (C := RX11) (T := TX11) (N := 23) (v := .ref (q 19)) hx hb hz wo_X11 hown hK hO rfl 19 (by decide) (hz _ wf_X11_41) (fun _ h9 => h9) rfl dX11_opens_102 ?_
              refine lv_iload_n hx hb dX11_opens_105 rfl (lv_at hl 4 rfl) ?_
              refine lv_iload hx hb dX11_opens_106 (lv_at hl 5 rfl) ?_
              refine zi_ast hx hb hK hP.a19 (by omega) (by decide) (A := (dAx o q)) (Or.inr ⟨19, by decide, rfl⟩) hS dX11_opens_108 (fun H locs _ hk9 hA9 hS => ?_)
              have hP : MD G o w q 0 nd g pa be nm (upN ed op (a + (wh g a))) (upN bx op nn) mn rw H := hP.s19 hk9 hA9
              have hO := hP.1
              have h8 := hP.2.2.2.2
              refine lv_aload_n hx hb dX11_opens_109 rfl (lv_at hl 1 rfl) ?_
              refine zi_get (C := RX11) (T := TX11) (N := 23) (v := .ref (q 20)) hx hb hz wo_X11 hown hK hO rfl 20 (by decide) (hz _ wf_X11_44) (fun _ h9 => h9) rfl dX11_opens_110 ?_
              refine lv_iload_n hx hb dX11_opens_113 rfl (lv_at hl 4 rfl) ?_
              refine lv_iconst (v := nI 0) hx hb dX11_opens_114 (by decide) ?_
              refine zi_ast hx hb hK hP.a20 (by omega) (by decide) (A := (dAx o q)) (Or.inr ⟨20, by decide, rfl⟩) hS dX11_opens_115 (fun H locs _ hk9 hA9 hS => ?_)
              have hP : MD G o w q 0 nd g pa be nm (upN ed op (a + (wh g a))) (upN bx op nn) (upN mn op 0) rw H := hP.s20 hk9 hA9
              have hO := hP.1
              have h8 := hP.2.2.2.2
              refine lv_aload_n hx hb dX11_opens_116 rfl (lv_at hl 1 rfl) ?_
              refine zi_get (C := RX11) (T := TX11) (N := 23) (v := .ref (q 21)) hx hb hz wo_X11 hown hK hO rfl 21 (by decide) (hz _ wf_X11_47) (fun _ h9 => h9) rfl dX11_opens_117 ?_
              refine lv_iload_n hx hb dX11_opens_120 rfl (lv_at hl 4 rfl) ?_
              refine lv_iload hx hb dX11_opens_121 (lv_at hl 6 rfl) ?_
              refine zb_if_eq (tgt := 130) hx hb dX11_opens_123 (by decide) (fun c_123 => ?_) (fun c_123 => ?_)
              · refine lv_iconst (v := nI 0) hx hb dX11_opens_130 (by decide) ?_
                refine zi_ast hx hb hK hP.a21 (by omega) (by decide) (A := (dAx o q)) (Or.inr ⟨21, by decide, rfl⟩) hS dX11_opens_131 (fun H locs _ hk9 hA9 hS => ?_)
                have hP : MD G o w q 0 nd g pa be nm (upN ed op (a + (wh g a))) (upN bx op nn) (upN mn op 0) (upN rw op 0) H := hP.s21 hk9 hA9
                have hO := hP.1
                have h8 := hP.2.2.2.2
                refine lv_iconst (v := nI 1) hx hb dX11_opens_132 (by decide) ?_
                exact zr_ze hx hb hr hlocks (by rw [h0F]; rfl) (by rw [h0F, if_pos rfl, if_pos rfl, if_pos rfl, if_pos rfl, c_123]; exact hP) hS dX11_opens_133
              · refine lv_iconst (v := nI 1) hx hb dX11_opens_126 (by decide) ?_
                refine lv_goto (tgt := 131) hx hb dX11_opens_127 (by decide) ?_
                refine zi_ast hx hb hK hP.a21 (by omega) (by decide) (A := (dAx o q)) (Or.inr ⟨21, by decide, rfl⟩) hS dX11_opens_131 (fun H locs _ hk9 hA9 hS => ?_)
                have hP : MD G o w q 0 nd g pa be nm (upN ed op (a + (wh g a))) (upN bx op nn) (upN mn op 0) (upN rw op 1) H := hP.s21 hk9 hA9
                have hO := hP.1
                have h8 := hP.2.2.2.2
                refine lv_iconst (v := nI 1) hx hb dX11_opens_132 (by decide) ?_
                exact zr_ze hx hb hr hlocks (by rw [h0F]; rfl) (by rw [h0F, if_pos rfl, if_pos rfl, if_pos rfl, if_pos rfl, c_123]; exact hP) hS dX11_opens_133
            · refine lv_aload_n hx hb dX11_opens_74 rfl (lv_at hl 1 rfl) ?_
              refine lv_bipush (v := nI 8) hx hb dX11_opens_75 (by decide) ?_
              refine lv_iload_n hx hb dX11_opens_77 rfl (lv_at hl 2 rfl) ?_
              refine zc_VE (As := [.int (nI (8)), .int (nI (a))]) (rest := []) ⟨hx, hb, hml, hown, hts⟩ (m_stop l G o w q 0 nd g pa be nm ed bx mn rw 8 (nI (a)) (by decide)) (cwV 2 hts (zgV wm_X11_71 wv_X11_stop) rfl rfl rfl (by decide +kernel) ⟨Nat.le_of_ble_eq_true rfl, Nat.le_of_ble_eq_true rfl⟩) hK hO rfl hP rfl hl.1 rfl (Nat.le_of_ble_eq_true rfl) dX11_opens_78 ⟨Nat.zero_le _, Nat.zero_le _⟩ hS (fun _ h9 => h9) (fun H locs hP hz9 hk9 hS => ?_)
              obtain ⟨hO, -, -, -, h8⟩ := id hP
              refine W.eq (g2 := F0 m 81 ls ([])) rfl ?_
              have h0F : opF g a left op = 8 := by rw [opF, if_neg (Nat.not_lt.mpr c_2), if_neg (fun z => z.elim hn5 (fun z => hn6 z.2)), if_neg hn7, if_pos c_71]
              refine lv_aload_n hx hb dX11_opens_81 rfl (lv_at hl 1 rfl) ?_
              refine zi_get (C := RX11) (T := TX11) (N := 23) (v := .int (nI (dSt 0 8))) hx hb hz wo_X11 hown hK hO rfl 13 (by decide) (hz _ wf_X11_68) (fun _ h9 => h9) rfl dX11_opens_82 ?_
              refine zi_if_eq (tgt := 90) hx hb dX11_opens_85 (by decide) (by decide) (fun c_85 => ?_) (fun c_85 => ?_)
              · exact absurd c_85 (by decide)
              · refine lv_iconst (v := nI 0) hx hb dX11_opens_88 (by decide) ?_
                exact zr_ze hx hb hr hlocks (by rw [h0F]; rfl) (by rw [h0F, if_neg (by decide), if_neg (by decide), if_neg (by decide), if_neg (by decide)]; exact hP) hS dX11_opens_89
          · have hn7 : left < wh g a := Nat.lt_of_not_le (fun z => c_56 ((cmp_le h8 (by omega)).mpr z))
            refine lv_aload_n hx hb dX11_opens_59 rfl (lv_at hl 1 rfl) ?_
            refine lv_iconst (v := nI 1) hx hb dX11_opens_60 (by decide) ?_
            refine lv_iload_n hx hb dX11_opens_61 rfl (lv_at hl 2 rfl) ?_
            refine zc_VE (As := [.int (nI (1)), .int (nI (a))]) (rest := []) ⟨hx, hb, hml, hown, hts⟩ (m_stop l G o w q 0 nd g pa be nm ed bx mn rw 1 (nI (a)) (by decide)) (cwV 2 hts (zgV wm_X11_71 wv_X11_stop) rfl rfl rfl (by decide +kernel) ⟨Nat.le_of_ble_eq_true rfl, Nat.le_of_ble_eq_true rfl⟩) hK hO rfl hP rfl hl.1 rfl (Nat.le_of_ble_eq_true rfl) dX11_opens_62 ⟨Nat.zero_le _, Nat.zero_le _⟩ hS (fun _ h9 => h9) (fun H locs hP hz9 hk9 hS => ?_)
            obtain ⟨hO, -, -, -, h8⟩ := id hP
            refine W.eq (g2 := F0 m 65 ls ([])) rfl ?_
            refine lv_goto (tgt := 81) hx hb dX11_opens_65 (by decide) ?_
            have h0F : opF g a left op = 1 := by rw [opF, if_neg (Nat.not_lt.mpr c_2), if_neg (fun z => z.elim hn5 (fun z => hn6 z.2)), if_pos hn7]
            refine lv_aload_n hx hb dX11_opens_81 rfl (lv_at hl 1 rfl) ?_
            refine zi_get (C := RX11) (T := TX11) (N := 23) (v := .int (nI (dSt 0 1))) hx hb hz wo_X11 hown hK hO rfl 13 (by decide) (hz _ wf_X11_68) (fun _ h9 => h9) rfl dX11_opens_82 ?_
            refine zi_if_eq (tgt := 90) hx hb dX11_opens_85 (by decide) (by decide) (fun c_85 => ?_) (fun c_85 => ?_)
            · exact absurd c_85 (by decide)
            · refine lv_iconst (v := nI 0) hx hb dX11_opens_88 (by decide) ?_
              exact zr_ze hx hb hr hlocks (by rw [h0F]; rfl) (by rw [h0F, if_neg (by decide), if_neg (by decide), if_neg (by decide), if_neg (by decide)]; exact hP) hS dX11_opens_89
        · have hn6 : wh g a < left := Nat.lt_of_not_le (fun z => c_39 ((cmp_ge h8 (by omega)).mpr z))
          refine lv_aload_n hx hb dX11_opens_42 rfl (lv_at hl 1 rfl) ?_
          refine lv_iconst (v := nI 2) hx hb dX11_opens_43 (by decide) ?_
          refine lv_iload_n hx hb dX11_opens_44 rfl (lv_at hl 2 rfl) ?_
          refine zc_VE (As := [.int (nI (2)), .int (nI (a))]) (rest := []) ⟨hx, hb, hml, hown, hts⟩ (m_stop l G o w q 0 nd g pa be nm ed bx mn rw 2 (nI (a)) (by decide)) (cwV 2 hts (zgV wm_X11_71 wv_X11_stop) rfl rfl rfl (by decide +kernel) ⟨Nat.le_of_ble_eq_true rfl, Nat.le_of_ble_eq_true rfl⟩) hK hO rfl hP rfl hl.1 rfl (Nat.le_of_ble_eq_true rfl) dX11_opens_45 ⟨Nat.zero_le _, Nat.zero_le _⟩ hS (fun _ h9 => h9) (fun H locs hP hz9 hk9 hS => ?_)
          obtain ⟨hO, -, -, -, h8⟩ := id hP
          refine W.eq (g2 := F0 m 48 ls ([])) rfl ?_
          refine lv_goto (tgt := 81) hx hb dX11_opens_48 (by decide) ?_
          have h0F : opF g a left op = 2 := by rw [opF, if_neg (Nat.not_lt.mpr c_2), if_pos (Or.inr ⟨c_31, hn6⟩)]
          refine lv_aload_n hx hb dX11_opens_81 rfl (lv_at hl 1 rfl) ?_
          refine zi_get (C := RX11) (T := TX11) (N := 23) (v := .int (nI (dSt 0 2))) hx hb hz wo_X11 hown hK hO rfl 13 (by decide) (hz _ wf_X11_68) (fun _ h9 => h9) rfl dX11_opens_82 ?_
          refine zi_if_eq (tgt := 90) hx hb dX11_opens_85 (by decide) (by decide) (fun c_85 => ?_) (fun c_85 => ?_)
          · exact absurd c_85 (by decide)
          · refine lv_iconst (v := nI 0) hx hb dX11_opens_88 (by decide) ?_
            exact zr_ze hx hb hr hlocks (by rw [h0F]; rfl) (by rw [h0F, if_neg (by decide), if_neg (by decide), if_neg (by decide), if_neg (by decide)]; exact hP) hS dX11_opens_89
  · refine lv_aload_n hx hb dX11_opens_5 rfl (lv_at hl 0 rfl) ?_
    refine lv_iconst (v := nI 1) hx hb dX11_opens_6 (by decide) ?_
    refine lv_iload_n hx hb dX11_opens_7 rfl (lv_at hl 1 rfl) ?_
    refine zc_VE (As := [.int (nI (1)), .int (nI (a))]) (rest := []) ⟨hx, hb, hml, hown, hts⟩ (m_stop l G o w q 0 nd g pa be nm ed bx mn rw 1 (nI (a)) (by decide)) (cwV 2 hts (zgV wm_X11_71 wv_X11_stop) rfl rfl rfl (by decide +kernel) ⟨Nat.le_of_ble_eq_true rfl, Nat.le_of_ble_eq_true rfl⟩) hK hO rfl hP rfl hl.1 rfl (Nat.le_of_ble_eq_true rfl) dX11_opens_8 ⟨Nat.zero_le _, Nat.zero_le _⟩ hS (fun _ h9 => h9) (fun H locs hP hz9 hk9 hS => ?_)
    obtain ⟨hO, -, -, -, h8⟩ := id hP
    refine W.eq (g2 := F0 m 11 ls ([])) rfl ?_
    have h0F : opF g a left op = 1 := by rw [opF, if_pos c_2]
    refine lv_iconst (v := nI 0) hx hb dX11_opens_11 (by decide) ?_
    exact zr_ze hx hb hr hlocks (by rw [h0F]; rfl) (by rw [h0F, if_neg (by decide), if_neg (by decide), if_neg (by decide), if_neg (by decide)]; exact hP) hS dX11_opens_12

set_option maxHeartbeats 4000000 in
set_option maxRecDepth 100000 in
theorem m_isName (l : Launch) (G : zG) (o : Nat) (w : Nat → Value) (q : Nat → Nat) (fa nd : Nat) (g pa be nm ed bx mn rw : Nat → Nat) (fr to op : Nat) (hft : fr ≤ to) (hto : to ≤ 2000) (hop : 1 ≤ op) (hop2 : op ≤ 16) (hn1 : nd ≤ 1000) (hnd : ∀ k, 1 ≤ k → k < nd → be k < nm k ∧ nm k ≤ 2000) (hpa : ∀ k, pa k < 2 ^ 30) (hbx : ∀ k, bx k < 2 ^ 30) (hmn : ∀ k, mn k < 2 ^ 30) (hrw : ∀ k, rw k < 2 ^ 30) : Met l yX11_isName wsX11_isName ({ frames := 3, cells := 0, slots := 0, locals := 67 }) (zP G [.ref (o), .int (nI (fr)), .int (nI (to)), .int (nI (op))] (fun H => MD G o w q fa nd g pa be nm ed bx mn rw H)) (zR (.int (nI (nB (if rw (op - 1) = 1 then isNu g fr to (mn (op - 1)) else nmU (nmS g pa be nm bx fr to op) (nd - 1) 1))))) 0 0 (fun _ => False) := by
  refine Met.ofW (cc := cX11_isName) (maxL := 7) (ret := (some .boolean)) (by decide) rfl ?_
  intro p en s m args below meth c s₁ B hml hv
  obtain ⟨rfl, hP, hK⟩ := hv
  have hx := B.exec
  have hb := B.bytes
  have hr := B.returns
  have hts := atoms_spec (ws := wsX11_isName) B.pre
  have hz : ∀ w ∈ zW, w.before _ s = true := fun w h => hts w (List.mem_cons_of_mem _ h)
  have hown : s.vm.findClass RX11 = some m.cls := findClass_of_methodNamed B.named
  have hlocks := B.notSynchronized
  obtain ⟨hO, -, -, -, h8⟩ := id hP
  have hl := lv_entry ([.ref (o), .int (nI (fr)), .int (nI (to)), .int (nI (op))]) (n := 7) (Nat.le_of_ble_eq_true rfl)
  rw [lg_entry_eq]
  generalize (lg_sl ([.ref (o), .int (nI (fr)), .int (nI (to)), .int (nI (op))]) ++ List.replicate (7 - (lg_sl ([.ref (o), .int (nI (fr)), .int (nI (to)), .int (nI (op))])).length) Slot.unset).toArray = ls at hl ⊢
  have hl : lv_has ls 7 [(0, .ref (o)), (1, .int (nI (fr))), (2, .int (nI (to))), (3, .int (nI (op)))] := hl
  refine lv_aload_n hx hb dX11_isName_0 rfl (lv_at hl 0 rfl) ?_
  refine zi_get (C := RX11) (T := TX11) (N := 23) (v := .ref (q 21)) hx hb hz wo_X11 hown hK hO rfl 21 (by decide) (hz _ wf_X11_47) (fun _ h9 => h9) rfl dX11_isName_1 ?_
  refine lv_iload_n hx hb dX11_isName_4 rfl (lv_at hl 3 rfl) ?_
  refine lv_iconst (v := nI 1) hx hb dX11_isName_5 (by decide) ?_
  refine zi_sub hx hb (by omega) dX11_isName_6 ?_
  refine zi_ald hx hb hK hP.a21 (by omega) (by decide) dX11_isName_7 ?_
  refine lv_iconst (v := nI 1) hx hb dX11_isName_8 (by decide) ?_
  refine zi_icmp_ne (tgt := 30) hx hb dX11_isName_9 (by decide) (Nat.lt_trans (hrw _) (by decide)) (by omega) (fun c_9 => ?_) (fun c_9 => ?_)
  · refine lv_iconst (v := nI 1) hx hb dX11_isName_30 (by decide) ?_
    refine lv_istore (lv' := [(4, .int (nI (1))), (0, .ref (o)), (1, .int (nI (fr))), (2, .int (nI (to))), (3, .int (nI (op)))]) hx hb dX11_isName_31 hl (by decide) rfl (fun ls hl => ?_)
    have L33 : ∀ (n_ : Nat) (k : Nat), nd - k < n_ → (1 ≤ k) → (k ≤ 1000) → (nmU (nmS g pa be nm bx fr to op) (nd - 1) 1 = nmU (nmS g pa be nm bx fr to op) (nd - k) k) → ∀ ls : Array Slot, lv_has ls 7 [(0, .ref (o)), (1, .int (nI (fr))), (2, .int (nI (to))), (3, .int (nI (op))), (4, .int (nI (k)))] → W p l en (headSpec wsX11_isName ({ frames := 3, cells := 0, slots := 0, locals := 67 })).room s m ([.ref (o), .int (nI (fr)), .int (nI (to)), .int (nI (op))] : List Value).toArray below meth c s.heap [] 0 0 (MQ below (zR (.int (nI (nB (if rw (op - 1) = 1 then isNu g fr to (mn (op - 1)) else nmU (nmS g pa be nm bx fr to op) (nd - 1) 1))))) ([.ref (o), .int (nI (fr)), .int (nI (to)), .int (nI (op))] : List Value).toArray s 0 0 (fun _ => False)) (F0 m 33 ls []) := by
      intro n_a
      induction n_a with
      | zero => intro k hm_; exact absurd hm_ (Nat.not_lt_zero _)
      | succ n_a ih_a =>
        intro k hm_a h1 hk9 hu ls hl
        refine lv_iload hx hb dX11_isName_33 (lv_at hl 4 rfl) ?_
        refine lv_aload_n hx hb dX11_isName_35 rfl (lv_at hl 0 rfl) ?_
        refine zi_get (C := RX11) (T := TX11) (N := 23) (v := .int (nI (nd))) hx hb hz wo_X11 hown hK hO rfl 14 (by decide) (hz _ wf_X11_81) (fun _ h9 => h9) rfl dX11_isName_36 ?_
        refine zi_icmp_ge (tgt := 161) hx hb dX11_isName_39 (by decide) (by omega) (by omega) (fun c_39 => ?_) (fun c_39 => ?_)
        · refine lv_iconst (v := nI 1) hx hb dX11_isName_161 (by decide) ?_
          exact zr_z hx hb hr hlocks (by rw [if_neg c_9, hu, show nd - k = 0 by omega]; rfl) dX11_isName_162
        · refine lv_aload_n hx hb dX11_isName_42 rfl (lv_at hl 0 rfl) ?_
          refine zi_get (C := RX11) (T := TX11) (N := 23) (v := .ref (q 15)) hx hb hz wo_X11 hown hK hO rfl 15 (by decide) (hz _ wf_X11_29) (fun _ h9 => h9) rfl dX11_isName_43 ?_
          refine lv_iload hx hb dX11_isName_46 (lv_at hl 4 rfl) ?_
          refine zi_ald hx hb hK hP.a15 (by omega) (by decide) dX11_isName_48 ?_
          refine lv_aload_n hx hb dX11_isName_49 rfl (lv_at hl 0 rfl) ?_
          refine zi_get (C := RX11) (T := TX11) (N := 23) (v := .ref (q 19)) hx hb hz wo_X11 hown hK hO rfl 19 (by decide) (hz _ wf_X11_41) (fun _ h9 => h9) rfl dX11_isName_50 ?_
          refine lv_iload_n hx hb dX11_isName_53 rfl (lv_at hl 3 rfl) ?_
          refine lv_iconst (v := nI 1) hx hb dX11_isName_54 (by decide) ?_
          refine zi_sub hx hb (by omega) dX11_isName_55 ?_
          refine zi_ald hx hb hK hP.a19 (by omega) (by decide) dX11_isName_56 ?_
          refine zi_icmp_ne (tgt := 87) hx hb dX11_isName_57 (by decide) (Nat.lt_trans (hpa _) (by decide)) (Nat.lt_trans (hbx _) (by decide)) (fun c_57 => ?_) (fun c_57 => ?_)
          · refine lv_iconst (v := nI 0) hx hb dX11_isName_87 (by decide) ?_
            refine lv_istore (lv' := [(5, .int (nI (0))), (0, .ref (o)), (1, .int (nI (fr))), (2, .int (nI (to))), (3, .int (nI (op))), (4, .int (nI (k)))]) hx hb dX11_isName_88 hl (by decide) rfl (fun ls hl => ?_)
            refine lv_iconst (v := nI 0) hx hb dX11_isName_90 (by decide) ?_
            refine lv_istore (lv' := [(6, .int (nI (0))), (5, .int (nI (0))), (0, .ref (o)), (1, .int (nI (fr))), (2, .int (nI (to))), (3, .int (nI (op))), (4, .int (nI (k)))]) hx hb dX11_isName_91 hl (by decide) rfl (fun ls hl => ?_)
            have L93 : ∀ (n_ : Nat) (i : Nat) (sm : Bool), to - fr - i < n_ → (i ≤ to - fr) → (sm = true → be k + 1 + (to - fr) ≤ 2000) → (nmS g pa be nm bx fr to op k = (sm && decide (sg g (be k + 1 + i) (to - fr - i) = sg g (fr + i) (to - fr - i)))) → ∀ ls : Array Slot, lv_has ls 7 [(0, .ref (o)), (1, .int (nI (fr))), (2, .int (nI (to))), (3, .int (nI (op))), (4, .int (nI (k))), (5, .int (nI (nB (sm)))), (6, .int (nI (i)))] → W p l en (headSpec wsX11_isName ({ frames := 3, cells := 0, slots := 0, locals := 67 })).room s m ([.ref (o), .int (nI (fr)), .int (nI (to)), .int (nI (op))] : List Value).toArray below meth c s.heap [] 0 0 (MQ below (zR (.int (nI (nB (if rw (op - 1) = 1 then isNu g fr to (mn (op - 1)) else nmU (nmS g pa be nm bx fr to op) (nd - 1) 1))))) ([.ref (o), .int (nI (fr)), .int (nI (to)), .int (nI (op))] : List Value).toArray s 0 0 (fun _ => False)) (F0 m 93 ls []) := by
              intro n_b
              induction n_b with
              | zero => intro i sm hm_; exact absurd hm_ (Nat.not_lt_zero _)
              | succ n_b ih_b =>
                intro i sm hm_b hi9 hle hsm ls hl
                refine lv_iload hx hb dX11_isName_93 (lv_at hl 6 rfl) ?_
                refine lv_iload_n hx hb dX11_isName_95 rfl (lv_at hl 2 rfl) ?_
                refine lv_iload_n hx hb dX11_isName_96 rfl (lv_at hl 1 rfl) ?_
                refine zi_sub hx hb (by omega) dX11_isName_97 ?_
                refine zi_icmp_ge (tgt := 148) hx hb dX11_isName_98 (by decide) (by omega) (by omega) (fun c_98 => ?_) (fun c_98 => ?_)
                · have hsk0 : nmS g pa be nm bx fr to op k = sm := by rw [hsm, decide_eq_true (show sg g (be k + 1 + i) (to - fr - i) = sg g (fr + i) (to - fr - i) from sg_nil (by omega) (by omega)), Bool.and_true]
                  refine lv_iload hx hb dX11_isName_148 (lv_at hl 5 rfl) ?_
                  refine zb_if_eq (tgt := 155) hx hb dX11_isName_150 (by decide) (fun c_150 => ?_) (fun c_150 => ?_)
                  · have hsk : nmS g pa be nm bx fr to op k = false := hsk0.trans c_150
                    refine lv_iinc (v := nI (k + 1)) (lv' := [(4, .int (nI (k + 1))), (0, .ref (o)), (1, .int (nI (fr))), (2, .int (nI (to))), (3, .int (nI (op))), (5, .int (nI (nB (sm)))), (6, .int (nI (i)))]) hx hb dX11_isName_155 hl (k := 4) rfl (nI_add _ _) (by decide) rfl (fun ls hl => ?_)
                    refine lv_goto (tgt := 33) hx hb dX11_isName_158 (by decide) ?_
                    exact ih_a (k + 1) (by omega) (by omega) (by omega) (by rw [hu, nmU_n (by omega) hsk]) ls (lv_sub hl [1, 2, 3, 4, 0] rfl)
                  · have hsk : nmS g pa be nm bx fr to op k = true := hsk0.trans c_150
                    refine lv_iconst (v := nI 0) hx hb dX11_isName_153 (by decide) ?_
                    exact zr_z hx hb hr hlocks (by rw [if_neg c_9, hu, nmU_y (by omega) hsk]; rfl) dX11_isName_154
                · refine lv_iload hx hb dX11_isName_101 (lv_at hl 5 rfl) ?_
                  refine zb_if_eq (tgt := 148) hx hb dX11_isName_103 (by decide) (fun c_103 => ?_) (fun c_103 => ?_)
                  · have hsk0 : nmS g pa be nm bx fr to op k = sm := by rw [hsm, c_103]; rfl
                    refine lv_iload hx hb dX11_isName_148 (lv_at hl 5 rfl) ?_
                    refine zb_if_eq (tgt := 155) hx hb dX11_isName_150 (by decide) (fun c_150 => ?_) (fun c_150 => ?_)
                    · have hsk : nmS g pa be nm bx fr to op k = false := hsk0.trans c_150
                      refine lv_iinc (v := nI (k + 1)) (lv' := [(4, .int (nI (k + 1))), (0, .ref (o)), (1, .int (nI (fr))), (2, .int (nI (to))), (3, .int (nI (op))), (5, .int (nI (nB (sm)))), (6, .int (nI (i)))]) hx hb dX11_isName_155 hl (k := 4) rfl (nI_add _ _) (by decide) rfl (fun ls hl => ?_)
                      refine lv_goto (tgt := 33) hx hb dX11_isName_158 (by decide) ?_
                      exact ih_a (k + 1) (by omega) (by omega) (by omega) (by rw [hu, nmU_n (by omega) hsk]) ls (lv_sub hl [1, 2, 3, 4, 0] rfl)
                    · have hsk : nmS g pa be nm bx fr to op k = true := hsk0.trans c_150
                      refine lv_iconst (v := nI 0) hx hb dX11_isName_153 (by decide) ?_
                      exact zr_z hx hb hr hlocks (by rw [if_neg c_9, hu, nmU_y (by omega) hsk]; rfl) dX11_isName_154
                  · refine lv_aload_n hx hb dX11_isName_106 rfl (lv_at hl 0 rfl) ?_
                    refine zi_get (C := RX11) (T := TX11) (N := 23) (v := .ref (q 12)) hx hb hz wo_X11 hown hK hO rfl 12 (by decide) (hz _ wf_X11_26) (fun _ h9 => h9) rfl dX11_isName_107 ?_
                    refine lv_aload_n hx hb dX11_isName_110 rfl (lv_at hl 0 rfl) ?_
                    refine zi_get (C := RX11) (T := TX11) (N := 23) (v := .ref (q 16)) hx hb hz wo_X11 hown hK hO rfl 16 (by decide) (hz _ wf_X11_32) (fun _ h9 => h9) rfl dX11_isName_111 ?_
                    refine lv_iload hx hb dX11_isName_114 (lv_at hl 4 rfl) ?_
                    refine zi_ald hx hb hK hP.a16 (by omega) (by decide) dX11_isName_116 ?_
                    refine lv_iconst (v := nI 1) hx hb dX11_isName_117 (by decide) ?_
                    refine zi_add hx hb dX11_isName_118 ?_
                    refine lv_iload hx hb dX11_isName_119 (lv_at hl 6 rfl) ?_
                    refine zi_add hx hb dX11_isName_121 ?_
                    refine zi_ald hx hb hK hP.a12 (by have := hle c_103; omega) (by decide) dX11_isName_122 ?_
                    refine lv_aload_n hx hb dX11_isName_123 rfl (lv_at hl 0 rfl) ?_
                    refine zi_get (C := RX11) (T := TX11) (N := 23) (v := .ref (q 12)) hx hb hz wo_X11 hown hK hO rfl 12 (by decide) (hz _ wf_X11_26) (fun _ h9 => h9) rfl dX11_isName_124 ?_
                    refine lv_iload_n hx hb dX11_isName_127 rfl (lv_at hl 1 rfl) ?_
                    refine lv_iload hx hb dX11_isName_128 (lv_at hl 6 rfl) ?_
                    refine zi_add hx hb dX11_isName_130 ?_
                    refine zi_ald hx hb hK hP.a12 (by omega) (by decide) dX11_isName_131 ?_
                    refine zi_icmp_ne (tgt := 139) hx hb dX11_isName_132 (by decide) (Nat.lt_trans (h8 _) (by decide)) (Nat.lt_trans (h8 _) (by decide)) (fun c_132 => ?_) (fun c_132 => ?_)
                    · refine lv_iconst (v := nI 0) hx hb dX11_isName_139 (by decide) ?_
                      refine lv_istore (lv' := [(5, .int (nI (0))), (0, .ref (o)), (1, .int (nI (fr))), (2, .int (nI (to))), (3, .int (nI (op))), (4, .int (nI (k))), (6, .int (nI (i)))]) hx hb dX11_isName_140 hl (by decide) rfl (fun ls hl => ?_)
                      refine lv_iinc (v := nI (i + 1)) (lv' := [(6, .int (nI (i + 1))), (5, .int (nI (0))), (0, .ref (o)), (1, .int (nI (fr))), (2, .int (nI (to))), (3, .int (nI (op))), (4, .int (nI (k)))]) hx hb dX11_isName_142 hl (k := 6) rfl (nI_add _ _) (by decide) rfl (fun ls hl => ?_)
                      refine lv_goto (tgt := 93) hx hb dX11_isName_145 (by decide) ?_
                      exact ih_b (i + 1) false (by omega) (by omega) (fun _ => hle c_103) (by rw [hsm, decide_eq_false (sg_ne1 (by omega) (by omega) c_132), Bool.and_false]; rfl) ls (lv_sub hl [2, 3, 4, 5, 6, 1, 0] rfl)
                    · refine lv_iconst (v := nI 1) hx hb dX11_isName_135 (by decide) ?_
                      refine lv_goto (tgt := 140) hx hb dX11_isName_136 (by decide) ?_
                      refine lv_istore (lv' := [(5, .int (nI (1))), (0, .ref (o)), (1, .int (nI (fr))), (2, .int (nI (to))), (3, .int (nI (op))), (4, .int (nI (k))), (6, .int (nI (i)))]) hx hb dX11_isName_140 hl (by decide) rfl (fun ls hl => ?_)
                      refine lv_iinc (v := nI (i + 1)) (lv' := [(6, .int (nI (i + 1))), (5, .int (nI (1))), (0, .ref (o)), (1, .int (nI (fr))), (2, .int (nI (to))), (3, .int (nI (op))), (4, .int (nI (k)))]) hx hb dX11_isName_142 hl (k := 6) rfl (nI_add _ _) (by decide) rfl (fun ls hl => ?_)
                      refine lv_goto (tgt := 93) hx hb dX11_isName_145 (by decide) ?_
                      exact ih_b (i + 1) true (by omega) (by omega) (fun _ => hle c_103) (by rw [hsm, c_103, decide_sg (by omega) c_132]) ls (lv_sub hl [2, 3, 4, 5, 6, 1, 0] rfl)
            exact L93 ((to - fr - 0) + 1) 0 false (Nat.lt_succ_self _) (Nat.zero_le _) (fun z => by cases z) (by rw [nmS, decide_eq_false (fun z => c_57 z.1)]; rfl) ls (lv_sub hl [2, 3, 4, 5, 6, 1, 0] rfl)
          · refine lv_aload_n hx hb dX11_isName_60 rfl (lv_at hl 0 rfl) ?_
            refine zi_get (C := RX11) (T := TX11) (N := 23) (v := .ref (q 17)) hx hb hz wo_X11 hown hK hO rfl 17 (by decide) (hz _ wf_X11_35) (fun _ h9 => h9) rfl dX11_isName_61 ?_
            refine lv_iload hx hb dX11_isName_64 (lv_at hl 4 rfl) ?_
            refine zi_ald hx hb hK hP.a17 (by omega) (by decide) dX11_isName_66 ?_
            refine lv_aload_n hx hb dX11_isName_67 rfl (lv_at hl 0 rfl) ?_
            refine zi_get (C := RX11) (T := TX11) (N := 23) (v := .ref (q 16)) hx hb hz wo_X11 hown hK hO rfl 16 (by decide) (hz _ wf_X11_32) (fun _ h9 => h9) rfl dX11_isName_68 ?_
            refine lv_iload hx hb dX11_isName_71 (lv_at hl 4 rfl) ?_
            refine zi_ald hx hb hK hP.a16 (by omega) (by decide) dX11_isName_73 ?_
            refine zi_sub hx hb (by have := hnd k h1 c_39; omega) dX11_isName_74 ?_
            refine lv_iconst (v := nI 1) hx hb dX11_isName_75 (by decide) ?_
            refine zi_sub hx hb (by have := hnd k h1 c_39; omega) dX11_isName_76 ?_
            refine lv_iload_n hx hb dX11_isName_77 rfl (lv_at hl 2 rfl) ?_
            refine lv_iload_n hx hb dX11_isName_78 rfl (lv_at hl 1 rfl) ?_
            refine zi_sub hx hb (by omega) dX11_isName_79 ?_
            refine zi_icmp_ne (tgt := 87) hx hb dX11_isName_80 (by decide) (by have := hnd k h1 c_39; omega) (by omega) (fun c_80 => ?_) (fun c_80 => ?_)
            · refine lv_iconst (v := nI 0) hx hb dX11_isName_87 (by decide) ?_
              refine lv_istore (lv' := [(5, .int (nI (0))), (0, .ref (o)), (1, .int (nI (fr))), (2, .int (nI (to))), (3, .int (nI (op))), (4, .int (nI (k)))]) hx hb dX11_isName_88 hl (by decide) rfl (fun ls hl => ?_)
              refine lv_iconst (v := nI 0) hx hb dX11_isName_90 (by decide) ?_
              refine lv_istore (lv' := [(6, .int (nI (0))), (5, .int (nI (0))), (0, .ref (o)), (1, .int (nI (fr))), (2, .int (nI (to))), (3, .int (nI (op))), (4, .int (nI (k)))]) hx hb dX11_isName_91 hl (by decide) rfl (fun ls hl => ?_)
              have L93 : ∀ (n_ : Nat) (i : Nat) (sm : Bool), to - fr - i < n_ → (i ≤ to - fr) → (sm = true → be k + 1 + (to - fr) ≤ 2000) → (nmS g pa be nm bx fr to op k = (sm && decide (sg g (be k + 1 + i) (to - fr - i) = sg g (fr + i) (to - fr - i)))) → ∀ ls : Array Slot, lv_has ls 7 [(0, .ref (o)), (1, .int (nI (fr))), (2, .int (nI (to))), (3, .int (nI (op))), (4, .int (nI (k))), (5, .int (nI (nB (sm)))), (6, .int (nI (i)))] → W p l en (headSpec wsX11_isName ({ frames := 3, cells := 0, slots := 0, locals := 67 })).room s m ([.ref (o), .int (nI (fr)), .int (nI (to)), .int (nI (op))] : List Value).toArray below meth c s.heap [] 0 0 (MQ below (zR (.int (nI (nB (if rw (op - 1) = 1 then isNu g fr to (mn (op - 1)) else nmU (nmS g pa be nm bx fr to op) (nd - 1) 1))))) ([.ref (o), .int (nI (fr)), .int (nI (to)), .int (nI (op))] : List Value).toArray s 0 0 (fun _ => False)) (F0 m 93 ls []) := by
                intro n_b
                induction n_b with
                | zero => intro i sm hm_; exact absurd hm_ (Nat.not_lt_zero _)
                | succ n_b ih_b =>
                  intro i sm hm_b hi9 hle hsm ls hl
                  refine lv_iload hx hb dX11_isName_93 (lv_at hl 6 rfl) ?_
                  refine lv_iload_n hx hb dX11_isName_95 rfl (lv_at hl 2 rfl) ?_
                  refine lv_iload_n hx hb dX11_isName_96 rfl (lv_at hl 1 rfl) ?_
                  refine zi_sub hx hb (by omega) dX11_isName_97 ?_
                  refine zi_icmp_ge (tgt := 148) hx hb dX11_isName_98 (by decide) (by omega) (by omega) (fun c_98 => ?_) (fun c_98 => ?_)
                  · have hsk0 : nmS g pa be nm bx fr to op k = sm := by rw [hsm, decide_eq_true (show sg g (be k + 1 + i) (to - fr - i) = sg g (fr + i) (to - fr - i) from sg_nil (by omega) (by omega)), Bool.and_true]
                    refine lv_iload hx hb dX11_isName_148 (lv_at hl 5 rfl) ?_
                    refine zb_if_eq (tgt := 155) hx hb dX11_isName_150 (by decide) (fun c_150 => ?_) (fun c_150 => ?_)
                    · have hsk : nmS g pa be nm bx fr to op k = false := hsk0.trans c_150
                      refine lv_iinc (v := nI (k + 1)) (lv' := [(4, .int (nI (k + 1))), (0, .ref (o)), (1, .int (nI (fr))), (2, .int (nI (to))), (3, .int (nI (op))), (5, .int (nI (nB (sm)))), (6, .int (nI (i)))]) hx hb dX11_isName_155 hl (k := 4) rfl (nI_add _ _) (by decide) rfl (fun ls hl => ?_)
                      refine lv_goto (tgt := 33) hx hb dX11_isName_158 (by decide) ?_
                      exact ih_a (k + 1) (by omega) (by omega) (by omega) (by rw [hu, nmU_n (by omega) hsk]) ls (lv_sub hl [1, 2, 3, 4, 0] rfl)
                    · have hsk : nmS g pa be nm bx fr to op k = true := hsk0.trans c_150
                      refine lv_iconst (v := nI 0) hx hb dX11_isName_153 (by decide) ?_
                      exact zr_z hx hb hr hlocks (by rw [if_neg c_9, hu, nmU_y (by omega) hsk]; rfl) dX11_isName_154
                  · refine lv_iload hx hb dX11_isName_101 (lv_at hl 5 rfl) ?_
                    refine zb_if_eq (tgt := 148) hx hb dX11_isName_103 (by decide) (fun c_103 => ?_) (fun c_103 => ?_)
                    · have hsk0 : nmS g pa be nm bx fr to op k = sm := by rw [hsm, c_103]; rfl
                      refine lv_iload hx hb dX11_isName_148 (lv_at hl 5 rfl) ?_
                      refine zb_if_eq (tgt := 155) hx hb dX11_isName_150 (by decide) (fun c_150 => ?_) (fun c_150 => ?_)
                      · have hsk : nmS g pa be nm bx fr to op k = false := hsk0.trans c_150
                        refine lv_iinc (v := nI (k + 1)) (lv' := [(4, .int (nI (k + 1))), (0, .ref (o)), (1, .int (nI (fr))), (2, .int (nI (to))), (3, .int (nI (op))), (5, .int (nI (nB (sm)))), (6, .int (nI (i)))]) hx hb dX11_isName_155 hl (k := 4) rfl (nI_add _ _) (by decide) rfl (fun ls hl => ?_)
                        refine lv_goto (tgt := 33) hx hb dX11_isName_158 (by decide) ?_
                        exact ih_a (k + 1) (by omega) (by omega) (by omega) (by rw [hu, nmU_n (by omega) hsk]) ls (lv_sub hl [1, 2, 3, 4, 0] rfl)
                      · have hsk : nmS g pa be nm bx fr to op k = true := hsk0.trans c_150
                        refine lv_iconst (v := nI 0) hx hb dX11_isName_153 (by decide) ?_
                        exact zr_z hx hb hr hlocks (by rw [if_neg c_9, hu, nmU_y (by omega) hsk]; rfl) dX11_isName_154
                    · refine lv_aload_n hx hb dX11_isName_106 rfl (lv_at hl 0 rfl) ?_
                      refine zi_get (C := RX11) (T := TX11) (N := 23) (v := .ref (q 12)) hx hb hz wo_X11 hown hK hO rfl 12 (by decide) (hz _ wf_X11_26) (fun _ h9 => h9) rfl dX11_isName_107 ?_
                      refine lv_aload_n hx hb dX11_isName_110 rfl (lv_at hl 0 rfl) ?_
                      refine zi_get (C := RX11) (T := TX11) (N := 23) (v := .ref (q 16)) hx hb hz wo_X11 hown hK hO rfl 16 (by decide) (hz _ wf_X11_32) (fun _ h9 => h9) rfl dX11_isName_111 ?_
                      refine lv_iload hx hb dX11_isName_114 (lv_at hl 4 rfl) ?_
                      refine zi_ald hx hb hK hP.a16 (by omega) (by decide) dX11_isName_116 ?_
                      refine lv_iconst (v := nI 1) hx hb dX11_isName_117 (by decide) ?_
                      refine zi_add hx hb dX11_isName_118 ?_
                      refine lv_iload hx hb dX11_isName_119 (lv_at hl 6 rfl) ?_
                      refine zi_add hx hb dX11_isName_121 ?_
                      refine zi_ald hx hb hK hP.a12 (by have := hle c_103; omega) (by decide) dX11_isName_122 ?_
                      refine lv_aload_n hx hb dX11_isName_123 rfl (lv_at hl 0 rfl) ?_
                      refine zi_get (C := RX11) (T := TX11) (N := 23) (v := .ref (q 12)) hx hb hz wo_X11 hown hK hO rfl 12 (by decide) (hz _ wf_X11_26) (fun _ h9 => h9) rfl dX11_isName_124 ?_
                      refine lv_iload_n hx hb dX11_isName_127 rfl (lv_at hl 1 rfl) ?_
                      refine lv_iload hx hb dX11_isName_128 (lv_at hl 6 rfl) ?_
                      refine zi_add hx hb dX11_isName_130 ?_
                      refine zi_ald hx hb hK hP.a12 (by omega) (by decide) dX11_isName_131 ?_
                      refine zi_icmp_ne (tgt := 139) hx hb dX11_isName_132 (by decide) (Nat.lt_trans (h8 _) (by decide)) (Nat.lt_trans (h8 _) (by decide)) (fun c_132 => ?_) (fun c_132 => ?_)
                      · refine lv_iconst (v := nI 0) hx hb dX11_isName_139 (by decide) ?_
                        refine lv_istore (lv' := [(5, .int (nI (0))), (0, .ref (o)), (1, .int (nI (fr))), (2, .int (nI (to))), (3, .int (nI (op))), (4, .int (nI (k))), (6, .int (nI (i)))]) hx hb dX11_isName_140 hl (by decide) rfl (fun ls hl => ?_)
                        refine lv_iinc (v := nI (i + 1)) (lv' := [(6, .int (nI (i + 1))), (5, .int (nI (0))), (0, .ref (o)), (1, .int (nI (fr))), (2, .int (nI (to))), (3, .int (nI (op))), (4, .int (nI (k)))]) hx hb dX11_isName_142 hl (k := 6) rfl (nI_add _ _) (by decide) rfl (fun ls hl => ?_)
                        refine lv_goto (tgt := 93) hx hb dX11_isName_145 (by decide) ?_
                        exact ih_b (i + 1) false (by omega) (by omega) (fun _ => hle c_103) (by rw [hsm, decide_eq_false (sg_ne1 (by omega) (by omega) c_132), Bool.and_false]; rfl) ls (lv_sub hl [2, 3, 4, 5, 6, 1, 0] rfl)
                      · refine lv_iconst (v := nI 1) hx hb dX11_isName_135 (by decide) ?_
                        refine lv_goto (tgt := 140) hx hb dX11_isName_136 (by decide) ?_
                        refine lv_istore (lv' := [(5, .int (nI (1))), (0, .ref (o)), (1, .int (nI (fr))), (2, .int (nI (to))), (3, .int (nI (op))), (4, .int (nI (k))), (6, .int (nI (i)))]) hx hb dX11_isName_140 hl (by decide) rfl (fun ls hl => ?_)
                        refine lv_iinc (v := nI (i + 1)) (lv' := [(6, .int (nI (i + 1))), (5, .int (nI (1))), (0, .ref (o)), (1, .int (nI (fr))), (2, .int (nI (to))), (3, .int (nI (op))), (4, .int (nI (k)))]) hx hb dX11_isName_142 hl (k := 6) rfl (nI_add _ _) (by decide) rfl (fun ls hl => ?_)
                        refine lv_goto (tgt := 93) hx hb dX11_isName_145 (by decide) ?_
                        exact ih_b (i + 1) true (by omega) (by omega) (fun _ => hle c_103) (by rw [hsm, c_103, decide_sg (by omega) c_132]) ls (lv_sub hl [2, 3, 4, 5, 6, 1, 0] rfl)
              exact L93 ((to - fr - 0) + 1) 0 false (Nat.lt_succ_self _) (Nat.zero_le _) (fun z => by cases z) (by rw [nmS, decide_eq_false (fun z => c_80 z.2)]; rfl) ls (lv_sub hl [2, 3, 4, 5, 6, 1, 0] rfl)
            · refine lv_iconst (v := nI 1) hx hb dX11_isName_83 (by decide) ?_
              refine lv_goto (tgt := 88) hx hb dX11_isName_84 (by decide) ?_
              refine lv_istore (lv' := [(5, .int (nI (1))), (0, .ref (o)), (1, .int (nI (fr))), (2, .int (nI (to))), (3, .int (nI (op))), (4, .int (nI (k)))]) hx hb dX11_isName_88 hl (by decide) rfl (fun ls hl => ?_)
              refine lv_iconst (v := nI 0) hx hb dX11_isName_90 (by decide) ?_
              refine lv_istore (lv' := [(6, .int (nI (0))), (5, .int (nI (1))), (0, .ref (o)), (1, .int (nI (fr))), (2, .int (nI (to))), (3, .int (nI (op))), (4, .int (nI (k)))]) hx hb dX11_isName_91 hl (by decide) rfl (fun ls hl => ?_)
              have L93 : ∀ (n_ : Nat) (i : Nat) (sm : Bool), to - fr - i < n_ → (i ≤ to - fr) → (sm = true → be k + 1 + (to - fr) ≤ 2000) → (nmS g pa be nm bx fr to op k = (sm && decide (sg g (be k + 1 + i) (to - fr - i) = sg g (fr + i) (to - fr - i)))) → ∀ ls : Array Slot, lv_has ls 7 [(0, .ref (o)), (1, .int (nI (fr))), (2, .int (nI (to))), (3, .int (nI (op))), (4, .int (nI (k))), (5, .int (nI (nB (sm)))), (6, .int (nI (i)))] → W p l en (headSpec wsX11_isName ({ frames := 3, cells := 0, slots := 0, locals := 67 })).room s m ([.ref (o), .int (nI (fr)), .int (nI (to)), .int (nI (op))] : List Value).toArray below meth c s.heap [] 0 0 (MQ below (zR (.int (nI (nB (if rw (op - 1) = 1 then isNu g fr to (mn (op - 1)) else nmU (nmS g pa be nm bx fr to op) (nd - 1) 1))))) ([.ref (o), .int (nI (fr)), .int (nI (to)), .int (nI (op))] : List Value).toArray s 0 0 (fun _ => False)) (F0 m 93 ls []) := by
                intro n_b
                induction n_b with
                | zero => intro i sm hm_; exact absurd hm_ (Nat.not_lt_zero _)
                | succ n_b ih_b =>
                  intro i sm hm_b hi9 hle hsm ls hl
                  refine lv_iload hx hb dX11_isName_93 (lv_at hl 6 rfl) ?_
                  refine lv_iload_n hx hb dX11_isName_95 rfl (lv_at hl 2 rfl) ?_
                  refine lv_iload_n hx hb dX11_isName_96 rfl (lv_at hl 1 rfl) ?_
                  refine zi_sub hx hb (by omega) dX11_isName_97 ?_
                  refine zi_icmp_ge (tgt := 148) hx hb dX11_isName_98 (by decide) (by omega) (by omega) (fun c_98 => ?_) (fun c_98 => ?_)
                  · have hsk0 : nmS g pa be nm bx fr to op k = sm := by rw [hsm, decide_eq_true (show sg g (be k + 1 + i) (to - fr - i) = sg g (fr + i) (to - fr - i) from sg_nil (by omega) (by omega)), Bool.and_true]
                    refine lv_iload hx hb dX11_isName_148 (lv_at hl 5 rfl) ?_
                    refine zb_if_eq (tgt := 155) hx hb dX11_isName_150 (by decide) (fun c_150 => ?_) (fun c_150 => ?_)
                    · have hsk : nmS g pa be nm bx fr to op k = false := hsk0.trans c_150
                      refine lv_iinc (v := nI (k + 1)) (lv' := [(4, .int (nI (k + 1))), (0, .ref (o)), (1, .int (nI (fr))), (2, .int (nI (to))), (3, .int (nI (op))), (5, .int (nI (nB (sm)))), (6, .int (nI (i)))]) hx hb dX11_isName_155 hl (k := 4) rfl (nI_add _ _) (by decide) rfl (fun ls hl => ?_)
                      refine lv_goto (tgt := 33) hx hb dX11_isName_158 (by decide) ?_
                      exact ih_a (k + 1) (by omega) (by omega) (by omega) (by rw [hu, nmU_n (by omega) hsk]) ls (lv_sub hl [1, 2, 3, 4, 0] rfl)
                    · have hsk : nmS g pa be nm bx fr to op k = true := hsk0.trans c_150
                      refine lv_iconst (v := nI 0) hx hb dX11_isName_153 (by decide) ?_
                      exact zr_z hx hb hr hlocks (by rw [if_neg c_9, hu, nmU_y (by omega) hsk]; rfl) dX11_isName_154
                  · refine lv_iload hx hb dX11_isName_101 (lv_at hl 5 rfl) ?_
                    refine zb_if_eq (tgt := 148) hx hb dX11_isName_103 (by decide) (fun c_103 => ?_) (fun c_103 => ?_)
                    · have hsk0 : nmS g pa be nm bx fr to op k = sm := by rw [hsm, c_103]; rfl
                      refine lv_iload hx hb dX11_isName_148 (lv_at hl 5 rfl) ?_
                      refine zb_if_eq (tgt := 155) hx hb dX11_isName_150 (by decide) (fun c_150 => ?_) (fun c_150 => ?_)
                      · have hsk : nmS g pa be nm bx fr to op k = false := hsk0.trans c_150
                        refine lv_iinc (v := nI (k + 1)) (lv' := [(4, .int (nI (k + 1))), (0, .ref (o)), (1, .int (nI (fr))), (2, .int (nI (to))), (3, .int (nI (op))), (5, .int (nI (nB (sm)))), (6, .int (nI (i)))]) hx hb dX11_isName_155 hl (k := 4) rfl (nI_add _ _) (by decide) rfl (fun ls hl => ?_)
                        refine lv_goto (tgt := 33) hx hb dX11_isName_158 (by decide) ?_
                        exact ih_a (k + 1) (by omega) (by omega) (by omega) (by rw [hu, nmU_n (by omega) hsk]) ls (lv_sub hl [1, 2, 3, 4, 0] rfl)
                      · have hsk : nmS g pa be nm bx fr to op k = true := hsk0.trans c_150
                        refine lv_iconst (v := nI 0) hx hb dX11_isName_153 (by decide) ?_
                        exact zr_z hx hb hr hlocks (by rw [if_neg c_9, hu, nmU_y (by omega) hsk]; rfl) dX11_isName_154
                    · refine lv_aload_n hx hb dX11_isName_106 rfl (lv_at hl 0 rfl) ?_
                      refine zi_get (C := RX11) (T := TX11) (N := 23) (v := .ref (q 12)) hx hb hz wo_X11 hown hK hO rfl 12 (by decide) (hz _ wf_X11_26) (fun _ h9 => h9) rfl dX11_isName_107 ?_
                      refine lv_aload_n hx hb dX11_isName_110 rfl (lv_at hl 0 rfl) ?_
                      refine zi_get (C := RX11) (T := TX11) (N := 23) (v := .ref (q 16)) hx hb hz wo_X11 hown hK hO rfl 16 (by decide) (hz _ wf_X11_32) (fun _ h9 => h9) rfl dX11_isName_111 ?_
                      refine lv_iload hx hb dX11_isName_114 (lv_at hl 4 rfl) ?_
                      refine zi_ald hx hb hK hP.a16 (by omega) (by decide) dX11_isName_116 ?_
                      refine lv_iconst (v := nI 1) hx hb dX11_isName_117 (by decide) ?_
                      refine zi_add hx hb dX11_isName_118 ?_
                      refine lv_iload hx hb dX11_isName_119 (lv_at hl 6 rfl) ?_
                      refine zi_add hx hb dX11_isName_121 ?_
                      refine zi_ald hx hb hK hP.a12 (by have := hle c_103; omega) (by decide) dX11_isName_122 ?_
                      refine lv_aload_n hx hb dX11_isName_123 rfl (lv_at hl 0 rfl) ?_
                      refine zi_get (C := RX11) (T := TX11) (N := 23) (v := .ref (q 12)) hx hb hz wo_X11 hown hK hO rfl 12 (by decide) (hz _ wf_X11_26) (fun _ h9 => h9) rfl dX11_isName_124 ?_
                      refine lv_iload_n hx hb dX11_isName_127 rfl (lv_at hl 1 rfl) ?_
                      refine lv_iload hx hb dX11_isName_128 (lv_at hl 6 rfl) ?_
                      refine zi_add hx hb dX11_isName_130 ?_
                      refine zi_ald hx hb hK hP.a12 (by omega) (by decide) dX11_isName_131 ?_
                      refine zi_icmp_ne (tgt := 139) hx hb dX11_isName_132 (by decide) (Nat.lt_trans (h8 _) (by decide)) (Nat.lt_trans (h8 _) (by decide)) (fun c_132 => ?_) (fun c_132 => ?_)
                      · refine lv_iconst (v := nI 0) hx hb dX11_isName_139 (by decide) ?_
                        refine lv_istore (lv' := [(5, .int (nI (0))), (0, .ref (o)), (1, .int (nI (fr))), (2, .int (nI (to))), (3, .int (nI (op))), (4, .int (nI (k))), (6, .int (nI (i)))]) hx hb dX11_isName_140 hl (by decide) rfl (fun ls hl => ?_)
                        refine lv_iinc (v := nI (i + 1)) (lv' := [(6, .int (nI (i + 1))), (5, .int (nI (0))), (0, .ref (o)), (1, .int (nI (fr))), (2, .int (nI (to))), (3, .int (nI (op))), (4, .int (nI (k)))]) hx hb dX11_isName_142 hl (k := 6) rfl (nI_add _ _) (by decide) rfl (fun ls hl => ?_)
                        refine lv_goto (tgt := 93) hx hb dX11_isName_145 (by decide) ?_
                        exact ih_b (i + 1) false (by omega) (by omega) (fun _ => hle c_103) (by rw [hsm, decide_eq_false (sg_ne1 (by omega) (by omega) c_132), Bool.and_false]; rfl) ls (lv_sub hl [2, 3, 4, 5, 6, 1, 0] rfl)
                      · refine lv_iconst (v := nI 1) hx hb dX11_isName_135 (by decide) ?_
                        refine lv_goto (tgt := 140) hx hb dX11_isName_136 (by decide) ?_
                        refine lv_istore (lv' := [(5, .int (nI (1))), (0, .ref (o)), (1, .int (nI (fr))), (2, .int (nI (to))), (3, .int (nI (op))), (4, .int (nI (k))), (6, .int (nI (i)))]) hx hb dX11_isName_140 hl (by decide) rfl (fun ls hl => ?_)
                        refine lv_iinc (v := nI (i + 1)) (lv' := [(6, .int (nI (i + 1))), (5, .int (nI (1))), (0, .ref (o)), (1, .int (nI (fr))), (2, .int (nI (to))), (3, .int (nI (op))), (4, .int (nI (k)))]) hx hb dX11_isName_142 hl (k := 6) rfl (nI_add _ _) (by decide) rfl (fun ls hl => ?_)
                        refine lv_goto (tgt := 93) hx hb dX11_isName_145 (by decide) ?_
                        exact ih_b (i + 1) true (by omega) (by omega) (fun _ => hle c_103) (by rw [hsm, c_103, decide_sg (by omega) c_132]) ls (lv_sub hl [2, 3, 4, 5, 6, 1, 0] rfl)
              exact L93 ((to - fr - 0) + 1) 0 true (Nat.lt_succ_self _) (Nat.zero_le _) (fun _ => by have := hnd k h1 c_39; omega) (by rw [nmS, decide_eq_true (And.intro c_57 c_80)]; rfl) ls (lv_sub hl [2, 3, 4, 5, 6, 1, 0] rfl)
    exact L33 ((nd - 1) + 1) 1 (Nat.lt_succ_self _) (Nat.le_refl _) (by decide) rfl ls (lv_sub hl [1, 2, 3, 4, 0] rfl)
  · refine lv_aload_n hx hb dX11_isName_12 rfl (lv_at hl 0 rfl) ?_
    refine zi_get (C := RX11) (T := TX11) (N := 23) (v := .ref (q 12)) hx hb hz wo_X11 hown hK hO rfl 12 (by decide) (hz _ wf_X11_26) (fun _ h9 => h9) rfl dX11_isName_13 ?_
    refine lv_iload_n hx hb dX11_isName_16 rfl (lv_at hl 1 rfl) ?_
    refine lv_iload_n hx hb dX11_isName_17 rfl (lv_at hl 2 rfl) ?_
    refine lv_aload_n hx hb dX11_isName_18 rfl (lv_at hl 0 rfl) ?_
    refine zi_get (C := RX11) (T := TX11) (N := 23) (v := .ref (q 20)) hx hb hz wo_X11 hown hK hO rfl 20 (by decide) (hz _ wf_X11_44) (fun _ h9 => h9) rfl dX11_isName_19 ?_
    refine lv_iload_n hx hb dX11_isName_22 rfl (lv_at hl 3 rfl) ?_
    refine lv_iconst (v := nI 1) hx hb dX11_isName_23 (by decide) ?_
    refine zi_sub hx hb (by omega) dX11_isName_24 ?_
    refine zi_ald hx hb hK hP.a20 (by omega) (by decide) dX11_isName_25 ?_
    refine zc_S (As := [.ref (q 12), .int (nI (fr)), .int (nI (to)), .int (nI (mn (op - 1)))]) (rest := []) ⟨hx, hb, hml, hown, hts⟩ (m_isNumber l G (q 12) 2000 g (by decide) h8 fr to (mn (op - 1)) hft hto (Nat.lt_trans (hmn _) (by decide))) (cwS 4 hts (zgS wm_X11_106 wu_X11_isNumber) rfl rfl rfl (by decide +kernel) ⟨Nat.le_of_ble_eq_true rfl, Nat.le_of_ble_eq_true rfl⟩) hK hP.a12 rfl hl.1 rfl (Nat.le_of_ble_eq_true rfl) dX11_isName_26 ⟨Nat.zero_le _, Nat.zero_le _⟩ ?_
    exact zr_z hx hb hr hlocks (by rw [if_pos c_9]) dX11_isName_29
