set_option maxHeartbeats 4000000 in
set_option maxRecDepth 100000 in
theorem m_order_ (l : Launch) (G : zG) (o qs : Nat) (fs : List Value) (f : Nat → Nat) (d k a k2 b : Nat) (hk : okV f d k a) (hk2 : okV f d k2 b) (hB : ∀ d', d = d' + 1 → C_boxes l G o qs fs f d') : Met l yX11_order wsX11_order (rOrd d) (zP G [.ref (o), .int (nI (k)), .int (nI (a)), .int (nI (k2)), .int (nI (b))] (fun H => MV G o qs fs f H)) (zR (.int (oI (ord f d k a k2 b)))) 0 0 (fun _ => False) := by
  refine Met.ofW (cc := cX11_order) (maxL := 10) (ret := (some .int)) (by decide) rfl ?_
  intro p en s m args below meth c s₁ B hml hv
  obtain ⟨rfl, hP, hK⟩ := hv
  have hx := B.exec
  have hb := B.bytes
  have hr := B.returns
  have hts := atoms_spec (ws := wsX11_order) B.pre
  have hz : ∀ w ∈ zW, w.before _ s = true := fun w h => hts w (List.mem_cons_of_mem _ h)
  have hown : s.vm.findClass RX11 = some m.cls := findClass_of_methodNamed B.named
  have hlocks := B.notSynchronized
  obtain ⟨hO, hA, hS1, h8⟩ := id hP
  have hkl := hk.b.lt
  have hk2l := hk2.b.lt
  have hl := lv_entry ([.ref (o), .int (nI (k)), .int (nI (a)), .int (nI (k2)), .int (nI (b))]) (n := 10) (Nat.le_of_ble_eq_true rfl)
  rw [lg_entry_eq]
  generalize (lg_sl ([.ref (o), .int (nI (k)), .int (nI (a)), .int (nI (k2)), .int (nI (b))]) ++ List.replicate (10 - (lg_sl ([.ref (o), .int (nI (k)), .int (nI (a)), .int (nI (k2)), .int (nI (b))])).length) Slot.unset).toArray = ls at hl ⊢
  have hl : lv_has ls 10 [(0, .ref (o)), (1, .int (nI (k))), (2, .int (nI (a))), (3, .int (nI (k2))), (4, .int (nI (b)))] := hl
  refine lv_iload_n hx hb dX11_order_0 rfl (lv_at hl 1 rfl) ?_
  refine zc_S (As := [.int (nI (k))]) (rest := []) ⟨hx, hb, hml, hown, hts⟩ (m_classOf l G k hkl) (cwS 1 hts (zgS wm_X11_246 wu_X11_classOf) rfl rfl rfl (by decide +kernel) ⟨show 0 + 1 ≤ 2 * d + 3 by omega, show 8 + (1 + 11) + (0) ≤ 55 * d + 60 by omega⟩) hK trivial rfl hl.1 rfl (Nat.le_of_ble_eq_true rfl) dX11_order_1 ⟨Nat.zero_le _, Nat.zero_le _⟩ ?_
  refine lv_istore (lv' := [(5, .int (nI (clO (k)))), (0, .ref (o)), (1, .int (nI (k))), (2, .int (nI (a))), (3, .int (nI (k2))), (4, .int (nI (b)))]) hx hb dX11_order_4 hl (by decide) rfl (fun ls hl => ?_)
  refine lv_iload hx hb dX11_order_6 (lv_at hl 0 rfl) ?_
  refine lv_iload_n hx hb dX11_order_8 rfl (lv_at hl 4 rfl) ?_
  refine zc_S (As := [.int (nI (k2))]) (rest := [.int (nI (clO (k)))]) ⟨hx, hb, hml, hown, hts⟩ (m_classOf l G k2 hk2l) (cwS 1 hts (zgS wm_X11_246 wu_X11_classOf) rfl rfl rfl (by decide +kernel) ⟨show 0 + 1 ≤ 2 * d + 3 by omega, show 8 + (1 + 11) + (0) ≤ 55 * d + 60 by omega⟩) hK trivial rfl hl.1 rfl (Nat.le_of_ble_eq_true rfl) dX11_order_9 ⟨Nat.zero_le _, Nat.zero_le _⟩ ?_
  refine zi_icmp_eq (tgt := 30) hx hb dX11_order_12 (by decide) (Nat.lt_trans (clO_lt _) (by decide)) (Nat.lt_trans (clO_lt _) (by decide)) (fun c_12 => ?_) (fun c_12 => ?_)
  · refine lv_iload hx hb dX11_order_30 (lv_at hl 0 rfl) ?_
    refine lv_iconst (v := nI 2) hx hb dX11_order_32 (by decide) ?_
    refine zi_icmp_eq (tgt := 43) hx hb dX11_order_33 (by decide) (Nat.lt_trans (clO_lt _) (by decide)) (by omega) (fun c_33 => ?_) (fun c_33 => ?_)
    · have hkk := clO_2 c_33
      have hkk2 := clO_2 (c_12.symm.trans c_33)
      refine lv_aload_n hx hb dX11_order_43 rfl (lv_at hl 1 rfl) ?_
      refine lv_iload_n hx hb dX11_order_44 rfl (lv_at hl 2 rfl) ?_
      refine lv_iload_n hx hb dX11_order_45 rfl (lv_at hl 3 rfl) ?_
      refine zc_V (As := [.int (nI (k)), .int (nI (a))]) (rest := []) ⟨hx, hb, hml, hown, hts⟩ (m_number l G o qs fs f k a hkl (fun q => hk.b.2.1 q) (fun q => hk.b.2.2.1 q) (fun q1 q2 => hk.b.2.2.2.1 (by omega))) (cwV 2 hts (zgV wm_X11_243 wv_X11_number) rfl rfl rfl (by decide +kernel) ⟨show 1 + 1 ≤ 2 * d + 3 by omega, show 8 + (6 + 11) + (21) ≤ 55 * d + 60 by omega⟩) hK hO rfl hP rfl hl.1 rfl (Nat.le_of_ble_eq_true rfl) dX11_order_46 ⟨Nat.zero_le _, Nat.zero_le _⟩ ?_
      refine lv_lstore (lv' := [(6, .long (nuM f k a)), (5, .int (nI (clO (k)))), (0, .ref (o)), (1, .int (nI (k))), (2, .int (nI (a))), (3, .int (nI (k2))), (4, .int (nI (b)))]) hx hb dX11_order_49 hl (by decide) rfl (fun ls hl => ?_)
      refine lv_aload_n hx hb dX11_order_51 rfl (lv_at hl 2 rfl) ?_
      refine lv_iload_n hx hb dX11_order_52 rfl (lv_at hl 5 rfl) ?_
      refine lv_iload hx hb dX11_order_53 (lv_at hl 6 rfl) ?_
      refine zc_V (As := [.int (nI (k2)), .int (nI (b))]) (rest := []) ⟨hx, hb, hml, hown, hts⟩ (m_number l G o qs fs f k2 b hk2l (fun q => hk2.b.2.1 q) (fun q => hk2.b.2.2.1 q) (fun q1 q2 => hk2.b.2.2.2.1 (by omega))) (cwV 2 hts (zgV wm_X11_243 wv_X11_number) rfl rfl rfl (by decide +kernel) ⟨show 1 + 1 ≤ 2 * d + 3 by omega, show 8 + (6 + 11) + (21) ≤ 55 * d + 60 by omega⟩) hK hO rfl hP rfl hl.1 rfl (Nat.le_of_ble_eq_true rfl) dX11_order_55 ⟨Nat.zero_le _, Nat.zero_le _⟩ ?_
      refine lv_lstore (lv' := [(8, .long (nuM f k2 b)), (6, .long (nuM f k a)), (5, .int (nI (clO (k)))), (0, .ref (o)), (1, .int (nI (k))), (2, .int (nI (a))), (3, .int (nI (k2))), (4, .int (nI (b)))]) hx hb dX11_order_58 hl (by decide) rfl (fun ls hl => ?_)
      refine lv_lload hx hb dX11_order_60 (lv_at hl 1 rfl) ?_
      refine lv_lload hx hb dX11_order_62 (lv_at hl 0 rfl) ?_
      refine W.lcmp hx hb dX11_order_64 ?_
      refine lv_if_ge (tgt := 72) hx hb dX11_order_65 (by decide) (fun c_65 => ?_) (fun c_65 => ?_)
      · refine lv_lload hx hb dX11_order_72 (lv_at hl 1 rfl) ?_
        refine lv_lload hx hb dX11_order_74 (lv_at hl 0 rfl) ?_
        refine W.lcmp hx hb dX11_order_76 ?_
        refine lv_if_le (tgt := 84) hx hb dX11_order_77 (by decide) (fun c_77 => ?_) (fun c_77 => ?_)
        · refine lv_iconst (v := nI 0) hx hb dX11_order_84 (by decide) ?_
          exact zr_i hx hb hr hlocks (by rw [ord_num c_12 (by omega), c64_eq (Int64.not_lt.mpr ((lg_cmp_ge _ _).mp c_65)) (Int64.not_lt.mpr ((lg_cmp_le _ _).mp c_77))]; decide) dX11_order_85
        · refine lv_iconst (v := nI 1) hx hb dX11_order_80 (by decide) ?_
          refine lv_goto (tgt := 85) hx hb dX11_order_81 (by decide) ?_
          exact zr_i hx hb hr hlocks (by rw [ord_num c_12 (by omega), c64_gt (Int64.not_le.mp (fun q => c_77 ((lg_cmp_le _ _).mpr q)))]; decide) dX11_order_85
      · refine lv_iconst (v := (-1)) hx hb dX11_order_68 (by decide) ?_
        refine lv_goto (tgt := 85) hx hb dX11_order_69 (by decide) ?_
        exact zr_i hx hb hr hlocks (by rw [ord_num c_12 (by omega), c64_lt (Int64.not_le.mp (fun q => c_65 ((lg_cmp_ge _ _).mpr q)))]; rfl) dX11_order_85
    · refine lv_iload hx hb dX11_order_36 (lv_at hl 0 rfl) ?_
      refine lv_bipush (v := nI 6) hx hb dX11_order_38 (by decide) ?_
      refine zi_icmp_ne (tgt := 86) hx hb dX11_order_40 (by decide) (Nat.lt_trans (clO_lt _) (by decide)) (by omega) (fun c_40 => ?_) (fun c_40 => ?_)
      · refine lv_iload hx hb dX11_order_86 (lv_at hl 0 rfl) ?_
        refine lv_iconst (v := nI 3) hx hb dX11_order_88 (by decide) ?_
        refine zi_icmp_ne (tgt := 119) hx hb dX11_order_89 (by decide) (Nat.lt_trans (clO_lt _) (by decide)) (by omega) (fun c_89 => ?_) (fun c_89 => ?_)
        · refine lv_iload hx hb dX11_order_119 (lv_at hl 0 rfl) ?_
          refine lv_iconst (v := nI 4) hx hb dX11_order_121 (by decide) ?_
          refine zi_icmp_eq (tgt := 131) hx hb dX11_order_122 (by decide) (Nat.lt_trans (clO_lt _) (by decide)) (by omega) (fun c_122 => ?_) (fun c_122 => ?_)
          · have hkk : k = 3 ∨ k = 4 := by
              first | exact Or.inl (clO_4 c_122) | exact Or.inr (clO_5 c_128)
            have hkk2 : k2 = 3 ∨ k2 = 4 := by
              first | exact Or.inl (clO_4 (c_12.symm.trans c_122)) | exact Or.inr (clO_5 (c_12.symm.trans c_128))
            obtain ⟨d, rfl⟩ := hk.s hkk
            refine lv_aload_n hx hb dX11_order_131 rfl (lv_at hl 1 rfl) ?_
            refine lv_iload_n hx hb dX11_order_132 rfl (lv_at hl 3 rfl) ?_
            refine lv_iload hx hb dX11_order_133 (lv_at hl 5 rfl) ?_
            refine lv_iload hx hb dX11_order_135 (lv_at hl 0 rfl) ?_
            refine lv_iconst (v := nI 4) hx hb dX11_order_137 (by decide) ?_
            refine zi_icmp_ne (tgt := 145) hx hb dX11_order_138 (by decide) (Nat.lt_trans (clO_lt _) (by decide)) (by omega) (fun c_138 => ?_) (fun c_138 => ?_)
            · refine lv_iconst (v := nI 0) hx hb dX11_order_145 (by decide) ?_
              refine zc_V (As := [.int (nI (a)), .int (nI (b)), .int (nI (0))]) (rest := []) ⟨hx, hb, hml, hown, hts⟩ (hB d rfl a b false (hk.2 hkk).1 (hk2.2 hkk2).1 (hk.2 hkk).2 (hk2.2 hkk2).2) (cwV 3 hts (zgV wm_X11_253 wv_X11_orderBoxes) rfl rfl rfl (by decide +kernel) ⟨show 2 * d + 4 + 1 ≤ 2 * (d + 1) + 3 by omega, show 8 + (7 + 11) + (55 * d + 89) ≤ 55 * (d + 1) + 60 by omega⟩) hK hO rfl hP rfl hl.1 rfl (Nat.le_of_ble_eq_true rfl) dX11_order_146 ⟨Nat.zero_le _, Nat.zero_le _⟩ ?_
              refine lv_goto (tgt := 153) hx hb dX11_order_149 (by decide) ?_
              exact zr_i hx hb hr hlocks (by rw [ord_box c_12 (by omega), decide_eq_false c_138]) dX11_order_153
            · refine lv_iconst (v := nI 1) hx hb dX11_order_141 (by decide) ?_
              refine lv_goto (tgt := 146) hx hb dX11_order_142 (by decide) ?_
              refine zc_V (As := [.int (nI (a)), .int (nI (b)), .int (nI (1))]) (rest := []) ⟨hx, hb, hml, hown, hts⟩ (hB d rfl a b true (hk.2 hkk).1 (hk2.2 hkk2).1 (hk.2 hkk).2 (hk2.2 hkk2).2) (cwV 3 hts (zgV wm_X11_253 wv_X11_orderBoxes) rfl rfl rfl (by decide +kernel) ⟨show 2 * d + 4 + 1 ≤ 2 * (d + 1) + 3 by omega, show 8 + (7 + 11) + (55 * d + 89) ≤ 55 * (d + 1) + 60 by omega⟩) hK hO rfl hP rfl hl.1 rfl (Nat.le_of_ble_eq_true rfl) dX11_order_146 ⟨Nat.zero_le _, Nat.zero_le _⟩ ?_
              refine lv_goto (tgt := 153) hx hb dX11_order_149 (by decide) ?_
              exact zr_i hx hb hr hlocks (by rw [ord_box c_12 (by omega), decide_eq_true c_138]) dX11_order_153
          · refine lv_iload hx hb dX11_order_125 (lv_at hl 0 rfl) ?_
            refine lv_iconst (v := nI 5) hx hb dX11_order_127 (by decide) ?_
            refine zi_icmp_ne (tgt := 152) hx hb dX11_order_128 (by decide) (Nat.lt_trans (clO_lt _) (by decide)) (by omega) (fun c_128 => ?_) (fun c_128 => ?_)
            · refine lv_iconst (v := nI 0) hx hb dX11_order_152 (by decide) ?_
              exact zr_i hx hb hr hlocks (by rw [ord_eq c_12 (by omega)]; decide) dX11_order_153
            · have hkk : k = 3 ∨ k = 4 := by
                first | exact Or.inl (clO_4 c_122) | exact Or.inr (clO_5 c_128)
              have hkk2 : k2 = 3 ∨ k2 = 4 := by
                first | exact Or.inl (clO_4 (c_12.symm.trans c_122)) | exact Or.inr (clO_5 (c_12.symm.trans c_128))
              obtain ⟨d, rfl⟩ := hk.s hkk
              refine lv_aload_n hx hb dX11_order_131 rfl (lv_at hl 1 rfl) ?_
              refine lv_iload_n hx hb dX11_order_132 rfl (lv_at hl 3 rfl) ?_
              refine lv_iload hx hb dX11_order_133 (lv_at hl 5 rfl) ?_
              refine lv_iload hx hb dX11_order_135 (lv_at hl 0 rfl) ?_
              refine lv_iconst (v := nI 4) hx hb dX11_order_137 (by decide) ?_
              refine zi_icmp_ne (tgt := 145) hx hb dX11_order_138 (by decide) (Nat.lt_trans (clO_lt _) (by decide)) (by omega) (fun c_138 => ?_) (fun c_138 => ?_)
              · refine lv_iconst (v := nI 0) hx hb dX11_order_145 (by decide) ?_
                refine zc_V (As := [.int (nI (a)), .int (nI (b)), .int (nI (0))]) (rest := []) ⟨hx, hb, hml, hown, hts⟩ (hB d rfl a b false (hk.2 hkk).1 (hk2.2 hkk2).1 (hk.2 hkk).2 (hk2.2 hkk2).2) (cwV 3 hts (zgV wm_X11_253 wv_X11_orderBoxes) rfl rfl rfl (by decide +kernel) ⟨show 2 * d + 4 + 1 ≤ 2 * (d + 1) + 3 by omega, show 8 + (7 + 11) + (55 * d + 89) ≤ 55 * (d + 1) + 60 by omega⟩) hK hO rfl hP rfl hl.1 rfl (Nat.le_of_ble_eq_true rfl) dX11_order_146 ⟨Nat.zero_le _, Nat.zero_le _⟩ ?_
                refine lv_goto (tgt := 153) hx hb dX11_order_149 (by decide) ?_
                exact zr_i hx hb hr hlocks (by rw [ord_box c_12 (by omega), decide_eq_false c_138]) dX11_order_153
              · refine lv_iconst (v := nI 1) hx hb dX11_order_141 (by decide) ?_
                refine lv_goto (tgt := 146) hx hb dX11_order_142 (by decide) ?_
                refine zc_V (As := [.int (nI (a)), .int (nI (b)), .int (nI (1))]) (rest := []) ⟨hx, hb, hml, hown, hts⟩ (hB d rfl a b true (hk.2 hkk).1 (hk2.2 hkk2).1 (hk.2 hkk).2 (hk2.2 hkk2).2) (cwV 3 hts (zgV wm_X11_253 wv_X11_orderBoxes) rfl rfl rfl (by decide +kernel) ⟨show 2 * d + 4 + 1 ≤ 2 * (d + 1) + 3 by omega, show 8 + (7 + 11) + (55 * d + 89) ≤ 55 * (d + 1) + 60 by omega⟩) hK hO rfl hP rfl hl.1 rfl (Nat.le_of_ble_eq_true rfl) dX11_order_146 ⟨Nat.zero_le _, Nat.zero_le _⟩ ?_
                refine lv_goto (tgt := 153) hx hb dX11_order_149 (by decide) ?_
                exact zr_i hx hb hr hlocks (by rw [ord_box c_12 (by omega), decide_eq_true c_138]) dX11_order_153
        · have hka := hk.b.2.2.2.2.1 (clO_3 c_89)
          have hkb := hk2.b.2.2.2.2.1 (clO_3 (c_12.symm.trans c_89))
          refine lv_aload_n hx hb dX11_order_92 rfl (lv_at hl 1 rfl) ?_
          refine lv_iload_n hx hb dX11_order_93 rfl (lv_at hl 3 rfl) ?_
          refine lv_iconst (v := nI 4) hx hb dX11_order_94 (by decide) ?_
          refine zi_add hx hb dX11_order_95 ?_
          refine lv_aload_n hx hb dX11_order_96 rfl (lv_at hl 1 rfl) ?_
          refine lv_iload_n hx hb dX11_order_97 rfl (lv_at hl 3 rfl) ?_
          refine zc_V (As := [.int (nI (a))]) (rest := [.int (nI (a + 4)), .ref (o)]) ⟨hx, hb, hml, hown, hts⟩ (m_whole l G o qs fs f a (by omega)) (cwV 1 hts (zgV wm_X11_128 wv_X11_whole) rfl rfl rfl (by decide +kernel) ⟨show 0 + 1 ≤ 2 * d + 3 by omega, show 8 + (2 + 11) + (0) ≤ 55 * d + 60 by omega⟩) hK hO rfl hP rfl hl.1 rfl (Nat.le_of_ble_eq_true rfl) dX11_order_98 ⟨Nat.zero_le _, Nat.zero_le _⟩ ?_
          refine lv_iconst (v := nI 1) hx hb dX11_order_101 (by decide) ?_
          refine zi_sub hx hb (by omega) dX11_order_102 ?_
          refine lv_iload hx hb dX11_order_103 (lv_at hl 5 rfl) ?_
          refine lv_iconst (v := nI 4) hx hb dX11_order_105 (by decide) ?_
          refine zi_add hx hb dX11_order_106 ?_
          refine lv_aload_n hx hb dX11_order_107 rfl (lv_at hl 1 rfl) ?_
          refine lv_iload hx hb dX11_order_108 (lv_at hl 5 rfl) ?_
          refine zc_V (As := [.int (nI (b))]) (rest := [.int (nI (b + 4)), .int (nI (wh f a - 1)), .int (nI (a + 4)), .ref (o)]) ⟨hx, hb, hml, hown, hts⟩ (m_whole l G o qs fs f b (by omega)) (cwV 1 hts (zgV wm_X11_128 wv_X11_whole) rfl rfl rfl (by decide +kernel) ⟨show 0 + 1 ≤ 2 * d + 3 by omega, show 8 + (2 + 11) + (0) ≤ 55 * d + 60 by omega⟩) hK hO rfl hP rfl hl.1 rfl (Nat.le_of_ble_eq_true rfl) dX11_order_110 ⟨Nat.zero_le _, Nat.zero_le _⟩ ?_
          refine lv_iconst (v := nI 1) hx hb dX11_order_113 (by decide) ?_
          refine zi_sub hx hb (by omega) dX11_order_114 ?_
          refine zc_V (As := [.int (nI (a + 4)), .int (nI (wh f a - 1)), .int (nI (b + 4)), .int (nI (wh f b - 1))]) (rest := []) ⟨hx, hb, hml, hown, hts⟩ (m_orderBytes l G o qs fs f (a + 4) (wh f a - 1) (b + 4) (wh f b - 1) (by omega) (by omega)) (cwV 4 hts (zgV wm_X11_249 wv_X11_orderBytes) rfl rfl rfl (by decide +kernel) ⟨show 0 + 1 ≤ 2 * d + 3 by omega, show 8 + (6 + 11) + (0) ≤ 55 * d + 60 by omega⟩) hK hO rfl hP rfl hl.1 rfl (Nat.le_of_ble_eq_true rfl) dX11_order_115 ⟨Nat.zero_le _, Nat.zero_le _⟩ ?_
          exact zr_i hx hb hr hlocks (by rw [ord_txt c_12 c_89]) dX11_order_118
      · have hkk := clO_6 c_40
        have hkk2 := clO_6 (c_12.symm.trans c_40)
        refine lv_aload_n hx hb dX11_order_43 rfl (lv_at hl 1 rfl) ?_
        refine lv_iload_n hx hb dX11_order_44 rfl (lv_at hl 2 rfl) ?_
        refine lv_iload_n hx hb dX11_order_45 rfl (lv_at hl 3 rfl) ?_
        refine zc_V (As := [.int (nI (k)), .int (nI (a))]) (rest := []) ⟨hx, hb, hml, hown, hts⟩ (m_number l G o qs fs f k a hkl (fun q => hk.b.2.1 q) (fun q => hk.b.2.2.1 q) (fun q1 q2 => hk.b.2.2.2.1 (by omega))) (cwV 2 hts (zgV wm_X11_243 wv_X11_number) rfl rfl rfl (by decide +kernel) ⟨show 1 + 1 ≤ 2 * d + 3 by omega, show 8 + (6 + 11) + (21) ≤ 55 * d + 60 by omega⟩) hK hO rfl hP rfl hl.1 rfl (Nat.le_of_ble_eq_true rfl) dX11_order_46 ⟨Nat.zero_le _, Nat.zero_le _⟩ ?_
        refine lv_lstore (lv' := [(6, .long (nuM f k a)), (5, .int (nI (clO (k)))), (0, .ref (o)), (1, .int (nI (k))), (2, .int (nI (a))), (3, .int (nI (k2))), (4, .int (nI (b)))]) hx hb dX11_order_49 hl (by decide) rfl (fun ls hl => ?_)
        refine lv_aload_n hx hb dX11_order_51 rfl (lv_at hl 2 rfl) ?_
        refine lv_iload_n hx hb dX11_order_52 rfl (lv_at hl 5 rfl) ?_
        refine lv_iload hx hb dX11_order_53 (lv_at hl 6 rfl) ?_
        refine zc_V (As := [.int (nI (k2)), .int (nI (b))]) (rest := []) ⟨hx, hb, hml, hown, hts⟩ (m_number l G o qs fs f k2 b hk2l (fun q => hk2.b.2.1 q) (fun q => hk2.b.2.2.1 q) (fun q1 q2 => hk2.b.2.2.2.1 (by omega))) (cwV 2 hts (zgV wm_X11_243 wv_X11_number) rfl rfl rfl (by decide +kernel) ⟨show 1 + 1 ≤ 2 * d + 3 by omega, show 8 + (6 + 11) + (21) ≤ 55 * d + 60 by omega⟩) hK hO rfl hP rfl hl.1 rfl (Nat.le_of_ble_eq_true rfl) dX11_order_55 ⟨Nat.zero_le _, Nat.zero_le _⟩ ?_
        refine lv_lstore (lv' := [(8, .long (nuM f k2 b)), (6, .long (nuM f k a)), (5, .int (nI (clO (k)))), (0, .ref (o)), (1, .int (nI (k))), (2, .int (nI (a))), (3, .int (nI (k2))), (4, .int (nI (b)))]) hx hb dX11_order_58 hl (by decide) rfl (fun ls hl => ?_)
        refine lv_lload hx hb dX11_order_60 (lv_at hl 1 rfl) ?_
        refine lv_lload hx hb dX11_order_62 (lv_at hl 0 rfl) ?_
        refine W.lcmp hx hb dX11_order_64 ?_
        refine lv_if_ge (tgt := 72) hx hb dX11_order_65 (by decide) (fun c_65 => ?_) (fun c_65 => ?_)
        · refine lv_lload hx hb dX11_order_72 (lv_at hl 1 rfl) ?_
          refine lv_lload hx hb dX11_order_74 (lv_at hl 0 rfl) ?_
          refine W.lcmp hx hb dX11_order_76 ?_
          refine lv_if_le (tgt := 84) hx hb dX11_order_77 (by decide) (fun c_77 => ?_) (fun c_77 => ?_)
          · refine lv_iconst (v := nI 0) hx hb dX11_order_84 (by decide) ?_
            exact zr_i hx hb hr hlocks (by rw [ord_num c_12 (by omega), c64_eq (Int64.not_lt.mpr ((lg_cmp_ge _ _).mp c_65)) (Int64.not_lt.mpr ((lg_cmp_le _ _).mp c_77))]; decide) dX11_order_85
          · refine lv_iconst (v := nI 1) hx hb dX11_order_80 (by decide) ?_
            refine lv_goto (tgt := 85) hx hb dX11_order_81 (by decide) ?_
            exact zr_i hx hb hr hlocks (by rw [ord_num c_12 (by omega), c64_gt (Int64.not_le.mp (fun q => c_77 ((lg_cmp_le _ _).mpr q)))]; decide) dX11_order_85
        · refine lv_iconst (v := (-1)) hx hb dX11_order_68 (by decide) ?_
          refine lv_goto (tgt := 85) hx hb dX11_order_69 (by decide) ?_
          exact zr_i hx hb hr hlocks (by rw [ord_num c_12 (by omega), c64_lt (Int64.not_le.mp (fun q => c_65 ((lg_cmp_ge _ _).mpr q)))]; rfl) dX11_order_85
  · refine lv_iload hx hb dX11_order_15 (lv_at hl 0 rfl) ?_
    refine lv_iload_n hx hb dX11_order_17 rfl (lv_at hl 4 rfl) ?_
    refine zc_S (As := [.int (nI (k2))]) (rest := [.int (nI (clO (k)))]) ⟨hx, hb, hml, hown, hts⟩ (m_classOf l G k2 hk2l) (cwS 1 hts (zgS wm_X11_246 wu_X11_classOf) rfl rfl rfl (by decide +kernel) ⟨show 0 + 1 ≤ 2 * d + 3 by omega, show 8 + (1 + 11) + (0) ≤ 55 * d + 60 by omega⟩) hK trivial rfl hl.1 rfl (Nat.le_of_ble_eq_true rfl) dX11_order_18 ⟨Nat.zero_le _, Nat.zero_le _⟩ ?_
    refine zi_icmp_ge (tgt := 28) hx hb dX11_order_21 (by decide) (Nat.lt_trans (clO_lt _) (by decide)) (Nat.lt_trans (clO_lt _) (by decide)) (fun c_21 => ?_) (fun c_21 => ?_)
    · refine lv_iconst (v := nI 1) hx hb dX11_order_28 (by decide) ?_
      exact zr_i hx hb hr hlocks (by rw [ord_gt (show clO k2 < clO k by omega)]; decide) dX11_order_29
    · refine lv_iconst (v := (-1)) hx hb dX11_order_24 (by decide) ?_
      refine lv_goto (tgt := 29) hx hb dX11_order_25 (by decide) ?_
      exact zr_i hx hb hr hlocks (by rw [ord_lt c_21]; rfl) dX11_order_29

set_option maxHeartbeats 4000000 in
set_option maxRecDepth 100000 in
theorem m_boxes_ (l : Launch) (G : zG) (o qs : Nat) (fs : List Value) (f : Nat → Nat) (d : Nat) (IH : C_order l G o qs fs f d) (a b : Nat) (nm : Bool) (hL : Bx 18000 f a (els f a)) (hM : Bx 18000 f b (els f b)) (hLo : ∀ x ∈ els f a, okV f d (f x) (vo f x)) (hMo : ∀ x ∈ els f b, okV f d (f x) (vo f x)) : Met l yX11_orderBoxes wsX11_orderBoxes (rBox d) (zP G [.ref (o), .int (nI (a)), .int (nI (b)), .int (nI (nB (nm)))] (fun H => MV G o qs fs f H)) (zR (.int (oI (obx (cEl f (fun x y => ord f d (f x) (vo f x) (f y) (vo f y)) nm) (els f a) (els f b))))) 0 0 (fun _ => False) := by
  refine Met.ofW (cc := cX11_orderBoxes) (maxL := 7) (ret := (some .int)) (by decide) rfl ?_
  intro p en s m args below meth c s₁ B hml hv
  obtain ⟨rfl, hP, hK⟩ := hv
  have hx := B.exec
  have hb := B.bytes
  have hr := B.returns
  have hts := atoms_spec (ws := wsX11_orderBoxes) B.pre
  have hz : ∀ w ∈ zW, w.before _ s = true := fun w h => hts w (List.mem_cons_of_mem _ h)
  have hown : s.vm.findClass RX11 = some m.cls := findClass_of_methodNamed B.named
  have hlocks := B.notSynchronized
  obtain ⟨hO, hA, hS1, h8⟩ := id hP
  have ha := hL.1
  have hb5 := hM.1
  have hf1 := hL.2.lt (by decide)
  have hf2 := hM.2.lt (by decide)
  have hl := lv_entry ([.ref (o), .int (nI (a)), .int (nI (b)), .int (nI (nB (nm)))]) (n := 7) (Nat.le_of_ble_eq_true rfl)
  rw [lg_entry_eq]
  generalize (lg_sl ([.ref (o), .int (nI (a)), .int (nI (b)), .int (nI (nB (nm)))]) ++ List.replicate (7 - (lg_sl ([.ref (o), .int (nI (a)), .int (nI (b)), .int (nI (nB (nm)))])).length) Slot.unset).toArray = ls at hl ⊢
  have hl : lv_has ls 7 [(0, .ref (o)), (1, .int (nI (a))), (2, .int (nI (b))), (3, .int (nI (nB (nm))))] := hl
  refine lv_aload_n hx hb dX11_orderBoxes_0 rfl (lv_at hl 0 rfl) ?_
  refine lv_iload_n hx hb dX11_orderBoxes_1 rfl (lv_at hl 1 rfl) ?_
  refine zc_V (As := [.int (nI (a))]) (rest := []) ⟨hx, hb, hml, hown, hts⟩ (m_firstOf l G o qs fs f a ha) (cwV 1 hts (zgV wm_X11_137 wv_X11_firstOf) rfl rfl rfl (by decide +kernel) ⟨show 0 + 1 ≤ 2 * d + 4 by omega, show 8 + (2 + 11) + (0) ≤ 55 * d + 89 by omega⟩) hK hO rfl hP rfl hl.1 rfl (Nat.le_of_ble_eq_true rfl) dX11_orderBoxes_2 ⟨Nat.zero_le _, Nat.zero_le _⟩ ?_
  refine lv_istore (lv' := [(4, .int (nI (fi f a))), (0, .ref (o)), (1, .int (nI (a))), (2, .int (nI (b))), (3, .int (nI (nB (nm))))]) hx hb dX11_orderBoxes_5 hl (by decide) rfl (fun ls hl => ?_)
  refine lv_aload_n hx hb dX11_orderBoxes_7 rfl (lv_at hl 1 rfl) ?_
  refine lv_iload_n hx hb dX11_orderBoxes_8 rfl (lv_at hl 3 rfl) ?_
  refine zc_V (As := [.int (nI (b))]) (rest := []) ⟨hx, hb, hml, hown, hts⟩ (m_firstOf l G o qs fs f b hb5) (cwV 1 hts (zgV wm_X11_137 wv_X11_firstOf) rfl rfl rfl (by decide +kernel) ⟨show 0 + 1 ≤ 2 * d + 4 by omega, show 8 + (2 + 11) + (0) ≤ 55 * d + 89 by omega⟩) hK hO rfl hP rfl hl.1 rfl (Nat.le_of_ble_eq_true rfl) dX11_orderBoxes_9 ⟨Nat.zero_le _, Nat.zero_le _⟩ ?_
  refine lv_istore (lv' := [(5, .int (nI (fi f b))), (4, .int (nI (fi f a))), (0, .ref (o)), (1, .int (nI (a))), (2, .int (nI (b))), (3, .int (nI (nB (nm))))]) hx hb dX11_orderBoxes_12 hl (by decide) rfl (fun ls hl => ?_)
  have L14 : ∀ (n_ : Nat) (x : Nat) (y : Nat) (X : List Nat) (Y : List Nat), X.length < n_ → (Ch 18000 f x X) → (Ch 18000 f y Y) → (x < 18000) → (y < 18000) → (∀ z ∈ X, z ∈ els f a) → (∀ z ∈ Y, z ∈ els f b) → (obx (cEl f (fun x y => ord f d (f x) (vo f x) (f y) (vo f y)) nm) (els f a) (els f b) = obx (cEl f (fun x y => ord f d (f x) (vo f x) (f y) (vo f y)) nm) X Y) → ∀ ls : Array Slot, lv_has ls 7 [(0, .ref (o)), (3, .int (nI (nB (nm)))), (4, .int (nI (x))), (5, .int (nI (y)))] → W p l en (headSpec wsX11_orderBoxes (rBox d)).room s m ([.ref (o), .int (nI (a)), .int (nI (b)), .int (nI (nB (nm)))] : List Value).toArray below meth c s.heap [] 0 0 (MQ below (zR (.int (oI (obx (cEl f (fun x y => ord f d (f x) (vo f x) (f y) (vo f y)) nm) (els f a) (els f b))))) ([.ref (o), .int (nI (a)), .int (nI (b)), .int (nI (nB (nm)))] : List Value).toArray s 0 0 (fun _ => False)) (F0 m 14 ls []) := by
    intro n_
    induction n_ with
    | zero => intro x y X Y hm_; exact absurd hm_ (Nat.not_lt_zero _)
    | succ n_ ih_ =>
      intro x y X Y hm_ hc hc2 hxl hyl hXi hYi hs ls hl
      refine lv_iload hx hb dX11_orderBoxes_14 (lv_at hl 2 rfl) ?_
      refine zi_if_le (tgt := 172) hx hb dX11_orderBoxes_16 (by decide) (by omega) (fun c_16 => ?_) (fun c_16 => ?_)
      · have hX0 := hc.nil c_16
        subst hX0
        refine lv_iload hx hb dX11_orderBoxes_172 (lv_at hl 2 rfl) ?_
        refine zi_if_le (tgt := 181) hx hb dX11_orderBoxes_174 (by decide) (by omega) (fun c_174 => ?_) (fun c_174 => ?_)
        · refine lv_iload hx hb dX11_orderBoxes_181 (lv_at hl 3 rfl) ?_
          refine zi_if_le (tgt := 190) hx hb dX11_orderBoxes_183 (by decide) (by omega) (fun c_183 => ?_) (fun c_183 => ?_)
          · refine lv_iconst (v := nI 0) hx hb dX11_orderBoxes_190 (by decide) ?_
            exact zr_i hx hb hr hlocks (by first | (exfalso; omega) | (rw [hs, hc2.nil c_183]; first | rfl | decide) | (obtain ⟨M9, rfl, -, -⟩ := hc2.cons c_183; rw [hs]; rfl) | (rw [hs]; show nI 1 = oI .gt; decide)) dX11_orderBoxes_191
          · refine lv_iconst (v := (-1)) hx hb dX11_orderBoxes_186 (by decide) ?_
            refine lv_goto (tgt := 191) hx hb dX11_orderBoxes_187 (by decide) ?_
            exact zr_i hx hb hr hlocks (by first | (exfalso; omega) | (rw [hs, hc2.nil c_183]; first | rfl | decide) | (obtain ⟨M9, rfl, -, -⟩ := hc2.cons c_183; rw [hs]; rfl) | (rw [hs]; show nI 1 = oI .gt; decide)) dX11_orderBoxes_191
        · refine lv_iconst (v := nI 1) hx hb dX11_orderBoxes_177 (by decide) ?_
          refine lv_goto (tgt := 191) hx hb dX11_orderBoxes_178 (by decide) ?_
          exact zr_i hx hb hr hlocks (by first | (exfalso; omega) | (rw [hs, hc2.nil c_183]; first | rfl | decide) | (obtain ⟨M9, rfl, -, -⟩ := hc2.cons c_183; rw [hs]; rfl) | (rw [hs]; show nI 1 = oI .gt; decide)) dX11_orderBoxes_191
      · obtain ⟨X', rfl, hok, hc'⟩ := hc.cons c_16
        have hx9 := hXi x List.mem_cons_self
        refine lv_iload hx hb dX11_orderBoxes_19 (lv_at hl 3 rfl) ?_
        refine zi_if_le (tgt := 172) hx hb dX11_orderBoxes_21 (by decide) (by omega) (fun c_21 => ?_) (fun c_21 => ?_)
        · have hY0 := hc2.nil c_21
          subst hY0
          refine lv_iload hx hb dX11_orderBoxes_172 (lv_at hl 2 rfl) ?_
          refine zi_if_le (tgt := 181) hx hb dX11_orderBoxes_174 (by decide) (by omega) (fun c_174 => ?_) (fun c_174 => ?_)
          · refine lv_iload hx hb dX11_orderBoxes_181 (lv_at hl 3 rfl) ?_
            refine zi_if_le (tgt := 190) hx hb dX11_orderBoxes_183 (by decide) (by omega) (fun c_183 => ?_) (fun c_183 => ?_)
            · refine lv_iconst (v := nI 0) hx hb dX11_orderBoxes_190 (by decide) ?_
              exact zr_i hx hb hr hlocks (by first | (exfalso; omega) | (rw [hs, hc2.nil c_183]; first | rfl | decide) | (obtain ⟨M9, rfl, -, -⟩ := hc2.cons c_183; rw [hs]; rfl) | (rw [hs]; show nI 1 = oI .gt; decide)) dX11_orderBoxes_191
            · refine lv_iconst (v := (-1)) hx hb dX11_orderBoxes_186 (by decide) ?_
              refine lv_goto (tgt := 191) hx hb dX11_orderBoxes_187 (by decide) ?_
              exact zr_i hx hb hr hlocks (by first | (exfalso; omega) | (rw [hs, hc2.nil c_183]; first | rfl | decide) | (obtain ⟨M9, rfl, -, -⟩ := hc2.cons c_183; rw [hs]; rfl) | (rw [hs]; show nI 1 = oI .gt; decide)) dX11_orderBoxes_191
          · refine lv_iconst (v := nI 1) hx hb dX11_orderBoxes_177 (by decide) ?_
            refine lv_goto (tgt := 191) hx hb dX11_orderBoxes_178 (by decide) ?_
            exact zr_i hx hb hr hlocks (by first | (exfalso; omega) | (rw [hs, hc2.nil c_183]; first | rfl | decide) | (obtain ⟨M9, rfl, -, -⟩ := hc2.cons c_183; rw [hs]; rfl) | (rw [hs]; show nI 1 = oI .gt; decide)) dX11_orderBoxes_191
        · obtain ⟨Y', rfl, hok2, hc2'⟩ := hc2.cons c_21
          have hy9 := hYi y List.mem_cons_self
          refine lv_iload_n hx hb dX11_orderBoxes_24 rfl (lv_at hl 1 rfl) ?_
          refine zb_if_eq (tgt := 52) hx hb dX11_orderBoxes_25 (by decide) (fun c_25 => ?_) (fun c_25 => ?_)
          · refine lv_iconst (v := nI 0) hx hb dX11_orderBoxes_52 (by decide) ?_
            refine lv_istore (lv' := [(6, .int (nI (0))), (0, .ref (o)), (3, .int (nI (nB (nm)))), (4, .int (nI (x))), (5, .int (nI (y)))]) hx hb dX11_orderBoxes_53 hl (by decide) rfl (fun ls hl => ?_)
            refine lv_iload hx hb dX11_orderBoxes_55 (lv_at hl 0 rfl) ?_
            refine zi_if_ne (tgt := 100) hx hb dX11_orderBoxes_57 (by decide) (by omega) (fun c_57 => absurd c_57 (by decide)) (fun c_57 => ?_)
            refine lv_iload_n hx hb dX11_orderBoxes_60 rfl (lv_at hl 2 rfl) ?_
            refine zb_if_eq (tgt := 100) hx hb dX11_orderBoxes_61 (by decide) (fun c_61 => ?_) (fun c_61 => ?_)
            · refine lv_iload hx hb dX11_orderBoxes_100 (lv_at hl 0 rfl) ?_
              refine zi_if_ne (tgt := 137) hx hb dX11_orderBoxes_102 (by decide) (by omega) (fun c_102 => absurd c_102 (by decide)) (fun c_102 => ?_)
              refine lv_aload_n hx hb dX11_orderBoxes_105 rfl (lv_at hl 1 rfl) ?_
              refine lv_aload_n hx hb dX11_orderBoxes_106 rfl (lv_at hl 1 rfl) ?_
              refine zi_get (C := RX11) (T := TX11) (N := 23) (v := .ref (qs)) hx hb hz wo_X11 hown hK hO rfl 1 (by decide) (hz _ wf_X11_7) (fun _ h9 => h9) hS1 dX11_orderBoxes_107 ?_
              refine lv_iload hx hb dX11_orderBoxes_110 (lv_at hl 3 rfl) ?_
              refine zi_ald hx hb hK hA (by omega) (by decide) dX11_orderBoxes_112 ?_
              refine lv_aload_n hx hb dX11_orderBoxes_113 rfl (lv_at hl 1 rfl) ?_
              refine lv_iload hx hb dX11_orderBoxes_114 (lv_at hl 3 rfl) ?_
              refine zc_V (As := [.int (nI (x))]) (rest := [.int (nI (f x)), .ref (o)]) ⟨hx, hb, hml, hown, hts⟩ (m_valueOf l G o qs fs f x hok.1) (cwV 1 hts (zgV wm_X11_131 wv_X11_valueOf) rfl rfl rfl (by decide +kernel) ⟨show 1 + 1 ≤ 2 * d + 4 by omega, show 8 + (2 + 11) + (22) ≤ 55 * d + 89 by omega⟩) hK hO rfl hP rfl hl.1 rfl (Nat.le_of_ble_eq_true rfl) dX11_orderBoxes_116 ⟨Nat.zero_le _, Nat.zero_le _⟩ ?_
              refine lv_aload_n hx hb dX11_orderBoxes_119 rfl (lv_at hl 1 rfl) ?_
              refine zi_get (C := RX11) (T := TX11) (N := 23) (v := .ref (qs)) hx hb hz wo_X11 hown hK hO rfl 1 (by decide) (hz _ wf_X11_7) (fun _ h9 => h9) hS1 dX11_orderBoxes_120 ?_
              refine lv_iload hx hb dX11_orderBoxes_123 (lv_at hl 4 rfl) ?_
              refine zi_ald hx hb hK hA (by omega) (by decide) dX11_orderBoxes_125 ?_
              refine lv_aload_n hx hb dX11_orderBoxes_126 rfl (lv_at hl 1 rfl) ?_
              refine lv_iload hx hb dX11_orderBoxes_127 (lv_at hl 4 rfl) ?_
              refine zc_V (As := [.int (nI (y))]) (rest := [.int (nI (f y)), .int (nI (vo f x)), .int (nI (f x)), .ref (o)]) ⟨hx, hb, hml, hown, hts⟩ (m_valueOf l G o qs fs f y hok2.1) (cwV 1 hts (zgV wm_X11_131 wv_X11_valueOf) rfl rfl rfl (by decide +kernel) ⟨show 1 + 1 ≤ 2 * d + 4 by omega, show 8 + (2 + 11) + (22) ≤ 55 * d + 89 by omega⟩) hK hO rfl hP rfl hl.1 rfl (Nat.le_of_ble_eq_true rfl) dX11_orderBoxes_129 ⟨Nat.zero_le _, Nat.zero_le _⟩ ?_
              refine zc_V (As := [.int (nI (f x)), .int (nI (vo f x)), .int (nI (f y)), .int (nI (vo f y))]) (rest := []) ⟨hx, hb, hml, hown, hts⟩ (IH (f x) (vo f x) (f y) (vo f y) (hLo x hx9) (hMo y hy9)) (cwV 4 hts (zgV wm_X11_257 wv_X11_order) rfl rfl rfl (by decide +kernel) ⟨show 2 * d + 3 + 1 ≤ 2 * d + 4 by omega, show 8 + (10 + 11) + (55 * d + 60) ≤ 55 * d + 89 by omega⟩) hK hO rfl hP rfl hl.1 rfl (Nat.le_of_ble_eq_true rfl) dX11_orderBoxes_132 ⟨Nat.zero_le _, Nat.zero_le _⟩ ?_
              refine lv_istore (lv' := [(6, .int (oI (ord f d (f x) (vo f x) (f y) (vo f y)))), (0, .ref (o)), (3, .int (nI (nB (nm)))), (4, .int (nI (x))), (5, .int (nI (y)))]) hx hb dX11_orderBoxes_135 hl (by decide) rfl (fun ls hl => ?_)
              refine lv_iload hx hb dX11_orderBoxes_137 (lv_at hl 0 rfl) ?_
              refine lv_if_eq (tgt := 153) hx hb dX11_orderBoxes_139 (by decide) (fun c_139 => ?_) (fun c_139 => ?_)
              · have hr9 : cEl f (fun x y => ord f d (f x) (vo f x) (f y) (vo f y)) nm x y = .eq := (cEl_v (fun q => absurd (c_25.symm.trans q) (by decide))).trans ((oI_eq _).mp c_139)
                refine lv_aload_n hx hb dX11_orderBoxes_153 rfl (lv_at hl 1 rfl) ?_
                refine lv_iload hx hb dX11_orderBoxes_154 (lv_at hl 3 rfl) ?_
                refine zc_V (As := [.int (nI (x))]) (rest := []) ⟨hx, hb, hml, hown, hts⟩ (m_nextOf l G o qs fs f x hok) (cwV 1 hts (zgV wm_X11_140 wv_X11_nextOf) rfl rfl rfl (by decide +kernel) ⟨show 2 + 1 ≤ 2 * d + 4 by omega, show 8 + (4 + 11) + (43) ≤ 55 * d + 89 by omega⟩) hK hO rfl hP rfl hl.1 rfl (Nat.le_of_ble_eq_true rfl) dX11_orderBoxes_156 ⟨Nat.zero_le _, Nat.zero_le _⟩ ?_
                refine lv_istore (lv' := [(4, .int (nI (nx f x))), (6, .int (oI (ord f d (f x) (vo f x) (f y) (vo f y)))), (0, .ref (o)), (3, .int (nI (nB (nm)))), (5, .int (nI (y)))]) hx hb dX11_orderBoxes_159 hl (by decide) rfl (fun ls hl => ?_)
                refine lv_aload_n hx hb dX11_orderBoxes_161 rfl (lv_at hl 2 rfl) ?_
                refine lv_iload hx hb dX11_orderBoxes_162 (lv_at hl 4 rfl) ?_
                refine zc_V (As := [.int (nI (y))]) (rest := []) ⟨hx, hb, hml, hown, hts⟩ (m_nextOf l G o qs fs f y hok2) (cwV 1 hts (zgV wm_X11_140 wv_X11_nextOf) rfl rfl rfl (by decide +kernel) ⟨show 2 + 1 ≤ 2 * d + 4 by omega, show 8 + (4 + 11) + (43) ≤ 55 * d + 89 by omega⟩) hK hO rfl hP rfl hl.1 rfl (Nat.le_of_ble_eq_true rfl) dX11_orderBoxes_164 ⟨Nat.zero_le _, Nat.zero_le _⟩ ?_
                refine lv_istore (lv' := [(5, .int (nI (nx f y))), (4, .int (nI (nx f x))), (6, .int (oI (ord f d (f x) (vo f x) (f y) (vo f y)))), (0, .ref (o)), (3, .int (nI (nB (nm))))]) hx hb dX11_orderBoxes_167 hl (by decide) rfl (fun ls hl => ?_)
                refine lv_goto (tgt := 14) hx hb dX11_orderBoxes_169 (by decide) ?_
                exact ih_ (nx f x) (nx f y) (X') (Y') (by simp at hm_; omega) hc' hc2' (Ch.lt (by decide) hc') (Ch.lt (by decide) hc2') (fun z hz => hXi z (List.mem_cons_of_mem _ hz)) (fun z hz => hYi z (List.mem_cons_of_mem _ hz)) (hs.trans (obx_eq hr9)) ls (lv_sub hl [3, 4, 1, 0] rfl)
              · refine lv_iload hx hb dX11_orderBoxes_142 (lv_at hl 0 rfl) ?_
                refine lv_if_ge (tgt := 151) hx hb dX11_orderBoxes_144 (by decide) (fun c_144 => ?_) (fun c_144 => ?_)
                · have hl9 : ord f d (f x) (vo f x) (f y) (vo f y) ≠ .eq := fun q => c_139 ((oI_eq _).mpr q)
                  have hr9 : cEl f (fun x y => ord f d (f x) (vo f x) (f y) (vo f y)) nm x y = .gt := (cEl_v (fun q => absurd (c_25.symm.trans q) (by decide))).trans (z_ogt hl9 c_144)
                  refine lv_iconst (v := nI 1) hx hb dX11_orderBoxes_151 (by decide) ?_
                  exact zr_i hx hb hr hlocks (by rw [hs, obx_ne (by rw [hr9]; decide), hr9]; first | rfl | decide) dX11_orderBoxes_152
                · have hl9 : ord f d (f x) (vo f x) (f y) (vo f y) ≠ .eq := fun q => c_139 ((oI_eq _).mpr q)
                  have hr9 : cEl f (fun x y => ord f d (f x) (vo f x) (f y) (vo f y)) nm x y = .lt := (cEl_v (fun q => absurd (c_25.symm.trans q) (by decide))).trans (z_olt c_144)
                  refine lv_iconst (v := (-1)) hx hb dX11_orderBoxes_147 (by decide) ?_
                  refine lv_goto (tgt := 152) hx hb dX11_orderBoxes_148 (by decide) ?_
                  exact zr_i hx hb hr hlocks (by rw [hs, obx_ne (by rw [hr9]; decide), hr9]; first | rfl | decide) dX11_orderBoxes_152
            · exact absurd (c_25.symm.trans c_61) (by decide)
          · refine lv_aload_n hx hb dX11_orderBoxes_28 rfl (lv_at hl 0 rfl) ?_
            refine zi_get (C := RX11) (T := TX11) (N := 23) (v := .ref (qs)) hx hb hz wo_X11 hown hK hO rfl 1 (by decide) (hz _ wf_X11_7) (fun _ h9 => h9) hS1 dX11_orderBoxes_29 ?_
            refine lv_iload hx hb dX11_orderBoxes_32 (lv_at hl 2 rfl) ?_
            refine zi_ald hx hb hK hA (by omega) (by decide) dX11_orderBoxes_34 ?_
            refine zc_S (As := [.int (nI (f x))]) (rest := []) ⟨hx, hb, hml, hown, hts⟩ (m_classOf l G (f x) (Nat.lt_trans (h8 _) (by decide))) (cwS 1 hts (zgS wm_X11_246 wu_X11_classOf) rfl rfl rfl (by decide +kernel) ⟨show 0 + 1 ≤ 2 * d + 4 by omega, show 8 + (1 + 11) + (0) ≤ 55 * d + 89 by omega⟩) hK trivial rfl hl.1 rfl (Nat.le_of_ble_eq_true rfl) dX11_orderBoxes_35 ⟨Nat.zero_le _, Nat.zero_le _⟩ ?_
            refine lv_aload_n hx hb dX11_orderBoxes_38 rfl (lv_at hl 0 rfl) ?_
            refine zi_get (C := RX11) (T := TX11) (N := 23) (v := .ref (qs)) hx hb hz wo_X11 hown hK hO rfl 1 (by decide) (hz _ wf_X11_7) (fun _ h9 => h9) hS1 dX11_orderBoxes_39 ?_
            refine lv_iload hx hb dX11_orderBoxes_42 (lv_at hl 3 rfl) ?_
            refine zi_ald hx hb hK hA (by omega) (by decide) dX11_orderBoxes_44 ?_
            refine zc_S (As := [.int (nI (f y))]) (rest := [.int (nI (clO (f x)))]) ⟨hx, hb, hml, hown, hts⟩ (m_classOf l G (f y) (Nat.lt_trans (h8 _) (by decide))) (cwS 1 hts (zgS wm_X11_246 wu_X11_classOf) rfl rfl rfl (by decide +kernel) ⟨show 0 + 1 ≤ 2 * d + 4 by omega, show 8 + (1 + 11) + (0) ≤ 55 * d + 89 by omega⟩) hK trivial rfl hl.1 rfl (Nat.le_of_ble_eq_true rfl) dX11_orderBoxes_45 ⟨Nat.zero_le _, Nat.zero_le _⟩ ?_
            refine lv_isub hx hb dX11_orderBoxes_48 ?_
            refine lv_goto (tgt := 53) hx hb dX11_orderBoxes_49 (by decide) ?_
            refine lv_istore (lv' := [(6, .int (nI (clO (f x)) - nI (clO (f y)))), (0, .ref (o)), (3, .int (nI (nB (nm)))), (4, .int (nI (x))), (5, .int (nI (y)))]) hx hb dX11_orderBoxes_53 hl (by decide) rfl (fun ls hl => ?_)
            refine lv_iload hx hb dX11_orderBoxes_55 (lv_at hl 0 rfl) ?_
            refine lv_if_ne (tgt := 100) hx hb dX11_orderBoxes_57 (by decide) (fun c_57 => ?_) (fun c_57 => ?_)
            · refine lv_iload hx hb dX11_orderBoxes_100 (lv_at hl 0 rfl) ?_
              refine lv_if_ne (tgt := 137) hx hb dX11_orderBoxes_102 (by decide) (fun c_102 => ?_) (fun c_102 => ?_)
              · refine lv_iload hx hb dX11_orderBoxes_137 (lv_at hl 0 rfl) ?_
                refine lv_if_eq (tgt := 153) hx hb dX11_orderBoxes_139 (by decide) (fun c_139 => ?_) (fun c_139 => ?_)
                · exact absurd c_139 c_102
                · refine lv_iload hx hb dX11_orderBoxes_142 (lv_at hl 0 rfl) ?_
                  refine lv_if_ge (tgt := 151) hx hb dX11_orderBoxes_144 (by decide) (fun c_144 => ?_) (fun c_144 => ?_)
                  · have hr9 : cEl f (fun x y => ord f d (f x) (vo f x) (f y) (vo f y)) nm x y = .gt := cEl_gt c_25 (Nat.lt_of_le_of_ne ((z_difge (Nat.lt_trans (clO_lt _) (by decide)) (Nat.lt_trans (clO_lt _) (by decide))).mp c_144) (fun q => c_57 ((z_dif0 (Nat.lt_trans (clO_lt _) (by decide)) (Nat.lt_trans (clO_lt _) (by decide))).mpr q.symm)))
                    refine lv_iconst (v := nI 1) hx hb dX11_orderBoxes_151 (by decide) ?_
                    exact zr_i hx hb hr hlocks (by rw [hs, obx_ne (by rw [hr9]; decide), hr9]; first | rfl | decide) dX11_orderBoxes_152
                  · have hr9 : cEl f (fun x y => ord f d (f x) (vo f x) (f y) (vo f y)) nm x y = .lt := cEl_lt c_25 (Nat.lt_of_not_le (fun q => c_144 ((z_difge (Nat.lt_trans (clO_lt _) (by decide)) (Nat.lt_trans (clO_lt _) (by decide))).mpr q)))
                    refine lv_iconst (v := (-1)) hx hb dX11_orderBoxes_147 (by decide) ?_
                    refine lv_goto (tgt := 152) hx hb dX11_orderBoxes_148 (by decide) ?_
                    exact zr_i hx hb hr hlocks (by rw [hs, obx_ne (by rw [hr9]; decide), hr9]; first | rfl | decide) dX11_orderBoxes_152
              · exact absurd c_102 c_57
            · refine lv_iload_n hx hb dX11_orderBoxes_60 rfl (lv_at hl 2 rfl) ?_
              refine zb_if_eq (tgt := 100) hx hb dX11_orderBoxes_61 (by decide) (fun c_61 => ?_) (fun c_61 => ?_)
              · exact absurd (c_25.symm.trans c_61) (by decide)
              · refine lv_aload_n hx hb dX11_orderBoxes_64 rfl (lv_at hl 1 rfl) ?_
                refine lv_iload hx hb dX11_orderBoxes_65 (lv_at hl 3 rfl) ?_
                refine lv_iconst (v := nI 1) hx hb dX11_orderBoxes_67 (by decide) ?_
                refine zi_add hx hb dX11_orderBoxes_68 ?_
                refine lv_aload_n hx hb dX11_orderBoxes_69 rfl (lv_at hl 1 rfl) ?_
                refine lv_iload hx hb dX11_orderBoxes_70 (lv_at hl 3 rfl) ?_
                refine zc_V (As := [.int (nI (x))]) (rest := [.int (nI (x + 1)), .ref (o)]) ⟨hx, hb, hml, hown, hts⟩ (m_nameEndOf l G o qs fs f x hok.1) (cwV 1 hts (zgV wm_X11_125 wv_X11_nameEndOf) rfl rfl rfl (by decide +kernel) ⟨show 0 + 1 ≤ 2 * d + 4 by omega, show 8 + (3 + 11) + (0) ≤ 55 * d + 89 by omega⟩) hK hO rfl hP rfl hl.1 rfl (Nat.le_of_ble_eq_true rfl) dX11_orderBoxes_72 ⟨Nat.zero_le _, Nat.zero_le _⟩ ?_
                refine lv_iload hx hb dX11_orderBoxes_75 (lv_at hl 3 rfl) ?_
                refine zi_sub hx hb (by have := ne_gt f x; omega) dX11_orderBoxes_77 ?_
                refine lv_iconst (v := nI 1) hx hb dX11_orderBoxes_78 (by decide) ?_
                refine zi_sub hx hb (by have := ne_gt f x; omega) dX11_orderBoxes_79 ?_
                refine lv_iload hx hb dX11_orderBoxes_80 (lv_at hl 4 rfl) ?_
                refine lv_iconst (v := nI 1) hx hb dX11_orderBoxes_82 (by decide) ?_
                refine zi_add hx hb dX11_orderBoxes_83 ?_
                refine lv_aload_n hx hb dX11_orderBoxes_84 rfl (lv_at hl 1 rfl) ?_
                refine lv_iload hx hb dX11_orderBoxes_85 (lv_at hl 4 rfl) ?_
                refine zc_V (As := [.int (nI (y))]) (rest := [.int (nI (y + 1)), .int (nI (ne f x - x - 1)), .int (nI (x + 1)), .ref (o)]) ⟨hx, hb, hml, hown, hts⟩ (m_nameEndOf l G o qs fs f y hok2.1) (cwV 1 hts (zgV wm_X11_125 wv_X11_nameEndOf) rfl rfl rfl (by decide +kernel) ⟨show 0 + 1 ≤ 2 * d + 4 by omega, show 8 + (3 + 11) + (0) ≤ 55 * d + 89 by omega⟩) hK hO rfl hP rfl hl.1 rfl (Nat.le_of_ble_eq_true rfl) dX11_orderBoxes_87 ⟨Nat.zero_le _, Nat.zero_le _⟩ ?_
                refine lv_iload hx hb dX11_orderBoxes_90 (lv_at hl 4 rfl) ?_
                refine zi_sub hx hb (by have := ne_gt f y; omega) dX11_orderBoxes_92 ?_
                refine lv_iconst (v := nI 1) hx hb dX11_orderBoxes_93 (by decide) ?_
                refine zi_sub hx hb (by have := ne_gt f y; omega) dX11_orderBoxes_94 ?_
                refine zc_V (As := [.int (nI (x + 1)), .int (nI (ne f x - x - 1)), .int (nI (y + 1)), .int (nI (ne f y - y - 1))]) (rest := []) ⟨hx, hb, hml, hown, hts⟩ (m_orderBytes l G o qs fs f (x + 1) (ne f x - x - 1) (y + 1) (ne f y - y - 1) (by have := hok.1.2; omega) (by have := hok2.1.2; omega)) (cwV 4 hts (zgV wm_X11_249 wv_X11_orderBytes) rfl rfl rfl (by decide +kernel) ⟨show 0 + 1 ≤ 2 * d + 4 by omega, show 8 + (6 + 11) + (0) ≤ 55 * d + 89 by omega⟩) hK hO rfl hP rfl hl.1 rfl (Nat.le_of_ble_eq_true rfl) dX11_orderBoxes_95 ⟨Nat.zero_le _, Nat.zero_le _⟩ ?_
                refine lv_istore (lv' := [(6, .int (oI (lx (sg f (x + 1) (ne f x - x - 1)) (sg f (y + 1) (ne f y - y - 1))))), (0, .ref (o)), (3, .int (nI (nB (nm)))), (4, .int (nI (x))), (5, .int (nI (y)))]) hx hb dX11_orderBoxes_98 hl (by decide) rfl (fun ls hl => ?_)
                refine lv_iload hx hb dX11_orderBoxes_100 (lv_at hl 0 rfl) ?_
                refine lv_if_ne (tgt := 137) hx hb dX11_orderBoxes_102 (by decide) (fun c_102 => ?_) (fun c_102 => ?_)
                · refine lv_iload hx hb dX11_orderBoxes_137 (lv_at hl 0 rfl) ?_
                  refine lv_if_eq (tgt := 153) hx hb dX11_orderBoxes_139 (by decide) (fun c_139 => ?_) (fun c_139 => ?_)
                  · exact absurd c_139 c_102
                  · refine lv_iload hx hb dX11_orderBoxes_142 (lv_at hl 0 rfl) ?_
                    refine lv_if_ge (tgt := 151) hx hb dX11_orderBoxes_144 (by decide) (fun c_144 => ?_) (fun c_144 => ?_)
                    · have hl9 : lx (nL f x) (nL f y) ≠ .eq := fun q => c_102 ((oI_eq _).mpr q)
                      have hc9 : clO (f x) = clO (f y) := (z_dif0 (Nat.lt_trans (clO_lt _) (by decide)) (Nat.lt_trans (clO_lt _) (by decide))).mp c_57
                      have hr9 : cEl f (fun x y => ord f d (f x) (vo f x) (f y) (vo f y)) nm x y = .gt := (cEl_nm c_25 hc9 hl9).trans (z_ogt hl9 c_144)
                      refine lv_iconst (v := nI 1) hx hb dX11_orderBoxes_151 (by decide) ?_
                      exact zr_i hx hb hr hlocks (by rw [hs, obx_ne (by rw [hr9]; decide), hr9]; first | rfl | decide) dX11_orderBoxes_152
                    · have hl9 : lx (nL f x) (nL f y) ≠ .eq := fun q => c_102 ((oI_eq _).mpr q)
                      have hc9 : clO (f x) = clO (f y) := (z_dif0 (Nat.lt_trans (clO_lt _) (by decide)) (Nat.lt_trans (clO_lt _) (by decide))).mp c_57
                      have hr9 : cEl f (fun x y => ord f d (f x) (vo f x) (f y) (vo f y)) nm x y = .lt := (cEl_nm c_25 hc9 hl9).trans (z_olt c_144)
                      refine lv_iconst (v := (-1)) hx hb dX11_orderBoxes_147 (by decide) ?_
                      refine lv_goto (tgt := 152) hx hb dX11_orderBoxes_148 (by decide) ?_
                      exact zr_i hx hb hr hlocks (by rw [hs, obx_ne (by rw [hr9]; decide), hr9]; first | rfl | decide) dX11_orderBoxes_152
                · refine lv_aload_n hx hb dX11_orderBoxes_105 rfl (lv_at hl 1 rfl) ?_
                  refine lv_aload_n hx hb dX11_orderBoxes_106 rfl (lv_at hl 1 rfl) ?_
                  refine zi_get (C := RX11) (T := TX11) (N := 23) (v := .ref (qs)) hx hb hz wo_X11 hown hK hO rfl 1 (by decide) (hz _ wf_X11_7) (fun _ h9 => h9) hS1 dX11_orderBoxes_107 ?_
                  refine lv_iload hx hb dX11_orderBoxes_110 (lv_at hl 3 rfl) ?_
                  refine zi_ald hx hb hK hA (by omega) (by decide) dX11_orderBoxes_112 ?_
                  refine lv_aload_n hx hb dX11_orderBoxes_113 rfl (lv_at hl 1 rfl) ?_
                  refine lv_iload hx hb dX11_orderBoxes_114 (lv_at hl 3 rfl) ?_
                  refine zc_V (As := [.int (nI (x))]) (rest := [.int (nI (f x)), .ref (o)]) ⟨hx, hb, hml, hown, hts⟩ (m_valueOf l G o qs fs f x hok.1) (cwV 1 hts (zgV wm_X11_131 wv_X11_valueOf) rfl rfl rfl (by decide +kernel) ⟨show 1 + 1 ≤ 2 * d + 4 by omega, show 8 + (2 + 11) + (22) ≤ 55 * d + 89 by omega⟩) hK hO rfl hP rfl hl.1 rfl (Nat.le_of_ble_eq_true rfl) dX11_orderBoxes_116 ⟨Nat.zero_le _, Nat.zero_le _⟩ ?_
                  refine lv_aload_n hx hb dX11_orderBoxes_119 rfl (lv_at hl 1 rfl) ?_
                  refine zi_get (C := RX11) (T := TX11) (N := 23) (v := .ref (qs)) hx hb hz wo_X11 hown hK hO rfl 1 (by decide) (hz _ wf_X11_7) (fun _ h9 => h9) hS1 dX11_orderBoxes_120 ?_
                  refine lv_iload hx hb dX11_orderBoxes_123 (lv_at hl 4 rfl) ?_
                  refine zi_ald hx hb hK hA (by omega) (by decide) dX11_orderBoxes_125 ?_
                  refine lv_aload_n hx hb dX11_orderBoxes_126 rfl (lv_at hl 1 rfl) ?_
                  refine lv_iload hx hb dX11_orderBoxes_127 (lv_at hl 4 rfl) ?_
                  refine zc_V (As := [.int (nI (y))]) (rest := [.int (nI (f y)), .int (nI (vo f x)), .int (nI (f x)), .ref (o)]) ⟨hx, hb, hml, hown, hts⟩ (m_valueOf l G o qs fs f y hok2.1) (cwV 1 hts (zgV wm_X11_131 wv_X11_valueOf) rfl rfl rfl (by decide +kernel) ⟨show 1 + 1 ≤ 2 * d + 4 by omega, show 8 + (2 + 11) + (22) ≤ 55 * d + 89 by omega⟩) hK hO rfl hP rfl hl.1 rfl (Nat.le_of_ble_eq_true rfl) dX11_orderBoxes_129 ⟨Nat.zero_le _, Nat.zero_le _⟩ ?_
                  refine zc_V (As := [.int (nI (f x)), .int (nI (vo f x)), .int (nI (f y)), .int (nI (vo f y))]) (rest := []) ⟨hx, hb, hml, hown, hts⟩ (IH (f x) (vo f x) (f y) (vo f y) (hLo x hx9) (hMo y hy9)) (cwV 4 hts (zgV wm_X11_257 wv_X11_order) rfl rfl rfl (by decide +kernel) ⟨show 2 * d + 3 + 1 ≤ 2 * d + 4 by omega, show 8 + (10 + 11) + (55 * d + 60) ≤ 55 * d + 89 by omega⟩) hK hO rfl hP rfl hl.1 rfl (Nat.le_of_ble_eq_true rfl) dX11_orderBoxes_132 ⟨Nat.zero_le _, Nat.zero_le _⟩ ?_
                  refine lv_istore (lv' := [(6, .int (oI (ord f d (f x) (vo f x) (f y) (vo f y)))), (0, .ref (o)), (3, .int (nI (nB (nm)))), (4, .int (nI (x))), (5, .int (nI (y)))]) hx hb dX11_orderBoxes_135 hl (by decide) rfl (fun ls hl => ?_)
                  refine lv_iload hx hb dX11_orderBoxes_137 (lv_at hl 0 rfl) ?_
                  refine lv_if_eq (tgt := 153) hx hb dX11_orderBoxes_139 (by decide) (fun c_139 => ?_) (fun c_139 => ?_)
                  · have hr9 : cEl f (fun x y => ord f d (f x) (vo f x) (f y) (vo f y)) nm x y = .eq := (cEl_v (fun _ => ⟨(z_dif0 (Nat.lt_trans (clO_lt _) (by decide)) (Nat.lt_trans (clO_lt _) (by decide))).mp c_57, (oI_eq _).mp c_102⟩)).trans ((oI_eq _).mp c_139)
                    refine lv_aload_n hx hb dX11_orderBoxes_153 rfl (lv_at hl 1 rfl) ?_
                    refine lv_iload hx hb dX11_orderBoxes_154 (lv_at hl 3 rfl) ?_
                    refine zc_V (As := [.int (nI (x))]) (rest := []) ⟨hx, hb, hml, hown, hts⟩ (m_nextOf l G o qs fs f x hok) (cwV 1 hts (zgV wm_X11_140 wv_X11_nextOf) rfl rfl rfl (by decide +kernel) ⟨show 2 + 1 ≤ 2 * d + 4 by omega, show 8 + (4 + 11) + (43) ≤ 55 * d + 89 by omega⟩) hK hO rfl hP rfl hl.1 rfl (Nat.le_of_ble_eq_true rfl) dX11_orderBoxes_156 ⟨Nat.zero_le _, Nat.zero_le _⟩ ?_
                    refine lv_istore (lv' := [(4, .int (nI (nx f x))), (6, .int (oI (ord f d (f x) (vo f x) (f y) (vo f y)))), (0, .ref (o)), (3, .int (nI (nB (nm)))), (5, .int (nI (y)))]) hx hb dX11_orderBoxes_159 hl (by decide) rfl (fun ls hl => ?_)
                    refine lv_aload_n hx hb dX11_orderBoxes_161 rfl (lv_at hl 2 rfl) ?_
                    refine lv_iload hx hb dX11_orderBoxes_162 (lv_at hl 4 rfl) ?_
                    refine zc_V (As := [.int (nI (y))]) (rest := []) ⟨hx, hb, hml, hown, hts⟩ (m_nextOf l G o qs fs f y hok2) (cwV 1 hts (zgV wm_X11_140 wv_X11_nextOf) rfl rfl rfl (by decide +kernel) ⟨show 2 + 1 ≤ 2 * d + 4 by omega, show 8 + (4 + 11) + (43) ≤ 55 * d + 89 by omega⟩) hK hO rfl hP rfl hl.1 rfl (Nat.le_of_ble_eq_true rfl) dX11_orderBoxes_164 ⟨Nat.zero_le _, Nat.zero_le _⟩ ?_
                    refine lv_istore (lv' := [(5, .int (nI (nx f y))), (4, .int (nI (nx f x))), (6, .int (oI (ord f d (f x) (vo f x) (f y) (vo f y)))), (0, .ref (o)), (3, .int (nI (nB (nm))))]) hx hb dX11_orderBoxes_167 hl (by decide) rfl (fun ls hl => ?_)
                    refine lv_goto (tgt := 14) hx hb dX11_orderBoxes_169 (by decide) ?_
                    exact ih_ (nx f x) (nx f y) (X') (Y') (by simp at hm_; omega) hc' hc2' (Ch.lt (by decide) hc') (Ch.lt (by decide) hc2') (fun z hz => hXi z (List.mem_cons_of_mem _ hz)) (fun z hz => hYi z (List.mem_cons_of_mem _ hz)) (hs.trans (obx_eq hr9)) ls (lv_sub hl [3, 4, 1, 0] rfl)
                  · refine lv_iload hx hb dX11_orderBoxes_142 (lv_at hl 0 rfl) ?_
                    refine lv_if_ge (tgt := 151) hx hb dX11_orderBoxes_144 (by decide) (fun c_144 => ?_) (fun c_144 => ?_)
                    · have hl9 : ord f d (f x) (vo f x) (f y) (vo f y) ≠ .eq := fun q => c_139 ((oI_eq _).mpr q)
                      have hr9 : cEl f (fun x y => ord f d (f x) (vo f x) (f y) (vo f y)) nm x y = .gt := (cEl_v (fun _ => ⟨(z_dif0 (Nat.lt_trans (clO_lt _) (by decide)) (Nat.lt_trans (clO_lt _) (by decide))).mp c_57, (oI_eq _).mp c_102⟩)).trans (z_ogt hl9 c_144)
                      refine lv_iconst (v := nI 1) hx hb dX11_orderBoxes_151 (by decide) ?_
                      exact zr_i hx hb hr hlocks (by rw [hs, obx_ne (by rw [hr9]; decide), hr9]; first | rfl | decide) dX11_orderBoxes_152
                    · have hl9 : ord f d (f x) (vo f x) (f y) (vo f y) ≠ .eq := fun q => c_139 ((oI_eq _).mpr q)
                      have hr9 : cEl f (fun x y => ord f d (f x) (vo f x) (f y) (vo f y)) nm x y = .lt := (cEl_v (fun _ => ⟨(z_dif0 (Nat.lt_trans (clO_lt _) (by decide)) (Nat.lt_trans (clO_lt _) (by decide))).mp c_57, (oI_eq _).mp c_102⟩)).trans (z_olt c_144)
                      refine lv_iconst (v := (-1)) hx hb dX11_orderBoxes_147 (by decide) ?_
                      refine lv_goto (tgt := 152) hx hb dX11_orderBoxes_148 (by decide) ?_
                      exact zr_i hx hb hr hlocks (by rw [hs, obx_ne (by rw [hr9]; decide), hr9]; first | rfl | decide) dX11_orderBoxes_152
  exact L14 (((els f a).length) + 1) (fi f a) (fi f b) (els f a) (els f b) (Nat.lt_succ_self _) hL.2 hM.2 hf1 hf2 (fun _ z => z) (fun _ z => z) rfl ls (lv_sub hl [2, 5, 1, 0] rfl)

theorem m_order_all (l : Launch) (G : zG) (o qs : Nat) (fs : List Value) (f : Nat → Nat) : ∀ d, C_order l G o qs fs f d
  | 0 => fun k a k2 b hk hk2 => m_order_ l G o qs fs f 0 k a k2 b hk hk2 (fun d' q => by omega)
  | d + 1 => fun k a k2 b hk hk2 => m_order_ l G o qs fs f (d + 1) k a k2 b hk hk2 (fun d' q => by
      have q2 : d' = d := by omega
      subst q2
      exact fun a b nm h1 h2 h3 h4 => m_boxes_ l G o qs fs f d' (m_order_all l G o qs fs f d') a b nm h1 h2 h3 h4)
