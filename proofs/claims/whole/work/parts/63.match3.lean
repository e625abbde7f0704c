set_option maxHeartbeats 4000000 in
set_option maxRecDepth 100000 in
theorem c_compares (l : Launch) (G : zG) (f : Nat → Nat) (pf pf2 : Nat → Int32) (mt ms hm : Nat) (sg : Nat) (hsg : sg < 16) (v hv k a : Nat) (w : List Nat) (pl : Int32) (nxt : Option Nat) (v2 hv2 k2 b : Nat) (w2 : List Nat) (pl2 : Int32) (nxt2 : Option Nat) (hk : okV f 16 k a) (hw : okW f 16 k a) (hk2 : okV f 16 k2 b) (hw2 : okW f 16 k2 b) : Met l yX4_compares wsX4_compares ({ frames := 54, cells := 0, slots := 0, locals := 1589 }) (zP G [.ref (mt), .int (nI (sg)), .ref (v), .ref (v2)] (fun H => MA G H f pf mt ms hm ∧ Nod G H f pf 16 v hv k a w pl nxt ∧ Nod G H f pf2 16 v2 hv2 k2 b w2 pl2 nxt2)) (zR (.int (nI (nB (cmS f sg k a k2 b))))) 0 0 (fun _ => False) := by
  refine Met.ofW (cc := cX4_compares) (maxL := 5) (ret := (some .boolean)) (by decide) rfl ?_
  intro p en s m args below meth c s₁ B hml hv
  obtain ⟨rfl, hP, hK⟩ := hv
  have hx := B.exec
  have hb := B.bytes
  have hr := B.returns
  have hts := atoms_spec (ws := wsX4_compares) B.pre
  have hz : ∀ w ∈ zW, w.before _ s = true := fun w h => hts w (List.mem_cons_of_mem _ h)
  have hown : s.vm.findClass RX4 = some m.cls := findClass_of_methodNamed B.named
  have hlocks := B.notSynchronized
  obtain ⟨⟨hM, hMs, hCH⟩, hN, hN2⟩ := id hP
  obtain ⟨nm, tx, f1, l1, n1, hO, hS, hT, hvl⟩ := hN.o
  obtain ⟨nm2, tx2, f2, l2, n2, hO2, hS2, hT2, hvl2⟩ := hN2.o
  have hl := lv_entry ([.ref (mt), .int (nI (sg)), .ref (v), .ref (v2)]) (n := 5) (Nat.le_of_ble_eq_true rfl)
  rw [lg_entry_eq]
  generalize (lg_sl ([.ref (mt), .int (nI (sg)), .ref (v), .ref (v2)]) ++ List.replicate (5 - (lg_sl ([.ref (mt), .int (nI (sg)), .ref (v), .ref (v2)])).length) Slot.unset).toArray = ls at hl ⊢
  have hl : lv_has ls 5 [(0, .ref (mt)), (1, .int (nI (sg))), (2, .ref (v)), (3, .ref (v2))] := hl
  refine lv_aload_n hx hb dX4_compares_0 rfl (lv_at hl 2 rfl) ?_
  refine zi_getN (C := RX9) (T := TX9) (N := 9) (v := .int (nI (k))) hx hb hz wo_X9 hown hK hO rfl 0 (by decide) wf_X4_71 (fun _ h9 => h9) rfl dX4_compares_1 ?_
  refine zc_SN (As := [.int (nI (k))]) (rest := []) ⟨hx, hb, hml, hown, hts⟩ (c_classOf l G (k) hk.b.lt) ⟨va_cnB 1 hts (zgN wc_X3_classOf) rfl rfl rfl (hK.2.1 _ wm_X4_126) (hz _ wi_X3) (by decide +kernel) ⟨Nat.le_of_ble_eq_true rfl, Nat.le_of_ble_eq_true rfl⟩, hz _ wt_X3_classOf, trivial⟩ hK trivial rfl hl.1 rfl (Nat.le_of_ble_eq_true rfl) dX4_compares_4 ⟨Nat.zero_le _, Nat.zero_le _⟩ ?_
  refine lv_aload_n hx hb dX4_compares_7 rfl (lv_at hl 3 rfl) ?_
  refine zi_getN (C := RX9) (T := TX9) (N := 9) (v := .int (nI (k2))) hx hb hz wo_X9 hown hK hO2 rfl 0 (by decide) wf_X4_71 (fun _ h9 => h9) rfl dX4_compares_8 ?_
  refine zc_SN (As := [.int (nI (k2))]) (rest := [.int (nI (clO (k)))]) ⟨hx, hb, hml, hown, hts⟩ (c_classOf l G (k2) hk2.b.lt) ⟨va_cnB 1 hts (zgN wc_X3_classOf) rfl rfl rfl (hK.2.1 _ wm_X4_126) (hz _ wi_X3) (by decide +kernel) ⟨Nat.le_of_ble_eq_true rfl, Nat.le_of_ble_eq_true rfl⟩, hz _ wt_X3_classOf, trivial⟩ hK trivial rfl hl.1 rfl (Nat.le_of_ble_eq_true rfl) dX4_compares_11 ⟨Nat.zero_le _, Nat.zero_le _⟩ ?_
  refine zi_icmp_eq (tgt := 44) hx hb dX4_compares_14 (by decide) (Nat.lt_trans (clO_lt _) (by decide)) (Nat.lt_trans (clO_lt _) (by decide)) (fun c_14 => ?_) (fun c_14 => ?_)
  · refine lv_aload_n hx hb dX4_compares_44 rfl (lv_at hl 2 rfl) ?_
    refine lv_aload_n hx hb dX4_compares_45 rfl (lv_at hl 3 rfl) ?_
    refine lv_iconst (v := nI 1) hx hb dX4_compares_46 (by decide) ?_
    refine zc_SN (As := [.ref (v), .ref (v2), .int (nI (1))]) (rest := []) ⟨hx, hb, hml, hown, hts⟩ (c_cmp_all l G f 16 pf pf2 v hv k a w pl nxt v2 hv2 k2 b w2 pl2 nxt2 1 (by decide) hk hk2 hw hw2) ⟨va_cnB 3 hts (zgN wc_X5_compare) rfl rfl rfl (hK.2.1 _ wm_X4_130) (hz _ wi_X5) (by decide +kernel) ⟨Nat.le_of_ble_eq_true rfl, Nat.le_of_ble_eq_true rfl⟩, hz _ wt_X5_compare, trivial⟩ hK ⟨hN, hN2, hCH⟩ rfl hl.1 rfl (Nat.le_of_ble_eq_true rfl) dX4_compares_47 ⟨Nat.zero_le _, Nat.zero_le _⟩ ?_
    refine lv_istore (lv' := [(4, .int (oI (ord f 16 k a k2 b))), (0, .ref (mt)), (1, .int (nI (sg))), (2, .ref (v)), (3, .ref (v2))]) hx hb dX4_compares_50 hl (by decide) rfl (fun ls hl => ?_)
    refine lv_iload_n hx hb dX4_compares_52 rfl (lv_at hl 2 rfl) ?_
    by_cases c_53_5 : sg = 5
    · refine zi_tab hx hb dX4_compares_53 (Nat.lt_trans hsg (by decide)) 88 (by rw [c_53_5]; decide) ?_
      refine lv_iload hx hb dX4_compares_88 (lv_at hl 0 rfl) ?_
      refine lv_if_ne (tgt := 97) hx hb dX4_compares_90 (by decide) (fun c_90 => ?_) (fun c_90 => ?_)
      · refine lv_iconst (v := nI 0) hx hb dX4_compares_97 (by decide) ?_
        exact zr_z hx hb hr hlocks (by rw [cmS, if_pos c_14, c_53_5]; generalize ord f 16 k a k2 b = o at c_90 ⊢; cases o <;> first | rfl | exact absurd c_90 (by decide) | exact absurd (by decide) c_90) dX4_compares_98
      · refine lv_iconst (v := nI 1) hx hb dX4_compares_93 (by decide) ?_
        refine lv_goto (tgt := 98) hx hb dX4_compares_94 (by decide) ?_
        exact zr_z hx hb hr hlocks (by rw [cmS, if_pos c_14, c_53_5]; generalize ord f 16 k a k2 b = o at c_90 ⊢; cases o <;> first | rfl | exact absurd c_90 (by decide) | exact absurd (by decide) c_90) dX4_compares_98
    by_cases c_53_7 : sg = 7
    · refine zi_tab hx hb dX4_compares_53 (Nat.lt_trans hsg (by decide)) 99 (by rw [c_53_7]; decide) ?_
      refine lv_iload hx hb dX4_compares_99 (lv_at hl 0 rfl) ?_
      refine lv_if_ge (tgt := 108) hx hb dX4_compares_101 (by decide) (fun c_101 => ?_) (fun c_101 => ?_)
      · refine lv_iconst (v := nI 0) hx hb dX4_compares_108 (by decide) ?_
        exact zr_z hx hb hr hlocks (by rw [cmS, if_pos c_14, c_53_7]; generalize ord f 16 k a k2 b = o at c_101 ⊢; cases o <;> first | rfl | exact absurd c_101 (by decide) | exact absurd (by decide) c_101) dX4_compares_109
      · refine lv_iconst (v := nI 1) hx hb dX4_compares_104 (by decide) ?_
        refine lv_goto (tgt := 109) hx hb dX4_compares_105 (by decide) ?_
        exact zr_z hx hb hr hlocks (by rw [cmS, if_pos c_14, c_53_7]; generalize ord f 16 k a k2 b = o at c_101 ⊢; cases o <;> first | rfl | exact absurd c_101 (by decide) | exact absurd (by decide) c_101) dX4_compares_109
    by_cases c_53_8 : sg = 8
    · refine zi_tab hx hb dX4_compares_53 (Nat.lt_trans hsg (by decide)) 110 (by rw [c_53_8]; decide) ?_
      refine lv_iload hx hb dX4_compares_110 (lv_at hl 0 rfl) ?_
      refine lv_if_gt (tgt := 119) hx hb dX4_compares_112 (by decide) (fun c_112 => ?_) (fun c_112 => ?_)
      · refine lv_iconst (v := nI 0) hx hb dX4_compares_119 (by decide) ?_
        exact zr_z hx hb hr hlocks (by rw [cmS, if_pos c_14, c_53_8]; generalize ord f 16 k a k2 b = o at c_112 ⊢; cases o <;> first | rfl | exact absurd c_112 (by decide) | exact absurd (by decide) c_112) dX4_compares_120
      · refine lv_iconst (v := nI 1) hx hb dX4_compares_115 (by decide) ?_
        refine lv_goto (tgt := 120) hx hb dX4_compares_116 (by decide) ?_
        exact zr_z hx hb hr hlocks (by rw [cmS, if_pos c_14, c_53_8]; generalize ord f 16 k a k2 b = o at c_112 ⊢; cases o <;> first | rfl | exact absurd c_112 (by decide) | exact absurd (by decide) c_112) dX4_compares_120
    by_cases c_53_9 : sg = 9
    · refine zi_tab hx hb dX4_compares_53 (Nat.lt_trans hsg (by decide)) 121 (by rw [c_53_9]; decide) ?_
      refine lv_iload hx hb dX4_compares_121 (lv_at hl 0 rfl) ?_
      refine lv_if_le (tgt := 130) hx hb dX4_compares_123 (by decide) (fun c_123 => ?_) (fun c_123 => ?_)
      · refine lv_iconst (v := nI 0) hx hb dX4_compares_130 (by decide) ?_
        exact zr_z hx hb hr hlocks (by rw [cmS, if_pos c_14, c_53_9]; generalize ord f 16 k a k2 b = o at c_123 ⊢; cases o <;> first | rfl | exact absurd c_123 (by decide) | exact absurd (by decide) c_123) dX4_compares_131
      · refine lv_iconst (v := nI 1) hx hb dX4_compares_126 (by decide) ?_
        refine lv_goto (tgt := 131) hx hb dX4_compares_127 (by decide) ?_
        exact zr_z hx hb hr hlocks (by rw [cmS, if_pos c_14, c_53_9]; generalize ord f 16 k a k2 b = o at c_123 ⊢; cases o <;> first | rfl | exact absurd c_123 (by decide) | exact absurd (by decide) c_123) dX4_compares_131
    refine zi_tab hx hb dX4_compares_53 (Nat.lt_trans hsg (by decide)) 132 ((zTab_d [5, 7, 8, 9] (by decide +kernel) (by simp only [List.mem_cons, List.not_mem_nil, or_false, not_or]; exact ⟨c_53_5, c_53_7, c_53_8, c_53_9⟩)).trans (by decide)) ?_
    refine lv_iload hx hb dX4_compares_132 (lv_at hl 0 rfl) ?_
    refine lv_if_lt (tgt := 141) hx hb dX4_compares_134 (by decide) (fun c_134 => ?_) (fun c_134 => ?_)
    · refine lv_iconst (v := nI 0) hx hb dX4_compares_141 (by decide) ?_
      exact zr_z hx hb hr hlocks (by rw [cmS, if_pos c_14, oS, if_neg c_53_5, if_neg c_53_7, if_neg c_53_8, if_neg c_53_9]; generalize ord f 16 k a k2 b = o at c_134 ⊢; cases o <;> first | rfl | exact absurd c_134 (by decide) | exact absurd (by decide) c_134) dX4_compares_142
    · refine lv_iconst (v := nI 1) hx hb dX4_compares_137 (by decide) ?_
      refine lv_goto (tgt := 142) hx hb dX4_compares_138 (by decide) ?_
      exact zr_z hx hb hr hlocks (by rw [cmS, if_pos c_14, oS, if_neg c_53_5, if_neg c_53_7, if_neg c_53_8, if_neg c_53_9]; generalize ord f 16 k a k2 b = o at c_134 ⊢; cases o <;> first | rfl | exact absurd c_134 (by decide) | exact absurd (by decide) c_134) dX4_compares_142
  · refine lv_iload_n hx hb dX4_compares_17 rfl (lv_at hl 1 rfl) ?_
    refine lv_iconst (v := nI 5) hx hb dX4_compares_18 (by decide) ?_
    refine zi_icmp_ne (tgt := 42) hx hb dX4_compares_19 (by decide) (Nat.lt_trans hsg (by decide)) (by omega) (fun c_19 => ?_) (fun c_19 => ?_)
    · refine lv_iconst (v := nI 0) hx hb dX4_compares_42 (by decide) ?_
      exact zr_z hx hb hr hlocks (by rw [cmS, if_neg c_14, decide_eq_false (fun z => c_19 z.1)]; rfl) dX4_compares_43
    · refine lv_aload_n hx hb dX4_compares_22 rfl (lv_at hl 2 rfl) ?_
      refine zi_getN (C := RX9) (T := TX9) (N := 9) (v := .int (nI (k))) hx hb hz wo_X9 hown hK hO rfl 0 (by decide) wf_X4_71 (fun _ h9 => h9) rfl dX4_compares_23 ?_
      refine zi_if_ne (tgt := 42) hx hb dX4_compares_26 (by decide) hk.b.lt (fun c_26 => ?_) (fun c_26 => ?_)
      · refine lv_iconst (v := nI 0) hx hb dX4_compares_42 (by decide) ?_
        exact zr_z hx hb hr hlocks (by rw [cmS, if_neg c_14, decide_eq_false (fun z => c_26 z.2.1)]; rfl) dX4_compares_43
      · refine lv_aload_n hx hb dX4_compares_29 rfl (lv_at hl 3 rfl) ?_
        refine zi_getN (C := RX9) (T := TX9) (N := 9) (v := .int (nI (k2))) hx hb hz wo_X9 hown hK hO2 rfl 0 (by decide) wf_X4_71 (fun _ h9 => h9) rfl dX4_compares_30 ?_
        refine lv_bipush (v := nI 10) hx hb dX4_compares_33 (by decide) ?_
        refine zi_icmp_ne (tgt := 42) hx hb dX4_compares_35 (by decide) hk2.b.lt (by omega) (fun c_35 => ?_) (fun c_35 => ?_)
        · refine lv_iconst (v := nI 0) hx hb dX4_compares_42 (by decide) ?_
          exact zr_z hx hb hr hlocks (by rw [cmS, if_neg c_14, decide_eq_false (fun z => c_35 z.2.2)]; rfl) dX4_compares_43
        · refine lv_iconst (v := nI 1) hx hb dX4_compares_38 (by decide) ?_
          refine lv_goto (tgt := 43) hx hb dX4_compares_39 (by decide) ?_
          exact zr_z hx hb hr hlocks (by rw [cmS, if_neg c_14, decide_eq_true ⟨c_19, c_26, c_35⟩]; rfl) dX4_compares_43

set_option maxHeartbeats 4000000 in
set_option maxRecDepth 100000 in
theorem c_pwi (l : Launch) (G : zG) (f : Nat → Nat) (pf pf2 : Nat → Int32) (mt ms hm : Nat) (sg : Nat) (hsg : sg < 16) (v hv k a : Nat) (w : List Nat) (pl : Int32) (nxt : Option Nat) (v2 hv2 k2 b : Nat) (w2 : List Nat) (pl2 : Int32) (nxt2 : Option Nat) (hk : okV f 16 k a) (hw : okW f 16 k a) (hk2 : okV f 16 k2 b) (hw2 : okW f 16 k2 b) : Met l yX4_passesWithItems wsX4_passesWithItems ({ frames := 55, cells := 0, slots := 0, locals := 1613 }) (zP G [.ref (mt), .int (nI (sg)), .ref (v2), .ref (v)] (fun H => MA G H f pf mt ms hm ∧ Nod G H f pf 16 v hv k a w pl nxt ∧ Nod G H f pf2 16 v2 hv2 k2 b w2 pl2 nxt2)) (zR (.int (nI (nB (pwI f sg k a k2 b))))) 0 0 (fun _ => False) := by
  refine Met.ofW (cc := cX4_passesWithItems) (maxL := 5) (ret := (some .boolean)) (by decide) rfl ?_
  intro p en s m args below meth c s₁ B hml hv
  obtain ⟨rfl, hP, hK⟩ := hv
  have hx := B.exec
  have hb := B.bytes
  have hr := B.returns
  have hts := atoms_spec (ws := wsX4_passesWithItems) B.pre
  have hz : ∀ w ∈ zW, w.before _ s = true := fun w h => hts w (List.mem_cons_of_mem _ h)
  have hown : s.vm.findClass RX4 = some m.cls := findClass_of_methodNamed B.named
  have hlocks := B.notSynchronized
  obtain ⟨hMA, hN, hN2⟩ := id hP
  obtain ⟨hM, hMs, hCH⟩ := id hMA
  obtain ⟨nm, tx, vs, hO, hS, hT, hvl, hkd0⟩ := id hN
  obtain ⟨nm2, tx2, f2, l2, n2, hO2, hS2, hT2, hvl2⟩ := hN2.o
  have hl := lv_entry ([.ref (mt), .int (nI (sg)), .ref (v2), .ref (v)]) (n := 5) (Nat.le_of_ble_eq_true rfl)
  rw [lg_entry_eq]
  generalize (lg_sl ([.ref (mt), .int (nI (sg)), .ref (v2), .ref (v)]) ++ List.replicate (5 - (lg_sl ([.ref (mt), .int (nI (sg)), .ref (v2), .ref (v)])).length) Slot.unset).toArray = ls at hl ⊢
  have hl : lv_has ls 5 [(0, .ref (mt)), (1, .int (nI (sg))), (2, .ref (v2)), (3, .ref (v))] := hl
  refine lv_aload_n hx hb dX4_passesWithItems_0 rfl (lv_at hl 0 rfl) ?_
  refine lv_iload_n hx hb dX4_passesWithItems_1 rfl (lv_at hl 1 rfl) ?_
  refine lv_aload_n hx hb dX4_passesWithItems_2 rfl (lv_at hl 3 rfl) ?_
  refine lv_aload_n hx hb dX4_passesWithItems_3 rfl (lv_at hl 2 rfl) ?_
  refine zc_V (As := [.int (nI (sg)), .ref (v), .ref (v2)]) (rest := []) ⟨hx, hb, hml, hown, hts⟩ (c_compares l G f pf pf2 mt ms hm sg hsg v hv k a w pl nxt v2 hv2 k2 b w2 pl2 nxt2 hk hw hk2 hw2) (cwV 3 hts (zgV wm_X4_123 wv_X4_compares) rfl rfl rfl (by decide +kernel) ⟨Nat.le_of_ble_eq_true rfl, Nat.le_of_ble_eq_true rfl⟩) hK hM rfl ⟨hMA, hN, hN2⟩ rfl hl.1 rfl (Nat.le_of_ble_eq_true rfl) dX4_passesWithItems_4 ⟨Nat.zero_le _, Nat.zero_le _⟩ ?_
  refine zb_if_eq (tgt := 12) hx hb dX4_passesWithItems_7 (by decide) (fun c_7 => ?_) (fun c_7 => ?_)
  · refine lv_aload_n hx hb dX4_passesWithItems_12 rfl (lv_at hl 3 rfl) ?_
    refine zi_getN (C := RX9) (T := TX9) (N := 9) (v := .int (nI (k))) hx hb hz wo_X9 hown hK hO rfl 0 (by decide) wf_X4_71 (fun _ h9 => h9) rfl dX4_passesWithItems_13 ?_
    refine lv_iconst (v := nI 4) hx hb dX4_passesWithItems_16 (by decide) ?_
    refine zi_icmp_eq (tgt := 22) hx hb dX4_passesWithItems_17 (by decide) hk.b.lt (by omega) (fun c_17 => ?_) (fun c_17 => ?_)
    · rw [if_pos (Or.inr c_17)] at hkd0
      refine lv_aload_n hx hb dX4_passesWithItems_22 rfl (lv_at hl 3 rfl) ?_
      refine zi_getN (C := RX9) (T := TX9) (N := 9) (v := va_rf (vs.head?)) hx hb hz wo_X9 hown hK hO rfl 5 (by decide) wf_X4_89 (fun _ h9 => h9) rfl dX4_passesWithItems_23 ?_
      refine zo_astore (lv' := [(4, va_rf (vs.head?)), (0, .ref (mt)), (1, .int (nI (sg))), (2, .ref (v2)), (3, .ref (v))]) hx hb dX4_passesWithItems_26 hl (by decide) rfl (fun ls hl => ?_)
      have L28 : ∀ (n_ : Nat) (ws : List Nat) (xs : List Nat) (lo : Nat), ws.length < n_ → (kidL (fun v1 mid x n1 => Nod G s.heap f pf 15 v1 mid (f x) (vo f x) (nL f x) (pf x) n1) lo hv ws xs) → (∀ z ∈ xs, z ∈ els f a) → ((els f a).any (fun x => cmS f sg (f x) (vo f x) k2 b) = xs.any (fun x => cmS f sg (f x) (vo f x) k2 b)) → ∀ ls : Array Slot, lv_has ls 5 [(0, .ref (mt)), (1, .int (nI (sg))), (2, .ref (v2)), (3, .ref (v)), (4, va_rf (ws.head?))] → W p l en (headSpec wsX4_passesWithItems ({ frames := 55, cells := 0, slots := 0, locals := 1613 })).room s m ([.ref (mt), .int (nI (sg)), .ref (v2), .ref (v)] : List Value).toArray below meth c s.heap [] 0 0 (MQ below (zR (.int (nI (nB (pwI f sg k a k2 b))))) ([.ref (mt), .int (nI (sg)), .ref (v2), .ref (v)] : List Value).toArray s 0 0 (fun _ => False)) (F0 m 28 ls []) := by
        intro n_
        induction n_ with
        | zero => intro ws xs lo hm_; exact absurd hm_ (Nat.not_lt_zero _)
        | succ n_ ih_ =>
          intro ws xs lo hm_ hkd hXi hs9 ls hl
          refine zo_aload hx hb dX4_passesWithItems_28 (lv_at hl 4 rfl) ?_
          rcases ws with _ | ⟨v1, vs1⟩
          · have hl : lv_has ls 5 [(0, .ref (mt)), (1, .int (nI (sg))), (2, .ref (v2)), (3, .ref (v)), (4, .null)] := hl
            have hxs_ws := kidL_nil hkd
            subst hxs_ws
            refine W.eq (g2 := F0 m 30 ls ([.null])) rfl ?_
            refine lv_ifnullN (tgt := 56) hx hb dX4_passesWithItems_30 (by decide) ?_
            refine lv_iconst (v := nI 0) hx hb dX4_passesWithItems_56 (by decide) ?_
            exact zr_z hx hb hr hlocks (by rw [pwI, c_7, decide_eq_true c_17, hs9]; rfl) dX4_passesWithItems_57
          · have hl : lv_has ls 5 [(0, .ref (mt)), (1, .int (nI (sg))), (2, .ref (v2)), (3, .ref (v)), (4, .ref (v1))] := hl
            obtain ⟨x1, xs1, rfl, hlo1, mid1, hmi1, hN1, hkd1⟩ := kidL_cons hkd
            obtain ⟨nm1, tx1, f1, l1, n1, hO1, hS1, hT1, hv1⟩ := hN1.o
            obtain ⟨sv1, sh1, sz1, -, -, hSS1⟩ := id hS1
            refine W.eq (g2 := F0 m 30 ls ([.ref (v1)])) rfl ?_
            refine lv_ifnull hx hb dX4_passesWithItems_30 ?_
            refine lv_aload_n hx hb dX4_passesWithItems_33 rfl (lv_at hl 0 rfl) ?_
            refine lv_iload_n hx hb dX4_passesWithItems_34 rfl (lv_at hl 1 rfl) ?_
            refine lv_aload hx hb dX4_passesWithItems_35 (lv_at hl 4 rfl) ?_
            refine lv_aload_n hx hb dX4_passesWithItems_37 rfl (lv_at hl 2 rfl) ?_
            refine zc_V (As := [.int (nI (sg)), .ref (v1), .ref (v2)]) (rest := []) ⟨hx, hb, hml, hown, hts⟩ (c_compares l G f pf pf2 mt ms hm sg hsg v1 mid1 (f x1) (vo f x1) (nL f x1) (pf x1) vs1.head? v2 hv2 k2 b w2 pl2 nxt2 ((hk.2 (Or.inr c_17)).2 x1 (hXi x1 List.mem_cons_self)).up (okW.up ((hk.2 (Or.inr c_17)).2 x1 (hXi x1 List.mem_cons_self)) (hw.2.2 (Or.inr c_17) x1 (hXi x1 List.mem_cons_self))) hk2 hw2) (cwV 3 hts (zgV wm_X4_123 wv_X4_compares) rfl rfl rfl (by decide +kernel) ⟨Nat.le_of_ble_eq_true rfl, Nat.le_of_ble_eq_true rfl⟩) hK hM rfl ⟨hMA, hN1.up, hN2⟩ rfl hl.1 rfl (Nat.le_of_ble_eq_true rfl) dX4_passesWithItems_38 ⟨Nat.zero_le _, Nat.zero_le _⟩ ?_
            refine zb_if_eq (tgt := 46) hx hb dX4_passesWithItems_41 (by decide) (fun c_41 => ?_) (fun c_41 => ?_)
            · refine lv_aload hx hb dX4_passesWithItems_46 (lv_at hl 4 rfl) ?_
              refine zi_getN (C := RX9) (T := TX9) (N := 9) (v := va_rf (vs1.head?)) hx hb hz wo_X9 hown hK hO1 rfl 7 (by decide) wf_X4_97 (fun _ h9 => h9) rfl dX4_passesWithItems_48 ?_
              refine zo_astore (lv' := [(4, va_rf (vs1.head?)), (0, .ref (mt)), (1, .int (nI (sg))), (2, .ref (v2)), (3, .ref (v))]) hx hb dX4_passesWithItems_51 hl (by decide) rfl (fun ls hl => ?_)
              refine lv_goto (tgt := 28) hx hb dX4_passesWithItems_53 (by decide) ?_
              exact ih_ vs1 xs1 mid1 (by simp only [List.length_cons] at hm_; omega) hkd1 (fun z hz => hXi z (List.mem_cons_of_mem _ hz)) (hs9.trans (any_f c_41)) ls (lv_sub hl [1, 2, 3, 4, 0] rfl)
            · refine lv_iconst (v := nI 1) hx hb dX4_passesWithItems_44 (by decide) ?_
              exact zr_z hx hb hr hlocks (by rw [pwI, c_7, decide_eq_true c_17, hs9, List.any_cons, c_41]; rfl) dX4_passesWithItems_45
      exact L28 ((vs.length) + 1) vs (els f a) (v + 1) (Nat.lt_succ_self _) hkd0 (fun _ z => z) rfl ls (lv_sub hl [1, 2, 3, 4, 0] rfl)
    · refine lv_iconst (v := nI 0) hx hb dX4_passesWithItems_20 (by decide) ?_
      exact zr_z hx hb hr hlocks (by rw [pwI, c_7, decide_eq_false c_17]; rfl) dX4_passesWithItems_21
  · refine lv_iconst (v := nI 1) hx hb dX4_passesWithItems_10 (by decide) ?_
    exact zr_z hx hb hr hlocks (by rw [pwI, c_7]; rfl) dX4_passesWithItems_11

set_option maxHeartbeats 4000000 in
set_option maxRecDepth 100000 in
theorem c_psome (l : Launch) (G : zG) (f : Nat → Nat) (pf pf2 : Nat → Int32) (mt ms hm : Nat) (v hv k a : Nat) (w : List Nat) (pl : Int32) (nxt : Option Nat) (v2 hv2 k2 b : Nat) (w2 : List Nat) (pl2 : Int32) (nxt2 : Option Nat) (hk : okV f 16 k a) (hw : okW f 16 k a) (hk2 : okV f 16 k2 b) (hw2 : okW f 16 k2 b) : Met l yX4_passesSome wsX4_passesSome ({ frames := 56, cells := 0, slots := 0, locals := 1637 }) (zP G [.ref (mt), .ref (v2), .ref (v)] (fun H => MA G H f pf mt ms hm ∧ Nod G H f pf 16 v hv k a w pl nxt ∧ Nod G H f pf2 16 v2 hv2 k2 b w2 pl2 nxt2)) (zR (.int (nI (nB ((if k2 = 3 ∨ k2 = 4 then els f b else []).any (fun i => pwI f 5 k a (f i) (vo f i))))))) 0 0 (fun _ => False) := by
  refine Met.ofW (cc := cX4_passesSome) (maxL := 4) (ret := (some .boolean)) (by decide) rfl ?_
  intro p en s m args below meth c s₁ B hml hv
  obtain ⟨rfl, hP, hK⟩ := hv
  have hx := B.exec
  have hb := B.bytes
  have hr := B.returns
  have hts := atoms_spec (ws := wsX4_passesSome) B.pre
  have hz : ∀ w ∈ zW, w.before _ s = true := fun w h => hts w (List.mem_cons_of_mem _ h)
  have hown : s.vm.findClass RX4 = some m.cls := findClass_of_methodNamed B.named
  have hlocks := B.notSynchronized
  obtain ⟨hMA, hN, hN2⟩ := id hP
  obtain ⟨hM, hMs, hCH⟩ := id hMA
  obtain ⟨nm2, tx2, vs2, hO2, hS2, hT2, hvl2, hkd0⟩ := id hN2
  obtain ⟨nm, tx, f1, l1, n1, hO, hS, hT, hvl⟩ := hN.o
  have hl := lv_entry ([.ref (mt), .ref (v2), .ref (v)]) (n := 4) (Nat.le_of_ble_eq_true rfl)
  rw [lg_entry_eq]
  generalize (lg_sl ([.ref (mt), .ref (v2), .ref (v)]) ++ List.replicate (4 - (lg_sl ([.ref (mt), .ref (v2), .ref (v)])).length) Slot.unset).toArray = ls at hl ⊢
  have hl : lv_has ls 4 [(0, .ref (mt)), (1, .ref (v2)), (2, .ref (v))] := hl
  refine lv_aload_n hx hb dX4_passesSome_0 rfl (lv_at hl 1 rfl) ?_
  refine zi_getN (C := RX9) (T := TX9) (N := 9) (v := va_rf (vs2.head?)) hx hb hz wo_X9 hown hK hO2 rfl 5 (by decide) wf_X4_89 (fun _ h9 => h9) rfl dX4_passesSome_1 ?_
  refine zo_astore_n (lv' := [(3, va_rf (vs2.head?)), (0, .ref (mt)), (1, .ref (v2)), (2, .ref (v))]) hx hb dX4_passesSome_4 rfl hl (by decide) rfl (fun ls hl => ?_)
  have L5 : ∀ (n_ : Nat) (ws : List Nat) (xs : List Nat) (lo : Nat), ws.length < n_ → (kidL (fun v1 mid x n1 => Nod G s.heap f pf2 15 v1 mid (f x) (vo f x) (nL f x) (pf2 x) n1) lo hv2 ws xs) → (∀ z ∈ xs, z ∈ (if k2 = 3 ∨ k2 = 4 then els f b else [])) → ((if k2 = 3 ∨ k2 = 4 then els f b else []).any (fun i => pwI f 5 k a (f i) (vo f i)) = xs.any (fun i => pwI f 5 k a (f i) (vo f i))) → ∀ ls : Array Slot, lv_has ls 4 [(0, .ref (mt)), (1, .ref (v2)), (2, .ref (v)), (3, va_rf (ws.head?))] → W p l en (headSpec wsX4_passesSome ({ frames := 56, cells := 0, slots := 0, locals := 1637 })).room s m ([.ref (mt), .ref (v2), .ref (v)] : List Value).toArray below meth c s.heap [] 0 0 (MQ below (zR (.int (nI (nB ((if k2 = 3 ∨ k2 = 4 then els f b else []).any (fun i => pwI f 5 k a (f i) (vo f i))))))) ([.ref (mt), .ref (v2), .ref (v)] : List Value).toArray s 0 0 (fun _ => False)) (F0 m 5 ls []) := by
    intro n_
    induction n_ with
    | zero => intro ws xs lo hm_; exact absurd hm_ (Nat.not_lt_zero _)
    | succ n_ ih_ =>
      intro ws xs lo hm_ hkd hXi hs9 ls hl
      refine zo_aload_n hx hb dX4_passesSome_5 rfl (lv_at hl 3 rfl) ?_
      rcases ws with _ | ⟨v1, vs1⟩
      · have hl : lv_has ls 4 [(0, .ref (mt)), (1, .ref (v2)), (2, .ref (v)), (3, .null)] := hl
        have hxs_ws := kidL_nil hkd
        subst hxs_ws
        refine W.eq (g2 := F0 m 6 ls ([.null])) rfl ?_
        refine lv_ifnullN (tgt := 29) hx hb dX4_passesSome_6 (by decide) ?_
        refine lv_iconst (v := nI 0) hx hb dX4_passesSome_29 (by decide) ?_
        exact zr_z hx hb hr hlocks (by rw [hs9]; rfl) dX4_passesSome_30
      · have hl : lv_has ls 4 [(0, .ref (mt)), (1, .ref (v2)), (2, .ref (v)), (3, .ref (v1))] := hl
        obtain ⟨x1, xs1, rfl, hlo1, mid1, hmi1, hN1, hkd1⟩ := kidL_cons hkd
        obtain ⟨nm1, tx1, f1, l1, n1, hO1, hS1, hT1, hv1⟩ := hN1.o
        obtain ⟨sv1, sh1, sz1, -, -, hSS1⟩ := id hS1
        refine W.eq (g2 := F0 m 6 ls ([.ref (v1)])) rfl ?_
        refine lv_ifnull hx hb dX4_passesSome_6 ?_
        refine lv_aload_n hx hb dX4_passesSome_9 rfl (lv_at hl 0 rfl) ?_
        refine lv_iconst (v := nI 5) hx hb dX4_passesSome_10 (by decide) ?_
        refine lv_aload_n hx hb dX4_passesSome_11 rfl (lv_at hl 3 rfl) ?_
        refine lv_aload_n hx hb dX4_passesSome_12 rfl (lv_at hl 2 rfl) ?_
        refine zc_V (As := [.int (nI (5)), .ref (v1), .ref (v)]) (rest := []) ⟨hx, hb, hml, hown, hts⟩ (c_pwi l G f pf pf2 mt ms hm 5 (by decide) v hv k a w pl nxt v1 mid1 (f x1) (vo f x1) (nL f x1) (pf2 x1) vs1.head? hk hw (kidsVW hk2 hw2 x1 (hXi x1 List.mem_cons_self)).1 (kidsVW hk2 hw2 x1 (hXi x1 List.mem_cons_self)).2) (cwV 3 hts (zgV wm_X4_119 wv_X4_passesWithItems) rfl rfl rfl (by decide +kernel) ⟨Nat.le_of_ble_eq_true rfl, Nat.le_of_ble_eq_true rfl⟩) hK hM rfl ⟨hMA, hN, hN1.up⟩ rfl hl.1 rfl (Nat.le_of_ble_eq_true rfl) dX4_passesSome_13 ⟨Nat.zero_le _, Nat.zero_le _⟩ ?_
        refine zb_if_eq (tgt := 21) hx hb dX4_passesSome_16 (by decide) (fun c_16 => ?_) (fun c_16 => ?_)
        · refine lv_aload_n hx hb dX4_passesSome_21 rfl (lv_at hl 3 rfl) ?_
          refine zi_getN (C := RX9) (T := TX9) (N := 9) (v := va_rf (vs1.head?)) hx hb hz wo_X9 hown hK hO1 rfl 7 (by decide) wf_X4_97 (fun _ h9 => h9) rfl dX4_passesSome_22 ?_
          refine zo_astore_n (lv' := [(3, va_rf (vs1.head?)), (0, .ref (mt)), (1, .ref (v2)), (2, .ref (v))]) hx hb dX4_passesSome_25 rfl hl (by decide) rfl (fun ls hl => ?_)
          refine lv_goto (tgt := 5) hx hb dX4_passesSome_26 (by decide) ?_
          exact ih_ vs1 xs1 mid1 (by simp only [List.length_cons] at hm_; omega) hkd1 (fun z hz => hXi z (List.mem_cons_of_mem _ hz)) (hs9.trans (any_f c_16)) ls (lv_sub hl [1, 2, 3, 0] rfl)
        · refine lv_iconst (v := nI 1) hx hb dX4_passesSome_19 (by decide) ?_
          exact zr_z hx hb hr hlocks (by rw [hs9, List.any_cons, c_16]; rfl) dX4_passesSome_20
  exact L5 ((vs2.length) + 1) vs2 ((if k2 = 3 ∨ k2 = 4 then els f b else [])) (v2 + 1) (Nat.lt_succ_self _) hkd0 (fun _ z => z) rfl ls (lv_sub hl [1, 2, 3, 0] rfl)

set_option maxHeartbeats 4000000 in
set_option maxRecDepth 100000 in
theorem c_hasI (l : Launch) (G : zG) (f : Nat → Nat) (pf pf2 : Nat → Int32) (Z : Nat → Prop) (mt ms hm d : Nat) (IH1 : C_cH l G f pf pf2 Z mt ms hm d) (IH2 : C_fF l G f pf pf2 Z mt ms hm d) (lo r hi S : Nat) (ng : Bool) (x : Nat) (nx : Option Nat) (t v hv a : Nat) (w : List Nat) (pl : Int32) (nxt : Option Nat) (lev : Nat) (hlev : lev + d + t ≤ 40) (ht : t ≤ 16) (hS9 : S = 13 ∨ S = 14) (hk : okV f t 4 a) (hw : okW f t 4 a) : Met l yX4_hasItemFor wsX4_hasItemFor (rmK 64 1790 d) (zP G [.ref (mt), .ref (r), .ref (v), .int (nI (lev))] (fun H => MA G H f pf mt ms hm ∧ RCn G H f pf2 Z (RuL G H f pf2 Z d).1 (RuL G H f pf2 Z d).2 lo r hi (S, ng, x) nx ∧ Nod G H f pf t v hv 4 a w pl nxt)) (zR (.int (nI (nB (hiS f (ecF f d).1 (ecF f d).2 S x a))))) 0 0 (fun _ => False) := by
  refine Met.ofW (cc := cX4_hasItemFor) (maxL := 5) (ret := (some .boolean)) (by decide) rfl ?_
  intro p en s m args below meth c s₁ B hml hv
  obtain ⟨rfl, hP, hK⟩ := hv
  have hx := B.exec
  have hb := B.bytes
  have hr := B.returns
  have hts := atoms_spec (ws := wsX4_hasItemFor) B.pre
  have hz : ∀ w ∈ zW, w.before _ s = true := fun w h => hts w (List.mem_cons_of_mem _ h)
  have hown : s.vm.findClass RX4 = some m.cls := findClass_of_methodNamed B.named
  have hlocks := B.notSynchronized
  obtain ⟨hMA, hRC, hN⟩ := id hP
  obtain ⟨hM, hMs, hCH⟩ := id hMA
  obtain ⟨vl, rs, hR, hlo, hhi, ⟨hv2, pl2, nx2, hNv, hZ, hkv, hwv⟩, hS16, hPC, hPF⟩ := id hRC
  obtain ⟨t, rfl⟩ := hk.s (Or.inr rfl)
  obtain ⟨nm, tx, vs, hO, hS, hT, hvl, hkd0⟩ := id hN
  rw [if_pos (Or.inr rfl)] at hkd0
  have hl := lv_entry ([.ref (mt), .ref (r), .ref (v), .int (nI (lev))]) (n := 5) (Nat.le_of_ble_eq_true rfl)
  rw [lg_entry_eq]
  generalize (lg_sl ([.ref (mt), .ref (r), .ref (v), .int (nI (lev))]) ++ List.replicate (5 - (lg_sl ([.ref (mt), .ref (r), .ref (v), .int (nI (lev))])).length) Slot.unset).toArray = ls at hl ⊢
  have hl : lv_has ls 5 [(0, .ref (mt)), (1, .ref (r)), (2, .ref (v)), (3, .int (nI (lev)))] := hl
  refine lv_aload_n hx hb dX4_hasItemFor_0 rfl (lv_at hl 2 rfl) ?_
  refine zi_getN (C := RX9) (T := TX9) (N := 9) (v := va_rf (vs.head?)) hx hb hz wo_X9 hown hK hO rfl 5 (by decide) wf_X4_89 (fun _ h9 => h9) rfl dX4_hasItemFor_1 ?_
  refine zo_astore (lv' := [(4, va_rf (vs.head?)), (0, .ref (mt)), (1, .ref (r)), (2, .ref (v)), (3, .int (nI (lev)))]) hx hb dX4_hasItemFor_4 hl (by decide) rfl (fun ls hl => ?_)
  have L6 : ∀ (n_ : Nat) (ws : List Nat) (xs : List Nat) (lo9 : Nat), ws.length < n_ → (kidL (fun v1 mid x n1 => Nod G s.heap f pf t v1 mid (f x) (vo f x) (nL f x) (pf x) n1) lo9 hv ws xs) → (∀ z ∈ xs, z ∈ els f a) → ((els f a).any (fun i => if S = 13 then (ecF f d).1 (conds f x) 0 (f i) (vo f i) else decide (f i = 3) && (ecF f d).2 (vo f x) (vo f i)) = xs.any (fun i => if S = 13 then (ecF f d).1 (conds f x) 0 (f i) (vo f i) else decide (f i = 3) && (ecF f d).2 (vo f x) (vo f i))) → ∀ ls : Array Slot, lv_has ls 5 [(0, .ref (mt)), (1, .ref (r)), (2, .ref (v)), (3, .int (nI (lev))), (4, va_rf (ws.head?))] → W p l en (headSpec wsX4_hasItemFor (rmK 64 1790 d)).room s m ([.ref (mt), .ref (r), .ref (v), .int (nI (lev))] : List Value).toArray below meth c s.heap [] 0 0 (MQ below (zR (.int (nI (nB (hiS f (ecF f d).1 (ecF f d).2 S x a))))) ([.ref (mt), .ref (r), .ref (v), .int (nI (lev))] : List Value).toArray s 0 0 (fun _ => False)) (F0 m 6 ls []) := by
    intro n_
    induction n_ with
    | zero => intro ws xs lo9 hm_; exact absurd hm_ (Nat.not_lt_zero _)
    | succ n_ ih_ =>
      intro ws xs lo9 hm_ hkd hXi hs9 ls hl
      refine zo_aload hx hb dX4_hasItemFor_6 (lv_at hl 4 rfl) ?_
      rcases ws with _ | ⟨v1, vs1⟩
      · have hl : lv_has ls 5 [(0, .ref (mt)), (1, .ref (r)), (2, .ref (v)), (3, .int (nI (lev))), (4, .null)] := hl
        have hxs_ws := kidL_nil hkd
        subst hxs_ws
        refine W.eq (g2 := F0 m 8 ls ([.null])) rfl ?_
        refine lv_ifnullN (tgt := 70) hx hb dX4_hasItemFor_8 (by decide) ?_
        refine lv_iconst (v := nI 0) hx hb dX4_hasItemFor_70 (by decide) ?_
        exact zr_z hx hb hr hlocks (by rw [hiS, hs9]; rfl) dX4_hasItemFor_71
      · have hl : lv_has ls 5 [(0, .ref (mt)), (1, .ref (r)), (2, .ref (v)), (3, .int (nI (lev))), (4, .ref (v1))] := hl
        obtain ⟨x1, xs1, rfl, hlo1, mid1, hmi1, hN1, hkd1⟩ := kidL_cons hkd
        obtain ⟨nm1, tx1, f1, l1, n1, hO1, hS1, hT1, hv1⟩ := hN1.o
        obtain ⟨sv1, sh1, sz1, -, -, hSS1⟩ := id hS1
        refine W.eq (g2 := F0 m 8 ls ([.ref (v1)])) rfl ?_
        refine lv_ifnull hx hb dX4_hasItemFor_8 ?_
        refine lv_aload_n hx hb dX4_hasItemFor_11 rfl (lv_at hl 1 rfl) ?_
        refine zi_getN (C := RX6) (T := TX6) (N := 7) (v := .int (nI (S))) hx hb hz wo_X6 hown hK hR rfl 0 (by decide) wf_X4_37 (fun _ h9 => h9) rfl dX4_hasItemFor_12 ?_
        refine lv_bipush (v := nI 13) hx hb dX4_hasItemFor_15 (by decide) ?_
        refine zi_icmp_ne (tgt := 36) hx hb dX4_hasItemFor_17 (by decide) (Nat.lt_trans hS16 (by decide)) (by omega) (fun c_17 => ?_) (fun c_17 => ?_)
        · refine lv_aload hx hb dX4_hasItemFor_36 (lv_at hl 4 rfl) ?_
          refine zi_getN (C := RX9) (T := TX9) (N := 9) (v := .int (nI (f x1))) hx hb hz wo_X9 hown hK hO1 rfl 0 (by decide) wf_X4_71 (fun _ h9 => h9) rfl dX4_hasItemFor_38 ?_
          refine lv_iconst (v := nI 3) hx hb dX4_hasItemFor_41 (by decide) ?_
          refine zi_icmp_ne (tgt := 60) hx hb dX4_hasItemFor_42 (by decide) ((hk.2 (Or.inr rfl)).2 x1 (hXi x1 List.mem_cons_self)).b.lt (by omega) (fun c_42 => ?_) (fun c_42 => ?_)
          · refine lv_aload hx hb dX4_hasItemFor_60 (lv_at hl 4 rfl) ?_
            refine zi_getN (C := RX9) (T := TX9) (N := 9) (v := va_rf (vs1.head?)) hx hb hz wo_X9 hown hK hO1 rfl 7 (by decide) wf_X4_97 (fun _ h9 => h9) rfl dX4_hasItemFor_62 ?_
            refine zo_astore (lv' := [(4, va_rf (vs1.head?)), (0, .ref (mt)), (1, .ref (r)), (2, .ref (v)), (3, .int (nI (lev)))]) hx hb dX4_hasItemFor_65 hl (by decide) rfl (fun ls hl => ?_)
            refine lv_goto (tgt := 6) hx hb dX4_hasItemFor_67 (by decide) ?_
            exact ih_ vs1 xs1 mid1 (by simp only [List.length_cons] at hm_; omega) hkd1 (fun z hz => hXi z (List.mem_cons_of_mem _ hz)) (hs9.trans (by rw [List.any_cons, if_neg c_17, decide_eq_false c_42]; rfl)) ls (lv_sub hl [1, 2, 3, 4, 0] rfl)
          · refine lv_aload_n hx hb dX4_hasItemFor_45 rfl (lv_at hl 0 rfl) ?_
            refine lv_aload_n hx hb dX4_hasItemFor_46 rfl (lv_at hl 1 rfl) ?_
            refine lv_aload hx hb dX4_hasItemFor_47 (lv_at hl 4 rfl) ?_
            refine lv_iload_n hx hb dX4_hasItemFor_49 rfl (lv_at hl 3 rfl) ?_
            refine lv_iconst (v := nI 1) hx hb dX4_hasItemFor_50 (by decide) ?_
            refine zi_add hx hb dX4_hasItemFor_51 ?_
            refine zc_V (As := [.ref (r), .ref (v1), .int (nI (lev + 1))]) (rest := []) ⟨hx, hb, hml, hown, hts⟩ (IH2 r S ng vl none rs.getLast? nx (r + 1) hi rs (vo f x) t v1 mid1 (vo f x1) (nL f x1) (pf x1) vs1.head? (lev + 1) (by omega) (by omega) (by have h9 := (hk.2 (Or.inr rfl)).2 x1 (hXi x1 List.mem_cons_self); rw [c_42] at h9; exact h9) (by have h9 := hw.2.2 (Or.inr rfl) x1 (hXi x1 List.mem_cons_self); rw [c_42] at h9; exact h9)) (cwV 3 hts (zgV wm_X4_57 wv_X4_firstFailing) rfl rfl rfl (by decide +kernel) ⟨show 50 * d + 63 + 1 ≤ 50 * d + 64 by omega, show 8 + (6 + 11) + (1250 * d + 1760) ≤ 1250 * d + 1790 by omega⟩) hK hM rfl ⟨hMA, hR, hPF (by omega), by have h9 := hN1; rw [c_42] at h9; exact h9⟩ rfl hl.1 rfl (Nat.le_of_ble_eq_true rfl) dX4_hasItemFor_52 ⟨Nat.zero_le _, Nat.zero_le _⟩ ?_
            refine lv_if_ge (tgt := 60) hx hb dX4_hasItemFor_55 (by decide) (fun c_55 => ?_) (fun c_55 => ?_)
            · refine lv_aload hx hb dX4_hasItemFor_60 (lv_at hl 4 rfl) ?_
              refine zi_getN (C := RX9) (T := TX9) (N := 9) (v := va_rf (vs1.head?)) hx hb hz wo_X9 hown hK hO1 rfl 7 (by decide) wf_X4_97 (fun _ h9 => h9) rfl dX4_hasItemFor_62 ?_
              refine zo_astore (lv' := [(4, va_rf (vs1.head?)), (0, .ref (mt)), (1, .ref (r)), (2, .ref (v)), (3, .int (nI (lev)))]) hx hb dX4_hasItemFor_65 hl (by decide) rfl (fun ls hl => ?_)
              refine lv_goto (tgt := 6) hx hb dX4_hasItemFor_67 (by decide) ?_
              exact ih_ vs1 xs1 mid1 (by simp only [List.length_cons] at hm_; omega) hkd1 (fun z hz => hXi z (List.mem_cons_of_mem _ hz)) (hs9.trans (by rw [List.any_cons, if_neg c_17, fh_ge (RuF_d (hPF (by omega))) c_55, Bool.and_false]; rfl)) ls (lv_sub hl [1, 2, 3, 4, 0] rfl)
            · refine lv_iconst (v := nI 1) hx hb dX4_hasItemFor_58 (by decide) ?_
              exact zr_z hx hb hr hlocks (by rw [hiS, hs9, List.any_cons, if_neg c_17, decide_eq_true c_42, fh_lt (RuF_d (hPF (by omega))) c_55]; rfl) dX4_hasItemFor_59
        · refine lv_aload_n hx hb dX4_hasItemFor_20 rfl (lv_at hl 0 rfl) ?_
          refine lv_aload_n hx hb dX4_hasItemFor_21 rfl (lv_at hl 1 rfl) ?_
          refine lv_null hx hb dX4_hasItemFor_22 ?_
          refine lv_aload hx hb dX4_hasItemFor_23 (lv_at hl 4 rfl) ?_
          refine lv_iload_n hx hb dX4_hasItemFor_25 rfl (lv_at hl 3 rfl) ?_
          refine lv_iconst (v := nI 1) hx hb dX4_hasItemFor_26 (by decide) ?_
          refine zi_add hx hb dX4_hasItemFor_27 ?_
          refine zc_V (As := [.ref (r), .null, .ref (v1), .int (nI (lev + 1))]) (rest := []) ⟨hx, hb, hml, hown, hts⟩ (IH1 Z r S ng vl none rs.getLast? nx (r + 1) hi rs (conds f x) 0 none 0 t v1 mid1 (f x1) (vo f x1) (nL f x1) (pf x1) vs1.head? (lev + 1) (by omega) (by omega) ((hk.2 (Or.inr rfl)).2 x1 (hXi x1 List.mem_cons_self)) (hw.2.2 (Or.inr rfl) x1 (hXi x1 List.mem_cons_self))) (cwV 4 hts (zgV wm_X4_53 wv_X4_conditionsHold) rfl rfl rfl (by decide +kernel) ⟨show 50 * d + 60 + 1 ≤ 50 * d + 64 by omega, show 8 + (6 + 11) + (1250 * d + 1700) ≤ 1250 * d + 1790 by omega⟩) hK hM rfl ⟨hMA, hR, hPC (Or.inr c_17), rfl, hN1⟩ rfl hl.1 rfl (Nat.le_of_ble_eq_true rfl) dX4_hasItemFor_28 ⟨Nat.zero_le _, Nat.zero_le _⟩ ?_
          refine zb_if_eq (tgt := 60) hx hb dX4_hasItemFor_31 (by decide) (fun c_31 => ?_) (fun c_31 => ?_)
          · refine lv_aload hx hb dX4_hasItemFor_60 (lv_at hl 4 rfl) ?_
            refine zi_getN (C := RX9) (T := TX9) (N := 9) (v := va_rf (vs1.head?)) hx hb hz wo_X9 hown hK hO1 rfl 7 (by decide) wf_X4_97 (fun _ h9 => h9) rfl dX4_hasItemFor_62 ?_
            refine zo_astore (lv' := [(4, va_rf (vs1.head?)), (0, .ref (mt)), (1, .ref (r)), (2, .ref (v)), (3, .int (nI (lev)))]) hx hb dX4_hasItemFor_65 hl (by decide) rfl (fun ls hl => ?_)
            refine lv_goto (tgt := 6) hx hb dX4_hasItemFor_67 (by decide) ?_
            exact ih_ vs1 xs1 mid1 (by simp only [List.length_cons] at hm_; omega) hkd1 (fun z hz => hXi z (List.mem_cons_of_mem _ hz)) (hs9.trans (by rw [List.any_cons, if_pos c_17, c_31]; rfl)) ls (lv_sub hl [1, 2, 3, 4, 0] rfl)
          · refine lv_iconst (v := nI 1) hx hb dX4_hasItemFor_34 (by decide) ?_
            exact zr_z hx hb hr hlocks (by rw [hiS, hs9, List.any_cons, if_pos c_17, c_31]; rfl) dX4_hasItemFor_35
  exact L6 ((vs.length) + 1) vs (els f a) (v + 1) (Nat.lt_succ_self _) hkd0 (fun _ z => z) rfl ls (lv_sub hl [1, 2, 3, 4, 0] rfl)

set_option maxHeartbeats 4000000 in
set_option maxRecDepth 100000 in
theorem c_passes (l : Launch) (G : zG) (f : Nat → Nat) (pf pf2 : Nat → Int32) (Z : Nat → Prop) (mt ms hm d : Nat) (IH1 : C_cH l G f pf pf2 Z mt ms hm d) (IH2 : C_fF l G f pf pf2 Z mt ms hm d) (lo r hi S : Nat) (ng : Bool) (x : Nat) (nx : Option Nat) (t : Nat) (v hv k a : Nat) (w : List Nat) (pl : Int32) (nxt : Option Nat) (lev : Nat) (hlev : lev + d + t ≤ 40) (ht : t ≤ 16) (hk : okV f t k a) (hw : okW f t k a) : Met l yX4_passes wsX4_passes (rmK 65 1820 d) (zP G [.ref (mt), .ref (r), .ref (v), .int (nI (lev))] (fun H => MA G H f pf mt ms hm ∧ RCn G H f pf2 Z (RuL G H f pf2 Z d).1 (RuL G H f pf2 Z d).2 lo r hi (S, ng, x) nx ∧ Nod G H f pf t v hv k a w pl nxt)) (zR (.int (nI (nB (lfS f (ecF f d).1 (ecF f d).2 S x k a))))) 0 0 (fun _ => False) := by
  refine Met.ofW (cc := cX4_passes) (maxL := 4) (ret := (some .boolean)) (by decide) rfl ?_
  intro p en s m args below meth c s₁ B hml hv
  obtain ⟨rfl, hP, hK⟩ := hv
  have hx := B.exec
  have hb := B.bytes
  have hr := B.returns
  have hts := atoms_spec (ws := wsX4_passes) B.pre
  have hz : ∀ w ∈ zW, w.before _ s = true := fun w h => hts w (List.mem_cons_of_mem _ h)
  have hown : s.vm.findClass RX4 = some m.cls := findClass_of_methodNamed B.named
  have hlocks := B.notSynchronized
  obtain ⟨hMA, hRC, hN⟩ := id hP
  obtain ⟨hM, hMs, hCH⟩ := id hMA
  obtain ⟨vl, rs, hR, hlo, hhi, ⟨hv2, pl2, nx2, hNv, hZ, hkv, hwv⟩, hS16, hPC, hPF⟩ := id hRC
  have hN16 : Nod G s.heap f pf 16 v hv k a w pl nxt := by have h9 := hN.to (n := 16 - t); rwa [show t + (16 - t) = 16 by omega] at h9
  have hk16 := hk.le ht
  have hw16 := okW.to16 (n := 16 - t) hk hw (by omega)
  obtain ⟨nm, tx, vs, hO, hS, hT, hvl, hkd⟩ := id hN16
  obtain ⟨nm2, tx2, f2, l2, n2, hO2, hS2, hT2, hvl2⟩ := hNv.o
  have hl := lv_entry ([.ref (mt), .ref (r), .ref (v), .int (nI (lev))]) (n := 4) (Nat.le_of_ble_eq_true rfl)
  rw [lg_entry_eq]
  generalize (lg_sl ([.ref (mt), .ref (r), .ref (v), .int (nI (lev))]) ++ List.replicate (4 - (lg_sl ([.ref (mt), .ref (r), .ref (v), .int (nI (lev))])).length) Slot.unset).toArray = ls at hl ⊢
  have hl : lv_has ls 4 [(0, .ref (mt)), (1, .ref (r)), (2, .ref (v)), (3, .int (nI (lev)))] := hl
  refine lv_aload_n hx hb dX4_passes_0 rfl (lv_at hl 1 rfl) ?_
  refine zi_getN (C := RX6) (T := TX6) (N := 7) (v := .int (nI (S))) hx hb hz wo_X6 hown hK hR rfl 0 (by decide) wf_X4_37 (fun _ h9 => h9) rfl dX4_passes_1 ?_
  by_cases c_4_6 : S = 6
  · refine zi_tab hx hb dX4_passes_4 (Nat.lt_trans hS16 (by decide)) 56 (by rw [c_4_6]; decide) ?_
    refine lv_aload_n hx hb dX4_passes_56 rfl (lv_at hl 0 rfl) ?_
    refine lv_aload_n hx hb dX4_passes_57 rfl (lv_at hl 1 rfl) ?_
    refine zi_getN (C := RX6) (T := TX6) (N := 7) (v := .ref (vl)) hx hb hz wo_X6 hown hK hR rfl 2 (by decide) wf_X4_102 (fun _ h9 => h9) rfl dX4_passes_58 ?_
    refine lv_aload_n hx hb dX4_passes_61 rfl (lv_at hl 2 rfl) ?_
    refine zc_V (As := [.ref (vl), .ref (v)]) (rest := []) ⟨hx, hb, hml, hown, hts⟩ (c_psome l G f pf pf2 mt ms hm v hv k a w pl nxt vl hv2 (f x) (vo f x) (nL f x) pl2 nx2 hk16 hw16 hkv hwv) (cwV 2 hts (zgV wm_X4_105 wv_X4_passesSome) rfl rfl rfl (by decide +kernel) ⟨show 56 + 1 ≤ 50 * d + 65 by omega, show 8 + (4 + 11) + 1637 ≤ 1250 * d + 1820 by omega⟩) hK hM rfl ⟨hMA, hN16, hNv⟩ rfl hl.1 rfl (Nat.le_of_ble_eq_true rfl) dX4_passes_62 ⟨Nat.zero_le _, Nat.zero_le _⟩ ?_
    exact zr_z hx hb hr hlocks (by rw [lfS, if_pos c_4_6]) dX4_passes_65
  by_cases c_4_11 : S = 11
  · refine zi_tab hx hb dX4_passes_4 (Nat.lt_trans hS16 (by decide)) 66 (by rw [c_4_11]; decide) ?_
    refine lv_aload_n hx hb dX4_passes_66 rfl (lv_at hl 2 rfl) ?_
    refine zi_getN (C := RX9) (T := TX9) (N := 9) (v := .int (nI (k))) hx hb hz wo_X9 hown hK hO rfl 0 (by decide) wf_X4_71 (fun _ h9 => h9) rfl dX4_passes_67 ?_
    refine zi_if_eq (tgt := 77) hx hb dX4_passes_70 (by decide) hk16.b.lt (fun c_70 => ?_) (fun c_70 => ?_)
    · refine lv_iconst (v := nI 0) hx hb dX4_passes_77 (by decide) ?_
      exact zr_z hx hb hr hlocks (by rw [lfS, if_neg c_4_6, if_pos c_4_11, decide_eq_false (fun z => z c_70)]; rfl) dX4_passes_78
    · refine lv_iconst (v := nI 1) hx hb dX4_passes_73 (by decide) ?_
      refine lv_goto (tgt := 78) hx hb dX4_passes_74 (by decide) ?_
      exact zr_z hx hb hr hlocks (by rw [lfS, if_neg c_4_6, if_pos c_4_11, decide_eq_true c_70]; rfl) dX4_passes_78
  by_cases c_4_12 : S = 12
  · refine zi_tab hx hb dX4_passes_4 (Nat.lt_trans hS16 (by decide)) 79 (by rw [c_4_12]; decide) ?_
    refine lv_aload_n hx hb dX4_passes_79 rfl (lv_at hl 2 rfl) ?_
    refine zi_getN (C := RX9) (T := TX9) (N := 9) (v := .int (nI (k))) hx hb hz wo_X9 hown hK hO rfl 0 (by decide) wf_X4_71 (fun _ h9 => h9) rfl dX4_passes_80 ?_
    refine lv_iconst (v := nI 4) hx hb dX4_passes_83 (by decide) ?_
    refine zi_icmp_ne (tgt := 107) hx hb dX4_passes_84 (by decide) hk16.b.lt (by omega) (fun c_84 => ?_) (fun c_84 => ?_)
    · refine lv_iconst (v := nI 0) hx hb dX4_passes_107 (by decide) ?_
      exact zr_z hx hb hr hlocks (by rw [lfS, if_neg c_4_6, if_neg c_4_11, if_pos c_4_12, decide_eq_false c_84]; rfl) dX4_passes_108
    · have hvl9 : vs.length = (els f a).length := by rw [if_pos (Or.inr c_84)] at hkd; exact kidL_len hkd
      have hle9 := els_len f a
      refine lv_aload_n hx hb dX4_passes_87 rfl (lv_at hl 2 rfl) ?_
      refine zi_getN (C := RX9) (T := TX9) (N := 9) (v := .int (nI (vs.length))) hx hb hz wo_X9 hown hK hO rfl 8 (by decide) wf_X4_109 (fun _ h9 => h9) rfl dX4_passes_88 ?_
      refine lv_i2l (v := lN (vs.length)) hx hb dX4_passes_91 (nI_l (by omega)) ?_
      refine lv_aload_n hx hb dX4_passes_92 rfl (lv_at hl 1 rfl) ?_
      refine zi_getN (C := RX6) (T := TX6) (N := 7) (v := .ref (vl)) hx hb hz wo_X6 hown hK hR rfl 2 (by decide) wf_X4_102 (fun _ h9 => h9) rfl dX4_passes_93 ?_
      refine zi_getN (C := RX9) (T := TX9) (N := 9) (v := .long (numv f (f x) (vo f x))) hx hb hz wo_X9 hown hK hO2 rfl 4 (by decide) wf_X4_112 (fun _ h9 => h9) rfl dX4_passes_96 ?_
      refine W.lcmp hx hb dX4_passes_99 ?_
      refine lv_if_ne (tgt := 107) hx hb dX4_passes_100 (by decide) (fun c_100 => ?_) (fun c_100 => ?_)
      · refine lv_iconst (v := nI 0) hx hb dX4_passes_107 (by decide) ?_
        exact zr_z hx hb hr hlocks (by rw [lfS, if_neg c_4_6, if_neg c_4_11, if_pos c_4_12, ← hvl9, decide_eq_false (fun z => c_100 ((lg_cmp_eq _ _).mpr z)), Bool.and_false]; rfl) dX4_passes_108
      · refine lv_iconst (v := nI 1) hx hb dX4_passes_103 (by decide) ?_
        refine lv_goto (tgt := 108) hx hb dX4_passes_104 (by decide) ?_
        exact zr_z hx hb hr hlocks (by rw [lfS, if_neg c_4_6, if_neg c_4_11, if_pos c_4_12, decide_eq_true c_84, ← hvl9, decide_eq_true ((lg_cmp_eq _ _).mp c_100)]; rfl) dX4_passes_108
  by_cases c_4_13 : S = 13
  · refine zi_tab hx hb dX4_passes_4 (Nat.lt_trans hS16 (by decide)) 109 (by rw [c_4_13]; decide) ?_
    refine lv_aload_n hx hb dX4_passes_109 rfl (lv_at hl 2 rfl) ?_
    refine zi_getN (C := RX9) (T := TX9) (N := 9) (v := .int (nI (k))) hx hb hz wo_X9 hown hK hO rfl 0 (by decide) wf_X4_71 (fun _ h9 => h9) rfl dX4_passes_110 ?_
    refine lv_iconst (v := nI 4) hx hb dX4_passes_113 (by decide) ?_
    refine zi_icmp_ne (tgt := 131) hx hb dX4_passes_114 (by decide) hk16.b.lt (by omega) (fun c_114 => ?_) (fun c_114 => ?_)
    · refine lv_iconst (v := nI 0) hx hb dX4_passes_131 (by decide) ?_
      exact zr_z hx hb hr hlocks (by rw [lfS_h (by omega), decide_eq_false c_114]; rfl) dX4_passes_132
    · refine lv_aload_n hx hb dX4_passes_117 rfl (lv_at hl 0 rfl) ?_
      refine lv_aload_n hx hb dX4_passes_118 rfl (lv_at hl 1 rfl) ?_
      refine lv_aload_n hx hb dX4_passes_119 rfl (lv_at hl 2 rfl) ?_
      refine lv_iload_n hx hb dX4_passes_120 rfl (lv_at hl 3 rfl) ?_
      refine zc_V (As := [.ref (r), .ref (v), .int (nI (lev))]) (rest := []) ⟨hx, hb, hml, hown, hts⟩ (c_hasI l G f pf pf2 Z mt ms hm d IH1 IH2 lo r hi S ng x nx t v hv a w pl nxt lev hlev ht (by omega) (by rw [c_114] at hk; exact hk) (by rw [c_114] at hw; exact hw)) (cwV 3 hts (zgV wm_X4_116 wv_X4_hasItemFor) rfl rfl rfl (by decide +kernel) ⟨show 50 * d + 64 + 1 ≤ 50 * d + 65 by omega, show 8 + (5 + 11) + (1250 * d + 1790) ≤ 1250 * d + 1820 by omega⟩) hK hM rfl ⟨hMA, hRC, by have h9 := hN; rw [c_114] at h9; exact h9⟩ rfl hl.1 rfl (Nat.le_of_ble_eq_true rfl) dX4_passes_121 ⟨Nat.zero_le _, Nat.zero_le _⟩ ?_
      refine zb_if_eq (tgt := 131) hx hb dX4_passes_124 (by decide) (fun c_124 => ?_) (fun c_124 => ?_)
      · refine lv_iconst (v := nI 0) hx hb dX4_passes_131 (by decide) ?_
        exact zr_z hx hb hr hlocks (by rw [lfS_h (by omega), c_124, Bool.and_false]; rfl) dX4_passes_132
      · refine lv_iconst (v := nI 1) hx hb dX4_passes_127 (by decide) ?_
        refine lv_goto (tgt := 132) hx hb dX4_passes_128 (by decide) ?_
        exact zr_z hx hb hr hlocks (by rw [lfS_h (by omega), decide_eq_true c_114, c_124]; rfl) dX4_passes_132
  by_cases c_4_14 : S = 14
  · refine zi_tab hx hb dX4_passes_4 (Nat.lt_trans hS16 (by decide)) 109 (by rw [c_4_14]; decide) ?_
    refine lv_aload_n hx hb dX4_passes_109 rfl (lv_at hl 2 rfl) ?_
    refine zi_getN (C := RX9) (T := TX9) (N := 9) (v := .int (nI (k))) hx hb hz wo_X9 hown hK hO rfl 0 (by decide) wf_X4_71 (fun _ h9 => h9) rfl dX4_passes_110 ?_
    refine lv_iconst (v := nI 4) hx hb dX4_passes_113 (by decide) ?_
    refine zi_icmp_ne (tgt := 131) hx hb dX4_passes_114 (by decide) hk16.b.lt (by omega) (fun c_114 => ?_) (fun c_114 => ?_)
    · refine lv_iconst (v := nI 0) hx hb dX4_passes_131 (by decide) ?_
      exact zr_z hx hb hr hlocks (by rw [lfS_h (by omega), decide_eq_false c_114]; rfl) dX4_passes_132
    · refine lv_aload_n hx hb dX4_passes_117 rfl (lv_at hl 0 rfl) ?_
      refine lv_aload_n hx hb dX4_passes_118 rfl (lv_at hl 1 rfl) ?_
      refine lv_aload_n hx hb dX4_passes_119 rfl (lv_at hl 2 rfl) ?_
      refine lv_iload_n hx hb dX4_passes_120 rfl (lv_at hl 3 rfl) ?_
      refine zc_V (As := [.ref (r), .ref (v), .int (nI (lev))]) (rest := []) ⟨hx, hb, hml, hown, hts⟩ (c_hasI l G f pf pf2 Z mt ms hm d IH1 IH2 lo r hi S ng x nx t v hv a w pl nxt lev hlev ht (by omega) (by rw [c_114] at hk; exact hk) (by rw [c_114] at hw; exact hw)) (cwV 3 hts (zgV wm_X4_116 wv_X4_hasItemFor) rfl rfl rfl (by decide +kernel) ⟨show 50 * d + 64 + 1 ≤ 50 * d + 65 by omega, show 8 + (5 + 11) + (1250 * d + 1790) ≤ 1250 * d + 1820 by omega⟩) hK hM rfl ⟨hMA, hRC, by have h9 := hN; rw [c_114] at h9; exact h9⟩ rfl hl.1 rfl (Nat.le_of_ble_eq_true rfl) dX4_passes_121 ⟨Nat.zero_le _, Nat.zero_le _⟩ ?_
      refine zb_if_eq (tgt := 131) hx hb dX4_passes_124 (by decide) (fun c_124 => ?_) (fun c_124 => ?_)
      · refine lv_iconst (v := nI 0) hx hb dX4_passes_131 (by decide) ?_
        exact zr_z hx hb hr hlocks (by rw [lfS_h (by omega), c_124, Bool.and_false]; rfl) dX4_passes_132
      · refine lv_iconst (v := nI 1) hx hb dX4_passes_127 (by decide) ?_
        refine lv_goto (tgt := 132) hx hb dX4_passes_128 (by decide) ?_
        exact zr_z hx hb hr hlocks (by rw [lfS_h (by omega), decide_eq_true c_114, c_124]; rfl) dX4_passes_132
  refine zi_tab hx hb dX4_passes_4 (Nat.lt_trans hS16 (by decide)) 133 ((zTab_d [6, 11, 12, 13, 14] (by decide +kernel) (by simp only [List.mem_cons, List.not_mem_nil, or_false, not_or]; exact ⟨c_4_6, c_4_11, c_4_12, c_4_13, c_4_14⟩)).trans (by decide)) ?_
  refine lv_aload_n hx hb dX4_passes_133 rfl (lv_at hl 0 rfl) ?_
  refine lv_aload_n hx hb dX4_passes_134 rfl (lv_at hl 1 rfl) ?_
  refine zi_getN (C := RX6) (T := TX6) (N := 7) (v := .int (nI (S))) hx hb hz wo_X6 hown hK hR rfl 0 (by decide) wf_X4_37 (fun _ h9 => h9) rfl dX4_passes_135 ?_
  refine lv_aload_n hx hb dX4_passes_138 rfl (lv_at hl 1 rfl) ?_
  refine zi_getN (C := RX6) (T := TX6) (N := 7) (v := .ref (vl)) hx hb hz wo_X6 hown hK hR rfl 2 (by decide) wf_X4_102 (fun _ h9 => h9) rfl dX4_passes_139 ?_
  refine lv_aload_n hx hb dX4_passes_142 rfl (lv_at hl 2 rfl) ?_
  refine zc_V (As := [.int (nI (S)), .ref (vl), .ref (v)]) (rest := []) ⟨hx, hb, hml, hown, hts⟩ (c_pwi l G f pf pf2 mt ms hm S hS16 v hv k a w pl nxt vl hv2 (f x) (vo f x) (nL f x) pl2 nx2 hk16 hw16 hkv hwv) (cwV 3 hts (zgV wm_X4_119 wv_X4_passesWithItems) rfl rfl rfl (by decide +kernel) ⟨show 55 + 1 ≤ 50 * d + 65 by omega, show 8 + (5 + 11) + 1613 ≤ 1250 * d + 1820 by omega⟩) hK hM rfl ⟨hMA, hN16, hNv⟩ rfl hl.1 rfl (Nat.le_of_ble_eq_true rfl) dX4_passes_143 ⟨Nat.zero_le _, Nat.zero_le _⟩ ?_
  exact zr_z hx hb hr hlocks (by rw [lfS, if_neg c_4_6, if_neg c_4_11, if_neg c_4_12, if_neg c_4_13, if_neg c_4_14]) dX4_passes_146

set_option maxHeartbeats 4000000 in
set_option maxRecDepth 100000 in
theorem c_tleaf (l : Launch) (G : zG) (f : Nat → Nat) (pf pf2 : Nat → Int32) (Z : Nat → Prop) (mt ms hm d : Nat) (IH1 : C_cH l G f pf pf2 Z mt ms hm d) (IH2 : C_fF l G f pf pf2 Z mt ms hm d) (lo r hi S : Nat) (ng : Bool) (x : Nat) (nx : Option Nat) (t : Nat) (v hv k a : Nat) (w : List Nat) (pl : Int32) (nxt : Option Nat) (lev : Nat) (hlev : lev + d + t ≤ 40) (ht : t ≤ 16) (hk : okV f t k a) (hw : okW f t k a) : Met l yX4_tryLeaf wsX4_tryLeaf (rmK 66 1850 d) (zP G [.ref (mt), .ref (r), .ref (v), .int (nI (lev))] (fun H => MA G H f pf mt ms hm ∧ RCn G H f pf2 Z (RuL G H f pf2 Z d).1 (RuL G H f pf2 Z d).2 lo r hi (S, ng, x) nx ∧ Nod G H f pf t v hv k a w pl nxt)) (zR (.int (nI (1 + nB (lfS f (ecF f d).1 (ecF f d).2 S x k a))))) 0 0 (fun _ => False) := by
  refine Met.ofW (cc := cX4_tryLeaf) (maxL := 4) (ret := (some .int)) (by decide) rfl ?_
  intro p en s m args below meth c s₁ B hml hv
  obtain ⟨rfl, hP, hK⟩ := hv
  have hx := B.exec
  have hb := B.bytes
  have hr := B.returns
  have hts := atoms_spec (ws := wsX4_tryLeaf) B.pre
  have hz : ∀ w ∈ zW, w.before _ s = true := fun w h => hts w (List.mem_cons_of_mem _ h)
  have hown : s.vm.findClass RX4 = some m.cls := findClass_of_methodNamed B.named
  have hlocks := B.notSynchronized
  obtain ⟨hMA, hRC, hN⟩ := id hP
  obtain ⟨hM, hMs, hCH⟩ := id hMA
  have hl := lv_entry ([.ref (mt), .ref (r), .ref (v), .int (nI (lev))]) (n := 4) (Nat.le_of_ble_eq_true rfl)
  rw [lg_entry_eq]
  generalize (lg_sl ([.ref (mt), .ref (r), .ref (v), .int (nI (lev))]) ++ List.replicate (4 - (lg_sl ([.ref (mt), .ref (r), .ref (v), .int (nI (lev))])).length) Slot.unset).toArray = ls at hl ⊢
  have hl : lv_has ls 4 [(0, .ref (mt)), (1, .ref (r)), (2, .ref (v)), (3, .int (nI (lev)))] := hl
  refine lv_aload_n hx hb dX4_tryLeaf_0 rfl (lv_at hl 0 rfl) ?_
  refine lv_aload_n hx hb dX4_tryLeaf_1 rfl (lv_at hl 1 rfl) ?_
  refine lv_aload_n hx hb dX4_tryLeaf_2 rfl (lv_at hl 2 rfl) ?_
  refine lv_iload_n hx hb dX4_tryLeaf_3 rfl (lv_at hl 3 rfl) ?_
  refine zc_V (As := [.ref (r), .ref (v), .int (nI (lev))]) (rest := []) ⟨hx, hb, hml, hown, hts⟩ (c_passes l G f pf pf2 Z mt ms hm d IH1 IH2 lo r hi S ng x nx t v hv k a w pl nxt lev hlev ht hk hw) (cwV 3 hts (zgV wm_X4_99 wv_X4_passes) rfl rfl rfl (by decide +kernel) ⟨show 50 * d + 65 + 1 ≤ 50 * d + 66 by omega, show 8 + (4 + 11) + (1250 * d + 1820) ≤ 1250 * d + 1850 by omega⟩) hK hM rfl ⟨hMA, hRC, hN⟩ rfl hl.1 rfl (Nat.le_of_ble_eq_true rfl) dX4_tryLeaf_4 ⟨Nat.zero_le _, Nat.zero_le _⟩ ?_
  refine zb_if_eq (tgt := 14) hx hb dX4_tryLeaf_7 (by decide) (fun c_7 => ?_) (fun c_7 => ?_)
  · refine lv_iconst (v := nI 1) hx hb dX4_tryLeaf_14 (by decide) ?_
    exact zr_i hx hb hr hlocks (by rw [c_7]; rfl) dX4_tryLeaf_15
  · refine lv_iconst (v := nI 2) hx hb dX4_tryLeaf_10 (by decide) ?_
    refine lv_goto (tgt := 15) hx hb dX4_tryLeaf_11 (by decide) ?_
    exact zr_i hx hb hr hlocks (by rw [c_7]; rfl) dX4_tryLeaf_15

set_option maxHeartbeats 4000000 in
set_option maxRecDepth 100000 in
theorem c_tl_n (l : Launch) (G : zG) (f : Nat → Nat) (pf pf2 : Nat → Int32) (Z : Nat → Prop) (mt ms hm d : Nat) (IH1 : C_cH l G f pf pf2 Z mt ms hm d) (IH2 : C_fF l G f pf pf2 Z mt ms hm d) (Zs : Nat → Prop) (lo r hi S : Nat) (ng : Bool) (x : Nat) (nx : Option Nat) (t : Nat) (n : Nat) (q : Nat) (v hv k a : Nat) (w : List Nat) (pl : Int32) (nxt : Option Nat) (lev : Nat) (hlev : lev + d + t ≤ 40) (ht : t ≤ 16) (hk : okV f t k a) (hw : okW f t k a) : Met l yX4_tryLeaves wsX4_tryLeaves (rTl d t) (zP G [.ref (mt), .ref (r), .null, .ref (v), .int (nI (lev))] (fun H => MA G H f pf mt ms hm ∧ RCn G H f pf2 Z (RuL G H f pf2 Z d).1 (RuL G H f pf2 Z d).2 lo r hi (S, ng, x) nx ∧ Spt G H Zs f n (none) (q) ∧ Nod G H f pf t v hv k a w pl nxt)) (zR (.int (nI (TL f (lfS f (ecF f d).1 (ecF f d).2 S x) t q k a)))) 0 0 (fun _ => False) := by
  refine Met.ofW (cc := cX4_tryLeaves) (maxL := 6) (ret := (some .int)) (by decide) rfl ?_
  intro p en s m args below meth c s₁ B hml hv
  obtain ⟨rfl, hP, hK⟩ := hv
  have hx := B.exec
  have hb := B.bytes
  have hr := B.returns
  have hts := atoms_spec (ws := wsX4_tryLeaves) B.pre
  have hz : ∀ w ∈ zW, w.before _ s = true := fun w h => hts w (List.mem_cons_of_mem _ h)
  have hown : s.vm.findClass RX4 = some m.cls := findClass_of_methodNamed B.named
  have hlocks := B.notSynchronized
  obtain ⟨hMA, hRC, hSt, hN⟩ := id hP
  obtain ⟨hM, hMs, hCH⟩ := id hMA
  have hl := lv_entry ([.ref (mt), .ref (r), .null, .ref (v), .int (nI (lev))]) (n := 6) (Nat.le_of_ble_eq_true rfl)
  rw [lg_entry_eq]
  generalize (lg_sl ([.ref (mt), .ref (r), .null, .ref (v), .int (nI (lev))]) ++ List.replicate (6 - (lg_sl ([.ref (mt), .ref (r), .null, .ref (v), .int (nI (lev))])).length) Slot.unset).toArray = ls at hl ⊢
  have hl : lv_has ls 6 [(0, .ref (mt)), (1, .ref (r)), (2, .null), (3, .ref (v)), (4, .int (nI (lev)))] := hl
  refine lv_iload hx hb dX4_tryLeaves_0 (lv_at hl 4 rfl) ?_
  refine lv_bipush (v := nI 40) hx hb dX4_tryLeaves_2 (by decide) ?_
  refine zi_icmp_le (tgt := 9) hx hb dX4_tryLeaves_4 (by decide) (by omega) (by omega) (fun c_4 => ?_) (fun c_4 => ?_)
  · refine lv_aload_nN hx hb dX4_tryLeaves_9 rfl (lv_at hl 2 rfl) ?_
    refine lv_ifnonnullN hx hb dX4_tryLeaves_10 ?_
    refine lv_aload_n hx hb dX4_tryLeaves_13 rfl (lv_at hl 0 rfl) ?_
    refine lv_aload_n hx hb dX4_tryLeaves_14 rfl (lv_at hl 1 rfl) ?_
    refine lv_aload_n hx hb dX4_tryLeaves_15 rfl (lv_at hl 3 rfl) ?_
    refine lv_iload hx hb dX4_tryLeaves_16 (lv_at hl 4 rfl) ?_
    refine zc_V (As := [.ref (r), .ref (v), .int (nI (lev))]) (rest := []) ⟨hx, hb, hml, hown, hts⟩ (c_tleaf l G f pf pf2 Z mt ms hm d IH1 IH2 lo r hi S ng x nx t v hv k a w pl nxt lev (by omega) (by omega) hk hw) (cwV 3 hts (zgV wm_X4_68 wv_X4_tryLeaf) rfl rfl rfl (by decide +kernel) ⟨show 50 * d + 66 + 1 ≤ 50 * d + 67 + 2 * t by omega, show 8 + (4 + 11) + (1250 * d + 1850) ≤ 1250 * d + 1880 + 60 * t by omega⟩) hK hM rfl ⟨hMA, hRC, hN⟩ rfl hl.1 rfl (Nat.le_of_ble_eq_true rfl) dX4_tryLeaves_18 ⟨Nat.zero_le _, Nat.zero_le _⟩ ?_
    exact zr_i hx hb hr hlocks (by rw [hSt.n, TL_0]) dX4_tryLeaves_21
  · exfalso; omega

set_option maxHeartbeats 4000000 in
set_option maxRecDepth 100000 in
theorem c_tl_r (l : Launch) (G : zG) (f : Nat → Nat) (pf pf2 : Nat → Int32) (Z : Nat → Prop) (mt ms hm d : Nat) (IH1 : C_cH l G f pf pf2 Z mt ms hm d) (IH2 : C_fF l G f pf pf2 Z mt ms hm d) (Zs : Nat → Prop) (lo r hi S : Nat) (ng : Bool) (x : Nat) (nx : Option Nat) (t : Nat) (hB : ∀ t1, t = t1 + 1 → C_tl l G f pf pf2 Z Zs mt ms hm d lo r hi S ng x nx t1 ∧ C_tr l G f pf pf2 Z Zs mt ms hm d lo r hi S ng x nx t1) (n sa : Nat) (q : Nat) (v hv k a : Nat) (w : List Nat) (pl : Int32) (nxt : Option Nat) (lev : Nat) (hlev : lev + d + t ≤ 40) (ht : t ≤ 16) (hk : okV f t k a) (hw : okW f t k a) : Met l yX4_tryLeaves wsX4_tryLeaves (rTl d t) (zP G [.ref (mt), .ref (r), .ref (sa), .ref (v), .int (nI (lev))] (fun H => MA G H f pf mt ms hm ∧ RCn G H f pf2 Z (RuL G H f pf2 Z d).1 (RuL G H f pf2 Z d).2 lo r hi (S, ng, x) nx ∧ Spt G H Zs f n (some sa) (q) ∧ Nod G H f pf t v hv k a w pl nxt)) (zR (.int (nI (TL f (lfS f (ecF f d).1 (ecF f d).2 S x) t q k a)))) 0 0 (fun _ => False) := by
  refine Met.ofW (cc := cX4_tryLeaves) (maxL := 6) (ret := (some .int)) (by decide) rfl ?_
  intro p en s m args below meth c s₁ B hml hv
  obtain ⟨rfl, hP, hK⟩ := hv
  have hx := B.exec
  have hb := B.bytes
  have hr := B.returns
  have hts := atoms_spec (ws := wsX4_tryLeaves) B.pre
  have hz : ∀ w ∈ zW, w.before _ s = true := fun w h => hts w (List.mem_cons_of_mem _ h)
  have hown : s.vm.findClass RX4 = some m.cls := findClass_of_methodNamed B.named
  have hlocks := B.notSynchronized
  obtain ⟨hMA, hRC, hSt, hN⟩ := id hP
  obtain ⟨hM, hMs, hCH⟩ := id hMA
  obtain ⟨nmm, txm, fm, lm, nmx, hOm, hSm, hTm, hvlm⟩ := hMs.o
  obtain ⟨np1, rfl, hq0, nm3, nx3, cn3, hOs, hZs, hSs, hSt1⟩ := hSt.s
  obtain ⟨nm, tx, vs, t1, hX, ht1⟩ := hN.kx
  obtain ⟨hO, hS, hT, hvl, hkd⟩ := id hX
  have hl := lv_entry ([.ref (mt), .ref (r), .ref (sa), .ref (v), .int (nI (lev))]) (n := 6) (Nat.le_of_ble_eq_true rfl)
  rw [lg_entry_eq]
  generalize (lg_sl ([.ref (mt), .ref (r), .ref (sa), .ref (v), .int (nI (lev))]) ++ List.replicate (6 - (lg_sl ([.ref (mt), .ref (r), .ref (sa), .ref (v), .int (nI (lev))])).length) Slot.unset).toArray = ls at hl ⊢
  have hl : lv_has ls 6 [(0, .ref (mt)), (1, .ref (r)), (2, .ref (sa)), (3, .ref (v)), (4, .int (nI (lev)))] := hl
  refine lv_iload hx hb dX4_tryLeaves_0 (lv_at hl 4 rfl) ?_
  refine lv_bipush (v := nI 40) hx hb dX4_tryLeaves_2 (by decide) ?_
  refine zi_icmp_le (tgt := 9) hx hb dX4_tryLeaves_4 (by decide) (by omega) (by omega) (fun c_4 => ?_) (fun c_4 => ?_)
  · refine lv_aload_n hx hb dX4_tryLeaves_9 rfl (lv_at hl 2 rfl) ?_
    refine lv_ifnonnull (tgt := 22) hx hb dX4_tryLeaves_10 (by decide) ?_
    refine lv_aload_n hx hb dX4_tryLeaves_22 rfl (lv_at hl 3 rfl) ?_
    refine zi_getN (C := RX9) (T := TX9) (N := 9) (v := .int (nI (k))) hx hb hz wo_X9 hown hK hO rfl 0 (by decide) wf_X4_71 (fun _ h9 => h9) rfl dX4_tryLeaves_23 ?_
    refine lv_iconst (v := nI 4) hx hb dX4_tryLeaves_26 (by decide) ?_
    refine zi_icmp_ne (tgt := 40) hx hb dX4_tryLeaves_27 (by decide) hk.b.lt (by omega) (fun c_27 => ?_) (fun c_27 => ?_)
    · refine lv_aload_n hx hb dX4_tryLeaves_40 rfl (lv_at hl 3 rfl) ?_
      refine lv_aload_n hx hb dX4_tryLeaves_41 rfl (lv_at hl 2 rfl) ?_
      refine zi_getN (C := RX7) (T := TX7) (N := 3) (v := .ref (nm3)) hx hb hz wo_X7 hown hK hOs rfl 0 (by decide) wf_X4_77 (fun _ h9 => h9) rfl dX4_tryLeaves_42 ?_
      refine zc_VN (As := [.ref (nm3)]) (rest := []) ⟨hx, hb, hml, hown, hts⟩ (c_named l G f pf t1 v hv k a w pl nxt nm tx vs nm3 (sL f q) Zs) ⟨va_cnB 1 hts (zgN wc_X9_named) rfl rfl rfl (hK.2.1 _ wm_X4_83) (hz _ wi_X9) (by decide +kernel) ⟨show 2 + 1 ≤ 50 * d + 67 + 2 * t by omega, show 8 + (3 + 11) + (44) ≤ 1250 * d + 1880 + 60 * t by omega⟩, hz _ wn_X9_named, hz _ we_X9_named⟩ hK hO rfl ⟨hX, hSs, hCH⟩ rfl hl.1 rfl (Nat.le_of_ble_eq_true rfl) dX4_tryLeaves_45 ⟨Nat.zero_le _, Nat.zero_le _⟩ ?_
      refine zo_astore (lv' := [(5, va_rf (fnV f (sL f q) vs (if k = 3 ∨ k = 4 then els f a else []))), (0, .ref (mt)), (1, .ref (r)), (2, .ref (sa)), (3, .ref (v)), (4, .int (nI (lev)))]) hx hb dX4_tryLeaves_48 hl (by decide) rfl (fun ls hl => ?_)
      refine zo_aload hx hb dX4_tryLeaves_50 (lv_at hl 0 rfl) ?_
      generalize hov : fnV f (sL f q) vs (if k = 3 ∨ k = 4 then els f a else []) = ov at hl ⊢
      rcases ov with _ | v1
      · have hl : lv_has ls 6 [(5, .null), (0, .ref (mt)), (1, .ref (r)), (2, .ref (sa)), (3, .ref (v)), (4, .int (nI (lev)))] := hl
        have hfd := fnV_none hkd hov
        refine W.eq (g2 := F0 m 52 ls ([.null])) rfl ?_
        refine lv_ifnonnullN hx hb dX4_tryLeaves_52 ?_
        refine lv_aload_n hx hb dX4_tryLeaves_55 rfl (lv_at hl 1 rfl) ?_
        refine lv_aload_n hx hb dX4_tryLeaves_56 rfl (lv_at hl 2 rfl) ?_
        refine lv_aload_n hx hb dX4_tryLeaves_57 rfl (lv_at hl 1 rfl) ?_
        refine zi_get (C := RX4) (T := TX4) (N := 1) (v := .ref (ms)) hx hb hz wo_X4 hown hK hM rfl 0 (by decide) (hz _ wf_X4_18) (fun _ h9 => h9) rfl dX4_tryLeaves_58 ?_
        refine lv_iload hx hb dX4_tryLeaves_61 (lv_at hl 5 rfl) ?_
        refine zc_V (As := [.ref (r), .ref (ms), .int (nI (lev))]) (rest := []) ⟨hx, hb, hml, hown, hts⟩ (c_tleaf l G f pf pf2 Z mt ms hm d IH1 IH2 lo r hi S ng x nx 0 ms hm 0 0 [] (-1) none lev (by omega) (by omega) (okV_0 f 0) (fun q9 => by omega)) (cwV 3 hts (zgV wm_X4_68 wv_X4_tryLeaf) rfl rfl rfl (by decide +kernel) ⟨show 50 * d + 66 + 1 ≤ 50 * d + 67 + 2 * t by omega, show 8 + (4 + 11) + (1250 * d + 1850) ≤ 1250 * d + 1880 + 60 * t by omega⟩) hK hM rfl ⟨hMA, hRC, hMs⟩ rfl hl.1 rfl (Nat.le_of_ble_eq_true rfl) dX4_tryLeaves_63 ⟨Nat.zero_le _, Nat.zero_le _⟩ ?_
        exact zr_i hx hb hr hlocks (by rw [TL_no hq0 c_27 ht1 hfd]) dX4_tryLeaves_66
      · have hl : lv_has ls 6 [(5, .ref (v1)), (0, .ref (mt)), (1, .ref (r)), (2, .ref (sa)), (3, .ref (v)), (4, .int (nI (lev)))] := hl
        obtain ⟨x1, mid1, m1, hmem, hfd, hN1⟩ := fnV_some hkd hov
        have hk34 : k = 3 ∨ k = 4 := by
          by_cases z : k = 3 ∨ k = 4
          · exact z
          · rw [if_neg z] at hmem; cases hmem
        have hk3 : k = 3 := by omega
        rw [if_pos hk34] at hmem hfd
        have ht2 : t = t1 + 1 := by omega
        subst ht2
        refine W.eq (g2 := F0 m 52 ls ([.ref (v1)])) rfl ?_
        refine lv_ifnonnull (tgt := 67) hx hb dX4_tryLeaves_52 (by decide) ?_
        refine lv_aload_n hx hb dX4_tryLeaves_67 rfl (lv_at hl 1 rfl) ?_
        refine lv_aload_n hx hb dX4_tryLeaves_68 rfl (lv_at hl 2 rfl) ?_
        refine lv_aload_n hx hb dX4_tryLeaves_69 rfl (lv_at hl 3 rfl) ?_
        refine zi_getN (C := RX7) (T := TX7) (N := 3) (v := va_rf (nx3)) hx hb hz wo_X7 hown hK hOs rfl 1 (by decide) wf_X4_87 (fun _ h9 => h9) rfl dX4_tryLeaves_70 ?_
        refine lv_aload hx hb dX4_tryLeaves_73 (lv_at hl 0 rfl) ?_
        refine lv_iload hx hb dX4_tryLeaves_75 (lv_at hl 5 rfl) ?_
        refine lv_iconst (v := nI 1) hx hb dX4_tryLeaves_77 (by decide) ?_
        refine zi_add hx hb dX4_tryLeaves_78 ?_
        refine zc_V (As := [.ref (r), va_rf (nx3), .ref (v1), .int (nI (lev + 1))]) (rest := []) ⟨hx, hb, hml, hown, hts⟩ ((hB t1 rfl).1 np1 nx3 (nS f q) v1 mid1 (f x1) (vo f x1) (nL f x1) (pf x1) m1 (lev + 1) (by omega) (by omega) ((hk.2 hk34).2 x1 hmem) (hw.2.2 hk34 x1 hmem)) (cwV 4 hts (zgV wm_X4_64 wv_X4_tryLeaves) rfl rfl rfl (by decide +kernel) ⟨show 50 * d + 67 + 2 * t1 + 1 ≤ 50 * d + 67 + 2 * (t1 + 1) by omega, show 8 + (6 + 11) + (1250 * d + 1880 + 60 * t1) ≤ 1250 * d + 1880 + 60 * (t1 + 1) by omega⟩) hK hM rfl ⟨hMA, hRC, hSt1, hN1⟩ rfl hl.1 rfl (Nat.le_of_ble_eq_true rfl) dX4_tryLeaves_79 ⟨Nat.zero_le _, Nat.zero_le _⟩ ?_
        exact zr_i hx hb hr hlocks (by rw [hk3, TL_3 hq0 (by rw [hfd]; exact Nat.ne_of_gt (ch_ok (hk.2 hk34).1.2 hmem).2), hfd]) dX4_tryLeaves_82
    · have ht2 : t = t1 + 1 := by omega
      subst ht2
      refine lv_aload_n hx hb dX4_tryLeaves_30 rfl (lv_at hl 0 rfl) ?_
      refine lv_aload_n hx hb dX4_tryLeaves_31 rfl (lv_at hl 1 rfl) ?_
      refine lv_aload_n hx hb dX4_tryLeaves_32 rfl (lv_at hl 2 rfl) ?_
      refine lv_aload_n hx hb dX4_tryLeaves_33 rfl (lv_at hl 3 rfl) ?_
      refine lv_iload hx hb dX4_tryLeaves_34 (lv_at hl 4 rfl) ?_
      refine zc_V (As := [.ref (r), .ref (sa), .ref (v), .int (nI (lev))]) (rest := []) ⟨hx, hb, hml, hown, hts⟩ ((hB t1 rfl).2 (np1 + 1) sa q v hv a w pl nxt lev (by omega) (by omega) (by rw [c_27] at hk; exact hk) (by rw [c_27] at hw; exact hw)) (cwV 4 hts (zgV wm_X4_74 wv_X4_tryLeavesOfRow) rfl rfl rfl (by decide +kernel) ⟨show 50 * d + 68 + 2 * t1 + 1 ≤ 50 * d + 67 + 2 * (t1 + 1) by omega, show 8 + (8 + 11) + (1250 * d + 1910 + 60 * t1) ≤ 1250 * d + 1880 + 60 * (t1 + 1) by omega⟩) hK hM rfl ⟨hMA, hRC, hSt, by have h9 := hN; rw [c_27] at h9; exact h9⟩ rfl hl.1 rfl (Nat.le_of_ble_eq_true rfl) dX4_tryLeaves_36 ⟨Nat.zero_le _, Nat.zero_le _⟩ ?_
      exact zr_i hx hb hr hlocks (by rw [c_27]) dX4_tryLeaves_39
  · exfalso; omega

theorem c_named4 (l : Launch) (G : zG) (f : Nat → Nat) (pf : Nat → Int32) (d v hi a : Nat) (w : List Nat) (pl : Int32) (nxt : Option Nat) (nm tx : Nat) (vs : List Nat) (b : Nat) (u : List Nat) (Z2 : Nat → Prop) : Met l yX9_named wsX9_named ({ frames := 2, cells := 0, slots := 0, locals := 44 }) (zP G [.ref (v), .ref (b)] (fun H => NodX G H f pf d v hi 4 a w pl nxt nm tx vs ∧ StrZ G H Z2 b u ∧ CH G H)) (zR (va_rf (fnV f u vs (els f a)))) 0 0 (fun _ => False) := by
  have h := c_named l G f pf d v hi 4 a w pl nxt nm tx vs b u Z2
  rw [if_pos (Or.inr rfl)] at h
  exact h

set_option maxHeartbeats 4000000 in
set_option maxRecDepth 100000 in
theorem c_tr_ (l : Launch) (G : zG) (f : Nat → Nat) (pf pf2 : Nat → Int32) (Z : Nat → Prop) (mt ms hm d : Nat) (IH1 : C_cH l G f pf pf2 Z mt ms hm d) (IH2 : C_fF l G f pf pf2 Z mt ms hm d) (Zs : Nat → Prop) (lo r hi S : Nat) (ng : Bool) (x : Nat) (nx : Option Nat) (t : Nat) (IH : C_tl l G f pf pf2 Z Zs mt ms hm d lo r hi S ng x nx t) (n sa : Nat) (q v hv a : Nat) (w : List Nat) (pl : Int32) (nxt : Option Nat) (lev : Nat) (hlev : lev + d + (t + 1) ≤ 40) (ht : t + 1 ≤ 16) (hk : okV f (t + 1) 4 a) (hw : okW f (t + 1) 4 a) : Met l yX4_tryLeavesOfRow wsX4_tryLeavesOfRow (rTr d t) (zP G [.ref (mt), .ref (r), .ref (sa), .ref (v), .int (nI (lev))] (fun H => MA G H f pf mt ms hm ∧ RCn G H f pf2 Z (RuL G H f pf2 Z d).1 (RuL G H f pf2 Z d).2 lo r hi (S, ng, x) nx ∧ Spt G H Zs f n (some sa) (q) ∧ Nod G H f pf (t + 1) v hv 4 a w pl nxt)) (zR (.int (nI (TL f (lfS f (ecF f d).1 (ecF f d).2 S x) (t + 1) q 4 a)))) 0 0 (fun _ => False) := by
  refine Met.ofW (cc := cX4_tryLeavesOfRow) (maxL := 8) (ret := (some .int)) (by decide) rfl ?_
  intro p en s m args below meth c s₁ B hml hv
  obtain ⟨rfl, hP, hK⟩ := hv
  have hx := B.exec
  have hb := B.bytes
  have hr := B.returns
  have hts := atoms_spec (ws := wsX4_tryLeavesOfRow) B.pre
  have hz : ∀ w ∈ zW, w.before _ s = true := fun w h => hts w (List.mem_cons_of_mem _ h)
  have hown : s.vm.findClass RX4 = some m.cls := findClass_of_methodNamed B.named
  have hlocks := B.notSynchronized
  obtain ⟨hMA, hRC, hSt, hN⟩ := id hP
  obtain ⟨hM, hMs, hCH⟩ := id hMA
  obtain ⟨nmm, txm, fm, lm, nmx, hOm, hSm, hTm, hvlm⟩ := hMs.o
  obtain ⟨np1, rfl, hq0, nm3, nx3, cn3, hOs, hZs, hSs, hSt1⟩ := hSt.s
  obtain ⟨nm, tx, vs, hX⟩ := hN.x
  obtain ⟨hO, hS, hT, hvl, hkd0⟩ := id hX
  rw [if_pos (Or.inr rfl)] at hkd0
  have hT4 := TL_4 (f := f) (LF := lfS f (ecF f d).1 (ecF f d).2 S x) (d := t) (a := a) hq0
  have hl := lv_entry ([.ref (mt), .ref (r), .ref (sa), .ref (v), .int (nI (lev))]) (n := 8) (Nat.le_of_ble_eq_true rfl)
  rw [lg_entry_eq]
  generalize (lg_sl ([.ref (mt), .ref (r), .ref (sa), .ref (v), .int (nI (lev))]) ++ List.replicate (8 - (lg_sl ([.ref (mt), .ref (r), .ref (sa), .ref (v), .int (nI (lev))])).length) Slot.unset).toArray = ls at hl ⊢
  have hl : lv_has ls 8 [(0, .ref (mt)), (1, .ref (r)), (2, .ref (sa)), (3, .ref (v)), (4, .int (nI (lev)))] := hl
  refine lv_aload_n hx hb dX4_tryLeavesOfRow_0 rfl (lv_at hl 3 rfl) ?_
  refine lv_aload_n hx hb dX4_tryLeavesOfRow_1 rfl (lv_at hl 2 rfl) ?_
  refine zi_getN (C := RX7) (T := TX7) (N := 3) (v := .ref (nm3)) hx hb hz wo_X7 hown hK hOs rfl 0 (by decide) wf_X4_77 (fun _ h9 => h9) rfl dX4_tryLeavesOfRow_2 ?_
  refine zc_VN (As := [.ref (nm3)]) (rest := []) ⟨hx, hb, hml, hown, hts⟩ (c_named4 l G f pf t v hv a w pl nxt nm tx vs nm3 (sL f q) Zs) ⟨va_cnB 1 hts (zgN wc_X9_named) rfl rfl rfl (hK.2.1 _ wm_X4_83) (hz _ wi_X9) (by decide +kernel) ⟨show 2 + 1 ≤ 50 * d + 68 + 2 * t by omega, show 8 + (3 + 11) + (44) ≤ 1250 * d + 1910 + 60 * t by omega⟩, hz _ wn_X9_named, hz _ we_X9_named⟩ hK hO rfl ⟨hX, hSs, hCH⟩ rfl hl.1 rfl (Nat.le_of_ble_eq_true rfl) dX4_tryLeavesOfRow_5 ⟨Nat.zero_le _, Nat.zero_le _⟩ ?_
  refine zo_astore (lv' := [(5, va_rf (fnV f (sL f q) vs (els f a))), (0, .ref (mt)), (1, .ref (r)), (2, .ref (sa)), (3, .ref (v)), (4, .int (nI (lev)))]) hx hb dX4_tryLeavesOfRow_8 hl (by decide) rfl (fun ls hl => ?_)
  refine lv_iconst (v := nI 0) hx hb dX4_tryLeavesOfRow_10 (by decide) ?_
  refine lv_istore (lv' := [(6, .int (nI (0))), (5, va_rf (fnV f (sL f q) vs (els f a))), (0, .ref (mt)), (1, .ref (r)), (2, .ref (sa)), (3, .ref (v)), (4, .int (nI (lev)))]) hx hb dX4_tryLeavesOfRow_11 hl (by decide) (by simp [List.filter, zo_cat]) (fun ls hl => ?_)
  refine zo_aload hx hb dX4_tryLeavesOfRow_13 (lv_at hl 1 rfl) ?_
  generalize hov : fnV f (sL f q) vs (els f a) = ov at hl ⊢
  rcases ov with _ | v9
  · have hl : lv_has ls 8 [(6, .int (nI (0))), (5, .null), (0, .ref (mt)), (1, .ref (r)), (2, .ref (sa)), (3, .ref (v)), (4, .int (nI (lev)))] := hl
    have hfd := fnV_none hkd0 hov
    rw [if_pos hfd] at hT4
    refine W.eq (g2 := F0 m 15 ls ([.null])) rfl ?_
    refine lv_ifnullN (tgt := 35) hx hb dX4_tryLeavesOfRow_15 (by decide) ?_
    refine lv_aload_n hx hb dX4_tryLeavesOfRow_35 rfl (lv_at hl 5 rfl) ?_
    refine zi_getN (C := RX9) (T := TX9) (N := 9) (v := va_rf (vs.head?)) hx hb hz wo_X9 hown hK hO rfl 5 (by decide) wf_X4_89 (fun _ h9 => h9) rfl dX4_tryLeavesOfRow_36 ?_
    refine zo_astore (lv' := [(7, va_rf (vs.head?)), (6, .int (nI (0))), (5, .null), (0, .ref (mt)), (1, .ref (r)), (2, .ref (sa)), (3, .ref (v)), (4, .int (nI (lev)))]) hx hb dX4_tryLeavesOfRow_39 hl (by decide) rfl (fun ls hl => ?_)
    have L41 : ∀ (n_ : Nat) (ws : List Nat) (xs : List Nat) (lo9 : Nat) (r9 : Nat), ws.length < n_ → (kidL (fun v1 mid x n1 => Nod G s.heap f pf t v1 mid (f x) (vo f x) (nL f x) (pf x) n1) lo9 hv ws xs) → (∀ z ∈ xs, z ∈ els f a) → (TL f (lfS f (ecF f d).1 (ecF f d).2 S x) (t + 1) q 4 a = rowF (fun x9 => TL f (lfS f (ecF f d).1 (ecF f d).2 S x) t q 3 (vo f x9)) f xs r9) → (r9 < 3) → ∀ ls : Array Slot, lv_has ls 8 [(0, .ref (mt)), (1, .ref (r)), (2, .ref (sa)), (3, .ref (v)), (4, .int (nI (lev))), (6, .int (nI (r9))), (7, va_rf (ws.head?))] → W p l en (headSpec wsX4_tryLeavesOfRow (rTr d t)).room s m ([.ref (mt), .ref (r), .ref (sa), .ref (v), .int (nI (lev))] : List Value).toArray below meth c s.heap [] 0 0 (MQ below (zR (.int (nI (TL f (lfS f (ecF f d).1 (ecF f d).2 S x) (t + 1) q 4 a)))) ([.ref (mt), .ref (r), .ref (sa), .ref (v), .int (nI (lev))] : List Value).toArray s 0 0 (fun _ => False)) (F0 m 41 ls []) := by
      intro n_
      induction n_ with
      | zero => intro ws xs lo9 r9 hm_; exact absurd hm_ (Nat.not_lt_zero _)
      | succ n_ ih_ =>
        intro ws xs lo9 r9 hm_ hkd hXi hs9 hr3 ls hl
        refine zo_aload hx hb dX4_tryLeavesOfRow_41 (lv_at hl 6 rfl) ?_
        rcases ws with _ | ⟨v1, vs1⟩
        · have hl : lv_has ls 8 [(0, .ref (mt)), (1, .ref (r)), (2, .ref (sa)), (3, .ref (v)), (4, .int (nI (lev))), (6, .int (nI (r9))), (7, .null)] := hl
          have hxs_ws := kidL_nil hkd
          subst hxs_ws
          refine W.eq (g2 := F0 m 43 ls ([.null])) rfl ?_
          refine lv_ifnullN (tgt := 90) hx hb dX4_tryLeavesOfRow_43 (by decide) ?_
          refine lv_iload hx hb dX4_tryLeavesOfRow_90 (lv_at hl 5 rfl) ?_
          exact zr_i hx hb hr hlocks (by rw [hs9]; rfl) dX4_tryLeavesOfRow_92
        · have hl : lv_has ls 8 [(0, .ref (mt)), (1, .ref (r)), (2, .ref (sa)), (3, .ref (v)), (4, .int (nI (lev))), (6, .int (nI (r9))), (7, .ref (v1))] := hl
          obtain ⟨x1, xs1, rfl, hlo1, mid1, hmi1, hN1, hkd1⟩ := kidL_cons hkd
          obtain ⟨nm1, tx1, f1, l1, n1, hO1, hS1, hT1, hv1⟩ := hN1.o
          obtain ⟨sv1, sh1, sz1, -, -, hSS1⟩ := id hS1
          refine W.eq (g2 := F0 m 43 ls ([.ref (v1)])) rfl ?_
          refine lv_ifnull hx hb dX4_tryLeavesOfRow_43 ?_
          refine lv_iload hx hb dX4_tryLeavesOfRow_46 (lv_at hl 5 rfl) ?_
          refine lv_iconst (v := nI 2) hx hb dX4_tryLeavesOfRow_48 (by decide) ?_
          refine zi_icmp_eq (tgt := 90) hx hb dX4_tryLeavesOfRow_49 (by decide) (by omega) (by omega) (fun c_49 => ?_) (fun c_49 => ?_)
          · refine lv_iload hx hb dX4_tryLeavesOfRow_90 (lv_at hl 5 rfl) ?_
            exact zr_i hx hb hr hlocks (by rw [hs9, c_49, rowF_2]) dX4_tryLeavesOfRow_92
          · refine lv_aload hx hb dX4_tryLeavesOfRow_52 (lv_at hl 6 rfl) ?_
            refine zi_getN (C := RX9) (T := TX9) (N := 9) (v := .int (nI (f x1))) hx hb hz wo_X9 hown hK hO1 rfl 0 (by decide) wf_X4_71 (fun _ h9 => h9) rfl dX4_tryLeavesOfRow_54 ?_
            refine lv_iconst (v := nI 3) hx hb dX4_tryLeavesOfRow_57 (by decide) ?_
            refine zi_icmp_ne (tgt := 80) hx hb dX4_tryLeavesOfRow_58 (by decide) ((hk.2 (Or.inr rfl)).2 x1 (hXi x1 List.mem_cons_self)).b.lt (by omega) (fun c_58 => ?_) (fun c_58 => ?_)
            · refine lv_aload hx hb dX4_tryLeavesOfRow_80 (lv_at hl 6 rfl) ?_
              refine zi_getN (C := RX9) (T := TX9) (N := 9) (v := va_rf (vs1.head?)) hx hb hz wo_X9 hown hK hO1 rfl 7 (by decide) wf_X4_97 (fun _ h9 => h9) rfl dX4_tryLeavesOfRow_82 ?_
              refine zo_astore (lv' := [(7, va_rf (vs1.head?)), (0, .ref (mt)), (1, .ref (r)), (2, .ref (sa)), (3, .ref (v)), (4, .int (nI (lev))), (6, .int (nI (r9)))]) hx hb dX4_tryLeavesOfRow_85 hl (by decide) rfl (fun ls hl => ?_)
              refine lv_goto (tgt := 41) hx hb dX4_tryLeavesOfRow_87 (by decide) ?_
              exact ih_ vs1 xs1 mid1 r9 (by simp only [List.length_cons] at hm_; omega) hkd1 (fun z hz => hXi z (List.mem_cons_of_mem _ hz)) (hs9.trans (rowF_n c_49 c_58)) (by first | exact hr3 | exact Nat.max_lt.mpr ⟨hr3, TL_lt _ _ _ _⟩) ls (lv_sub hl [1, 2, 3, 4, 5, 6, 0] rfl)
            · refine lv_iload hx hb dX4_tryLeavesOfRow_61 (lv_at hl 5 rfl) ?_
              refine lv_aload_n hx hb dX4_tryLeavesOfRow_63 rfl (lv_at hl 0 rfl) ?_
              refine lv_aload_n hx hb dX4_tryLeavesOfRow_64 rfl (lv_at hl 1 rfl) ?_
              refine lv_aload_n hx hb dX4_tryLeavesOfRow_65 rfl (lv_at hl 2 rfl) ?_
              refine lv_aload hx hb dX4_tryLeavesOfRow_66 (lv_at hl 6 rfl) ?_
              refine lv_iload hx hb dX4_tryLeavesOfRow_68 (lv_at hl 4 rfl) ?_
              refine lv_iconst (v := nI 1) hx hb dX4_tryLeavesOfRow_70 (by decide) ?_
              refine zi_add hx hb dX4_tryLeavesOfRow_71 ?_
              refine zc_V (As := [.ref (r), .ref (sa), .ref (v1), .int (nI (lev + 1))]) (rest := [.int (nI (r9))]) ⟨hx, hb, hml, hown, hts⟩ (IH (np1 + 1) (some sa) q v1 mid1 3 (vo f x1) (nL f x1) (pf x1) vs1.head? (lev + 1) (by omega) (by omega) (by have h9 := (hk.2 (Or.inr rfl)).2 x1 (hXi x1 List.mem_cons_self); rw [c_58] at h9; exact h9) (by have h9 := hw.2.2 (Or.inr rfl) x1 (hXi x1 List.mem_cons_self); rw [c_58] at h9; exact h9)) (cwV 4 hts (zgV wm_X4_64 wv_X4_tryLeaves) rfl rfl rfl (by decide +kernel) ⟨show 50 * d + 67 + 2 * t + 1 ≤ 50 * d + 68 + 2 * t by omega, show 8 + (6 + 11) + (1250 * d + 1880 + 60 * t) ≤ 1250 * d + 1910 + 60 * t by omega⟩) hK hM rfl ⟨hMA, hRC, hSt, by have h9 := hN1; rw [c_58] at h9; exact h9⟩ rfl hl.1 rfl (Nat.le_of_ble_eq_true rfl) dX4_tryLeavesOfRow_72 ⟨Nat.zero_le _, Nat.zero_le _⟩ ?_
              refine va_mmax hx hb (hml.trans hl.1.symm) hown (hz _ wm_X4_91) (hz _ wt_J9_max_7cf53) (hz _ wi_J9) (hz _ wc_max) (by show 1 ≤ _; simp only [headSpec, List.map, Value.category, List.sum_cons, List.sum_nil]; omega) (by show _ ≤ _; simp only [headSpec, List.map, Value.category, List.sum_cons, List.sum_nil]; omega) (Nat.zero_le _) (Nat.zero_le _) dX4_tryLeavesOfRow_75 ?_
              rw [max_nI (by omega) (Nat.lt_trans (TL_lt _ _ _ _) (by decide))]
              refine lv_istore (lv' := [(6, .int (nI (max (r9) (TL f (lfS f (ecF f d).1 (ecF f d).2 S x) t q 3 (vo f x1))))), (0, .ref (mt)), (1, .ref (r)), (2, .ref (sa)), (3, .ref (v)), (4, .int (nI (lev))), (7, .ref (v1))]) hx hb dX4_tryLeavesOfRow_78 hl (by decide) rfl (fun ls hl => ?_)
              refine lv_aload hx hb dX4_tryLeavesOfRow_80 (lv_at hl 6 rfl) ?_
              refine zi_getN (C := RX9) (T := TX9) (N := 9) (v := va_rf (vs1.head?)) hx hb hz wo_X9 hown hK hO1 rfl 7 (by decide) wf_X4_97 (fun _ h9 => h9) rfl dX4_tryLeavesOfRow_82 ?_
              refine zo_astore (lv' := [(7, va_rf (vs1.head?)), (6, .int (nI (max (r9) (TL f (lfS f (ecF f d).1 (ecF f d).2 S x) t q 3 (vo f x1))))), (0, .ref (mt)), (1, .ref (r)), (2, .ref (sa)), (3, .ref (v)), (4, .int (nI (lev)))]) hx hb dX4_tryLeavesOfRow_85 hl (by decide) rfl (fun ls hl => ?_)
              refine lv_goto (tgt := 41) hx hb dX4_tryLeavesOfRow_87 (by decide) ?_
              exact ih_ vs1 xs1 mid1 (max (r9) (TL f (lfS f (ecF f d).1 (ecF f d).2 S x) t q 3 (vo f x1))) (by simp only [List.length_cons] at hm_; omega) hkd1 (fun z hz => hXi z (List.mem_cons_of_mem _ hz)) (hs9.trans (rowF_y c_49 c_58)) (by first | exact hr3 | exact Nat.max_lt.mpr ⟨hr3, TL_lt _ _ _ _⟩) ls (lv_sub hl [2, 3, 4, 5, 6, 1, 0] rfl)
    exact L41 ((vs.length) + 1) vs (els f a) (v + 1) 0 (Nat.lt_succ_self _) hkd0 (fun _ z => z) hT4 (by first | decide | exact TL_lt _ _ _ _) ls (lv_sub hl [3, 4, 5, 6, 7, 1, 0] rfl)
  · have hl : lv_has ls 8 [(6, .int (nI (0))), (5, .ref (v9)), (0, .ref (mt)), (1, .ref (r)), (2, .ref (sa)), (3, .ref (v)), (4, .int (nI (lev)))] := hl
    obtain ⟨x8, mid8, m8, hmem8, hfd, hN8⟩ := fnV_some hkd0 hov
    rw [hfd, if_neg (Nat.ne_of_gt (ch_ok (hk.2 (Or.inr rfl)).1.2 hmem8).2)] at hT4
    refine W.eq (g2 := F0 m 15 ls ([.ref (v9)])) rfl ?_
    refine lv_ifnull hx hb dX4_tryLeavesOfRow_15 ?_
    refine lv_aload_n hx hb dX4_tryLeavesOfRow_18 rfl (lv_at hl 2 rfl) ?_
    refine lv_aload_n hx hb dX4_tryLeavesOfRow_19 rfl (lv_at hl 3 rfl) ?_
    refine lv_aload_n hx hb dX4_tryLeavesOfRow_20 rfl (lv_at hl 4 rfl) ?_
    refine zi_getN (C := RX7) (T := TX7) (N := 3) (v := va_rf (nx3)) hx hb hz wo_X7 hown hK hOs rfl 1 (by decide) wf_X4_87 (fun _ h9 => h9) rfl dX4_tryLeavesOfRow_21 ?_
    refine lv_aload hx hb dX4_tryLeavesOfRow_24 (lv_at hl 1 rfl) ?_
    refine lv_iload hx hb dX4_tryLeavesOfRow_26 (lv_at hl 6 rfl) ?_
    refine lv_iconst (v := nI 1) hx hb dX4_tryLeavesOfRow_28 (by decide) ?_
    refine zi_add hx hb dX4_tryLeavesOfRow_29 ?_
    refine zc_V (As := [.ref (r), va_rf (nx3), .ref (v9), .int (nI (lev + 1))]) (rest := []) ⟨hx, hb, hml, hown, hts⟩ (IH np1 nx3 (nS f q) v9 mid8 (f x8) (vo f x8) (nL f x8) (pf x8) m8 (lev + 1) (by omega) (by omega) ((hk.2 (Or.inr rfl)).2 x8 hmem8) (hw.2.2 (Or.inr rfl) x8 hmem8)) (cwV 4 hts (zgV wm_X4_64 wv_X4_tryLeaves) rfl rfl rfl (by decide +kernel) ⟨show 50 * d + 67 + 2 * t + 1 ≤ 50 * d + 68 + 2 * t by omega, show 8 + (6 + 11) + (1250 * d + 1880 + 60 * t) ≤ 1250 * d + 1910 + 60 * t by omega⟩) hK hM rfl ⟨hMA, hRC, hSt1, hN8⟩ rfl hl.1 rfl (Nat.le_of_ble_eq_true rfl) dX4_tryLeavesOfRow_30 ⟨Nat.zero_le _, Nat.zero_le _⟩ ?_
    refine lv_istore (lv' := [(6, .int (nI (TL f (lfS f (ecF f d).1 (ecF f d).2 S x) t (nS f q) (f x8) (vo f x8)))), (5, .ref (v9)), (0, .ref (mt)), (1, .ref (r)), (2, .ref (sa)), (3, .ref (v)), (4, .int (nI (lev)))]) hx hb dX4_tryLeavesOfRow_33 hl (by decide) rfl (fun ls hl => ?_)
    refine lv_aload_n hx hb dX4_tryLeavesOfRow_35 rfl (lv_at hl 5 rfl) ?_
    refine zi_getN (C := RX9) (T := TX9) (N := 9) (v := va_rf (vs.head?)) hx hb hz wo_X9 hown hK hO rfl 5 (by decide) wf_X4_89 (fun _ h9 => h9) rfl dX4_tryLeavesOfRow_36 ?_
    refine zo_astore (lv' := [(7, va_rf (vs.head?)), (6, .int (nI (TL f (lfS f (ecF f d).1 (ecF f d).2 S x) t (nS f q) (f x8) (vo f x8)))), (5, .ref (v9)), (0, .ref (mt)), (1, .ref (r)), (2, .ref (sa)), (3, .ref (v)), (4, .int (nI (lev)))]) hx hb dX4_tryLeavesOfRow_39 hl (by decide) rfl (fun ls hl => ?_)
    have L41 : ∀ (n_ : Nat) (ws : List Nat) (xs : List Nat) (lo9 : Nat) (r9 : Nat), ws.length < n_ → (kidL (fun v1 mid x n1 => Nod G s.heap f pf t v1 mid (f x) (vo f x) (nL f x) (pf x) n1) lo9 hv ws xs) → (∀ z ∈ xs, z ∈ els f a) → (TL f (lfS f (ecF f d).1 (ecF f d).2 S x) (t + 1) q 4 a = rowF (fun x9 => TL f (lfS f (ecF f d).1 (ecF f d).2 S x) t q 3 (vo f x9)) f xs r9) → (r9 < 3) → ∀ ls : Array Slot, lv_has ls 8 [(0, .ref (mt)), (1, .ref (r)), (2, .ref (sa)), (3, .ref (v)), (4, .int (nI (lev))), (6, .int (nI (r9))), (7, va_rf (ws.head?))] → W p l en (headSpec wsX4_tryLeavesOfRow (rTr d t)).room s m ([.ref (mt), .ref (r), .ref (sa), .ref (v), .int (nI (lev))] : List Value).toArray below meth c s.heap [] 0 0 (MQ below (zR (.int (nI (TL f (lfS f (ecF f d).1 (ecF f d).2 S x) (t + 1) q 4 a)))) ([.ref (mt), .ref (r), .ref (sa), .ref (v), .int (nI (lev))] : List Value).toArray s 0 0 (fun _ => False)) (F0 m 41 ls []) := by
      intro n_
      induction n_ with
      | zero => intro ws xs lo9 r9 hm_; exact absurd hm_ (Nat.not_lt_zero _)
      | succ n_ ih_ =>
        intro ws xs lo9 r9 hm_ hkd hXi hs9 hr3 ls hl
        refine zo_aload hx hb dX4_tryLeavesOfRow_41 (lv_at hl 6 rfl) ?_
        rcases ws with _ | ⟨v1, vs1⟩
        · have hl : lv_has ls 8 [(0, .ref (mt)), (1, .ref (r)), (2, .ref (sa)), (3, .ref (v)), (4, .int (nI (lev))), (6, .int (nI (r9))), (7, .null)] := hl
          have hxs_ws := kidL_nil hkd
          subst hxs_ws
          refine W.eq (g2 := F0 m 43 ls ([.null])) rfl ?_
          refine lv_ifnullN (tgt := 90) hx hb dX4_tryLeavesOfRow_43 (by decide) ?_
          refine lv_iload hx hb dX4_tryLeavesOfRow_90 (lv_at hl 5 rfl) ?_
          exact zr_i hx hb hr hlocks (by rw [hs9]; rfl) dX4_tryLeavesOfRow_92
        · have hl : lv_has ls 8 [(0, .ref (mt)), (1, .ref (r)), (2, .ref (sa)), (3, .ref (v)), (4, .int (nI (lev))), (6, .int (nI (r9))), (7, .ref (v1))] := hl
          obtain ⟨x1, xs1, rfl, hlo1, mid1, hmi1, hN1, hkd1⟩ := kidL_cons hkd
          obtain ⟨nm1, tx1, f1, l1, n1, hO1, hS1, hT1, hv1⟩ := hN1.o
          obtain ⟨sv1, sh1, sz1, -, -, hSS1⟩ := id hS1
          refine W.eq (g2 := F0 m 43 ls ([.ref (v1)])) rfl ?_
          refine lv_ifnull hx hb dX4_tryLeavesOfRow_43 ?_
          refine lv_iload hx hb dX4_tryLeavesOfRow_46 (lv_at hl 5 rfl) ?_
          refine lv_iconst (v := nI 2) hx hb dX4_tryLeavesOfRow_48 (by decide) ?_
          refine zi_icmp_eq (tgt := 90) hx hb dX4_tryLeavesOfRow_49 (by decide) (by omega) (by omega) (fun c_49 => ?_) (fun c_49 => ?_)
          · refine lv_iload hx hb dX4_tryLeavesOfRow_90 (lv_at hl 5 rfl) ?_
            exact zr_i hx hb hr hlocks (by rw [hs9, c_49, rowF_2]) dX4_tryLeavesOfRow_92
          · refine lv_aload hx hb dX4_tryLeavesOfRow_52 (lv_at hl 6 rfl) ?_
            refine zi_getN (C := RX9) (T := TX9) (N := 9) (v := .int (nI (f x1))) hx hb hz wo_X9 hown hK hO1 rfl 0 (by decide) wf_X4_71 (fun _ h9 => h9) rfl dX4_tryLeavesOfRow_54 ?_
            refine lv_iconst (v := nI 3) hx hb dX4_tryLeavesOfRow_57 (by decide) ?_
            refine zi_icmp_ne (tgt := 80) hx hb dX4_tryLeavesOfRow_58 (by decide) ((hk.2 (Or.inr rfl)).2 x1 (hXi x1 List.mem_cons_self)).b.lt (by omega) (fun c_58 => ?_) (fun c_58 => ?_)
            · refine lv_aload hx hb dX4_tryLeavesOfRow_80 (lv_at hl 6 rfl) ?_
              refine zi_getN (C := RX9) (T := TX9) (N := 9) (v := va_rf (vs1.head?)) hx hb hz wo_X9 hown hK hO1 rfl 7 (by decide) wf_X4_97 (fun _ h9 => h9) rfl dX4_tryLeavesOfRow_82 ?_
              refine zo_astore (lv' := [(7, va_rf (vs1.head?)), (0, .ref (mt)), (1, .ref (r)), (2, .ref (sa)), (3, .ref (v)), (4, .int (nI (lev))), (6, .int (nI (r9)))]) hx hb dX4_tryLeavesOfRow_85 hl (by decide) rfl (fun ls hl => ?_)
              refine lv_goto (tgt := 41) hx hb dX4_tryLeavesOfRow_87 (by decide) ?_
              exact ih_ vs1 xs1 mid1 r9 (by simp only [List.length_cons] at hm_; omega) hkd1 (fun z hz => hXi z (List.mem_cons_of_mem _ hz)) (hs9.trans (rowF_n c_49 c_58)) (by first | exact hr3 | exact Nat.max_lt.mpr ⟨hr3, TL_lt _ _ _ _⟩) ls (lv_sub hl [1, 2, 3, 4, 5, 6, 0] rfl)
            · refine lv_iload hx hb dX4_tryLeavesOfRow_61 (lv_at hl 5 rfl) ?_
              refine lv_aload_n hx hb dX4_tryLeavesOfRow_63 rfl (lv_at hl 0 rfl) ?_
              refine lv_aload_n hx hb dX4_tryLeavesOfRow_64 rfl (lv_at hl 1 rfl) ?_
              refine lv_aload_n hx hb dX4_tryLeavesOfRow_65 rfl (lv_at hl 2 rfl) ?_
              refine lv_aload hx hb dX4_tryLeavesOfRow_66 (lv_at hl 6 rfl) ?_
              refine lv_iload hx hb dX4_tryLeavesOfRow_68 (lv_at hl 4 rfl) ?_
              refine lv_iconst (v := nI 1) hx hb dX4_tryLeavesOfRow_70 (by decide) ?_
              refine zi_add hx hb dX4_tryLeavesOfRow_71 ?_
              refine zc_V (As := [.ref (r), .ref (sa), .ref (v1), .int (nI (lev + 1))]) (rest := [.int (nI (r9))]) ⟨hx, hb, hml, hown, hts⟩ (IH (np1 + 1) (some sa) q v1 mid1 3 (vo f x1) (nL f x1) (pf x1) vs1.head? (lev + 1) (by omega) (by omega) (by have h9 := (hk.2 (Or.inr rfl)).2 x1 (hXi x1 List.mem_cons_self); rw [c_58] at h9; exact h9) (by have h9 := hw.2.2 (Or.inr rfl) x1 (hXi x1 List.mem_cons_self); rw [c_58] at h9; exact h9)) (cwV 4 hts (zgV wm_X4_64 wv_X4_tryLeaves) rfl rfl rfl (by decide +kernel) ⟨show 50 * d + 67 + 2 * t + 1 ≤ 50 * d + 68 + 2 * t by omega, show 8 + (6 + 11) + (1250 * d + 1880 + 60 * t) ≤ 1250 * d + 1910 + 60 * t by omega⟩) hK hM rfl ⟨hMA, hRC, hSt, by have h9 := hN1; rw [c_58] at h9; exact h9⟩ rfl hl.1 rfl (Nat.le_of_ble_eq_true rfl) dX4_tryLeavesOfRow_72 ⟨Nat.zero_le _, Nat.zero_le _⟩ ?_
              refine va_mmax hx hb (hml.trans hl.1.symm) hown (hz _ wm_X4_91) (hz _ wt_J9_max_7cf53) (hz _ wi_J9) (hz _ wc_max) (by show 1 ≤ _; simp only [headSpec, List.map, Value.category, List.sum_cons, List.sum_nil]; omega) (by show _ ≤ _; simp only [headSpec, List.map, Value.category, List.sum_cons, List.sum_nil]; omega) (Nat.zero_le _) (Nat.zero_le _) dX4_tryLeavesOfRow_75 ?_
              rw [max_nI (by omega) (Nat.lt_trans (TL_lt _ _ _ _) (by decide))]
              refine lv_istore (lv' := [(6, .int (nI (max (r9) (TL f (lfS f (ecF f d).1 (ecF f d).2 S x) t q 3 (vo f x1))))), (0, .ref (mt)), (1, .ref (r)), (2, .ref (sa)), (3, .ref (v)), (4, .int (nI (lev))), (7, .ref (v1))]) hx hb dX4_tryLeavesOfRow_78 hl (by decide) rfl (fun ls hl => ?_)
              refine lv_aload hx hb dX4_tryLeavesOfRow_80 (lv_at hl 6 rfl) ?_
              refine zi_getN (C := RX9) (T := TX9) (N := 9) (v := va_rf (vs1.head?)) hx hb hz wo_X9 hown hK hO1 rfl 7 (by decide) wf_X4_97 (fun _ h9 => h9) rfl dX4_tryLeavesOfRow_82 ?_
              refine zo_astore (lv' := [(7, va_rf (vs1.head?)), (6, .int (nI (max (r9) (TL f (lfS f (ecF f d).1 (ecF f d).2 S x) t q 3 (vo f x1))))), (0, .ref (mt)), (1, .ref (r)), (2, .ref (sa)), (3, .ref (v)), (4, .int (nI (lev)))]) hx hb dX4_tryLeavesOfRow_85 hl (by decide) rfl (fun ls hl => ?_)
              refine lv_goto (tgt := 41) hx hb dX4_tryLeavesOfRow_87 (by decide) ?_
              exact ih_ vs1 xs1 mid1 (max (r9) (TL f (lfS f (ecF f d).1 (ecF f d).2 S x) t q 3 (vo f x1))) (by simp only [List.length_cons] at hm_; omega) hkd1 (fun z hz => hXi z (List.mem_cons_of_mem _ hz)) (hs9.trans (rowF_y c_49 c_58)) (by first | exact hr3 | exact Nat.max_lt.mpr ⟨hr3, TL_lt _ _ _ _⟩) ls (lv_sub hl [2, 3, 4, 5, 6, 1, 0] rfl)
    exact L41 ((vs.length) + 1) vs (els f a) (v + 1) (TL f (lfS f (ecF f d).1 (ecF f d).2 S x) t (nS f q) (f x8) (vo f x8)) (Nat.lt_succ_self _) hkd0 (fun _ z => z) hT4 (by first | decide | exact TL_lt _ _ _ _) ls (lv_sub hl [3, 4, 5, 6, 7, 1, 0] rfl)
