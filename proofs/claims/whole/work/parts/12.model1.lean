set_option maxHeartbeats 4000000 in
set_option maxRecDepth 100000 in
theorem m_nameEndOf (l : Launch) (G : zG) (o qs : Nat) (fs : List Value) (f : Nat → Nat) (e : Nat) (hok : okN 18000 f e) : Met l yX11_nameEndOf wsX11_nameEndOf ({ frames := 0, cells := 0, slots := 0, locals := 0 }) (zP G [.ref (o), .int (nI (e))] (fun H => MV G o qs fs f H)) (zR (.int (nI (ne f e)))) 0 0 (fun _ => False) := by
  refine Met.ofW (cc := cX11_nameEndOf) (maxL := 3) (ret := (some .int)) (by decide) rfl ?_
  intro p en s m args below meth c s₁ B hml hv
  obtain ⟨rfl, hP, hK⟩ := hv
  have hx := B.exec
  have hb := B.bytes
  have hr := B.returns
  have hts := atoms_spec (ws := wsX11_nameEndOf) B.pre
  have hz : ∀ w ∈ zW, w.before _ s = true := fun w h => hts w (List.mem_cons_of_mem _ h)
  have hown : s.vm.findClass RX11 = some m.cls := findClass_of_methodNamed B.named
  have hlocks := B.notSynchronized
  obtain ⟨hO, hA, hS1, h8⟩ := id hP
  have hl := lv_entry ([.ref (o), .int (nI (e))]) (n := 3) (Nat.le_of_ble_eq_true rfl)
  rw [lg_entry_eq]
  generalize (lg_sl ([.ref (o), .int (nI (e))]) ++ List.replicate (3 - (lg_sl ([.ref (o), .int (nI (e))])).length) Slot.unset).toArray = ls at hl ⊢
  have hl : lv_has ls 3 [(0, .ref (o)), (1, .int (nI (e)))] := hl
  refine lv_iload_n hx hb dX11_nameEndOf_0 rfl (lv_at hl 1 rfl) ?_
  refine lv_iconst (v := nI 1) hx hb dX11_nameEndOf_1 (by decide) ?_
  refine zi_add hx hb dX11_nameEndOf_2 ?_
  refine lv_istore_n (lv' := [(2, .int (nI (e + 1))), (0, .ref (o)), (1, .int (nI (e)))]) hx hb dX11_nameEndOf_3 rfl hl (by decide) rfl (fun ls hl => ?_)
  have L4 : ∀ (n_ : Nat) (k : Nat), ne f e - k < n_ → (e + 1 ≤ k) → (k ≤ ne f e) → ∀ ls : Array Slot, lv_has ls 3 [(2, .int (nI (k))), (0, .ref (o)), (1, .int (nI (e)))] → W p l en (headSpec wsX11_nameEndOf ({ frames := 0, cells := 0, slots := 0, locals := 0 })).room s m ([.ref (o), .int (nI (e))] : List Value).toArray below meth c s.heap [] 0 0 (MQ below (zR (.int (nI (ne f e)))) ([.ref (o), .int (nI (e))] : List Value).toArray s 0 0 (fun _ => False)) (F0 m 4 ls []) := by
    intro n_
    induction n_ with
    | zero => intro k hm_; exact absurd hm_ (Nat.not_lt_zero _)
    | succ n_ ih_ =>
      intro k hm_ h1 h2 ls hl
      refine lv_aload_n hx hb dX11_nameEndOf_4 rfl (lv_at hl 1 rfl) ?_
      refine zi_get (C := RX11) (T := TX11) (N := 23) (v := .ref (qs)) hx hb hz wo_X11 hown hK hO rfl 1 (by decide) (hz _ wf_X11_7) (fun _ h9 => h9) hS1 dX11_nameEndOf_5 ?_
      refine lv_iload_n hx hb dX11_nameEndOf_8 rfl (lv_at hl 0 rfl) ?_
      refine zi_ald hx hb hK hA (Nat.lt_of_le_of_lt h2 hok.2) (by decide) dX11_nameEndOf_9 ?_
      refine zi_if_eq (tgt := 19) hx hb dX11_nameEndOf_10 (by decide) (Nat.lt_trans (h8 _) (by decide)) (fun c_10 => ?_) (fun c_10 => ?_)
      · have h3 : k = ne f e := by
          rcases Nat.lt_or_ge k (ne f e) with q | q
          · exact absurd c_10 (nz_nz f 2000 (e + 1) k h1 q)
          · omega
        refine lv_iload_n hx hb dX11_nameEndOf_19 rfl (lv_at hl 0 rfl) ?_
        exact zr_i hx hb hr hlocks (by rw [h3]) dX11_nameEndOf_20
      · have h3 : k ≠ ne f e := fun q => c_10 (by rw [q]; exact hok.1)
        refine lv_iinc (v := nI (k + 1)) (lv' := [(2, .int (nI (k + 1))), (0, .ref (o)), (1, .int (nI (e)))]) hx hb dX11_nameEndOf_13 hl (k := 0) rfl (nI_add _ _) (by decide) rfl (fun ls hl => ?_)
        refine lv_goto (tgt := 4) hx hb dX11_nameEndOf_16 (by decide) ?_
        exact ih_ (k + 1) (by omega) (by omega) (by omega) ls (lv_sub hl [0, 1, 2] rfl)
  exact L4 ((ne f e - (e + 1)) + 1) (e + 1) (Nat.lt_succ_self _) (Nat.le_refl _) (ne_gt f e) ls (lv_sub hl [0, 1, 2] rfl)

set_option maxHeartbeats 4000000 in
set_option maxRecDepth 100000 in
theorem m_valueOf (l : Launch) (G : zG) (o qs : Nat) (fs : List Value) (f : Nat → Nat) (e : Nat) (hok : okN 18000 f e) : Met l yX11_valueOf wsX11_valueOf ({ frames := 1, cells := 0, slots := 0, locals := 22 }) (zP G [.ref (o), .int (nI (e))] (fun H => MV G o qs fs f H)) (zR (.int (nI (vo f e)))) 0 0 (fun _ => False) := by
  refine Met.ofW (cc := cX11_valueOf) (maxL := 2) (ret := (some .int)) (by decide) rfl ?_
  intro p en s m args below meth c s₁ B hml hv
  obtain ⟨rfl, hP, hK⟩ := hv
  have hx := B.exec
  have hb := B.bytes
  have hr := B.returns
  have hts := atoms_spec (ws := wsX11_valueOf) B.pre
  have hz : ∀ w ∈ zW, w.before _ s = true := fun w h => hts w (List.mem_cons_of_mem _ h)
  have hown : s.vm.findClass RX11 = some m.cls := findClass_of_methodNamed B.named
  have hlocks := B.notSynchronized
  obtain ⟨hO, hA, hS1, h8⟩ := id hP
  have hl := lv_entry ([.ref (o), .int (nI (e))]) (n := 2) (Nat.le_of_ble_eq_true rfl)
  rw [lg_entry_eq]
  generalize (lg_sl ([.ref (o), .int (nI (e))]) ++ List.replicate (2 - (lg_sl ([.ref (o), .int (nI (e))])).length) Slot.unset).toArray = ls at hl ⊢
  have hl : lv_has ls 2 [(0, .ref (o)), (1, .int (nI (e)))] := hl
  refine lv_aload_n hx hb dX11_valueOf_0 rfl (lv_at hl 0 rfl) ?_
  refine lv_iload_n hx hb dX11_valueOf_1 rfl (lv_at hl 1 rfl) ?_
  refine zc_V (As := [.int (nI (e))]) (rest := []) ⟨hx, hb, hml, hown, hts⟩ (m_nameEndOf l G o qs fs f e hok) (cwV 1 hts (zgV wm_X11_125 wv_X11_nameEndOf) rfl rfl rfl (by decide +kernel) ⟨Nat.le_of_ble_eq_true rfl, Nat.le_of_ble_eq_true rfl⟩) hK hO rfl hP rfl hl.1 rfl (Nat.le_of_ble_eq_true rfl) dX11_valueOf_2 ⟨Nat.zero_le _, Nat.zero_le _⟩ ?_
  refine lv_iconst (v := nI 1) hx hb dX11_valueOf_5 (by decide) ?_
  refine zi_add hx hb dX11_valueOf_6 ?_
  exact zr_i hx hb hr hlocks (rfl) dX11_valueOf_7

set_option maxHeartbeats 4000000 in
set_option maxRecDepth 100000 in
theorem m_whole (l : Launch) (G : zG) (o qs : Nat) (fs : List Value) (f : Nat → Nat) (a : Nat) (ha : a + 4 ≤ 18000) : Met l yX11_whole wsX11_whole ({ frames := 0, cells := 0, slots := 0, locals := 0 }) (zP G [.ref (o), .int (nI (a))] (fun H => MV G o qs fs f H)) (zR (.int (nI (wh f a)))) 0 0 (fun _ => False) := by
  refine Met.ofW (cc := cX11_whole) (maxL := 2) (ret := (some .int)) (by decide) rfl ?_
  intro p en s m args below meth c s₁ B hml hv
  obtain ⟨rfl, hP, hK⟩ := hv
  have hx := B.exec
  have hb := B.bytes
  have hr := B.returns
  have hts := atoms_spec (ws := wsX11_whole) B.pre
  have hz : ∀ w ∈ zW, w.before _ s = true := fun w h => hts w (List.mem_cons_of_mem _ h)
  have hown : s.vm.findClass RX11 = some m.cls := findClass_of_methodNamed B.named
  have hlocks := B.notSynchronized
  obtain ⟨hO, hA, hS1, h8⟩ := id hP
  have hl := lv_entry ([.ref (o), .int (nI (a))]) (n := 2) (Nat.le_of_ble_eq_true rfl)
  rw [lg_entry_eq]
  generalize (lg_sl ([.ref (o), .int (nI (a))]) ++ List.replicate (2 - (lg_sl ([.ref (o), .int (nI (a))])).length) Slot.unset).toArray = ls at hl ⊢
  have hl : lv_has ls 2 [(0, .ref (o)), (1, .int (nI (a)))] := hl
  refine lv_aload_n hx hb dX11_whole_0 rfl (lv_at hl 0 rfl) ?_
  refine zi_get (C := RX11) (T := TX11) (N := 23) (v := .ref (qs)) hx hb hz wo_X11 hown hK hO rfl 1 (by decide) (hz _ wf_X11_7) (fun _ h9 => h9) hS1 dX11_whole_1 ?_
  refine lv_iload_n hx hb dX11_whole_4 rfl (lv_at hl 1 rfl) ?_
  refine zi_ald hx hb hK hA (by omega) (by decide) dX11_whole_5 ?_
  refine lv_sipush (v := nI 256) hx hb dX11_whole_6 (by decide) ?_
  refine lv_aload_n hx hb dX11_whole_9 rfl (lv_at hl 0 rfl) ?_
  refine zi_get (C := RX11) (T := TX11) (N := 23) (v := .ref (qs)) hx hb hz wo_X11 hown hK hO rfl 1 (by decide) (hz _ wf_X11_7) (fun _ h9 => h9) hS1 dX11_whole_10 ?_
  refine lv_iload_n hx hb dX11_whole_13 rfl (lv_at hl 1 rfl) ?_
  refine lv_iconst (v := nI 1) hx hb dX11_whole_14 (by decide) ?_
  refine zi_add hx hb dX11_whole_15 ?_
  refine zi_ald hx hb hK hA (by omega) (by decide) dX11_whole_16 ?_
  refine zi_mul hx hb dX11_whole_17 ?_
  refine zi_add hx hb dX11_whole_18 ?_
  refine lv_ldc (v := 65536) hx hb hown (hz _ wk_X11_60) dX11_whole_19 ?_
  refine W.eq (g2 := F0 m 21 ls ([.int (nI (65536)), .int (nI (f a + (256 * (f (a + 1)))))])) rfl ?_
  refine lv_aload_n hx hb dX11_whole_21 rfl (lv_at hl 0 rfl) ?_
  refine zi_get (C := RX11) (T := TX11) (N := 23) (v := .ref (qs)) hx hb hz wo_X11 hown hK hO rfl 1 (by decide) (hz _ wf_X11_7) (fun _ h9 => h9) hS1 dX11_whole_22 ?_
  refine lv_iload_n hx hb dX11_whole_25 rfl (lv_at hl 1 rfl) ?_
  refine lv_iconst (v := nI 2) hx hb dX11_whole_26 (by decide) ?_
  refine zi_add hx hb dX11_whole_27 ?_
  refine zi_ald hx hb hK hA (by omega) (by decide) dX11_whole_28 ?_
  refine zi_mul hx hb dX11_whole_29 ?_
  refine zi_add hx hb dX11_whole_30 ?_
  refine lv_ldc (v := 16777216) hx hb hown (hz _ wk_X11_124) dX11_whole_31 ?_
  refine W.eq (g2 := F0 m 33 ls ([.int (nI (16777216)), .int (nI (f a + (256 * (f (a + 1))) + (65536 * (f (a + 2)))))])) rfl ?_
  refine lv_aload_n hx hb dX11_whole_33 rfl (lv_at hl 0 rfl) ?_
  refine zi_get (C := RX11) (T := TX11) (N := 23) (v := .ref (qs)) hx hb hz wo_X11 hown hK hO rfl 1 (by decide) (hz _ wf_X11_7) (fun _ h9 => h9) hS1 dX11_whole_34 ?_
  refine lv_iload_n hx hb dX11_whole_37 rfl (lv_at hl 1 rfl) ?_
  refine lv_iconst (v := nI 3) hx hb dX11_whole_38 (by decide) ?_
  refine zi_add hx hb dX11_whole_39 ?_
  refine zi_ald hx hb hK hA (by omega) (by decide) dX11_whole_40 ?_
  refine zi_mul hx hb dX11_whole_41 ?_
  refine zi_add hx hb dX11_whole_42 ?_
  exact zr_i hx hb hr hlocks (rfl) dX11_whole_43

set_option maxHeartbeats 4000000 in
set_option maxRecDepth 100000 in
theorem m_lengthOf (l : Launch) (G : zG) (o qs : Nat) (fs : List Value) (f : Nat → Nat) (k a : Nat) (hk : k < 2 ^ 31) (ha : k = 2 ∨ k = 3 ∨ k = 4 → a + 4 ≤ 18000) : Met l yX11_lengthOf wsX11_lengthOf ({ frames := 1, cells := 0, slots := 0, locals := 21 }) (zP G [.ref (o), .int (nI (k)), .int (nI (a))] (fun H => MV G o qs fs f H)) (zR (.int (nI (ln f k a)))) 0 0 (fun _ => False) := by
  refine Met.ofW (cc := cX11_lengthOf) (maxL := 3) (ret := (some .int)) (by decide) rfl ?_
  intro p en s m args below meth c s₁ B hml hv
  obtain ⟨rfl, hP, hK⟩ := hv
  have hx := B.exec
  have hb := B.bytes
  have hr := B.returns
  have hts := atoms_spec (ws := wsX11_lengthOf) B.pre
  have hz : ∀ w ∈ zW, w.before _ s = true := fun w h => hts w (List.mem_cons_of_mem _ h)
  have hown : s.vm.findClass RX11 = some m.cls := findClass_of_methodNamed B.named
  have hlocks := B.notSynchronized
  obtain ⟨hO, hA, hS1, h8⟩ := id hP
  have hl := lv_entry ([.ref (o), .int (nI (k)), .int (nI (a))]) (n := 3) (Nat.le_of_ble_eq_true rfl)
  rw [lg_entry_eq]
  generalize (lg_sl ([.ref (o), .int (nI (k)), .int (nI (a))]) ++ List.replicate (3 - (lg_sl ([.ref (o), .int (nI (k)), .int (nI (a))])).length) Slot.unset).toArray = ls at hl ⊢
  have hl : lv_has ls 3 [(0, .ref (o)), (1, .int (nI (k))), (2, .int (nI (a)))] := hl
  refine lv_iload_n hx hb dX11_lengthOf_0 rfl (lv_at hl 1 rfl) ?_
  by_cases c_1_2 : k = 2
  · refine zi_tab hx hb dX11_lengthOf_1 (by omega) 91 (by rw [c_1_2]; decide) ?_
    refine lv_iconst (v := nI 4) hx hb dX11_lengthOf_91 (by decide) ?_
    refine lv_aload_n hx hb dX11_lengthOf_92 rfl (lv_at hl 0 rfl) ?_
    refine lv_iload_n hx hb dX11_lengthOf_93 rfl (lv_at hl 2 rfl) ?_
    refine zc_V (As := [.int (nI (a))]) (rest := [.int (nI (4))]) ⟨hx, hb, hml, hown, hts⟩ (m_whole l G o qs fs f a (ha (by omega))) (cwV 1 hts (zgV wm_X11_128 wv_X11_whole) rfl rfl rfl (by decide +kernel) ⟨Nat.le_of_ble_eq_true rfl, Nat.le_of_ble_eq_true rfl⟩) hK hO rfl hP rfl hl.1 rfl (Nat.le_of_ble_eq_true rfl) dX11_lengthOf_94 ⟨Nat.zero_le _, Nat.zero_le _⟩ ?_
    refine zi_add hx hb dX11_lengthOf_97 ?_
    exact zr_i hx hb hr hlocks (by simp [ln, *]) dX11_lengthOf_98
  by_cases c_1_3 : k = 3
  · refine zi_tab hx hb dX11_lengthOf_1 (by omega) 99 (by rw [c_1_3]; decide) ?_
    refine lv_aload_n hx hb dX11_lengthOf_99 rfl (lv_at hl 0 rfl) ?_
    refine lv_iload_n hx hb dX11_lengthOf_100 rfl (lv_at hl 2 rfl) ?_
    refine zc_V (As := [.int (nI (a))]) (rest := []) ⟨hx, hb, hml, hown, hts⟩ (m_whole l G o qs fs f a (ha (by omega))) (cwV 1 hts (zgV wm_X11_128 wv_X11_whole) rfl rfl rfl (by decide +kernel) ⟨Nat.le_of_ble_eq_true rfl, Nat.le_of_ble_eq_true rfl⟩) hK hO rfl hP rfl hl.1 rfl (Nat.le_of_ble_eq_true rfl) dX11_lengthOf_101 ⟨Nat.zero_le _, Nat.zero_le _⟩ ?_
    exact zr_i hx hb hr hlocks (by simp [ln, *]) dX11_lengthOf_104
  by_cases c_1_4 : k = 4
  · refine zi_tab hx hb dX11_lengthOf_1 (by omega) 99 (by rw [c_1_4]; decide) ?_
    refine lv_aload_n hx hb dX11_lengthOf_99 rfl (lv_at hl 0 rfl) ?_
    refine lv_iload_n hx hb dX11_lengthOf_100 rfl (lv_at hl 2 rfl) ?_
    refine zc_V (As := [.int (nI (a))]) (rest := []) ⟨hx, hb, hml, hown, hts⟩ (m_whole l G o qs fs f a (ha (by omega))) (cwV 1 hts (zgV wm_X11_128 wv_X11_whole) rfl rfl rfl (by decide +kernel) ⟨Nat.le_of_ble_eq_true rfl, Nat.le_of_ble_eq_true rfl⟩) hK hO rfl hP rfl hl.1 rfl (Nat.le_of_ble_eq_true rfl) dX11_lengthOf_101 ⟨Nat.zero_le _, Nat.zero_le _⟩ ?_
    exact zr_i hx hb hr hlocks (by simp [ln, *]) dX11_lengthOf_104
  by_cases c_1_8 : k = 8
  · refine zi_tab hx hb dX11_lengthOf_1 (by omega) 89 (by rw [c_1_8]; decide) ?_
    refine lv_iconst (v := nI 1) hx hb dX11_lengthOf_89 (by decide) ?_
    exact zr_i hx hb hr hlocks (by simp [ln, *]) dX11_lengthOf_90
  by_cases c_1_16 : k = 16
  · refine zi_tab hx hb dX11_lengthOf_1 (by omega) 84 (by rw [c_1_16]; decide) ?_
    refine lv_iconst (v := nI 4) hx hb dX11_lengthOf_84 (by decide) ?_
    exact zr_i hx hb hr hlocks (by simp [ln, *]) dX11_lengthOf_85
  by_cases c_1_18 : k = 18
  · refine zi_tab hx hb dX11_lengthOf_1 (by omega) 86 (by rw [c_1_18]; decide) ?_
    refine lv_bipush (v := nI 8) hx hb dX11_lengthOf_86 (by decide) ?_
    exact zr_i hx hb hr hlocks (by simp [ln, *]) dX11_lengthOf_88
  refine zi_tab hx hb dX11_lengthOf_1 (by omega) 105 ((zTab_d [2, 3, 4, 8, 16, 18] (by decide +kernel) (by simp only [List.mem_cons, List.not_mem_nil, or_false, not_or]; exact ⟨c_1_2, c_1_3, c_1_4, c_1_8, c_1_16, c_1_18⟩)).trans (by decide)) ?_
  refine lv_iconst (v := nI 0) hx hb dX11_lengthOf_105 (by decide) ?_
  exact zr_i hx hb hr hlocks (by simp [ln, *]) dX11_lengthOf_106

set_option maxHeartbeats 4000000 in
set_option maxRecDepth 100000 in
theorem m_firstOf (l : Launch) (G : zG) (o qs : Nat) (fs : List Value) (f : Nat → Nat) (a : Nat) (ha : a + 4 < 18000) : Met l yX11_firstOf wsX11_firstOf ({ frames := 0, cells := 0, slots := 0, locals := 0 }) (zP G [.ref (o), .int (nI (a))] (fun H => MV G o qs fs f H)) (zR (.int (nI (fi f a)))) 0 0 (fun _ => False) := by
  refine Met.ofW (cc := cX11_firstOf) (maxL := 2) (ret := (some .int)) (by decide) rfl ?_
  intro p en s m args below meth c s₁ B hml hv
  obtain ⟨rfl, hP, hK⟩ := hv
  have hx := B.exec
  have hb := B.bytes
  have hr := B.returns
  have hts := atoms_spec (ws := wsX11_firstOf) B.pre
  have hz : ∀ w ∈ zW, w.before _ s = true := fun w h => hts w (List.mem_cons_of_mem _ h)
  have hown : s.vm.findClass RX11 = some m.cls := findClass_of_methodNamed B.named
  have hlocks := B.notSynchronized
  obtain ⟨hO, hA, hS1, h8⟩ := id hP
  have hl := lv_entry ([.ref (o), .int (nI (a))]) (n := 2) (Nat.le_of_ble_eq_true rfl)
  rw [lg_entry_eq]
  generalize (lg_sl ([.ref (o), .int (nI (a))]) ++ List.replicate (2 - (lg_sl ([.ref (o), .int (nI (a))])).length) Slot.unset).toArray = ls at hl ⊢
  have hl : lv_has ls 2 [(0, .ref (o)), (1, .int (nI (a)))] := hl
  refine lv_aload_n hx hb dX11_firstOf_0 rfl (lv_at hl 0 rfl) ?_
  refine zi_get (C := RX11) (T := TX11) (N := 23) (v := .ref (qs)) hx hb hz wo_X11 hown hK hO rfl 1 (by decide) (hz _ wf_X11_7) (fun _ h9 => h9) hS1 dX11_firstOf_1 ?_
  refine lv_iload_n hx hb dX11_firstOf_4 rfl (lv_at hl 1 rfl) ?_
  refine lv_iconst (v := nI 4) hx hb dX11_firstOf_5 (by decide) ?_
  refine zi_add hx hb dX11_firstOf_6 ?_
  refine zi_ald hx hb hK hA (by omega) (by decide) dX11_firstOf_7 ?_
  refine zi_if_ne (tgt := 15) hx hb dX11_firstOf_8 (by decide) (Nat.lt_trans (h8 _) (by decide)) (fun c_8 => ?_) (fun c_8 => ?_)
  · refine lv_iload_n hx hb dX11_firstOf_15 rfl (lv_at hl 1 rfl) ?_
    refine lv_iconst (v := nI 4) hx hb dX11_firstOf_16 (by decide) ?_
    refine zi_add hx hb dX11_firstOf_17 ?_
    exact zr_i hx hb hr hlocks (by simp [fi, *]) dX11_firstOf_18
  · refine lv_iconst (v := nI 0) hx hb dX11_firstOf_11 (by decide) ?_
    refine lv_goto (tgt := 18) hx hb dX11_firstOf_12 (by decide) ?_
    exact zr_i hx hb hr hlocks (by simp [fi, *]) dX11_firstOf_18

set_option maxHeartbeats 4000000 in
set_option maxRecDepth 100000 in
theorem m_nextOf (l : Launch) (G : zG) (o qs : Nat) (fs : List Value) (f : Nat → Nat) (e : Nat) (hok : okE 18000 f e) : Met l yX11_nextOf wsX11_nextOf ({ frames := 2, cells := 0, slots := 0, locals := 43 }) (zP G [.ref (o), .int (nI (e))] (fun H => MV G o qs fs f H)) (zR (.int (nI (nx f e)))) 0 0 (fun _ => False) := by
  refine Met.ofW (cc := cX11_nextOf) (maxL := 4) (ret := (some .int)) (by decide) rfl ?_
  intro p en s m args below meth c s₁ B hml hv
  obtain ⟨rfl, hP, hK⟩ := hv
  have hx := B.exec
  have hb := B.bytes
  have hr := B.returns
  have hts := atoms_spec (ws := wsX11_nextOf) B.pre
  have hz : ∀ w ∈ zW, w.before _ s = true := fun w h => hts w (List.mem_cons_of_mem _ h)
  have hown : s.vm.findClass RX11 = some m.cls := findClass_of_methodNamed B.named
  have hlocks := B.notSynchronized
  obtain ⟨hO, hA, hS1, h8⟩ := id hP
  have he := hok.lt
  have hl := lv_entry ([.ref (o), .int (nI (e))]) (n := 4) (Nat.le_of_ble_eq_true rfl)
  rw [lg_entry_eq]
  generalize (lg_sl ([.ref (o), .int (nI (e))]) ++ List.replicate (4 - (lg_sl ([.ref (o), .int (nI (e))])).length) Slot.unset).toArray = ls at hl ⊢
  have hl : lv_has ls 4 [(0, .ref (o)), (1, .int (nI (e)))] := hl
  refine lv_aload_n hx hb dX11_nextOf_0 rfl (lv_at hl 0 rfl) ?_
  refine lv_iload_n hx hb dX11_nextOf_1 rfl (lv_at hl 1 rfl) ?_
  refine zc_V (As := [.int (nI (e))]) (rest := []) ⟨hx, hb, hml, hown, hts⟩ (m_valueOf l G o qs fs f e hok.1) (cwV 1 hts (zgV wm_X11_131 wv_X11_valueOf) rfl rfl rfl (by decide +kernel) ⟨Nat.le_of_ble_eq_true rfl, Nat.le_of_ble_eq_true rfl⟩) hK hO rfl hP rfl hl.1 rfl (Nat.le_of_ble_eq_true rfl) dX11_nextOf_2 ⟨Nat.zero_le _, Nat.zero_le _⟩ ?_
  refine lv_istore_n (lv' := [(2, .int (nI (vo f e))), (0, .ref (o)), (1, .int (nI (e)))]) hx hb dX11_nextOf_5 rfl hl (by decide) rfl (fun ls hl => ?_)
  refine lv_iload_n hx hb dX11_nextOf_6 rfl (lv_at hl 0 rfl) ?_
  refine lv_aload_n hx hb dX11_nextOf_7 rfl (lv_at hl 1 rfl) ?_
  refine lv_aload_n hx hb dX11_nextOf_8 rfl (lv_at hl 1 rfl) ?_
  refine zi_get (C := RX11) (T := TX11) (N := 23) (v := .ref (qs)) hx hb hz wo_X11 hown hK hO rfl 1 (by decide) (hz _ wf_X11_7) (fun _ h9 => h9) hS1 dX11_nextOf_9 ?_
  refine lv_iload_n hx hb dX11_nextOf_12 rfl (lv_at hl 2 rfl) ?_
  refine zi_ald hx hb hK hA (by omega) (by decide) dX11_nextOf_13 ?_
  refine lv_iload_n hx hb dX11_nextOf_14 rfl (lv_at hl 0 rfl) ?_
  refine zc_V (As := [.int (nI (f e)), .int (nI (vo f e))]) (rest := [.int (nI (vo f e))]) ⟨hx, hb, hml, hown, hts⟩ (m_lengthOf l G o qs fs f (f e) (vo f e) (Nat.lt_trans (h8 _) (by decide)) hok.2.1) (cwV 2 hts (zgV wm_X11_134 wv_X11_lengthOf) rfl rfl rfl (by decide +kernel) ⟨Nat.le_of_ble_eq_true rfl, Nat.le_of_ble_eq_true rfl⟩) hK hO rfl hP rfl hl.1 rfl (Nat.le_of_ble_eq_true rfl) dX11_nextOf_15 ⟨Nat.zero_le _, Nat.zero_le _⟩ ?_
  refine zi_add hx hb dX11_nextOf_18 ?_
  refine lv_istore_n (lv' := [(3, .int (nI (vo f e + (ln f (f e) (vo f e))))), (2, .int (nI (vo f e))), (0, .ref (o)), (1, .int (nI (e)))]) hx hb dX11_nextOf_19 rfl hl (by decide) rfl (fun ls hl => ?_)
  refine lv_aload_n hx hb dX11_nextOf_20 rfl (lv_at hl 2 rfl) ?_
  refine zi_get (C := RX11) (T := TX11) (N := 23) (v := .ref (qs)) hx hb hz wo_X11 hown hK hO rfl 1 (by decide) (hz _ wf_X11_7) (fun _ h9 => h9) hS1 dX11_nextOf_21 ?_
  refine lv_iload_n hx hb dX11_nextOf_24 rfl (lv_at hl 0 rfl) ?_
  refine zi_ald hx hb hK hA hok.2.2 (by decide) dX11_nextOf_25 ?_
  refine zi_if_ne (tgt := 33) hx hb dX11_nextOf_26 (by decide) (Nat.lt_trans (h8 _) (by decide)) (fun c_26 => ?_) (fun c_26 => ?_)
  · refine lv_iload_n hx hb dX11_nextOf_33 rfl (lv_at hl 0 rfl) ?_
    exact zr_i hx hb hr hlocks (by simp [nx, th, *]) dX11_nextOf_34
  · refine lv_iconst (v := nI 0) hx hb dX11_nextOf_29 (by decide) ?_
    refine lv_goto (tgt := 34) hx hb dX11_nextOf_30 (by decide) ?_
    exact zr_i hx hb hr hlocks (by simp [nx, th, *]) dX11_nextOf_34

set_option maxHeartbeats 4000000 in
set_option maxRecDepth 100000 in
theorem m_countOf (l : Launch) (G : zG) (o qs : Nat) (fs : List Value) (f : Nat → Nat) (a : Nat) (L : List Nat) (hL : Bx 18000 f a L) : Met l yX11_countOf wsX11_countOf ({ frames := 3, cells := 0, slots := 0, locals := 66 }) (zP G [.ref (o), .int (nI (a))] (fun H => MV G o qs fs f H)) (zR (.int (nI L.length))) 0 0 (fun _ => False) := by
  refine Met.ofW (cc := cX11_countOf) (maxL := 4) (ret := (some .int)) (by decide) rfl ?_
  intro p en s m args below meth c s₁ B hml hv
  obtain ⟨rfl, hP, hK⟩ := hv
  have hx := B.exec
  have hb := B.bytes
  have hr := B.returns
  have hts := atoms_spec (ws := wsX11_countOf) B.pre
  have hz : ∀ w ∈ zW, w.before _ s = true := fun w h => hts w (List.mem_cons_of_mem _ h)
  have hown : s.vm.findClass RX11 = some m.cls := findClass_of_methodNamed B.named
  have hlocks := B.notSynchronized
  obtain ⟨hO, hA, hS1, h8⟩ := id hP
  have ha := hL.1
  have hc0 := hL.2.lt (by decide)
  have hl := lv_entry ([.ref (o), .int (nI (a))]) (n := 4) (Nat.le_of_ble_eq_true rfl)
  rw [lg_entry_eq]
  generalize (lg_sl ([.ref (o), .int (nI (a))]) ++ List.replicate (4 - (lg_sl ([.ref (o), .int (nI (a))])).length) Slot.unset).toArray = ls at hl ⊢
  have hl : lv_has ls 4 [(0, .ref (o)), (1, .int (nI (a)))] := hl
  refine lv_iconst (v := nI 0) hx hb dX11_countOf_0 (by decide) ?_
  refine lv_istore_n (lv' := [(2, .int (nI (0))), (0, .ref (o)), (1, .int (nI (a)))]) hx hb dX11_countOf_1 rfl hl (by decide) rfl (fun ls hl => ?_)
  refine lv_aload_n hx hb dX11_countOf_2 rfl (lv_at hl 1 rfl) ?_
  refine lv_iload_n hx hb dX11_countOf_3 rfl (lv_at hl 2 rfl) ?_
  refine zc_V (As := [.int (nI (a))]) (rest := []) ⟨hx, hb, hml, hown, hts⟩ (m_firstOf l G o qs fs f a ha) (cwV 1 hts (zgV wm_X11_137 wv_X11_firstOf) rfl rfl rfl (by decide +kernel) ⟨Nat.le_of_ble_eq_true rfl, Nat.le_of_ble_eq_true rfl⟩) hK hO rfl hP rfl hl.1 rfl (Nat.le_of_ble_eq_true rfl) dX11_countOf_4 ⟨Nat.zero_le _, Nat.zero_le _⟩ ?_
  refine lv_istore_n (lv' := [(3, .int (nI (fi f a))), (2, .int (nI (0))), (0, .ref (o)), (1, .int (nI (a)))]) hx hb dX11_countOf_7 rfl hl (by decide) rfl (fun ls hl => ?_)
  have L8 : ∀ (n_ : Nat) (k : Nat) (e : Nat) (M : List Nat), M.length < n_ → (Ch 18000 f e M) → (k + M.length = L.length) → (e < 18000) → ∀ ls : Array Slot, lv_has ls 4 [(3, .int (nI (e))), (2, .int (nI (k))), (0, .ref (o))] → W p l en (headSpec wsX11_countOf ({ frames := 3, cells := 0, slots := 0, locals := 66 })).room s m ([.ref (o), .int (nI (a))] : List Value).toArray below meth c s.heap [] 0 0 (MQ below (zR (.int (nI L.length))) ([.ref (o), .int (nI (a))] : List Value).toArray s 0 0 (fun _ => False)) (F0 m 8 ls []) := by
    intro n_
    induction n_ with
    | zero => intro k e M hm_; exact absurd hm_ (Nat.not_lt_zero _)
    | succ n_ ih_ =>
      intro k e M hm_ hc hn he ls hl
      refine lv_iload_n hx hb dX11_countOf_8 rfl (lv_at hl 0 rfl) ?_
      refine zi_if_le (tgt := 24) hx hb dX11_countOf_9 (by decide) (by omega) (fun c_9 => ?_) (fun c_9 => ?_)
      · have hM := hc.nil c_9
        subst hM
        refine lv_iload_n hx hb dX11_countOf_24 rfl (lv_at hl 1 rfl) ?_
        exact zr_i hx hb hr hlocks (by rw [← hn]; rfl) dX11_countOf_25
      · obtain ⟨M', rfl, hok, hc'⟩ := hc.cons c_9
        refine lv_iinc (v := nI (k + 1)) (lv' := [(2, .int (nI (k + 1))), (3, .int (nI (e))), (0, .ref (o))]) hx hb dX11_countOf_12 hl (k := 1) rfl (nI_add _ _) (by decide) rfl (fun ls hl => ?_)
        refine lv_aload_n hx hb dX11_countOf_15 rfl (lv_at hl 2 rfl) ?_
        refine lv_iload_n hx hb dX11_countOf_16 rfl (lv_at hl 1 rfl) ?_
        refine zc_V (As := [.int (nI (e))]) (rest := []) ⟨hx, hb, hml, hown, hts⟩ (m_nextOf l G o qs fs f e hok) (cwV 1 hts (zgV wm_X11_140 wv_X11_nextOf) rfl rfl rfl (by decide +kernel) ⟨Nat.le_of_ble_eq_true rfl, Nat.le_of_ble_eq_true rfl⟩) hK hO rfl hP rfl hl.1 rfl (Nat.le_of_ble_eq_true rfl) dX11_countOf_17 ⟨Nat.zero_le _, Nat.zero_le _⟩ ?_
        refine lv_istore_n (lv' := [(3, .int (nI (nx f e))), (2, .int (nI (k + 1))), (0, .ref (o))]) hx hb dX11_countOf_20 rfl hl (by decide) rfl (fun ls hl => ?_)
        refine lv_goto (tgt := 8) hx hb dX11_countOf_21 (by decide) ?_
        exact ih_ (k + 1) (nx f e) (M') (by simp at hm_; omega) hc' (by simp at hn; omega) (Ch.lt (by decide) hc') ls (lv_sub hl [0, 1, 2] rfl)
  exact L8 ((L.length) + 1) 0 (fi f a) L (Nat.lt_succ_self _) hL.2 (by omega) hc0 ls (lv_sub hl [0, 1, 2] rfl)

set_option maxHeartbeats 4000000 in
set_option maxRecDepth 100000 in
theorem m_isDollar (l : Launch) (G : zG) (o qs : Nat) (fs : List Value) (f : Nat → Nat) (e : Nat) (he : e + 1 < 18000) : Met l yX11_isDollar wsX11_isDollar ({ frames := 0, cells := 0, slots := 0, locals := 0 }) (zP G [.ref (o), .int (nI (e))] (fun H => MV G o qs fs f H)) (zR (.int (nI (nB (decide (f (e + 1) = 36)))))) 0 0 (fun _ => False) := by
  refine Met.ofW (cc := cX11_isDollar) (maxL := 2) (ret := (some .boolean)) (by decide) rfl ?_
  intro p en s m args below meth c s₁ B hml hv
  obtain ⟨rfl, hP, hK⟩ := hv
  have hx := B.exec
  have hb := B.bytes
  have hr := B.returns
  have hts := atoms_spec (ws := wsX11_isDollar) B.pre
  have hz : ∀ w ∈ zW, w.before _ s = true := fun w h => hts w (List.mem_cons_of_mem _ h)
  have hown : s.vm.findClass RX11 = some m.cls := findClass_of_methodNamed B.named
  have hlocks := B.notSynchronized
  obtain ⟨hO, hA, hS1, h8⟩ := id hP
  have hl := lv_entry ([.ref (o), .int (nI (e))]) (n := 2) (Nat.le_of_ble_eq_true rfl)
  rw [lg_entry_eq]
  generalize (lg_sl ([.ref (o), .int (nI (e))]) ++ List.replicate (2 - (lg_sl ([.ref (o), .int (nI (e))])).length) Slot.unset).toArray = ls at hl ⊢
  have hl : lv_has ls 2 [(0, .ref (o)), (1, .int (nI (e)))] := hl
  refine lv_aload_n hx hb dX11_isDollar_0 rfl (lv_at hl 0 rfl) ?_
  refine zi_get (C := RX11) (T := TX11) (N := 23) (v := .ref (qs)) hx hb hz wo_X11 hown hK hO rfl 1 (by decide) (hz _ wf_X11_7) (fun _ h9 => h9) hS1 dX11_isDollar_1 ?_
  refine lv_iload_n hx hb dX11_isDollar_4 rfl (lv_at hl 1 rfl) ?_
  refine lv_iconst (v := nI 1) hx hb dX11_isDollar_5 (by decide) ?_
  refine zi_add hx hb dX11_isDollar_6 ?_
  refine zi_ald hx hb hK hA (by omega) (by decide) dX11_isDollar_7 ?_
  refine lv_bipush (v := nI 36) hx hb dX11_isDollar_8 (by decide) ?_
  refine zi_icmp_ne (tgt := 17) hx hb dX11_isDollar_10 (by decide) (Nat.lt_trans (h8 _) (by decide)) (by omega) (fun c_10 => ?_) (fun c_10 => ?_)
  · refine lv_iconst (v := nI 0) hx hb dX11_isDollar_17 (by decide) ?_
    exact zr_z hx hb hr hlocks (by simp [nB, *]) dX11_isDollar_18
  · refine lv_iconst (v := nI 1) hx hb dX11_isDollar_13 (by decide) ?_
    refine lv_goto (tgt := 18) hx hb dX11_isDollar_14 (by decide) ?_
    exact zr_z hx hb hr hlocks (by simp [nB, *]) dX11_isDollar_18
