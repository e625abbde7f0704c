set_option maxHeartbeats 4000000 in
set_option maxRecDepth 100000 in
theorem m_isNamed (l : Launch) (G : zG) (o qs : Nat) (fs : List Value) (f : Nat → Nat) (e : Nat) (w : List Nat) (hw : okL w) (hw7 : w.length ≤ 7) (hok : okN 18000 f e) : Met l yX11_isNamed wsX11_isNamed ({ frames := 0, cells := 0, slots := 0, locals := 0 }) (zP G [.ref (o), .int (nI (e)), .long (lN (pkW w))] (fun H => MV G o qs fs f H)) (zR (.int (nI (nB (isW f (e + 1) w))))) 0 0 (fun _ => False) := by
  refine Met.ofW (cc := cX11_isNamed) (maxL := 7) (ret := (some .boolean)) (by decide) rfl ?_
  intro p en s m args below meth c s₁ B hml hv
  obtain ⟨rfl, hP, hK⟩ := hv
  have hx := B.exec
  have hb := B.bytes
  have hr := B.returns
  have hts := atoms_spec (ws := wsX11_isNamed) B.pre
  have hz : ∀ w ∈ zW, w.before _ s = true := fun w h => hts w (List.mem_cons_of_mem _ h)
  have hown : s.vm.findClass RX11 = some m.cls := findClass_of_methodNamed B.named
  have hlocks := B.notSynchronized
  obtain ⟨hO, hA, hS1, h8⟩ := id hP
  have hl := lv_entry ([.ref (o), .int (nI (e)), .long (lN (pkW w))]) (n := 7) (Nat.le_of_ble_eq_true rfl)
  rw [lg_entry_eq]
  generalize (lg_sl ([.ref (o), .int (nI (e)), .long (lN (pkW w))]) ++ List.replicate (7 - (lg_sl ([.ref (o), .int (nI (e)), .long (lN (pkW w))])).length) Slot.unset).toArray = ls at hl ⊢
  have hl : lv_has ls 7 [(0, .ref (o)), (1, .int (nI (e))), (2, .long (lN (pkW w)))] := hl
  refine lv_lload_n hx hb dX11_isNamed_0 rfl (lv_at hl 2 rfl) ?_
  refine lv_lstore (lv' := [(4, .long (lN (pkW w))), (0, .ref (o)), (1, .int (nI (e))), (2, .long (lN (pkW w)))]) hx hb dX11_isNamed_1 hl (by decide) rfl (fun ls hl => ?_)
  refine lv_iload_n hx hb dX11_isNamed_3 rfl (lv_at hl 2 rfl) ?_
  refine lv_iconst (v := nI 1) hx hb dX11_isNamed_4 (by decide) ?_
  refine zi_add hx hb dX11_isNamed_5 ?_
  refine lv_istore (lv' := [(6, .int (nI (e + 1))), (4, .long (lN (pkW w))), (0, .ref (o)), (1, .int (nI (e))), (2, .long (lN (pkW w)))]) hx hb dX11_isNamed_6 hl (by decide) rfl (fun ls hl => ?_)
  have L8 : ∀ (n_ : Nat) (k : Nat) (v : List Nat), v.length < n_ → (e + 1 ≤ k) → (k ≤ ne f e) → (okL v) → (v.length ≤ 7) → (isW f (e + 1) w = isW f k v) → ∀ ls : Array Slot, lv_has ls 7 [(0, .ref (o)), (4, .long (lN (pkW v))), (6, .int (nI (k)))] → W p l en (headSpec wsX11_isNamed ({ frames := 0, cells := 0, slots := 0, locals := 0 })).room s m ([.ref (o), .int (nI (e)), .long (lN (pkW w))] : List Value).toArray below meth c s.heap [] 0 0 (MQ below (zR (.int (nI (nB (isW f (e + 1) w))))) ([.ref (o), .int (nI (e)), .long (lN (pkW w))] : List Value).toArray s 0 0 (fun _ => False)) (F0 m 8 ls []) := by
    intro n_
    induction n_ with
    | zero => intro k v hm_; exact absurd hm_ (Nat.not_lt_zero _)
    | succ n_ ih_ =>
      intro k v hm_ h1 h2 hv hv7 hs ls hl
      refine lv_lload hx hb dX11_isNamed_8 (lv_at hl 1 rfl) ?_
      refine lv_lconst (v := 0) hx hb dX11_isNamed_10 (by decide) ?_
      refine W.lcmp hx hb dX11_isNamed_11 ?_
      refine lv_if_le (tgt := 45) hx hb dX11_isNamed_12 (by decide) (fun c_12 => ?_) (fun c_12 => ?_)
      · have hw0 : v = [] := pkW_0 hv ((lN_le0 (pkW_lt7 hv hv7)).mp ((lg_cmp_le _ _).mp c_12))
        subst hw0
        refine lv_lload hx hb dX11_isNamed_45 (lv_at hl 1 rfl) ?_
        refine lv_lconst (v := 0) hx hb dX11_isNamed_47 (by decide) ?_
        refine W.lcmp hx hb dX11_isNamed_48 ?_
        refine lv_if_ne (tgt := 66) hx hb dX11_isNamed_49 (by decide) (fun c_49 => ?_) (fun c_49 => ?_)
        · refine lv_iconst (v := nI 0) hx hb dX11_isNamed_66 (by decide) ?_
          exact zr_z hx hb hr hlocks (by first | (rw [hf]; rfl) | (rw [hs]; simp [isW, c_59, nB]; done) | exact absurd (by decide) c_49 | exact absurd ((lg_cmp_eq _ _).mp c_49) (fun q => hw0 ((lN_eq0 (pkW_lt7 hv hv7)).mp q))) dX11_isNamed_67
        · refine lv_aload_n hx hb dX11_isNamed_52 rfl (lv_at hl 0 rfl) ?_
          refine zi_get (C := RX11) (T := TX11) (N := 23) (v := .ref (qs)) hx hb hz wo_X11 hown hK hO rfl 1 (by decide) (hz _ wf_X11_7) (fun _ h9 => h9) hS1 dX11_isNamed_53 ?_
          refine lv_iload hx hb dX11_isNamed_56 (lv_at hl 2 rfl) ?_
          refine zi_ald hx hb hK hA (Nat.lt_of_le_of_lt h2 hok.2) (by decide) dX11_isNamed_58 ?_
          refine zi_if_ne (tgt := 66) hx hb dX11_isNamed_59 (by decide) (Nat.lt_trans (h8 _) (by decide)) (fun c_59 => ?_) (fun c_59 => ?_)
          · refine lv_iconst (v := nI 0) hx hb dX11_isNamed_66 (by decide) ?_
            exact zr_z hx hb hr hlocks (by first | (rw [hf]; rfl) | (rw [hs]; simp [isW, c_59, nB]; done) | exact absurd (by decide) c_49 | exact absurd ((lg_cmp_eq _ _).mp c_49) (fun q => hw0 ((lN_eq0 (pkW_lt7 hv hv7)).mp q))) dX11_isNamed_67
          · refine lv_iconst (v := nI 1) hx hb dX11_isNamed_62 (by decide) ?_
            refine lv_goto (tgt := 67) hx hb dX11_isNamed_63 (by decide) ?_
            exact zr_z hx hb hr hlocks (by first | (rw [hf]; rfl) | (rw [hs]; simp [isW, c_59, nB]; done) | exact absurd (by decide) c_49 | exact absurd ((lg_cmp_eq _ _).mp c_49) (fun q => hw0 ((lN_eq0 (pkW_lt7 hv hv7)).mp q))) dX11_isNamed_67
      · have hw0 : pkW v ≠ 0 := fun q => c_12 ((lg_cmp_le _ _).mpr ((lN_le0 (pkW_lt7 hv hv7)).mpr q))
        obtain ⟨x, v, rfl⟩ : ∃ x u, v = x :: u := by
          cases v with
          | nil => exact absurd rfl hw0
          | cons x u => exact ⟨x, u, rfl⟩
        have hx1 := hv x List.mem_cons_self
        have hb1 : x + 256 * pkW v < 2 ^ 62 := pkW_lt7 hv hv7
        refine lv_aload_n hx hb dX11_isNamed_15 rfl (lv_at hl 0 rfl) ?_
        refine zi_get (C := RX11) (T := TX11) (N := 23) (v := .ref (qs)) hx hb hz wo_X11 hown hK hO rfl 1 (by decide) (hz _ wf_X11_7) (fun _ h9 => h9) hS1 dX11_isNamed_16 ?_
        refine lv_iload hx hb dX11_isNamed_19 (lv_at hl 2 rfl) ?_
        refine zi_ald hx hb hK hA (Nat.lt_of_le_of_lt h2 hok.2) (by decide) dX11_isNamed_21 ?_
        refine lv_lload hx hb dX11_isNamed_22 (lv_at hl 1 rfl) ?_
        refine lv_ldc2 (v := 255) hx hb hown (hz _ wk_X11_143) dX11_isNamed_24 ?_
        refine lv_land hx hb dX11_isNamed_27 ?_
        refine lv_l2i (v := nI (x)) hx hb dX11_isNamed_28 (z_lowI hx1.2 hb1) ?_
        refine zi_icmp_ne (tgt := 45) hx hb dX11_isNamed_29 (by decide) (Nat.lt_trans (h8 _) (by decide)) (by omega) (fun c_29 => ?_) (fun c_29 => ?_)
        · have hf : isW f (e + 1) w = false := by rw [hs]; simp [isW, c_29]
          refine lv_lload hx hb dX11_isNamed_45 (lv_at hl 1 rfl) ?_
          refine lv_lconst (v := 0) hx hb dX11_isNamed_47 (by decide) ?_
          refine W.lcmp hx hb dX11_isNamed_48 ?_
          refine lv_if_ne (tgt := 66) hx hb dX11_isNamed_49 (by decide) (fun c_49 => ?_) (fun c_49 => ?_)
          · refine lv_iconst (v := nI 0) hx hb dX11_isNamed_66 (by decide) ?_
            exact zr_z hx hb hr hlocks (by first | (rw [hf]; rfl) | (rw [hs]; simp [isW, c_59, nB]; done) | exact absurd (by decide) c_49 | exact absurd ((lg_cmp_eq _ _).mp c_49) (fun q => hw0 ((lN_eq0 (pkW_lt7 hv hv7)).mp q))) dX11_isNamed_67
          · refine lv_aload_n hx hb dX11_isNamed_52 rfl (lv_at hl 0 rfl) ?_
            refine zi_get (C := RX11) (T := TX11) (N := 23) (v := .ref (qs)) hx hb hz wo_X11 hown hK hO rfl 1 (by decide) (hz _ wf_X11_7) (fun _ h9 => h9) hS1 dX11_isNamed_53 ?_
            refine lv_iload hx hb dX11_isNamed_56 (lv_at hl 2 rfl) ?_
            refine zi_ald hx hb hK hA (Nat.lt_of_le_of_lt h2 hok.2) (by decide) dX11_isNamed_58 ?_
            refine zi_if_ne (tgt := 66) hx hb dX11_isNamed_59 (by decide) (Nat.lt_trans (h8 _) (by decide)) (fun c_59 => ?_) (fun c_59 => ?_)
            · refine lv_iconst (v := nI 0) hx hb dX11_isNamed_66 (by decide) ?_
              exact zr_z hx hb hr hlocks (by first | (rw [hf]; rfl) | (rw [hs]; simp [isW, c_59, nB]; done) | exact absurd (by decide) c_49 | exact absurd ((lg_cmp_eq _ _).mp c_49) (fun q => hw0 ((lN_eq0 (pkW_lt7 hv hv7)).mp q))) dX11_isNamed_67
            · refine lv_iconst (v := nI 1) hx hb dX11_isNamed_62 (by decide) ?_
              refine lv_goto (tgt := 67) hx hb dX11_isNamed_63 (by decide) ?_
              exact zr_z hx hb hr hlocks (by first | (rw [hf]; rfl) | (rw [hs]; simp [isW, c_59, nB]; done) | exact absurd (by decide) c_49 | exact absurd ((lg_cmp_eq _ _).mp c_49) (fun q => hw0 ((lN_eq0 (pkW_lt7 hv hv7)).mp q))) dX11_isNamed_67
        · have h2' : k + 1 ≤ ne f e := by
            rcases Nat.lt_or_ge k (ne f e) with q | q
            · exact q
            · have : f k = 0 := by rw [show k = ne f e by omega]; exact hok.1
              omega
          refine lv_lload hx hb dX11_isNamed_32 (lv_at hl 1 rfl) ?_
          refine lv_bipush (v := nI 8) hx hb dX11_isNamed_34 (by decide) ?_
          refine lv_lshr (v := lN (pkW v)) hx hb dX11_isNamed_36 (z_shr8 hx1.2 hb1) ?_
          refine lv_lstore (lv' := [(4, .long (lN (pkW v))), (0, .ref (o)), (6, .int (nI (k)))]) hx hb dX11_isNamed_37 hl (by decide) rfl (fun ls hl => ?_)
          refine lv_iinc (v := nI (k + 1)) (lv' := [(6, .int (nI (k + 1))), (4, .long (lN (pkW v))), (0, .ref (o))]) hx hb dX11_isNamed_39 hl (k := 2) rfl (nI_add _ _) (by decide) rfl (fun ls hl => ?_)
          refine lv_goto (tgt := 8) hx hb dX11_isNamed_42 (by decide) ?_
          exact ih_ (k + 1) v (by simp at hm_; omega) (by omega) h2' (fun y hy => hv y (List.mem_cons_of_mem _ hy)) (by simp at hv7; omega) (by rw [hs]; simp [isW, c_29]) ls (lv_sub hl [2, 1, 0] rfl)
  exact L8 ((w.length) + 1) (e + 1) w (Nat.lt_succ_self _) (Nat.le_refl _) (ne_gt f e) hw hw7 rfl ls (lv_sub hl [2, 1, 0] rfl)

set_option maxHeartbeats 4000000 in
set_option maxRecDepth 100000 in
theorem m_isConditions (l : Launch) (G : zG) (o qs : Nat) (fs : List Value) (f : Nat → Nat) (k a : Nat) (hk : k < 2 ^ 31) (ha : k = 3 → a + 5 < 18000) : Met l yX11_isConditions wsX11_isConditions ({ frames := 1, cells := 0, slots := 0, locals := 21 }) (zP G [.ref (o), .int (nI (k)), .int (nI (a))] (fun H => MV G o qs fs f H)) (zR (.int (nI (nB (isC f k a))))) 0 0 (fun _ => False) := by
  refine Met.ofW (cc := cX11_isConditions) (maxL := 3) (ret := (some .boolean)) (by decide) rfl ?_
  intro p en s m args below meth c s₁ B hml hv
  obtain ⟨rfl, hP, hK⟩ := hv
  have hx := B.exec
  have hb := B.bytes
  have hr := B.returns
  have hts := atoms_spec (ws := wsX11_isConditions) B.pre
  have hz : ∀ w ∈ zW, w.before _ s = true := fun w h => hts w (List.mem_cons_of_mem _ h)
  have hown : s.vm.findClass RX11 = some m.cls := findClass_of_methodNamed B.named
  have hlocks := B.notSynchronized
  obtain ⟨hO, hA, hS1, h8⟩ := id hP
  have hl := lv_entry ([.ref (o), .int (nI (k)), .int (nI (a))]) (n := 3) (Nat.le_of_ble_eq_true rfl)
  rw [lg_entry_eq]
  generalize (lg_sl ([.ref (o), .int (nI (k)), .int (nI (a))]) ++ List.replicate (3 - (lg_sl ([.ref (o), .int (nI (k)), .int (nI (a))])).length) Slot.unset).toArray = ls at hl ⊢
  have hl : lv_has ls 3 [(0, .ref (o)), (1, .int (nI (k))), (2, .int (nI (a)))] := hl
  refine lv_iload_n hx hb dX11_isConditions_0 rfl (lv_at hl 1 rfl) ?_
  refine lv_iconst (v := nI 3) hx hb dX11_isConditions_1 (by decide) ?_
  refine zi_icmp_ne (tgt := 29) hx hb dX11_isConditions_2 (by decide) (by omega) (by omega) (fun c_2 => ?_) (fun c_2 => ?_)
  · refine lv_iconst (v := nI 0) hx hb dX11_isConditions_29 (by decide) ?_
    exact zr_z hx hb hr hlocks (by simp_all [isC, nB]) dX11_isConditions_30
  · refine lv_aload_n hx hb dX11_isConditions_5 rfl (lv_at hl 0 rfl) ?_
    refine lv_iload_n hx hb dX11_isConditions_6 rfl (lv_at hl 2 rfl) ?_
    refine zc_V (As := [.int (nI (a))]) (rest := []) ⟨hx, hb, hml, hown, hts⟩ (m_firstOf l G o qs fs f a (by have := ha c_2; omega)) (cwV 1 hts (zgV wm_X11_137 wv_X11_firstOf) rfl rfl rfl (by decide +kernel) ⟨Nat.le_of_ble_eq_true rfl, Nat.le_of_ble_eq_true rfl⟩) hK hO rfl hP rfl hl.1 rfl (Nat.le_of_ble_eq_true rfl) dX11_isConditions_7 ⟨Nat.zero_le _, Nat.zero_le _⟩ ?_
    refine zi_if_le (tgt := 29) hx hb dX11_isConditions_10 (by decide) (by have := ha c_2; have := fi_le f a; omega) (fun c_10 => ?_) (fun c_10 => ?_)
    · refine lv_iconst (v := nI 0) hx hb dX11_isConditions_29 (by decide) ?_
      exact zr_z hx hb hr hlocks (by simp_all [isC, nB]) dX11_isConditions_30
    · refine lv_aload_n hx hb dX11_isConditions_13 rfl (lv_at hl 0 rfl) ?_
      refine lv_aload_n hx hb dX11_isConditions_14 rfl (lv_at hl 0 rfl) ?_
      refine lv_iload_n hx hb dX11_isConditions_15 rfl (lv_at hl 2 rfl) ?_
      refine zc_V (As := [.int (nI (a))]) (rest := [.ref (o)]) ⟨hx, hb, hml, hown, hts⟩ (m_firstOf l G o qs fs f a (by have := ha c_2; omega)) (cwV 1 hts (zgV wm_X11_137 wv_X11_firstOf) rfl rfl rfl (by decide +kernel) ⟨Nat.le_of_ble_eq_true rfl, Nat.le_of_ble_eq_true rfl⟩) hK hO rfl hP rfl hl.1 rfl (Nat.le_of_ble_eq_true rfl) dX11_isConditions_16 ⟨Nat.zero_le _, Nat.zero_le _⟩ ?_
      refine zc_V (As := [.int (nI (fi f a))]) (rest := []) ⟨hx, hb, hml, hown, hts⟩ (m_isDollar l G o qs fs f (fi f a) (by have := ha c_2; have := fi_le f a; omega)) (cwV 1 hts (zgV wm_X11_145 wv_X11_isDollar) rfl rfl rfl (by decide +kernel) ⟨Nat.le_of_ble_eq_true rfl, Nat.le_of_ble_eq_true rfl⟩) hK hO rfl hP rfl hl.1 rfl (Nat.le_of_ble_eq_true rfl) dX11_isConditions_19 ⟨Nat.zero_le _, Nat.zero_le _⟩ ?_
      refine zb_if_eq (tgt := 29) hx hb dX11_isConditions_22 (by decide) (fun c_22 => ?_) (fun c_22 => ?_)
      · refine lv_iconst (v := nI 0) hx hb dX11_isConditions_29 (by decide) ?_
        exact zr_z hx hb hr hlocks (by simp_all [isC, nB]) dX11_isConditions_30
      · refine lv_iconst (v := nI 1) hx hb dX11_isConditions_25 (by decide) ?_
        refine lv_goto (tgt := 30) hx hb dX11_isConditions_26 (by decide) ?_
        exact zr_z hx hb hr hlocks (by simp_all [isC, nB]) dX11_isConditions_30

set_option maxHeartbeats 4000000 in
set_option maxRecDepth 100000 in
theorem m_isAnd (l : Launch) (G : zG) (o qs : Nat) (fs : List Value) (f : Nat → Nat) (e : Nat) (hok : okN 18000 f e) : Met l yX11_isAnd wsX11_isAnd ({ frames := 1, cells := 0, slots := 0, locals := 26 }) (zP G [.ref (o), .int (nI (e))] (fun H => MV G o qs fs f H)) (zR (.int (nI (nB (isA f e wAnd))))) 0 0 (fun _ => False) := by
  refine Met.ofW (cc := cX11_isAnd) (maxL := 2) (ret := (some .boolean)) (by decide) rfl ?_
  intro p en s m args below meth c s₁ B hml hv
  obtain ⟨rfl, hP, hK⟩ := hv
  have hx := B.exec
  have hb := B.bytes
  have hr := B.returns
  have hts := atoms_spec (ws := wsX11_isAnd) B.pre
  have hz : ∀ w ∈ zW, w.before _ s = true := fun w h => hts w (List.mem_cons_of_mem _ h)
  have hown : s.vm.findClass RX11 = some m.cls := findClass_of_methodNamed B.named
  have hlocks := B.notSynchronized
  obtain ⟨hO, hA, hS1, h8⟩ := id hP
  have hl := lv_entry ([.ref (o), .int (nI (e))]) (n := 2) (Nat.le_of_ble_eq_true rfl)
  rw [lg_entry_eq]
  generalize (lg_sl ([.ref (o), .int (nI (e))]) ++ List.replicate (2 - (lg_sl ([.ref (o), .int (nI (e))])).length) Slot.unset).toArray = ls at hl ⊢
  have hl : lv_has ls 2 [(0, .ref (o)), (1, .int (nI (e)))] := hl
  refine lv_aload_n hx hb dX11_isAnd_0 rfl (lv_at hl 0 rfl) ?_
  refine lv_iload_n hx hb dX11_isAnd_1 rfl (lv_at hl 1 rfl) ?_
  refine lv_ldc2 (v := 1684955428) hx hb hown (hz _ wk_X11_148) dX11_isAnd_2 ?_
  refine zc_V (As := [.int (nI (e)), .long (1684955428)]) (rest := []) ⟨hx, hb, hml, hown, hts⟩ (m_isNamed l G o qs fs f e wAnd (by unfold okL; decide) (by decide) hok) (cwV 2 hts (zgV wm_X11_150 wv_X11_isNamed) rfl rfl rfl (by decide +kernel) ⟨Nat.le_of_ble_eq_true rfl, Nat.le_of_ble_eq_true rfl⟩) hK hO rfl hP rfl hl.1 rfl (Nat.le_of_ble_eq_true rfl) dX11_isAnd_5 ⟨Nat.zero_le _, Nat.zero_le _⟩ ?_
  exact zr_z hx hb hr hlocks (rfl) dX11_isAnd_8

set_option maxHeartbeats 4000000 in
set_option maxRecDepth 100000 in
theorem m_isOr (l : Launch) (G : zG) (o qs : Nat) (fs : List Value) (f : Nat → Nat) (e : Nat) (hok : okN 18000 f e) : Met l yX11_isOr wsX11_isOr ({ frames := 1, cells := 0, slots := 0, locals := 26 }) (zP G [.ref (o), .int (nI (e))] (fun H => MV G o qs fs f H)) (zR (.int (nI (nB (isA f e wOr))))) 0 0 (fun _ => False) := by
  refine Met.ofW (cc := cX11_isOr) (maxL := 2) (ret := (some .boolean)) (by decide) rfl ?_
  intro p en s m args below meth c s₁ B hml hv
  obtain ⟨rfl, hP, hK⟩ := hv
  have hx := B.exec
  have hb := B.bytes
  have hr := B.returns
  have hts := atoms_spec (ws := wsX11_isOr) B.pre
  have hz : ∀ w ∈ zW, w.before _ s = true := fun w h => hts w (List.mem_cons_of_mem _ h)
  have hown : s.vm.findClass RX11 = some m.cls := findClass_of_methodNamed B.named
  have hlocks := B.notSynchronized
  obtain ⟨hO, hA, hS1, h8⟩ := id hP
  have hl := lv_entry ([.ref (o), .int (nI (e))]) (n := 2) (Nat.le_of_ble_eq_true rfl)
  rw [lg_entry_eq]
  generalize (lg_sl ([.ref (o), .int (nI (e))]) ++ List.replicate (2 - (lg_sl ([.ref (o), .int (nI (e))])).length) Slot.unset).toArray = ls at hl ⊢
  have hl : lv_has ls 2 [(0, .ref (o)), (1, .int (nI (e)))] := hl
  refine lv_aload_n hx hb dX11_isOr_0 rfl (lv_at hl 0 rfl) ?_
  refine lv_iload_n hx hb dX11_isOr_1 rfl (lv_at hl 1 rfl) ?_
  refine lv_ldc2 (v := 7499556) hx hb hown (hz _ wk_X11_154) dX11_isOr_2 ?_
  refine zc_V (As := [.int (nI (e)), .long (7499556)]) (rest := []) ⟨hx, hb, hml, hown, hts⟩ (m_isNamed l G o qs fs f e wOr (by unfold okL; decide) (by decide) hok) (cwV 2 hts (zgV wm_X11_150 wv_X11_isNamed) rfl rfl rfl (by decide +kernel) ⟨Nat.le_of_ble_eq_true rfl, Nat.le_of_ble_eq_true rfl⟩) hK hO rfl hP rfl hl.1 rfl (Nat.le_of_ble_eq_true rfl) dX11_isOr_5 ⟨Nat.zero_le _, Nat.zero_le _⟩ ?_
  exact zr_z hx hb hr hlocks (rfl) dX11_isOr_8

set_option maxHeartbeats 4000000 in
set_option maxRecDepth 100000 in
theorem m_isNor (l : Launch) (G : zG) (o qs : Nat) (fs : List Value) (f : Nat → Nat) (e : Nat) (hok : okN 18000 f e) : Met l yX11_isNor wsX11_isNor ({ frames := 1, cells := 0, slots := 0, locals := 26 }) (zP G [.ref (o), .int (nI (e))] (fun H => MV G o qs fs f H)) (zR (.int (nI (nB (isA f e wNor))))) 0 0 (fun _ => False) := by
  refine Met.ofW (cc := cX11_isNor) (maxL := 2) (ret := (some .boolean)) (by decide) rfl ?_
  intro p en s m args below meth c s₁ B hml hv
  obtain ⟨rfl, hP, hK⟩ := hv
  have hx := B.exec
  have hb := B.bytes
  have hr := B.returns
  have hts := atoms_spec (ws := wsX11_isNor) B.pre
  have hz : ∀ w ∈ zW, w.before _ s = true := fun w h => hts w (List.mem_cons_of_mem _ h)
  have hown : s.vm.findClass RX11 = some m.cls := findClass_of_methodNamed B.named
  have hlocks := B.notSynchronized
  obtain ⟨hO, hA, hS1, h8⟩ := id hP
  have hl := lv_entry ([.ref (o), .int (nI (e))]) (n := 2) (Nat.le_of_ble_eq_true rfl)
  rw [lg_entry_eq]
  generalize (lg_sl ([.ref (o), .int (nI (e))]) ++ List.replicate (2 - (lg_sl ([.ref (o), .int (nI (e))])).length) Slot.unset).toArray = ls at hl ⊢
  have hl : lv_has ls 2 [(0, .ref (o)), (1, .int (nI (e)))] := hl
  refine lv_aload_n hx hb dX11_isNor_0 rfl (lv_at hl 0 rfl) ?_
  refine lv_iload_n hx hb dX11_isNor_1 rfl (lv_at hl 1 rfl) ?_
  refine lv_ldc2 (v := 1919905316) hx hb hown (hz _ wk_X11_156) dX11_isNor_2 ?_
  refine zc_V (As := [.int (nI (e)), .long (1919905316)]) (rest := []) ⟨hx, hb, hml, hown, hts⟩ (m_isNamed l G o qs fs f e wNor (by unfold okL; decide) (by decide) hok) (cwV 2 hts (zgV wm_X11_150 wv_X11_isNamed) rfl rfl rfl (by decide +kernel) ⟨Nat.le_of_ble_eq_true rfl, Nat.le_of_ble_eq_true rfl⟩) hK hO rfl hP rfl hl.1 rfl (Nat.le_of_ble_eq_true rfl) dX11_isNor_5 ⟨Nat.zero_le _, Nat.zero_le _⟩ ?_
  exact zr_z hx hb hr hlocks (rfl) dX11_isNor_8

set_option maxHeartbeats 4000000 in
set_option maxRecDepth 100000 in
theorem m_isJoin (l : Launch) (G : zG) (o qs : Nat) (fs : List Value) (f : Nat → Nat) (e : Nat) (hok : okN 18000 f e) : Met l yX11_isJoin wsX11_isJoin ({ frames := 2, cells := 0, slots := 0, locals := 47 }) (zP G [.ref (o), .int (nI (e))] (fun H => MV G o qs fs f H)) (zR (.int (nI (nB (isJ f e))))) 0 0 (fun _ => False) := by
  refine Met.ofW (cc := cX11_isJoin) (maxL := 2) (ret := (some .boolean)) (by decide) rfl ?_
  intro p en s m args below meth c s₁ B hml hv
  obtain ⟨rfl, hP, hK⟩ := hv
  have hx := B.exec
  have hb := B.bytes
  have hr := B.returns
  have hts := atoms_spec (ws := wsX11_isJoin) B.pre
  have hz : ∀ w ∈ zW, w.before _ s = true := fun w h => hts w (List.mem_cons_of_mem _ h)
  have hown : s.vm.findClass RX11 = some m.cls := findClass_of_methodNamed B.named
  have hlocks := B.notSynchronized
  obtain ⟨hO, hA, hS1, h8⟩ := id hP
  have hl := lv_entry ([.ref (o), .int (nI (e))]) (n := 2) (Nat.le_of_ble_eq_true rfl)
  rw [lg_entry_eq]
  generalize (lg_sl ([.ref (o), .int (nI (e))]) ++ List.replicate (2 - (lg_sl ([.ref (o), .int (nI (e))])).length) Slot.unset).toArray = ls at hl ⊢
  have hl : lv_has ls 2 [(0, .ref (o)), (1, .int (nI (e)))] := hl
  refine lv_aload_n hx hb dX11_isJoin_0 rfl (lv_at hl 0 rfl) ?_
  refine lv_iload_n hx hb dX11_isJoin_1 rfl (lv_at hl 1 rfl) ?_
  refine zc_V (As := [.int (nI (e))]) (rest := []) ⟨hx, hb, hml, hown, hts⟩ (m_isAnd l G o qs fs f e hok) (cwV 1 hts (zgV wm_X11_158 wv_X11_isAnd) rfl rfl rfl (by decide +kernel) ⟨Nat.le_of_ble_eq_true rfl, Nat.le_of_ble_eq_true rfl⟩) hK hO rfl hP rfl hl.1 rfl (Nat.le_of_ble_eq_true rfl) dX11_isJoin_2 ⟨Nat.zero_le _, Nat.zero_le _⟩ ?_
  refine zb_if_ne (tgt := 24) hx hb dX11_isJoin_5 (by decide) (fun c_5 => ?_) (fun c_5 => ?_)
  · refine lv_iconst (v := nI 1) hx hb dX11_isJoin_24 (by decide) ?_
    refine lv_goto (tgt := 29) hx hb dX11_isJoin_25 (by decide) ?_
    exact zr_z hx hb hr hlocks (by simp_all [isJ, nB]) dX11_isJoin_29
  · refine lv_aload_n hx hb dX11_isJoin_8 rfl (lv_at hl 0 rfl) ?_
    refine lv_iload_n hx hb dX11_isJoin_9 rfl (lv_at hl 1 rfl) ?_
    refine zc_V (As := [.int (nI (e))]) (rest := []) ⟨hx, hb, hml, hown, hts⟩ (m_isOr l G o qs fs f e hok) (cwV 1 hts (zgV wm_X11_161 wv_X11_isOr) rfl rfl rfl (by decide +kernel) ⟨Nat.le_of_ble_eq_true rfl, Nat.le_of_ble_eq_true rfl⟩) hK hO rfl hP rfl hl.1 rfl (Nat.le_of_ble_eq_true rfl) dX11_isJoin_10 ⟨Nat.zero_le _, Nat.zero_le _⟩ ?_
    refine zb_if_ne (tgt := 24) hx hb dX11_isJoin_13 (by decide) (fun c_13 => ?_) (fun c_13 => ?_)
    · refine lv_iconst (v := nI 1) hx hb dX11_isJoin_24 (by decide) ?_
      refine lv_goto (tgt := 29) hx hb dX11_isJoin_25 (by decide) ?_
      exact zr_z hx hb hr hlocks (by simp_all [isJ, nB]) dX11_isJoin_29
    · refine lv_aload_n hx hb dX11_isJoin_16 rfl (lv_at hl 0 rfl) ?_
      refine lv_iload_n hx hb dX11_isJoin_17 rfl (lv_at hl 1 rfl) ?_
      refine zc_V (As := [.int (nI (e))]) (rest := []) ⟨hx, hb, hml, hown, hts⟩ (m_isNor l G o qs fs f e hok) (cwV 1 hts (zgV wm_X11_164 wv_X11_isNor) rfl rfl rfl (by decide +kernel) ⟨Nat.le_of_ble_eq_true rfl, Nat.le_of_ble_eq_true rfl⟩) hK hO rfl hP rfl hl.1 rfl (Nat.le_of_ble_eq_true rfl) dX11_isJoin_18 ⟨Nat.zero_le _, Nat.zero_le _⟩ ?_
      refine zb_if_eq (tgt := 28) hx hb dX11_isJoin_21 (by decide) (fun c_21 => ?_) (fun c_21 => ?_)
      · refine lv_iconst (v := nI 0) hx hb dX11_isJoin_28 (by decide) ?_
        exact zr_z hx hb hr hlocks (by simp_all [isJ, nB]) dX11_isJoin_29
      · refine lv_iconst (v := nI 1) hx hb dX11_isJoin_24 (by decide) ?_
        refine lv_goto (tgt := 29) hx hb dX11_isJoin_25 (by decide) ?_
        exact zr_z hx hb hr hlocks (by simp_all [isJ, nB]) dX11_isJoin_29

set_option maxHeartbeats 4000000 in
set_option maxRecDepth 100000 in
theorem m_condition (l : Launch) (G : zG) (o qs : Nat) (fs : List Value) (f : Nat → Nat) (e : Nat) (hok : okN 18000 f e) : Met l yX11_condition wsX11_condition ({ frames := 1, cells := 0, slots := 0, locals := 26 }) (zP G [.ref (o), .int (nI (e))] (fun H => MV G o qs fs f H)) (zR (.int (nI (coN f e)))) 0 0 (fun _ => False) := by
  refine Met.ofW (cc := cX11_condition) (maxL := 2) (ret := (some .int)) (by decide) rfl ?_
  intro p en s m args below meth c s₁ B hml hv
  obtain ⟨rfl, hP, hK⟩ := hv
  have hx := B.exec
  have hb := B.bytes
  have hr := B.returns
  have hts := atoms_spec (ws := wsX11_condition) B.pre
  have hz : ∀ w ∈ zW, w.before _ s = true := fun w h => hts w (List.mem_cons_of_mem _ h)
  have hown : s.vm.findClass RX11 = some m.cls := findClass_of_methodNamed B.named
  have hlocks := B.notSynchronized
  obtain ⟨hO, hA, hS1, h8⟩ := id hP
  have hl := lv_entry ([.ref (o), .int (nI (e))]) (n := 2) (Nat.le_of_ble_eq_true rfl)
  rw [lg_entry_eq]
  generalize (lg_sl ([.ref (o), .int (nI (e))]) ++ List.replicate (2 - (lg_sl ([.ref (o), .int (nI (e))])).length) Slot.unset).toArray = ls at hl ⊢
  have hl : lv_has ls 2 [(0, .ref (o)), (1, .int (nI (e)))] := hl
  refine lv_aload_n hx hb dX11_condition_0 rfl (lv_at hl 0 rfl) ?_
  refine lv_iload_n hx hb dX11_condition_1 rfl (lv_at hl 1 rfl) ?_
  refine lv_ldc2 (v := 7431460) hx hb hown (hz _ wk_X11_167) dX11_condition_2 ?_
  refine zc_V (As := [.int (nI (e)), .long (7431460)]) (rest := []) ⟨hx, hb, hml, hown, hts⟩ (m_isNamed l G o qs fs f e wEq (by unfold okL; decide) (by decide) hok) (cwV 2 hts (zgV wm_X11_150 wv_X11_isNamed) rfl rfl rfl (by decide +kernel) ⟨Nat.le_of_ble_eq_true rfl, Nat.le_of_ble_eq_true rfl⟩) hK hO rfl hP rfl hl.1 rfl (Nat.le_of_ble_eq_true rfl) dX11_condition_5 ⟨Nat.zero_le _, Nat.zero_le _⟩ ?_
  refine zb_if_eq (tgt := 13) hx hb dX11_condition_8 (by decide) (fun c_8 => ?_) (fun c_8 => ?_)
  · refine lv_aload_n hx hb dX11_condition_13 rfl (lv_at hl 0 rfl) ?_
    refine lv_iload_n hx hb dX11_condition_14 rfl (lv_at hl 1 rfl) ?_
    refine lv_ldc2 (v := 6647332) hx hb hown (hz _ wk_X11_169) dX11_condition_15 ?_
    refine zc_V (As := [.int (nI (e)), .long (6647332)]) (rest := []) ⟨hx, hb, hml, hown, hts⟩ (m_isNamed l G o qs fs f e wNe (by unfold okL; decide) (by decide) hok) (cwV 2 hts (zgV wm_X11_150 wv_X11_isNamed) rfl rfl rfl (by decide +kernel) ⟨Nat.le_of_ble_eq_true rfl, Nat.le_of_ble_eq_true rfl⟩) hK hO rfl hP rfl hl.1 rfl (Nat.le_of_ble_eq_true rfl) dX11_condition_18 ⟨Nat.zero_le _, Nat.zero_le _⟩ ?_
    refine zb_if_eq (tgt := 26) hx hb dX11_condition_21 (by decide) (fun c_21 => ?_) (fun c_21 => ?_)
    · refine lv_aload_n hx hb dX11_condition_26 rfl (lv_at hl 0 rfl) ?_
      refine lv_iload_n hx hb dX11_condition_27 rfl (lv_at hl 1 rfl) ?_
      refine lv_ldc2 (v := 7235876) hx hb hown (hz _ wk_X11_171) dX11_condition_28 ?_
      refine zc_V (As := [.int (nI (e)), .long (7235876)]) (rest := []) ⟨hx, hb, hml, hown, hts⟩ (m_isNamed l G o qs fs f e wIn (by unfold okL; decide) (by decide) hok) (cwV 2 hts (zgV wm_X11_150 wv_X11_isNamed) rfl rfl rfl (by decide +kernel) ⟨Nat.le_of_ble_eq_true rfl, Nat.le_of_ble_eq_true rfl⟩) hK hO rfl hP rfl hl.1 rfl (Nat.le_of_ble_eq_true rfl) dX11_condition_31 ⟨Nat.zero_le _, Nat.zero_le _⟩ ?_
      refine zb_if_eq (tgt := 39) hx hb dX11_condition_34 (by decide) (fun c_34 => ?_) (fun c_34 => ?_)
      · refine lv_aload_n hx hb dX11_condition_39 rfl (lv_at hl 0 rfl) ?_
        refine lv_iload_n hx hb dX11_condition_40 rfl (lv_at hl 1 rfl) ?_
        refine lv_ldc2 (v := 1852403236) hx hb hown (hz _ wk_X11_173) dX11_condition_41 ?_
        refine zc_V (As := [.int (nI (e)), .long (1852403236)]) (rest := []) ⟨hx, hb, hml, hown, hts⟩ (m_isNamed l G o qs fs f e wNin (by unfold okL; decide) (by decide) hok) (cwV 2 hts (zgV wm_X11_150 wv_X11_isNamed) rfl rfl rfl (by decide +kernel) ⟨Nat.le_of_ble_eq_true rfl, Nat.le_of_ble_eq_true rfl⟩) hK hO rfl hP rfl hl.1 rfl (Nat.le_of_ble_eq_true rfl) dX11_condition_44 ⟨Nat.zero_le _, Nat.zero_le _⟩ ?_
        refine zb_if_eq (tgt := 52) hx hb dX11_condition_47 (by decide) (fun c_47 => ?_) (fun c_47 => ?_)
        · refine lv_aload_n hx hb dX11_condition_52 rfl (lv_at hl 0 rfl) ?_
          refine lv_iload_n hx hb dX11_condition_53 rfl (lv_at hl 1 rfl) ?_
          refine lv_ldc2 (v := 7629860) hx hb hown (hz _ wk_X11_175) dX11_condition_54 ?_
          refine zc_V (As := [.int (nI (e)), .long (7629860)]) (rest := []) ⟨hx, hb, hml, hown, hts⟩ (m_isNamed l G o qs fs f e wLt (by unfold okL; decide) (by decide) hok) (cwV 2 hts (zgV wm_X11_150 wv_X11_isNamed) rfl rfl rfl (by decide +kernel) ⟨Nat.le_of_ble_eq_true rfl, Nat.le_of_ble_eq_true rfl⟩) hK hO rfl hP rfl hl.1 rfl (Nat.le_of_ble_eq_true rfl) dX11_condition_57 ⟨Nat.zero_le _, Nat.zero_le _⟩ ?_
          refine zb_if_eq (tgt := 65) hx hb dX11_condition_60 (by decide) (fun c_60 => ?_) (fun c_60 => ?_)
          · refine lv_aload_n hx hb dX11_condition_65 rfl (lv_at hl 0 rfl) ?_
            refine lv_iload_n hx hb dX11_condition_66 rfl (lv_at hl 1 rfl) ?_
            refine lv_ldc2 (v := 1702128676) hx hb hown (hz _ wk_X11_177) dX11_condition_67 ?_
            refine zc_V (As := [.int (nI (e)), .long (1702128676)]) (rest := []) ⟨hx, hb, hml, hown, hts⟩ (m_isNamed l G o qs fs f e wLte (by unfold okL; decide) (by decide) hok) (cwV 2 hts (zgV wm_X11_150 wv_X11_isNamed) rfl rfl rfl (by decide +kernel) ⟨Nat.le_of_ble_eq_true rfl, Nat.le_of_ble_eq_true rfl⟩) hK hO rfl hP rfl hl.1 rfl (Nat.le_of_ble_eq_true rfl) dX11_condition_70 ⟨Nat.zero_le _, Nat.zero_le _⟩ ?_
            refine zb_if_eq (tgt := 79) hx hb dX11_condition_73 (by decide) (fun c_73 => ?_) (fun c_73 => ?_)
            · refine lv_aload_n hx hb dX11_condition_79 rfl (lv_at hl 0 rfl) ?_
              refine lv_iload_n hx hb dX11_condition_80 rfl (lv_at hl 1 rfl) ?_
              refine lv_ldc2 (v := 7628580) hx hb hown (hz _ wk_X11_179) dX11_condition_81 ?_
              refine zc_V (As := [.int (nI (e)), .long (7628580)]) (rest := []) ⟨hx, hb, hml, hown, hts⟩ (m_isNamed l G o qs fs f e wGt (by unfold okL; decide) (by decide) hok) (cwV 2 hts (zgV wm_X11_150 wv_X11_isNamed) rfl rfl rfl (by decide +kernel) ⟨Nat.le_of_ble_eq_true rfl, Nat.le_of_ble_eq_true rfl⟩) hK hO rfl hP rfl hl.1 rfl (Nat.le_of_ble_eq_true rfl) dX11_condition_84 ⟨Nat.zero_le _, Nat.zero_le _⟩ ?_
              refine zb_if_eq (tgt := 93) hx hb dX11_condition_87 (by decide) (fun c_87 => ?_) (fun c_87 => ?_)
              · refine lv_aload_n hx hb dX11_condition_93 rfl (lv_at hl 0 rfl) ?_
                refine lv_iload_n hx hb dX11_condition_94 rfl (lv_at hl 1 rfl) ?_
                refine lv_ldc2 (v := 1702127396) hx hb hown (hz _ wk_X11_181) dX11_condition_95 ?_
                refine zc_V (As := [.int (nI (e)), .long (1702127396)]) (rest := []) ⟨hx, hb, hml, hown, hts⟩ (m_isNamed l G o qs fs f e wGte (by unfold okL; decide) (by decide) hok) (cwV 2 hts (zgV wm_X11_150 wv_X11_isNamed) rfl rfl rfl (by decide +kernel) ⟨Nat.le_of_ble_eq_true rfl, Nat.le_of_ble_eq_true rfl⟩) hK hO rfl hP rfl hl.1 rfl (Nat.le_of_ble_eq_true rfl) dX11_condition_98 ⟨Nat.zero_le _, Nat.zero_le _⟩ ?_
                refine zb_if_eq (tgt := 107) hx hb dX11_condition_101 (by decide) (fun c_101 => ?_) (fun c_101 => ?_)
                · refine lv_aload_n hx hb dX11_condition_107 rfl (lv_at hl 0 rfl) ?_
                  refine lv_iload_n hx hb dX11_condition_108 rfl (lv_at hl 1 rfl) ?_
                  refine lv_ldc2 (v := 32497661361284388) hx hb hown (hz _ wk_X11_183) dX11_condition_109 ?_
                  refine zc_V (As := [.int (nI (e)), .long (32497661361284388)]) (rest := []) ⟨hx, hb, hml, hown, hts⟩ (m_isNamed l G o qs fs f e wExists (by unfold okL; decide) (by decide) hok) (cwV 2 hts (zgV wm_X11_150 wv_X11_isNamed) rfl rfl rfl (by decide +kernel) ⟨Nat.le_of_ble_eq_true rfl, Nat.le_of_ble_eq_true rfl⟩) hK hO rfl hP rfl hl.1 rfl (Nat.le_of_ble_eq_true rfl) dX11_condition_112 ⟨Nat.zero_le _, Nat.zero_le _⟩ ?_
                  refine zb_if_eq (tgt := 121) hx hb dX11_condition_115 (by decide) (fun c_115 => ?_) (fun c_115 => ?_)
                  · refine lv_aload_n hx hb dX11_condition_121 rfl (lv_at hl 0 rfl) ?_
                    refine lv_iload_n hx hb dX11_condition_122 rfl (lv_at hl 1 rfl) ?_
                    refine lv_ldc2 (v := 435845428004) hx hb hown (hz _ wk_X11_185) dX11_condition_123 ?_
                    refine zc_V (As := [.int (nI (e)), .long (435845428004)]) (rest := []) ⟨hx, hb, hml, hown, hts⟩ (m_isNamed l G o qs fs f e wSize (by unfold okL; decide) (by decide) hok) (cwV 2 hts (zgV wm_X11_150 wv_X11_isNamed) rfl rfl rfl (by decide +kernel) ⟨Nat.le_of_ble_eq_true rfl, Nat.le_of_ble_eq_true rfl⟩) hK hO rfl hP rfl hl.1 rfl (Nat.le_of_ble_eq_true rfl) dX11_condition_126 ⟨Nat.zero_le _, Nat.zero_le _⟩ ?_
                    refine zb_if_eq (tgt := 135) hx hb dX11_condition_129 (by decide) (fun c_129 => ?_) (fun c_129 => ?_)
                    · refine lv_aload_n hx hb dX11_condition_135 rfl (lv_at hl 0 rfl) ?_
                      refine lv_iload_n hx hb dX11_condition_136 rfl (lv_at hl 1 rfl) ?_
                      refine lv_ldc2 (v := 469853037860) hx hb hown (hz _ wk_X11_187) dX11_condition_137 ?_
                      refine zc_V (As := [.int (nI (e)), .long (469853037860)]) (rest := []) ⟨hx, hb, hml, hown, hts⟩ (m_isNamed l G o qs fs f e wElem (by unfold okL; decide) (by decide) hok) (cwV 2 hts (zgV wm_X11_150 wv_X11_isNamed) rfl rfl rfl (by decide +kernel) ⟨Nat.le_of_ble_eq_true rfl, Nat.le_of_ble_eq_true rfl⟩) hK hO rfl hP rfl hl.1 rfl (Nat.le_of_ble_eq_true rfl) dX11_condition_140 ⟨Nat.zero_le _, Nat.zero_le _⟩ ?_
                      refine zb_if_eq (tgt := 149) hx hb dX11_condition_143 (by decide) (fun c_143 => ?_) (fun c_143 => ?_)
                      · refine lv_aload_n hx hb dX11_condition_149 rfl (lv_at hl 0 rfl) ?_
                        refine lv_iload_n hx hb dX11_condition_150 rfl (lv_at hl 1 rfl) ?_
                        refine lv_ldc2 (v := 1953459748) hx hb hown (hz _ wk_X11_189) dX11_condition_151 ?_
                        refine zc_V (As := [.int (nI (e)), .long (1953459748)]) (rest := []) ⟨hx, hb, hml, hown, hts⟩ (m_isNamed l G o qs fs f e wNot (by unfold okL; decide) (by decide) hok) (cwV 2 hts (zgV wm_X11_150 wv_X11_isNamed) rfl rfl rfl (by decide +kernel) ⟨Nat.le_of_ble_eq_true rfl, Nat.le_of_ble_eq_true rfl⟩) hK hO rfl hP rfl hl.1 rfl (Nat.le_of_ble_eq_true rfl) dX11_condition_154 ⟨Nat.zero_le _, Nat.zero_le _⟩ ?_
                        refine zb_if_eq (tgt := 165) hx hb dX11_condition_157 (by decide) (fun c_157 => ?_) (fun c_157 => ?_)
                        · refine lv_iconst (v := nI 0) hx hb dX11_condition_165 (by decide) ?_
                          exact zr_i hx hb hr hlocks (by simp [coN, isA, *]) dX11_condition_166
                        · refine lv_bipush (v := nI 12) hx hb dX11_condition_160 (by decide) ?_
                          refine lv_goto (tgt := 166) hx hb dX11_condition_162 (by decide) ?_
                          exact zr_i hx hb hr hlocks (by simp [coN, isA, *]) dX11_condition_166
                      · refine lv_bipush (v := nI 11) hx hb dX11_condition_146 (by decide) ?_
                        exact zr_i hx hb hr hlocks (by simp [coN, isA, *]) dX11_condition_148
                    · refine lv_bipush (v := nI 10) hx hb dX11_condition_132 (by decide) ?_
                      exact zr_i hx hb hr hlocks (by simp [coN, isA, *]) dX11_condition_134
                  · refine lv_bipush (v := nI 9) hx hb dX11_condition_118 (by decide) ?_
                    exact zr_i hx hb hr hlocks (by simp [coN, isA, *]) dX11_condition_120
                · refine lv_bipush (v := nI 8) hx hb dX11_condition_104 (by decide) ?_
                  exact zr_i hx hb hr hlocks (by simp [coN, isA, *]) dX11_condition_106
              · refine lv_bipush (v := nI 7) hx hb dX11_condition_90 (by decide) ?_
                exact zr_i hx hb hr hlocks (by simp [coN, isA, *]) dX11_condition_92
            · refine lv_bipush (v := nI 6) hx hb dX11_condition_76 (by decide) ?_
              exact zr_i hx hb hr hlocks (by simp [coN, isA, *]) dX11_condition_78
          · refine lv_iconst (v := nI 5) hx hb dX11_condition_63 (by decide) ?_
            exact zr_i hx hb hr hlocks (by simp [coN, isA, *]) dX11_condition_64
        · refine lv_iconst (v := nI 4) hx hb dX11_condition_50 (by decide) ?_
          exact zr_i hx hb hr hlocks (by simp [coN, isA, *]) dX11_condition_51
      · refine lv_iconst (v := nI 3) hx hb dX11_condition_37 (by decide) ?_
        exact zr_i hx hb hr hlocks (by simp [coN, isA, *]) dX11_condition_38
    · refine lv_iconst (v := nI 2) hx hb dX11_condition_24 (by decide) ?_
      exact zr_i hx hb hr hlocks (by simp [coN, isA, *]) dX11_condition_25
  · refine lv_iconst (v := nI 1) hx hb dX11_condition_11 (by decide) ?_
    exact zr_i hx hb hr hlocks (by simp [coN, isA, *]) dX11_condition_12

set_option maxHeartbeats 4000000 in
set_option maxRecDepth 100000 in
theorem m_asConditions (l : Launch) (G : zG) (o qs : Nat) (fs : List Value) (f : Nat → Nat) (v : Nat) (ha : v + 5 < 18000) (hok : 0 < fi f v → okN 18000 f (fi f v)) : Met l yX11_asConditions wsX11_asConditions ({ frames := 3, cells := 0, slots := 0, locals := 68 }) (zP G [.ref (o), .int (nI (v))] (fun H => MV G o qs fs f H)) (zR (.int (nI (nB (asC f v))))) 0 0 (fun _ => False) := by
  refine Met.ofW (cc := cX11_asConditions) (maxL := 2) (ret := (some .boolean)) (by decide) rfl ?_
  intro p en s m args below meth c s₁ B hml hv
  obtain ⟨rfl, hP, hK⟩ := hv
  have hx := B.exec
  have hb := B.bytes
  have hr := B.returns
  have hts := atoms_spec (ws := wsX11_asConditions) B.pre
  have hz : ∀ w ∈ zW, w.before _ s = true := fun w h => hts w (List.mem_cons_of_mem _ h)
  have hown : s.vm.findClass RX11 = some m.cls := findClass_of_methodNamed B.named
  have hlocks := B.notSynchronized
  obtain ⟨hO, hA, hS1, h8⟩ := id hP
  have hl := lv_entry ([.ref (o), .int (nI (v))]) (n := 2) (Nat.le_of_ble_eq_true rfl)
  rw [lg_entry_eq]
  generalize (lg_sl ([.ref (o), .int (nI (v))]) ++ List.replicate (2 - (lg_sl ([.ref (o), .int (nI (v))])).length) Slot.unset).toArray = ls at hl ⊢
  have hl : lv_has ls 2 [(0, .ref (o)), (1, .int (nI (v)))] := hl
  refine lv_aload_n hx hb dX11_asConditions_0 rfl (lv_at hl 0 rfl) ?_
  refine lv_iconst (v := nI 3) hx hb dX11_asConditions_1 (by decide) ?_
  refine lv_iload_n hx hb dX11_asConditions_2 rfl (lv_at hl 1 rfl) ?_
  refine zc_V (As := [.int (nI (3)), .int (nI (v))]) (rest := []) ⟨hx, hb, hml, hown, hts⟩ (m_isConditions l G o qs fs f 3 v (by decide) (fun _ => ha)) (cwV 2 hts (zgV wm_X11_227 wv_X11_isConditions) rfl rfl rfl (by decide +kernel) ⟨Nat.le_of_ble_eq_true rfl, Nat.le_of_ble_eq_true rfl⟩) hK hO rfl hP rfl hl.1 rfl (Nat.le_of_ble_eq_true rfl) dX11_asConditions_3 ⟨Nat.zero_le _, Nat.zero_le _⟩ ?_
  refine zb_if_eq (tgt := 25) hx hb dX11_asConditions_6 (by decide) (fun c_6 => ?_) (fun c_6 => ?_)
  · refine lv_iconst (v := nI 0) hx hb dX11_asConditions_25 (by decide) ?_
    exact zr_z hx hb hr hlocks (by simp_all [asC, nB]) dX11_asConditions_26
  · refine lv_aload_n hx hb dX11_asConditions_9 rfl (lv_at hl 0 rfl) ?_
    refine lv_aload_n hx hb dX11_asConditions_10 rfl (lv_at hl 0 rfl) ?_
    refine lv_iload_n hx hb dX11_asConditions_11 rfl (lv_at hl 1 rfl) ?_
    refine zc_V (As := [.int (nI (v))]) (rest := [.ref (o)]) ⟨hx, hb, hml, hown, hts⟩ (m_firstOf l G o qs fs f v (by omega)) (cwV 1 hts (zgV wm_X11_137 wv_X11_firstOf) rfl rfl rfl (by decide +kernel) ⟨Nat.le_of_ble_eq_true rfl, Nat.le_of_ble_eq_true rfl⟩) hK hO rfl hP rfl hl.1 rfl (Nat.le_of_ble_eq_true rfl) dX11_asConditions_12 ⟨Nat.zero_le _, Nat.zero_le _⟩ ?_
    refine zc_V (As := [.int (nI (fi f v))]) (rest := []) ⟨hx, hb, hml, hown, hts⟩ (m_isJoin l G o qs fs f (fi f v) (hok (isC_pos c_6))) (cwV 1 hts (zgV wm_X11_209 wv_X11_isJoin) rfl rfl rfl (by decide +kernel) ⟨Nat.le_of_ble_eq_true rfl, Nat.le_of_ble_eq_true rfl⟩) hK hO rfl hP rfl hl.1 rfl (Nat.le_of_ble_eq_true rfl) dX11_asConditions_15 ⟨Nat.zero_le _, Nat.zero_le _⟩ ?_
    refine zb_if_ne (tgt := 25) hx hb dX11_asConditions_18 (by decide) (fun c_18 => ?_) (fun c_18 => ?_)
    · refine lv_iconst (v := nI 0) hx hb dX11_asConditions_25 (by decide) ?_
      exact zr_z hx hb hr hlocks (by simp_all [asC, nB]) dX11_asConditions_26
    · refine lv_iconst (v := nI 1) hx hb dX11_asConditions_21 (by decide) ?_
      refine lv_goto (tgt := 26) hx hb dX11_asConditions_22 (by decide) ?_
      exact zr_z hx hb hr hlocks (by simp_all [asC, nB]) dX11_asConditions_26

set_option maxHeartbeats 4000000 in
set_option maxRecDepth 100000 in
theorem m_number (l : Launch) (G : zG) (o qs : Nat) (fs : List Value) (f : Nat → Nat) (k a : Nat) (hk : k < 2 ^ 31) (ha : k = 8 → a < 18000) (ha4 : k = 16 → a + 4 ≤ 18000) (ha8 : k ≠ 8 → k ≠ 16 → a + 8 ≤ 18000) : Met l yX11_number wsX11_number ({ frames := 1, cells := 0, slots := 0, locals := 21 }) (zP G [.ref (o), .int (nI (k)), .int (nI (a))] (fun H => MV G o qs fs f H)) (zR (.long (nuM f k a))) 0 0 (fun _ => False) := by
  refine Met.ofW (cc := cX11_number) (maxL := 6) (ret := (some .long)) (by decide) rfl ?_
  intro p en s m args below meth c s₁ B hml hv
  obtain ⟨rfl, hP, hK⟩ := hv
  have hx := B.exec
  have hb := B.bytes
  have hr := B.returns
  have hts := atoms_spec (ws := wsX11_number) B.pre
  have hz : ∀ w ∈ zW, w.before _ s = true := fun w h => hts w (List.mem_cons_of_mem _ h)
  have hown : s.vm.findClass RX11 = some m.cls := findClass_of_methodNamed B.named
  have hlocks := B.notSynchronized
  obtain ⟨hO, hA, hS1, h8⟩ := id hP
  have hl := lv_entry ([.ref (o), .int (nI (k)), .int (nI (a))]) (n := 6) (Nat.le_of_ble_eq_true rfl)
  rw [lg_entry_eq]
  generalize (lg_sl ([.ref (o), .int (nI (k)), .int (nI (a))]) ++ List.replicate (6 - (lg_sl ([.ref (o), .int (nI (k)), .int (nI (a))])).length) Slot.unset).toArray = ls at hl ⊢
  have hl : lv_has ls 6 [(0, .ref (o)), (1, .int (nI (k))), (2, .int (nI (a)))] := hl
  refine lv_iload_n hx hb dX11_number_0 rfl (lv_at hl 1 rfl) ?_
  refine lv_bipush (v := nI 8) hx hb dX11_number_1 (by decide) ?_
  refine zi_icmp_ne (tgt := 14) hx hb dX11_number_3 (by decide) (by omega) (by omega) (fun c_3 => ?_) (fun c_3 => ?_)
  · refine lv_iload_n hx hb dX11_number_14 rfl (lv_at hl 1 rfl) ?_
    refine lv_bipush (v := nI 16) hx hb dX11_number_15 (by decide) ?_
    refine zi_icmp_ne (tgt := 27) hx hb dX11_number_17 (by decide) (by omega) (by omega) (fun c_17 => ?_) (fun c_17 => ?_)
    · refine lv_lconst (v := 0) hx hb dX11_number_27 (by decide) ?_
      refine lv_lstore_n (lv' := [(3, .long (0)), (0, .ref (o)), (1, .int (nI (k))), (2, .int (nI (a)))]) hx hb dX11_number_28 rfl hl (by decide) rfl (fun ls hl => ?_)
      refine lv_bipush (v := nI 7) hx hb dX11_number_29 (by decide) ?_
      refine W.eq (g2 := F0 m 31 ls [.int (nI 8 - 1)]) rfl ?_
      refine lv_istore (lv' := [(5, .int (nI 8 - 1)), (3, .long (0)), (0, .ref (o)), (1, .int (nI (k))), (2, .int (nI (a)))]) hx hb dX11_number_31 hl (by decide) rfl (fun ls hl => ?_)
      have L33 : ∀ (n_ : Nat) (z : Nat), z < n_ → (z ≤ 8) → ∀ ls : Array Slot, lv_has ls 6 [(0, .ref (o)), (2, .int (nI (a))), (3, .long (lN (sb8 f a z (8 - z)))), (5, .int (nI z - 1))] → W p l en (headSpec wsX11_number ({ frames := 1, cells := 0, slots := 0, locals := 21 })).room s m ([.ref (o), .int (nI (k)), .int (nI (a))] : List Value).toArray below meth c s.heap [] 0 0 (MQ below (zR (.long (nuM f k a))) ([.ref (o), .int (nI (k)), .int (nI (a))] : List Value).toArray s 0 0 (fun _ => False)) (F0 m 33 ls []) := by
        intro n_
        induction n_ with
        | zero => intro z hm_; exact absurd hm_ (Nat.not_lt_zero _)
        | succ n_ ih_ =>
          intro z hm_ hz8 ls hl
          refine lv_iload hx hb dX11_number_33 (lv_at hl 3 rfl) ?_
          refine lv_if_lt (tgt := 60) hx hb dX11_number_35 (by decide) (fun c_35 => ?_) (fun c_35 => ?_)
          · have hz0 : z = 0 := by
              rcases Nat.eq_zero_or_pos z with q | q
              · exact q
              · obtain ⟨j, rfl⟩ : ∃ j, z = j + 1 := ⟨z - 1, by omega⟩
                rw [nI_pred] at c_35
                exact absurd c_35 (nI_pos (by omega))
            subst hz0
            refine lv_lload_n hx hb dX11_number_60 rfl (lv_at hl 2 rfl) ?_
            exact zr_l hx hb hr hlocks (by simp [nuM, c_3, c_17, sb8_all]) dX11_number_61
          · obtain ⟨j, rfl⟩ : ∃ z9, z = z9 + 1 := ⟨z - 1, by
              have : z ≠ 0 := fun q => c_35 (by subst q; decide)
              omega⟩
            rw [nI_pred] at hl
            refine lv_lload_n hx hb dX11_number_38 rfl (lv_at hl 2 rfl) ?_
            refine lv_bipush (v := nI 8) hx hb dX11_number_39 (by decide) ?_
            refine lv_lshl (v := (lN (sb8 f a (j + 1) (8 - (j + 1)))) <<< ((nI 8).toInt64 &&& 63)) hx hb dX11_number_41 (rfl) ?_
            refine lv_aload_n hx hb dX11_number_42 rfl (lv_at hl 0 rfl) ?_
            refine zi_get (C := RX11) (T := TX11) (N := 23) (v := .ref (qs)) hx hb hz wo_X11 hown hK hO rfl 1 (by decide) (hz _ wf_X11_7) (fun _ h9 => h9) hS1 dX11_number_43 ?_
            refine lv_iload_n hx hb dX11_number_46 rfl (lv_at hl 1 rfl) ?_
            refine lv_iload hx hb dX11_number_47 (lv_at hl 3 rfl) ?_
            refine zi_add hx hb dX11_number_49 ?_
            refine zi_ald hx hb hK hA (by have := ha8 c_3 c_17; omega) (by decide) dX11_number_50 ?_
            refine lv_i2l (v := lN (f (a + j))) hx hb dX11_number_51 (nI_l (Nat.lt_trans (h8 _) (by decide))) ?_
            refine lv_lor hx hb dX11_number_52 ?_
            rw [z_shl8or (sb8_lt f h8 a _) (h8 _), sb8_step f a j (by omega)]
            refine lv_lstore_n (lv' := [(3, .long (lN (sb8 f a j (8 - j)))), (0, .ref (o)), (2, .int (nI (a))), (5, .int (nI (j)))]) hx hb dX11_number_53 rfl hl (by decide) rfl (fun ls hl => ?_)
            refine lv_iinc (v := nI j - 1) (lv' := [(5, .int (nI j - 1)), (3, .long (lN (sb8 f a j (8 - j)))), (0, .ref (o)), (2, .int (nI (a)))]) hx hb dX11_number_54 hl (k := 3) rfl (z_m1 _) (by decide) rfl (fun ls hl => ?_)
            refine lv_goto (tgt := 33) hx hb dX11_number_57 (by decide) ?_
            exact ih_ j (by omega) (by omega) ls (lv_sub hl [2, 3, 1, 0] rfl)
      exact L33 ((8) + 1) 8 (Nat.lt_succ_self _) (Nat.le_refl _) ls (lv_sub hl [2, 4, 1, 0] rfl)
    · refine lv_aload_n hx hb dX11_number_20 rfl (lv_at hl 0 rfl) ?_
      refine lv_iload_n hx hb dX11_number_21 rfl (lv_at hl 2 rfl) ?_
      refine zc_V (As := [.int (nI (a))]) (rest := []) ⟨hx, hb, hml, hown, hts⟩ (m_whole l G o qs fs f a (ha4 c_17)) (cwV 1 hts (zgV wm_X11_128 wv_X11_whole) rfl rfl rfl (by decide +kernel) ⟨Nat.le_of_ble_eq_true rfl, Nat.le_of_ble_eq_true rfl⟩) hK hO rfl hP rfl hl.1 rfl (Nat.le_of_ble_eq_true rfl) dX11_number_22 ⟨Nat.zero_le _, Nat.zero_le _⟩ ?_
      refine lv_i2l (v := (nI (wh f a)).toInt64) hx hb dX11_number_25 (rfl) ?_
      exact zr_l hx hb hr hlocks (by simp [nuM, c_17]) dX11_number_26
  · refine lv_aload_n hx hb dX11_number_6 rfl (lv_at hl 0 rfl) ?_
    refine zi_get (C := RX11) (T := TX11) (N := 23) (v := .ref (qs)) hx hb hz wo_X11 hown hK hO rfl 1 (by decide) (hz _ wf_X11_7) (fun _ h9 => h9) hS1 dX11_number_7 ?_
    refine lv_iload_n hx hb dX11_number_10 rfl (lv_at hl 2 rfl) ?_
    refine zi_ald hx hb hK hA (ha c_3) (by decide) dX11_number_11 ?_
    refine lv_i2l (v := lN (f a)) hx hb dX11_number_12 (nI_l (Nat.lt_trans (h8 _) (by decide))) ?_
    exact zr_l hx hb hr hlocks (by simp [nuM, c_3]) dX11_number_13
