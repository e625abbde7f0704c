set_option maxHeartbeats 4000000 in
set_option maxRecDepth 100000 in
theorem m_holds (l : Launch) (G : zG) (o qs : Nat) (fs : List Value) (f : Nat → Nat) (i j : Nat) (u : Bool) (hi : i < 4) (hj : j < 4) (hv : (okFl f 17).2 (8000 + 2000 * i)) (hk : okV f 16 3 (2000 * j)) : Met l yX11_holds wsX11_holds (rPub) (zP G [.ref (o), .int (nI (i)), .int (nI (j))] (fun H => MM G o qs fs f u H)) (zQ (fun x => x = o) (some (.int (nI (nB ((evF f 17).2 (8000 + 2000 * i) (2000 * j)))))) (fun H => MM G o qs fs f (u) H)) 0 0 (fun x => x = o) := by
  refine Met.ofW (cc := cX11_holds) (maxL := 3) (ret := (some .int)) (by decide) rfl ?_
  intro p en s m args below meth c s₁ B hml hv
  obtain ⟨rfl, hP, hK⟩ := hv
  have hx := B.exec
  have hb := B.bytes
  have hr := B.returns
  have hts := atoms_spec (ws := wsX11_holds) B.pre
  have hz : ∀ w ∈ zW, w.before _ s = true := fun w h => hts w (List.mem_cons_of_mem _ h)
  have hown : s.vm.findClass RX11 = some m.cls := findClass_of_methodNamed B.named
  have hlocks := B.notSynchronized
  obtain ⟨hO, hA, hS1, h8, hln, hne9⟩ := id hP
  have hS : va_S (fun x => x = o) s.heap s.heap [] := va_S.rf
  have hl := lv_entry ([.ref (o), .int (nI (i)), .int (nI (j))]) (n := 3) (Nat.le_of_ble_eq_true rfl)
  rw [lg_entry_eq]
  generalize (lg_sl ([.ref (o), .int (nI (i)), .int (nI (j))]) ++ List.replicate (3 - (lg_sl ([.ref (o), .int (nI (i)), .int (nI (j))])).length) Slot.unset).toArray = ls at hl ⊢
  have hl : lv_has ls 3 [(0, .ref (o)), (1, .int (nI (i))), (2, .int (nI (j)))] := hl
  refine lv_iload_n hx hb dX11_holds_0 rfl (lv_at hl 1 rfl) ?_
  refine zc_S (As := [.int (nI (i))]) (rest := []) ⟨hx, hb, hml, hown, hts⟩ (m_isFour l G (nI i)) (cwS 1 hts (zgS wm_X11_308 wu_X11_isFour) rfl rfl rfl (by decide +kernel) ⟨show 0 + 1 ≤ 600 by omega, show 8 + (1 + 11) + (0) ≤ 17000 by omega⟩) hK trivial rfl hl.1 rfl (Nat.le_of_ble_eq_true rfl) dX11_holds_1 ⟨Nat.zero_le _, Nat.zero_le _⟩ ?_
  refine zb_if_eq (tgt := 14) hx hb dX11_holds_4 (by decide) (fun c_4 => ?_) (fun c_4 => ?_)
  · exact absurd (c_4.symm.trans (is4 hi)) (by decide)
  · refine lv_iload_n hx hb dX11_holds_7 rfl (lv_at hl 2 rfl) ?_
    refine zc_S (As := [.int (nI (j))]) (rest := []) ⟨hx, hb, hml, hown, hts⟩ (m_isFour l G (nI j)) (cwS 1 hts (zgS wm_X11_308 wu_X11_isFour) rfl rfl rfl (by decide +kernel) ⟨show 0 + 1 ≤ 600 by omega, show 8 + (1 + 11) + (0) ≤ 17000 by omega⟩) hK trivial rfl hl.1 rfl (Nat.le_of_ble_eq_true rfl) dX11_holds_8 ⟨Nat.zero_le _, Nat.zero_le _⟩ ?_
    refine zb_if_ne (tgt := 18) hx hb dX11_holds_11 (by decide) (fun c_11 => ?_) (fun c_11 => ?_)
    · refine lv_aload_n hx hb dX11_holds_18 rfl (lv_at hl 0 rfl) ?_
      refine lv_sipush (v := nI 8000) hx hb dX11_holds_19 (by decide) ?_
      refine lv_sipush (v := nI 2000) hx hb dX11_holds_22 (by decide) ?_
      refine lv_iload_n hx hb dX11_holds_25 rfl (lv_at hl 1 rfl) ?_
      refine zi_mul hx hb dX11_holds_26 ?_
      refine zi_add hx hb dX11_holds_27 ?_
      refine lv_sipush (v := nI 2000) hx hb dX11_holds_28 (by decide) ?_
      refine lv_iload_n hx hb dX11_holds_31 rfl (lv_at hl 2 rfl) ?_
      refine zi_mul hx hb dX11_holds_32 ?_
      refine zc_VE (As := [.int (nI (8000 + (2000 * i))), .int (nI (2000 * j))]) (rest := []) ⟨hx, hb, hml, hown, hts⟩ ((m_match_all l G o qs fs f 17).2 (8000 + 2000 * i) (2000 * j) (u) hv hk) (cwV 2 hts (zgV wm_X11_268 wv_X11_filterHolds) rfl rfl rfl (by decide +kernel) ⟨show 30 * 17 + 48 + 1 ≤ 600 by omega, show 8 + (4 + 11) + (900 * 17 + 1200) ≤ 17000 by omega⟩) hK hO rfl hP rfl hl.1 rfl (Nat.le_of_ble_eq_true rfl) dX11_holds_33 ⟨Nat.zero_le _, Nat.zero_le _⟩ hS (fun _ h9 => h9) (fun H locs hP hz9 hk9 hS => ?_)
      obtain ⟨hO, hA, hS1, h8, hln, hne9⟩ := id hP
      refine W.eq (g2 := F0 m 36 ls ([.int (nI (nB ((evF f 17).2 (8000 + 2000 * i) (2000 * j))))])) rfl ?_
      refine zb_if_eq (tgt := 43) hx hb dX11_holds_36 (by decide) (fun c_36 => ?_) (fun c_36 => ?_)
      · refine lv_iconst (v := nI 0) hx hb dX11_holds_43 (by decide) ?_
        exact zr_ie hx hb hr hlocks (by rw [c_36]; rfl) (hP) hS dX11_holds_44
      · refine lv_iconst (v := nI 1) hx hb dX11_holds_39 (by decide) ?_
        refine lv_goto (tgt := 44) hx hb dX11_holds_40 (by decide) ?_
        exact zr_ie hx hb hr hlocks (by rw [c_36]; rfl) (hP) hS dX11_holds_44
    · exact absurd (c_11.symm.trans (is4 hj)) (by decide)

set_option maxHeartbeats 4000000 in
set_option maxRecDepth 100000 in
theorem m_holds_no (l : Launch) (G : zG) (o qs : Nat) (fs : List Value) (f : Nat → Nat) (x y : Int32) (u : Bool) (hxy : ¬ (is4i x = true ∧ is4i y = true)) : Met l yX11_holds wsX11_holds (rPub) (zP G [.ref (o), .int (x), .int (y)] (fun H => MM G o qs fs f u H)) (zQ (fun x => x = o) (some (.int (-1))) (fun H => MM G o qs fs f (u) H)) 0 0 (fun x => x = o) := by
  refine Met.ofW (cc := cX11_holds) (maxL := 3) (ret := (some .int)) (by decide) rfl ?_
  intro p en s m args below meth c s₁ B hml hv
  obtain ⟨rfl, hP, hK⟩ := hv
  have hx := B.exec
  have hb := B.bytes
  have hr := B.returns
  have hts := atoms_spec (ws := wsX11_holds) B.pre
  have hz : ∀ w ∈ zW, w.before _ s = true := fun w h => hts w (List.mem_cons_of_mem _ h)
  have hown : s.vm.findClass RX11 = some m.cls := findClass_of_methodNamed B.named
  have hlocks := B.notSynchronized
  obtain ⟨hO, hA, hS1, h8, hln, hne9⟩ := id hP
  have hS : va_S (fun x => x = o) s.heap s.heap [] := va_S.rf
  have hl := lv_entry ([.ref (o), .int (x), .int (y)]) (n := 3) (Nat.le_of_ble_eq_true rfl)
  rw [lg_entry_eq]
  generalize (lg_sl ([.ref (o), .int (x), .int (y)]) ++ List.replicate (3 - (lg_sl ([.ref (o), .int (x), .int (y)])).length) Slot.unset).toArray = ls at hl ⊢
  have hl : lv_has ls 3 [(0, .ref (o)), (1, .int (x)), (2, .int (y))] := hl
  refine lv_iload_n hx hb dX11_holds_0 rfl (lv_at hl 1 rfl) ?_
  refine zc_S (As := [.int (x)]) (rest := []) ⟨hx, hb, hml, hown, hts⟩ (m_isFour l G x) (cwS 1 hts (zgS wm_X11_308 wu_X11_isFour) rfl rfl rfl (by decide +kernel) ⟨show 0 + 1 ≤ 600 by omega, show 8 + (1 + 11) + (0) ≤ 17000 by omega⟩) hK trivial rfl hl.1 rfl (Nat.le_of_ble_eq_true rfl) dX11_holds_1 ⟨Nat.zero_le _, Nat.zero_le _⟩ ?_
  refine zb_if_eq (tgt := 14) hx hb dX11_holds_4 (by decide) (fun c_4 => ?_) (fun c_4 => ?_)
  · refine lv_iconst (v := (-1)) hx hb dX11_holds_14 (by decide) ?_
    refine lv_goto (tgt := 44) hx hb dX11_holds_15 (by decide) ?_
    exact zr_ie hx hb hr hlocks (rfl) (hP) hS dX11_holds_44
  · refine lv_iload_n hx hb dX11_holds_7 rfl (lv_at hl 2 rfl) ?_
    refine zc_S (As := [.int (y)]) (rest := []) ⟨hx, hb, hml, hown, hts⟩ (m_isFour l G y) (cwS 1 hts (zgS wm_X11_308 wu_X11_isFour) rfl rfl rfl (by decide +kernel) ⟨show 0 + 1 ≤ 600 by omega, show 8 + (1 + 11) + (0) ≤ 17000 by omega⟩) hK trivial rfl hl.1 rfl (Nat.le_of_ble_eq_true rfl) dX11_holds_8 ⟨Nat.zero_le _, Nat.zero_le _⟩ ?_
    refine zb_if_ne (tgt := 18) hx hb dX11_holds_11 (by decide) (fun c_11 => ?_) (fun c_11 => ?_)
    · exact absurd ⟨c_4, c_11⟩ hxy
    · refine lv_iconst (v := (-1)) hx hb dX11_holds_14 (by decide) ?_
      refine lv_goto (tgt := 44) hx hb dX11_holds_15 (by decide) ?_
      exact zr_ie hx hb hr hlocks (rfl) (hP) hS dX11_holds_44

set_option maxHeartbeats 4000000 in
set_option maxRecDepth 100000 in
theorem m_fails (l : Launch) (G : zG) (o qs : Nat) (fs : List Value) (f : Nat → Nat) (i j : Nat) (u : Bool) (hi : i < 4) (hj : j < 4) (hv : (okFl f 17).2 (8000 + 2000 * i)) (hk : okV f 16 3 (2000 * j)) : Met l yX11_fails wsX11_fails (rPub) (zP G [.ref (o), .int (nI (i)), .int (nI (j))] (fun H => MM G o qs fs f u H)) (zQ (fun x => x = o) (some (.int (fI (fun e => EH f (evF f 16).1 (evF f 16).2 e (2000 * j)) (els f (8000 + 2000 * i)) 0))) (fun H => MM G o qs fs f (u) H)) 0 0 (fun x => x = o) := by
  refine Met.ofW (cc := cX11_fails) (maxL := 5) (ret := (some .int)) (by decide) rfl ?_
  intro p en s m args below meth c s₁ B hml hv
  obtain ⟨rfl, hP, hK⟩ := hv
  have hx := B.exec
  have hb := B.bytes
  have hr := B.returns
  have hts := atoms_spec (ws := wsX11_fails) B.pre
  have hz : ∀ w ∈ zW, w.before _ s = true := fun w h => hts w (List.mem_cons_of_mem _ h)
  have hown : s.vm.findClass RX11 = some m.cls := findClass_of_methodNamed B.named
  have hlocks := B.notSynchronized
  obtain ⟨hO, hA, hS1, h8, hln, hne9⟩ := id hP
  have hS : va_S (fun x => x = o) s.heap s.heap [] := va_S.rf
  have hf1 := hv.1.2.lt (by decide)
  have hl := lv_entry ([.ref (o), .int (nI (i)), .int (nI (j))]) (n := 5) (Nat.le_of_ble_eq_true rfl)
  rw [lg_entry_eq]
  generalize (lg_sl ([.ref (o), .int (nI (i)), .int (nI (j))]) ++ List.replicate (5 - (lg_sl ([.ref (o), .int (nI (i)), .int (nI (j))])).length) Slot.unset).toArray = ls at hl ⊢
  have hl : lv_has ls 5 [(0, .ref (o)), (1, .int (nI (i))), (2, .int (nI (j)))] := hl
  refine lv_iload_n hx hb dX11_fails_0 rfl (lv_at hl 1 rfl) ?_
  refine zc_S (As := [.int (nI (i))]) (rest := []) ⟨hx, hb, hml, hown, hts⟩ (m_isFour l G (nI i)) (cwS 1 hts (zgS wm_X11_308 wu_X11_isFour) rfl rfl rfl (by decide +kernel) ⟨show 0 + 1 ≤ 600 by omega, show 8 + (1 + 11) + (0) ≤ 17000 by omega⟩) hK trivial rfl hl.1 rfl (Nat.le_of_ble_eq_true rfl) dX11_fails_1 ⟨Nat.zero_le _, Nat.zero_le _⟩ ?_
  refine zb_if_eq (tgt := 14) hx hb dX11_fails_4 (by decide) (fun c_4 => ?_) (fun c_4 => ?_)
  · exact absurd (c_4.symm.trans (is4 hi)) (by decide)
  · refine lv_iload_n hx hb dX11_fails_7 rfl (lv_at hl 2 rfl) ?_
    refine zc_S (As := [.int (nI (j))]) (rest := []) ⟨hx, hb, hml, hown, hts⟩ (m_isFour l G (nI j)) (cwS 1 hts (zgS wm_X11_308 wu_X11_isFour) rfl rfl rfl (by decide +kernel) ⟨show 0 + 1 ≤ 600 by omega, show 8 + (1 + 11) + (0) ≤ 17000 by omega⟩) hK trivial rfl hl.1 rfl (Nat.le_of_ble_eq_true rfl) dX11_fails_8 ⟨Nat.zero_le _, Nat.zero_le _⟩ ?_
    refine zb_if_ne (tgt := 17) hx hb dX11_fails_11 (by decide) (fun c_11 => ?_) (fun c_11 => ?_)
    · refine lv_iconst (v := nI 0) hx hb dX11_fails_17 (by decide) ?_
      refine lv_istore_n (lv' := [(3, .int (nI (0))), (0, .ref (o)), (1, .int (nI (i))), (2, .int (nI (j)))]) hx hb dX11_fails_18 rfl hl (by decide) rfl (fun ls hl => ?_)
      refine lv_aload_n hx hb dX11_fails_19 rfl (lv_at hl 1 rfl) ?_
      refine lv_sipush (v := nI 8000) hx hb dX11_fails_20 (by decide) ?_
      refine lv_sipush (v := nI 2000) hx hb dX11_fails_23 (by decide) ?_
      refine lv_iload_n hx hb dX11_fails_26 rfl (lv_at hl 2 rfl) ?_
      refine zi_mul hx hb dX11_fails_27 ?_
      refine zi_add hx hb dX11_fails_28 ?_
      refine zc_V (As := [.int (nI (8000 + (2000 * i)))]) (rest := []) ⟨hx, hb, hml, hown, hts⟩ (m_firstOf l G o qs (zM fs (u)) f (8000 + 2000 * i) hv.1.1) (cwV 1 hts (zgV wm_X11_137 wv_X11_firstOf) rfl rfl rfl (by decide +kernel) ⟨show 0 + 1 ≤ 600 by omega, show 8 + (2 + 11) + (0) ≤ 17000 by omega⟩) hK hO rfl hP.mv rfl hl.1 rfl (Nat.le_of_ble_eq_true rfl) dX11_fails_29 ⟨Nat.zero_le _, Nat.zero_le _⟩ ?_
      refine lv_istore (lv' := [(4, .int (nI (fi f (8000 + 2000 * i)))), (3, .int (nI (0))), (0, .ref (o)), (1, .int (nI (i))), (2, .int (nI (j)))]) hx hb dX11_fails_32 hl (by decide) rfl (fun ls hl => ?_)
      have L34 : ∀ (n_ : Nat) (x : Nat) (X : List Nat) (k : Nat), X.length < n_ → (Ch 18000 f x X) → (x < 18000) → (∀ z ∈ X, z ∈ els f (8000 + 2000 * i)) → (fI (fun e => EH f (evF f 16).1 (evF f 16).2 e (2000 * j)) (els f (8000 + 2000 * i)) 0 = fI (fun e => EH f (evF f 16).1 (evF f 16).2 e (2000 * j)) X k) → ∀ (H : Heap) (locs : List Loc), MM G o qs fs f (u) H → va_S (fun x => x = o) s.heap H locs → ∀ ls : Array Slot, lv_has ls 5 [(0, .ref (o)), (2, .int (nI (j))), (3, .int (nI (k))), (4, .int (nI (x)))] → W p l en (headSpec wsX11_fails (rPub)).room s m ([.ref (o), .int (nI (i)), .int (nI (j))] : List Value).toArray below meth c H locs 0 0 (MQ below (zQ (fun x => x = o) (some (.int (fI (fun e => EH f (evF f 16).1 (evF f 16).2 e (2000 * j)) (els f (8000 + 2000 * i)) 0))) (fun H => MM G o qs fs f (u) H)) ([.ref (o), .int (nI (i)), .int (nI (j))] : List Value).toArray s 0 0 (fun x => x = o)) (F0 m 34 ls []) := by
        intro n_
        induction n_ with
        | zero => intro x X k hm_; exact absurd hm_ (Nat.not_lt_zero _)
        | succ n_ ih_ =>
          intro x X k hm_ hc hxl hXi hs H locs hP hS ls hl
          obtain ⟨hO, hA, hS1, h8, hln, hne9⟩ := id hP
          refine lv_iload hx hb dX11_fails_34 (lv_at hl 3 rfl) ?_
          refine zi_if_le (tgt := 69) hx hb dX11_fails_36 (by decide) (by omega) (fun c_36 => ?_) (fun c_36 => ?_)
          · have hX0 := hc.nil c_36
            subst hX0
            refine lv_iconst (v := (-1)) hx hb dX11_fails_69 (by decide) ?_
            exact zr_ie hx hb hr hlocks (by rw [hs]; rfl) (hP) hS dX11_fails_70
          · obtain ⟨X', rfl, hok, hc'⟩ := hc.cons c_36
            have hx9 := hXi x List.mem_cons_self
            have hx0 := (ch_ok hv.1.2 hx9).2
            refine lv_aload_n hx hb dX11_fails_39 rfl (lv_at hl 0 rfl) ?_
            refine lv_iload hx hb dX11_fails_40 (lv_at hl 3 rfl) ?_
            refine lv_sipush (v := nI 2000) hx hb dX11_fails_42 (by decide) ?_
            refine lv_iload_n hx hb dX11_fails_45 rfl (lv_at hl 1 rfl) ?_
            refine zi_mul hx hb dX11_fails_46 ?_
            refine zc_VE (As := [.int (nI (x)), .int (nI (2000 * j))]) (rest := []) ⟨hx, hb, hml, hown, hts⟩ (m_elementHolds l G o qs fs f 16 x (m_match_all l G o qs fs f 16).1 (m_match_all l G o qs fs f 16).2 hx0 hok (hv.2 x hx9).1 (hv.2 x hx9).2 (2000 * j) (u) hk) (cwV 2 hts (zgV wm_X11_305 wv_X11_elementHolds) rfl rfl rfl (by decide +kernel) ⟨show 30 * 16 + 70 + 1 ≤ 600 by omega, show 8 + (5 + 11) + (900 * 16 + 1803) ≤ 17000 by omega⟩) hK hO rfl hP rfl hl.1 rfl (Nat.le_of_ble_eq_true rfl) dX11_fails_47 ⟨Nat.zero_le _, Nat.zero_le _⟩ hS (fun _ h9 => h9) (fun H locs hP hz9 hk9 hS => ?_)
            obtain ⟨hO, hA, hS1, h8, hln, hne9⟩ := id hP
            refine W.eq (g2 := F0 m 50 ls ([.int (nI (nB (EH f (evF f 16).1 (evF f 16).2 x (2000 * j))))])) rfl ?_
            refine zb_if_ne (tgt := 55) hx hb dX11_fails_50 (by decide) (fun c_50 => ?_) (fun c_50 => ?_)
            · refine lv_iinc (v := nI (k + 1)) (lv' := [(3, .int (nI (k + 1))), (0, .ref (o)), (2, .int (nI (j))), (4, .int (nI (x)))]) hx hb dX11_fails_55 hl (k := 2) rfl (nI_add _ _) (by decide) rfl (fun ls hl => ?_)
              refine lv_aload_n hx hb dX11_fails_58 rfl (lv_at hl 1 rfl) ?_
              refine lv_iload hx hb dX11_fails_59 (lv_at hl 3 rfl) ?_
              refine zc_V (As := [.int (nI (x))]) (rest := []) ⟨hx, hb, hml, hown, hts⟩ (m_nextOf l G o qs (zM fs ((u))) f x hok) (cwV 1 hts (zgV wm_X11_140 wv_X11_nextOf) rfl rfl rfl (by decide +kernel) ⟨show 2 + 1 ≤ 600 by omega, show 8 + (4 + 11) + (43) ≤ 17000 by omega⟩) hK hO rfl hP.mv rfl hl.1 rfl (Nat.le_of_ble_eq_true rfl) dX11_fails_61 ⟨Nat.zero_le _, Nat.zero_le _⟩ ?_
              refine lv_istore (lv' := [(4, .int (nI (nx f x))), (3, .int (nI (k + 1))), (0, .ref (o)), (2, .int (nI (j)))]) hx hb dX11_fails_64 hl (by decide) rfl (fun ls hl => ?_)
              refine lv_goto (tgt := 34) hx hb dX11_fails_66 (by decide) ?_
              exact ih_ (nx f x) (X') (k + 1) (by simp at hm_; omega) hc' (Ch.lt (by decide) hc') (fun z hz => hXi z (List.mem_cons_of_mem _ hz)) (hs.trans (fI_t (P := (fun e => EH f (evF f 16).1 (evF f 16).2 e (2000 * j))) c_50)) _ _ hP hS ls (lv_sub hl [2, 3, 1, 0] rfl)
            · refine lv_iload_n hx hb dX11_fails_53 rfl (lv_at hl 2 rfl) ?_
              exact zr_ie hx hb hr hlocks (by rw [hs, fI_f (P := (fun e => EH f (evF f 16).1 (evF f 16).2 e (2000 * j))) c_50]) (hP) hS dX11_fails_54
      exact L34 (((els f (8000 + 2000 * i)).length) + 1) (fi f (8000 + 2000 * i)) (els f (8000 + 2000 * i)) 0 (Nat.lt_succ_self _) hv.1.2 hf1 (fun _ z => z) rfl _ _ hP hS ls (lv_sub hl [2, 4, 1, 0] rfl)
    · exact absurd (c_11.symm.trans (is4 hj)) (by decide)

set_option maxHeartbeats 4000000 in
set_option maxRecDepth 100000 in
theorem m_fails_no (l : Launch) (G : zG) (o qs : Nat) (fs : List Value) (f : Nat → Nat) (x y : Int32) (u : Bool) (hxy : ¬ (is4i x = true ∧ is4i y = true)) : Met l yX11_fails wsX11_fails (rPub) (zP G [.ref (o), .int (x), .int (y)] (fun H => MM G o qs fs f u H)) (zQ (fun x => x = o) (some (.int (-2))) (fun H => MM G o qs fs f (u) H)) 0 0 (fun x => x = o) := by
  refine Met.ofW (cc := cX11_fails) (maxL := 5) (ret := (some .int)) (by decide) rfl ?_
  intro p en s m args below meth c s₁ B hml hv
  obtain ⟨rfl, hP, hK⟩ := hv
  have hx := B.exec
  have hb := B.bytes
  have hr := B.returns
  have hts := atoms_spec (ws := wsX11_fails) B.pre
  have hz : ∀ w ∈ zW, w.before _ s = true := fun w h => hts w (List.mem_cons_of_mem _ h)
  have hown : s.vm.findClass RX11 = some m.cls := findClass_of_methodNamed B.named
  have hlocks := B.notSynchronized
  obtain ⟨hO, hA, hS1, h8, hln, hne9⟩ := id hP
  have hS : va_S (fun x => x = o) s.heap s.heap [] := va_S.rf
  have hl := lv_entry ([.ref (o), .int (x), .int (y)]) (n := 5) (Nat.le_of_ble_eq_true rfl)
  rw [lg_entry_eq]
  generalize (lg_sl ([.ref (o), .int (x), .int (y)]) ++ List.replicate (5 - (lg_sl ([.ref (o), .int (x), .int (y)])).length) Slot.unset).toArray = ls at hl ⊢
  have hl : lv_has ls 5 [(0, .ref (o)), (1, .int (x)), (2, .int (y))] := hl
  refine lv_iload_n hx hb dX11_fails_0 rfl (lv_at hl 1 rfl) ?_
  refine zc_S (As := [.int (x)]) (rest := []) ⟨hx, hb, hml, hown, hts⟩ (m_isFour l G x) (cwS 1 hts (zgS wm_X11_308 wu_X11_isFour) rfl rfl rfl (by decide +kernel) ⟨show 0 + 1 ≤ 600 by omega, show 8 + (1 + 11) + (0) ≤ 17000 by omega⟩) hK trivial rfl hl.1 rfl (Nat.le_of_ble_eq_true rfl) dX11_fails_1 ⟨Nat.zero_le _, Nat.zero_le _⟩ ?_
  refine zb_if_eq (tgt := 14) hx hb dX11_fails_4 (by decide) (fun c_4 => ?_) (fun c_4 => ?_)
  · refine lv_bipush (v := (-2)) hx hb dX11_fails_14 (by decide) ?_
    exact zr_ie hx hb hr hlocks (rfl) (hP) hS dX11_fails_16
  · refine lv_iload_n hx hb dX11_fails_7 rfl (lv_at hl 2 rfl) ?_
    refine zc_S (As := [.int (y)]) (rest := []) ⟨hx, hb, hml, hown, hts⟩ (m_isFour l G y) (cwS 1 hts (zgS wm_X11_308 wu_X11_isFour) rfl rfl rfl (by decide +kernel) ⟨show 0 + 1 ≤ 600 by omega, show 8 + (1 + 11) + (0) ≤ 17000 by omega⟩) hK trivial rfl hl.1 rfl (Nat.le_of_ble_eq_true rfl) dX11_fails_8 ⟨Nat.zero_le _, Nat.zero_le _⟩ ?_
    refine zb_if_ne (tgt := 17) hx hb dX11_fails_11 (by decide) (fun c_11 => ?_) (fun c_11 => ?_)
    · exact absurd ⟨c_4, c_11⟩ hxy
    · refine lv_bipush (v := (-2)) hx hb dX11_fails_14 (by decide) ?_
      exact zr_ie hx hb hr hlocks (rfl) (hP) hS dX11_fails_16

set_option maxHeartbeats 4000000 in
set_option maxRecDepth 100000 in
theorem m_which (l : Launch) (G : zG) (o qs : Nat) (fs : List Value) (f : Nat → Nat) (i : Nat) (u : Bool) (hi : i < 4) (hv : (okFl f 17).2 (8000 + 2000 * i)) (hk : ∀ j, j < 4 → okV f 16 3 (2000 * j)) : Met l yX11_which wsX11_which (rPub) (zP G [.ref (o), .int (nI (i))] (fun H => MM G o qs fs f u H)) (zQ (fun x => x = o) (some (.int (nI (wB (fun j => (evF f 17).2 (8000 + 2000 * i) (2000 * j)))))) (fun H => MM G o qs fs f (u) H)) 0 0 (fun x => x = o) := by
  refine Met.ofW (cc := cX11_which) (maxL := 4) (ret := (some .int)) (by decide) rfl ?_
  intro p en s m args below meth c s₁ B hml hv
  obtain ⟨rfl, hP, hK⟩ := hv
  have hx := B.exec
  have hb := B.bytes
  have hr := B.returns
  have hts := atoms_spec (ws := wsX11_which) B.pre
  have hz : ∀ w ∈ zW, w.before _ s = true := fun w h => hts w (List.mem_cons_of_mem _ h)
  have hown : s.vm.findClass RX11 = some m.cls := findClass_of_methodNamed B.named
  have hlocks := B.notSynchronized
  obtain ⟨hO, hA, hS1, h8, hln, hne9⟩ := id hP
  have hS : va_S (fun x => x = o) s.heap s.heap [] := va_S.rf
  have hl := lv_entry ([.ref (o), .int (nI (i))]) (n := 4) (Nat.le_of_ble_eq_true rfl)
  rw [lg_entry_eq]
  generalize (lg_sl ([.ref (o), .int (nI (i))]) ++ List.replicate (4 - (lg_sl ([.ref (o), .int (nI (i))])).length) Slot.unset).toArray = ls at hl ⊢
  have hl : lv_has ls 4 [(0, .ref (o)), (1, .int (nI (i)))] := hl
  refine lv_iload_n hx hb dX11_which_0 rfl (lv_at hl 1 rfl) ?_
  refine zc_S (As := [.int (nI (i))]) (rest := []) ⟨hx, hb, hml, hown, hts⟩ (m_isFour l G (nI i)) (cwS 1 hts (zgS wm_X11_308 wu_X11_isFour) rfl rfl rfl (by decide +kernel) ⟨show 0 + 1 ≤ 600 by omega, show 8 + (1 + 11) + (0) ≤ 17000 by omega⟩) hK trivial rfl hl.1 rfl (Nat.le_of_ble_eq_true rfl) dX11_which_1 ⟨Nat.zero_le _, Nat.zero_le _⟩ ?_
  refine zb_if_ne (tgt := 9) hx hb dX11_which_4 (by decide) (fun c_4 => ?_) (fun c_4 => ?_)
  · refine lv_iconst (v := nI 0) hx hb dX11_which_9 (by decide) ?_
    refine lv_istore_n (lv' := [(2, .int (nI (0))), (0, .ref (o)), (1, .int (nI (i)))]) hx hb dX11_which_10 rfl hl (by decide) rfl (fun ls hl => ?_)
    refine lv_iconst (v := nI 0) hx hb dX11_which_11 (by decide) ?_
    refine lv_istore_n (lv' := [(3, .int (nI (0))), (2, .int (nI (0))), (0, .ref (o)), (1, .int (nI (i)))]) hx hb dX11_which_12 rfl hl (by decide) rfl (fun ls hl => ?_)
    refine lv_iload_n hx hb dX11_which_13 rfl (lv_at hl 0 rfl) ?_
    refine lv_iconst (v := nI 4) hx hb dX11_which_14 (by decide) ?_
    refine zi_icmp_ge (tgt := 55) hx hb dX11_which_15 (by decide) (by omega) (by omega) (fun c_15 => absurd c_15 (by decide)) (fun c_15 => ?_)
    refine lv_iload_n hx hb dX11_which_18 rfl (lv_at hl 1 rfl) ?_
    refine lv_aload_n hx hb dX11_which_19 rfl (lv_at hl 2 rfl) ?_
    refine lv_sipush (v := nI 8000) hx hb dX11_which_20 (by decide) ?_
    refine lv_sipush (v := nI 2000) hx hb dX11_which_23 (by decide) ?_
    refine lv_iload_n hx hb dX11_which_26 rfl (lv_at hl 3 rfl) ?_
    refine zi_mul hx hb dX11_which_27 ?_
    refine zi_add hx hb dX11_which_28 ?_
    refine lv_sipush (v := nI 2000) hx hb dX11_which_29 (by decide) ?_
    refine lv_iload_n hx hb dX11_which_32 rfl (lv_at hl 0 rfl) ?_
    refine zi_mul hx hb dX11_which_33 ?_
    refine zc_VE (As := [.int (nI (8000 + (2000 * i))), .int (nI (0))]) (rest := [.int (nI (0))]) ⟨hx, hb, hml, hown, hts⟩ ((m_match_all l G o qs fs f 17).2 (8000 + 2000 * i) (0) (u) hv (hk 0 (by decide))) (cwV 2 hts (zgV wm_X11_268 wv_X11_filterHolds) rfl rfl rfl (by decide +kernel) ⟨show 30 * 17 + 48 + 1 ≤ 600 by omega, show 8 + (4 + 11) + (900 * 17 + 1200) ≤ 17000 by omega⟩) hK hO rfl hP rfl hl.1 rfl (Nat.le_of_ble_eq_true rfl) dX11_which_34 ⟨Nat.zero_le _, Nat.zero_le _⟩ hS (fun _ h9 => h9) (fun H locs hP hz9 hk9 hS => ?_)
    obtain ⟨hO, hA, hS1, h8, hln, hne9⟩ := id hP
    refine W.eq (g2 := F0 m 37 ls ([.int (nI (nB ((evF f 17).2 (8000 + 2000 * i) (0)))), .int (nI (0))])) rfl ?_
    refine zb_if_eq (tgt := 46) hx hb dX11_which_37 (by decide) (fun c_37 => ?_) (fun c_37 => ?_)
    · have h_0 := c_37
      refine lv_iconst (v := nI 0) hx hb dX11_which_46 (by decide) ?_
      refine lv_ior hx hb dX11_which_47 ?_
      rw [show nI 0 ||| nI 0 = nI 0 by decide]
      refine W.eq (g2 := F0 m 48 ls ([.int (nI (0))])) rfl ?_
      refine lv_istore_n (lv' := [(2, .int (nI (0))), (3, .int (nI (0))), (0, .ref (o)), (1, .int (nI (i)))]) hx hb dX11_which_48 rfl hl (by decide) rfl (fun ls hl => ?_)
      refine lv_iinc (v := nI (1)) (lv' := [(3, .int (nI (1))), (2, .int (nI (0))), (0, .ref (o)), (1, .int (nI (i)))]) hx hb dX11_which_49 hl (k := 1) rfl (nI_add _ _) (by decide) rfl (fun ls hl => ?_)
      refine lv_goto (tgt := 13) hx hb dX11_which_52 (by decide) ?_
      refine lv_iload_n hx hb dX11_which_13 rfl (lv_at hl 0 rfl) ?_
      refine lv_iconst (v := nI 4) hx hb dX11_which_14 (by decide) ?_
      refine zi_icmp_ge (tgt := 55) hx hb dX11_which_15 (by decide) (by omega) (by omega) (fun c_15 => absurd c_15 (by decide)) (fun c_15 => ?_)
      refine lv_iload_n hx hb dX11_which_18 rfl (lv_at hl 1 rfl) ?_
      refine lv_aload_n hx hb dX11_which_19 rfl (lv_at hl 2 rfl) ?_
      refine lv_sipush (v := nI 8000) hx hb dX11_which_20 (by decide) ?_
      refine lv_sipush (v := nI 2000) hx hb dX11_which_23 (by decide) ?_
      refine lv_iload_n hx hb dX11_which_26 rfl (lv_at hl 3 rfl) ?_
      refine zi_mul hx hb dX11_which_27 ?_
      refine zi_add hx hb dX11_which_28 ?_
      refine lv_sipush (v := nI 2000) hx hb dX11_which_29 (by decide) ?_
      refine lv_iload_n hx hb dX11_which_32 rfl (lv_at hl 0 rfl) ?_
      refine zi_mul hx hb dX11_which_33 ?_
      refine zc_VE (As := [.int (nI (8000 + (2000 * i))), .int (nI (2000))]) (rest := [.int (nI (0))]) ⟨hx, hb, hml, hown, hts⟩ ((m_match_all l G o qs fs f 17).2 (8000 + 2000 * i) (2000) ((u)) hv (hk 1 (by decide))) (cwV 2 hts (zgV wm_X11_268 wv_X11_filterHolds) rfl rfl rfl (by decide +kernel) ⟨show 30 * 17 + 48 + 1 ≤ 600 by omega, show 8 + (4 + 11) + (900 * 17 + 1200) ≤ 17000 by omega⟩) hK hO rfl hP rfl hl.1 rfl (Nat.le_of_ble_eq_true rfl) dX11_which_34 ⟨Nat.zero_le _, Nat.zero_le _⟩ hS (fun _ h9 => h9) (fun H locs hP hz9 hk9 hS => ?_)
      obtain ⟨hO, hA, hS1, h8, hln, hne9⟩ := id hP
      refine W.eq (g2 := F0 m 37 ls ([.int (nI (nB ((evF f 17).2 (8000 + 2000 * i) (2000)))), .int (nI (0))])) rfl ?_
      refine zb_if_eq (tgt := 46) hx hb dX11_which_37 (by decide) (fun c_37 => ?_) (fun c_37 => ?_)
      · have h_1 := c_37
        refine lv_iconst (v := nI 0) hx hb dX11_which_46 (by decide) ?_
        refine lv_ior hx hb dX11_which_47 ?_
        rw [show nI 0 ||| nI 0 = nI 0 by decide]
        refine W.eq (g2 := F0 m 48 ls ([.int (nI (0))])) rfl ?_
        refine lv_istore_n (lv' := [(2, .int (nI (0))), (3, .int (nI (1))), (0, .ref (o)), (1, .int (nI (i)))]) hx hb dX11_which_48 rfl hl (by decide) rfl (fun ls hl => ?_)
        refine lv_iinc (v := nI (2)) (lv' := [(3, .int (nI (2))), (2, .int (nI (0))), (0, .ref (o)), (1, .int (nI (i)))]) hx hb dX11_which_49 hl (k := 1) rfl (nI_add _ _) (by decide) rfl (fun ls hl => ?_)
        refine lv_goto (tgt := 13) hx hb dX11_which_52 (by decide) ?_
        refine lv_iload_n hx hb dX11_which_13 rfl (lv_at hl 0 rfl) ?_
        refine lv_iconst (v := nI 4) hx hb dX11_which_14 (by decide) ?_
        refine zi_icmp_ge (tgt := 55) hx hb dX11_which_15 (by decide) (by omega) (by omega) (fun c_15 => absurd c_15 (by decide)) (fun c_15 => ?_)
        refine lv_iload_n hx hb dX11_which_18 rfl (lv_at hl 1 rfl) ?_
        refine lv_aload_n hx hb dX11_which_19 rfl (lv_at hl 2 rfl) ?_
        refine lv_sipush (v := nI 8000) hx hb dX11_which_20 (by decide) ?_
        refine lv_sipush (v := nI 2000) hx hb dX11_which_23 (by decide) ?_
        refine lv_iload_n hx hb dX11_which_26 rfl (lv_at hl 3 rfl) ?_
        refine zi_mul hx hb dX11_which_27 ?_
        refine zi_add hx hb dX11_which_28 ?_
        refine lv_sipush (v := nI 2000) hx hb dX11_which_29 (by decide) ?_
        refine lv_iload_n hx hb dX11_which_32 rfl (lv_at hl 0 rfl) ?_
        refine zi_mul hx hb dX11_which_33 ?_
        refine zc_VE (As := [.int (nI (8000 + (2000 * i))), .int (nI (4000))]) (rest := [.int (nI (0))]) ⟨hx, hb, hml, hown, hts⟩ ((m_match_all l G o qs fs f 17).2 (8000 + 2000 * i) (4000) (((u))) hv (hk 2 (by decide))) (cwV 2 hts (zgV wm_X11_268 wv_X11_filterHolds) rfl rfl rfl (by decide +kernel) ⟨show 30 * 17 + 48 + 1 ≤ 600 by omega, show 8 + (4 + 11) + (900 * 17 + 1200) ≤ 17000 by omega⟩) hK hO rfl hP rfl hl.1 rfl (Nat.le_of_ble_eq_true rfl) dX11_which_34 ⟨Nat.zero_le _, Nat.zero_le _⟩ hS (fun _ h9 => h9) (fun H locs hP hz9 hk9 hS => ?_)
        obtain ⟨hO, hA, hS1, h8, hln, hne9⟩ := id hP
        refine W.eq (g2 := F0 m 37 ls ([.int (nI (nB ((evF f 17).2 (8000 + 2000 * i) (4000)))), .int (nI (0))])) rfl ?_
        refine zb_if_eq (tgt := 46) hx hb dX11_which_37 (by decide) (fun c_37 => ?_) (fun c_37 => ?_)
        · have h_2 := c_37
          refine lv_iconst (v := nI 0) hx hb dX11_which_46 (by decide) ?_
          refine lv_ior hx hb dX11_which_47 ?_
          rw [show nI 0 ||| nI 0 = nI 0 by decide]
          refine W.eq (g2 := F0 m 48 ls ([.int (nI (0))])) rfl ?_
          refine lv_istore_n (lv' := [(2, .int (nI (0))), (3, .int (nI (2))), (0, .ref (o)), (1, .int (nI (i)))]) hx hb dX11_which_48 rfl hl (by decide) rfl (fun ls hl => ?_)
          refine lv_iinc (v := nI (3)) (lv' := [(3, .int (nI (3))), (2, .int (nI (0))), (0, .ref (o)), (1, .int (nI (i)))]) hx hb dX11_which_49 hl (k := 1) rfl (nI_add _ _) (by decide) rfl (fun ls hl => ?_)
          refine lv_goto (tgt := 13) hx hb dX11_which_52 (by decide) ?_
          refine lv_iload_n hx hb dX11_which_13 rfl (lv_at hl 0 rfl) ?_
          refine lv_iconst (v := nI 4) hx hb dX11_which_14 (by decide) ?_
          refine zi_icmp_ge (tgt := 55) hx hb dX11_which_15 (by decide) (by omega) (by omega) (fun c_15 => absurd c_15 (by decide)) (fun c_15 => ?_)
          refine lv_iload_n hx hb dX11_which_18 rfl (lv_at hl 1 rfl) ?_
          refine lv_aload_n hx hb dX11_which_19 rfl (lv_at hl 2 rfl) ?_
          refine lv_sipush (v := nI 8000) hx hb dX11_which_20 (by decide) ?_
          refine lv_sipush (v := nI 2000) hx hb dX11_which_23 (by decide) ?_
          refine lv_iload_n hx hb dX11_which_26 rfl (lv_at hl 3 rfl) ?_
          refine zi_mul hx hb dX11_which_27 ?_
          refine zi_add hx hb dX11_which_28 ?_
          refine lv_sipush (v := nI 2000) hx hb dX11_which_29 (by decide) ?_
          refine lv_iload_n hx hb dX11_which_32 rfl (lv_at hl 0 rfl) ?_
          refine zi_mul hx hb dX11_which_33 ?_
          refine zc_VE (As := [.int (nI (8000 + (2000 * i))), .int (nI (6000))]) (rest := [.int (nI (0))]) ⟨hx, hb, hml, hown, hts⟩ ((m_match_all l G o qs fs f 17).2 (8000 + 2000 * i) (6000) ((((u)))) hv (hk 3 (by decide))) (cwV 2 hts (zgV wm_X11_268 wv_X11_filterHolds) rfl rfl rfl (by decide +kernel) ⟨show 30 * 17 + 48 + 1 ≤ 600 by omega, show 8 + (4 + 11) + (900 * 17 + 1200) ≤ 17000 by omega⟩) hK hO rfl hP rfl hl.1 rfl (Nat.le_of_ble_eq_true rfl) dX11_which_34 ⟨Nat.zero_le _, Nat.zero_le _⟩ hS (fun _ h9 => h9) (fun H locs hP hz9 hk9 hS => ?_)
          obtain ⟨hO, hA, hS1, h8, hln, hne9⟩ := id hP
          refine W.eq (g2 := F0 m 37 ls ([.int (nI (nB ((evF f 17).2 (8000 + 2000 * i) (6000)))), .int (nI (0))])) rfl ?_
          refine zb_if_eq (tgt := 46) hx hb dX11_which_37 (by decide) (fun c_37 => ?_) (fun c_37 => ?_)
          · have h_3 := c_37
            refine lv_iconst (v := nI 0) hx hb dX11_which_46 (by decide) ?_
            refine lv_ior hx hb dX11_which_47 ?_
            rw [show nI 0 ||| nI 0 = nI 0 by decide]
            refine W.eq (g2 := F0 m 48 ls ([.int (nI (0))])) rfl ?_
            refine lv_istore_n (lv' := [(2, .int (nI (0))), (3, .int (nI (3))), (0, .ref (o)), (1, .int (nI (i)))]) hx hb dX11_which_48 rfl hl (by decide) rfl (fun ls hl => ?_)
            refine lv_iinc (v := nI (4)) (lv' := [(3, .int (nI (4))), (2, .int (nI (0))), (0, .ref (o)), (1, .int (nI (i)))]) hx hb dX11_which_49 hl (k := 1) rfl (nI_add _ _) (by decide) rfl (fun ls hl => ?_)
            refine lv_goto (tgt := 13) hx hb dX11_which_52 (by decide) ?_
            refine lv_iload_n hx hb dX11_which_13 rfl (lv_at hl 0 rfl) ?_
            refine lv_iconst (v := nI 4) hx hb dX11_which_14 (by decide) ?_
            refine zi_icmp_ge (tgt := 55) hx hb dX11_which_15 (by decide) (by omega) (by omega) (fun c_15 => ?_) (fun c_15 => absurd c_15 (by decide))
            refine lv_iload_n hx hb dX11_which_55 rfl (lv_at hl 1 rfl) ?_
            exact zr_ie hx hb hr hlocks (by simp only [wB, h_0, h_1, h_2, h_3]; rfl) (hP) hS dX11_which_56
          · have h_3 := c_37
            refine lv_iconst (v := nI 1) hx hb dX11_which_40 (by decide) ?_
            refine lv_iload_n hx hb dX11_which_41 rfl (lv_at hl 0 rfl) ?_
            refine lv_ishl hx hb dX11_which_42 ?_
            rw [show nI 1 <<< (nI 3 &&& 31) = nI 8 by decide]
            refine W.eq (g2 := F0 m 43 ls ([.int (nI (8)), .int (nI (0))])) rfl ?_
            refine lv_goto (tgt := 47) hx hb dX11_which_43 (by decide) ?_
            refine lv_ior hx hb dX11_which_47 ?_
            rw [show nI 0 ||| nI 8 = nI 8 by decide]
            refine W.eq (g2 := F0 m 48 ls ([.int (nI (8))])) rfl ?_
            refine lv_istore_n (lv' := [(2, .int (nI (8))), (3, .int (nI (3))), (0, .ref (o)), (1, .int (nI (i)))]) hx hb dX11_which_48 rfl hl (by decide) rfl (fun ls hl => ?_)
            refine lv_iinc (v := nI (4)) (lv' := [(3, .int (nI (4))), (2, .int (nI (8))), (0, .ref (o)), (1, .int (nI (i)))]) hx hb dX11_which_49 hl (k := 1) rfl (nI_add _ _) (by decide) rfl (fun ls hl => ?_)
            refine lv_goto (tgt := 13) hx hb dX11_which_52 (by decide) ?_
            refine lv_iload_n hx hb dX11_which_13 rfl (lv_at hl 0 rfl) ?_
            refine lv_iconst (v := nI 4) hx hb dX11_which_14 (by decide) ?_
            refine zi_icmp_ge (tgt := 55) hx hb dX11_which_15 (by decide) (by omega) (by omega) (fun c_15 => ?_) (fun c_15 => absurd c_15 (by decide))
            refine lv_iload_n hx hb dX11_which_55 rfl (lv_at hl 1 rfl) ?_
            exact zr_ie hx hb hr hlocks (by simp only [wB, h_0, h_1, h_2, h_3]; rfl) (hP) hS dX11_which_56
        · have h_2 := c_37
          refine lv_iconst (v := nI 1) hx hb dX11_which_40 (by decide) ?_
          refine lv_iload_n hx hb dX11_which_41 rfl (lv_at hl 0 rfl) ?_
          refine lv_ishl hx hb dX11_which_42 ?_
          rw [show nI 1 <<< (nI 2 &&& 31) = nI 4 by decide]
          refine W.eq (g2 := F0 m 43 ls ([.int (nI (4)), .int (nI (0))])) rfl ?_
          refine lv_goto (tgt := 47) hx hb dX11_which_43 (by decide) ?_
          refine lv_ior hx hb dX11_which_47 ?_
          rw [show nI 0 ||| nI 4 = nI 4 by decide]
          refine W.eq (g2 := F0 m 48 ls ([.int (nI (4))])) rfl ?_
          refine lv_istore_n (lv' := [(2, .int (nI (4))), (3, .int (nI (2))), (0, .ref (o)), (1, .int (nI (i)))]) hx hb dX11_which_48 rfl hl (by decide) rfl (fun ls hl => ?_)
          refine lv_iinc (v := nI (3)) (lv' := [(3, .int (nI (3))), (2, .int (nI (4))), (0, .ref (o)), (1, .int (nI (i)))]) hx hb dX11_which_49 hl (k := 1) rfl (nI_add _ _) (by decide) rfl (fun ls hl => ?_)
          refine lv_goto (tgt := 13) hx hb dX11_which_52 (by decide) ?_
          refine lv_iload_n hx hb dX11_which_13 rfl (lv_at hl 0 rfl) ?_
          refine lv_iconst (v := nI 4) hx hb dX11_which_14 (by decide) ?_
          refine zi_icmp_ge (tgt := 55) hx hb dX11_which_15 (by decide) (by omega) (by omega) (fun c_15 => absurd c_15 (by decide)) (fun c_15 => ?_)
          refine lv_iload_n hx hb dX11_which_18 rfl (lv_at hl 1 rfl) ?_
          refine lv_aload_n hx hb dX11_which_19 rfl (lv_at hl 2 rfl) ?_
          refine lv_sipush (v := nI 8000) hx hb dX11_which_20 (by decide) ?_
          refine lv_sipush (v := nI 2000) hx hb dX11_which_23 (by decide) ?_
          refine lv_iload_n hx hb dX11_which_26 rfl (lv_at hl 3 rfl) ?_
          refine zi_mul hx hb dX11_which_27 ?_
          refine zi_add hx hb dX11_which_28 ?_
          refine lv_sipush (v := nI 2000) hx hb dX11_which_29 (by decide) ?_
          refine lv_iload_n hx hb dX11_which_32 rfl (lv_at hl 0 rfl) ?_
          refine zi_mul hx hb dX11_which_33 ?_
          refine zc_VE (As := [.int (nI (8000 + (2000 * i))), .int (nI (6000))]) (rest := [.int (nI (4))]) ⟨hx, hb, hml, hown, hts⟩ ((m_match_all l G o qs fs f 17).2 (8000 + 2000 * i) (6000) ((((u)))) hv (hk 3 (by decide))) (cwV 2 hts (zgV wm_X11_268 wv_X11_filterHolds) rfl rfl rfl (by decide +kernel) ⟨show 30 * 17 + 48 + 1 ≤ 600 by omega, show 8 + (4 + 11) + (900 * 17 + 1200) ≤ 17000 by omega⟩) hK hO rfl hP rfl hl.1 rfl (Nat.le_of_ble_eq_true rfl) dX11_which_34 ⟨Nat.zero_le _, Nat.zero_le _⟩ hS (fun _ h9 => h9) (fun H locs hP hz9 hk9 hS => ?_)
          obtain ⟨hO, hA, hS1, h8, hln, hne9⟩ := id hP
          refine W.eq (g2 := F0 m 37 ls ([.int (nI (nB ((evF f 17).2 (8000 + 2000 * i) (6000)))), .int (nI (4))])) rfl ?_
          refine zb_if_eq (tgt := 46) hx hb dX11_which_37 (by decide) (fun c_37 => ?_) (fun c_37 => ?_)
          · have h_3 := c_37
            refine lv_iconst (v := nI 0) hx hb dX11_which_46 (by decide) ?_
            refine lv_ior hx hb dX11_which_47 ?_
            rw [show nI 4 ||| nI 0 = nI 4 by decide]
            refine W.eq (g2 := F0 m 48 ls ([.int (nI (4))])) rfl ?_
            refine lv_istore_n (lv' := [(2, .int (nI (4))), (3, .int (nI (3))), (0, .ref (o)), (1, .int (nI (i)))]) hx hb dX11_which_48 rfl hl (by decide) rfl (fun ls hl => ?_)
            refine lv_iinc (v := nI (4)) (lv' := [(3, .int (nI (4))), (2, .int (nI (4))), (0, .ref (o)), (1, .int (nI (i)))]) hx hb dX11_which_49 hl (k := 1) rfl (nI_add _ _) (by decide) rfl (fun ls hl => ?_)
            refine lv_goto (tgt := 13) hx hb dX11_which_52 (by decide) ?_
            refine lv_iload_n hx hb dX11_which_13 rfl (lv_at hl 0 rfl) ?_
            refine lv_iconst (v := nI 4) hx hb dX11_which_14 (by decide) ?_
            refine zi_icmp_ge (tgt := 55) hx hb dX11_which_15 (by decide) (by omega) (by omega) (fun c_15 => ?_) (fun c_15 => absurd c_15 (by decide))
            refine lv_iload_n hx hb dX11_which_55 rfl (lv_at hl 1 rfl) ?_
            exact zr_ie hx hb hr hlocks (by simp only [wB, h_0, h_1, h_2, h_3]; rfl) (hP) hS dX11_which_56
          · have h_3 := c_37
            refine lv_iconst (v := nI 1) hx hb dX11_which_40 (by decide) ?_
            refine lv_iload_n hx hb dX11_which_41 rfl (lv_at hl 0 rfl) ?_
            refine lv_ishl hx hb dX11_which_42 ?_
            rw [show nI 1 <<< (nI 3 &&& 31) = nI 8 by decide]
            refine W.eq (g2 := F0 m 43 ls ([.int (nI (8)), .int (nI (4))])) rfl ?_
            refine lv_goto (tgt := 47) hx hb dX11_which_43 (by decide) ?_
            refine lv_ior hx hb dX11_which_47 ?_
            rw [show nI 4 ||| nI 8 = nI 12 by decide]
            refine W.eq (g2 := F0 m 48 ls ([.int (nI (12))])) rfl ?_
            refine lv_istore_n (lv' := [(2, .int (nI (12))), (3, .int (nI (3))), (0, .ref (o)), (1, .int (nI (i)))]) hx hb dX11_which_48 rfl hl (by decide) rfl (fun ls hl => ?_)
            refine lv_iinc (v := nI (4)) (lv' := [(3, .int (nI (4))), (2, .int (nI (12))), (0, .ref (o)), (1, .int (nI (i)))]) hx hb dX11_which_49 hl (k := 1) rfl (nI_add _ _) (by decide) rfl (fun ls hl => ?_)
            refine lv_goto (tgt := 13) hx hb dX11_which_52 (by decide) ?_
            refine lv_iload_n hx hb dX11_which_13 rfl (lv_at hl 0 rfl) ?_
            refine lv_iconst (v := nI 4) hx hb dX11_which_14 (by decide) ?_
            refine zi_icmp_ge (tgt := 55) hx hb dX11_which_15 (by decide) (by omega) (by omega) (fun c_15 => ?_) (fun c_15 => absurd c_15 (by decide))
            refine lv_iload_n hx hb dX11_which_55 rfl (lv_at hl 1 rfl) ?_
            exact zr_ie hx hb hr hlocks (by simp only [wB, h_0, h_1, h_2, h_3]; rfl) (hP) hS dX11_which_56
      · have h_1 := c_37
        refine lv_iconst (v := nI 1) hx hb dX11_which_40 (by decide) ?_
        refine lv_iload_n hx hb dX11_which_41 rfl (lv_at hl 0 rfl) ?_
        refine lv_ishl hx hb dX11_which_42 ?_
        rw [show nI 1 <<< (nI 1 &&& 31) = nI 2 by decide]
        refine W.eq (g2 := F0 m 43 ls ([.int (nI (2)), .int (nI (0))])) rfl ?_
        refine lv_goto (tgt := 47) hx hb dX11_which_43 (by decide) ?_
        refine lv_ior hx hb dX11_which_47 ?_
        rw [show nI 0 ||| nI 2 = nI 2 by decide]
        refine W.eq (g2 := F0 m 48 ls ([.int (nI (2))])) rfl ?_
        refine lv_istore_n (lv' := [(2, .int (nI (2))), (3, .int (nI (1))), (0, .ref (o)), (1, .int (nI (i)))]) hx hb dX11_which_48 rfl hl (by decide) rfl (fun ls hl => ?_)
        refine lv_iinc (v := nI (2)) (lv' := [(3, .int (nI (2))), (2, .int (nI (2))), (0, .ref (o)), (1, .int (nI (i)))]) hx hb dX11_which_49 hl (k := 1) rfl (nI_add _ _) (by decide) rfl (fun ls hl => ?_)
        refine lv_goto (tgt := 13) hx hb dX11_which_52 (by decide) ?_
        refine lv_iload_n hx hb dX11_which_13 rfl (lv_at hl 0 rfl) ?_
        refine lv_iconst (v := nI 4) hx hb dX11_which_14 (by decide) ?_
        refine zi_icmp_ge (tgt := 55) hx hb dX11_which_15 (by decide) (by omega) (by omega) (fun c_15 => absurd c_15 (by decide)) (fun c_15 => ?_)
        refine lv_iload_n hx hb dX11_which_18 rfl (lv_at hl 1 rfl) ?_
        refine lv_aload_n hx hb dX11_which_19 rfl (lv_at hl 2 rfl) ?_
        refine lv_sipush (v := nI 8000) hx hb dX11_which_20 (by decide) ?_
        refine lv_sipush (v := nI 2000) hx hb dX11_which_23 (by decide) ?_
        refine lv_iload_n hx hb dX11_which_26 rfl (lv_at hl 3 rfl) ?_
        refine zi_mul hx hb dX11_which_27 ?_
        refine zi_add hx hb dX11_which_28 ?_
        refine lv_sipush (v := nI 2000) hx hb dX11_which_29 (by decide) ?_
        refine lv_iload_n hx hb dX11_which_32 rfl (lv_at hl 0 rfl) ?_
        refine zi_mul hx hb dX11_which_33 ?_
        refine zc_VE (As := [.int (nI (8000 + (2000 * i))), .int (nI (4000))]) (rest := [.int (nI (2))]) ⟨hx, hb, hml, hown, hts⟩ ((m_match_all l G o qs fs f 17).2 (8000 + 2000 * i) (4000) (((u))) hv (hk 2 (by decide))) (cwV 2 hts (zgV wm_X11_268 wv_X11_filterHolds) rfl rfl rfl (by decide +kernel) ⟨show 30 * 17 + 48 + 1 ≤ 600 by omega, show 8 + (4 + 11) + (900 * 17 + 1200) ≤ 17000 by omega⟩) hK hO rfl hP rfl hl.1 rfl (Nat.le_of_ble_eq_true rfl) dX11_which_34 ⟨Nat.zero_le _, Nat.zero_le _⟩ hS (fun _ h9 => h9) (fun H locs hP hz9 hk9 hS => ?_)
        obtain ⟨hO, hA, hS1, h8, hln, hne9⟩ := id hP
        refine W.eq (g2 := F0 m 37 ls ([.int (nI (nB ((evF f 17).2 (8000 + 2000 * i) (4000)))), .int (nI (2))])) rfl ?_
        refine zb_if_eq (tgt := 46) hx hb dX11_which_37 (by decide) (fun c_37 => ?_) (fun c_37 => ?_)
        · have h_2 := c_37
          refine lv_iconst (v := nI 0) hx hb dX11_which_46 (by decide) ?_
          refine lv_ior hx hb dX11_which_47 ?_
          rw [show nI 2 ||| nI 0 = nI 2 by decide]
          refine W.eq (g2 := F0 m 48 ls ([.int (nI (2))])) rfl ?_
          refine lv_istore_n (lv' := [(2, .int (nI (2))), (3, .int (nI (2))), (0, .ref (o)), (1, .int (nI (i)))]) hx hb dX11_which_48 rfl hl (by decide) rfl (fun ls hl => ?_)
          refine lv_iinc (v := nI (3)) (lv' := [(3, .int (nI (3))), (2, .int (nI (2))), (0, .ref (o)), (1, .int (nI (i)))]) hx hb dX11_which_49 hl (k := 1) rfl (nI_add _ _) (by decide) rfl (fun ls hl => ?_)
          refine lv_goto (tgt := 13) hx hb dX11_which_52 (by decide) ?_
          refine lv_iload_n hx hb dX11_which_13 rfl (lv_at hl 0 rfl) ?_
          refine lv_iconst (v := nI 4) hx hb dX11_which_14 (by decide) ?_
          refine zi_icmp_ge (tgt := 55) hx hb dX11_which_15 (by decide) (by omega) (by omega) (fun c_15 => absurd c_15 (by decide)) (fun c_15 => ?_)
          refine lv_iload_n hx hb dX11_which_18 rfl (lv_at hl 1 rfl) ?_
          refine lv_aload_n hx hb dX11_which_19 rfl (lv_at hl 2 rfl) ?_
          refine lv_sipush (v := nI 8000) hx hb dX11_which_20 (by decide) ?_
          refine lv_sipush (v := nI 2000) hx hb dX11_which_23 (by decide) ?_
          refine lv_iload_n hx hb dX11_which_26 rfl (lv_at hl 3 rfl) ?_
          refine zi_mul hx hb dX11_which_27 ?_
          refine zi_add hx hb dX11_which_28 ?_
          refine lv_sipush (v := nI 2000) hx hb dX11_which_29 (by decide) ?_
          refine lv_iload_n hx hb dX11_which_32 rfl (lv_at hl 0 rfl) ?_
          refine zi_mul hx hb dX11_which_33 ?_
          refine zc_VE (As := [.int (nI (8000 + (2000 * i))), .int (nI (6000))]) (rest := [.int (nI (2))]) ⟨hx, hb, hml, hown, hts⟩ ((m_match_all l G o qs fs f 17).2 (8000 + 2000 * i) (6000) ((((u)))) hv (hk 3 (by decide))) (cwV 2 hts (zgV wm_X11_268 wv_X11_filterHolds) rfl rfl rfl (by decide +kernel) ⟨show 30 * 17 + 48 + 1 ≤ 600 by omega, show 8 + (4 + 11) + (900 * 17 + 1200) ≤ 17000 by omega⟩) hK hO rfl hP rfl hl.1 rfl (Nat.le_of_ble_eq_true rfl) dX11_which_34 ⟨Nat.zero_le _, Nat.zero_le _⟩ hS (fun _ h9 => h9) (fun H locs hP hz9 hk9 hS => ?_)
          obtain ⟨hO, hA, hS1, h8, hln, hne9⟩ := id hP
          refine W.eq (g2 := F0 m 37 ls ([.int (nI (nB ((evF f 17).2 (8000 + 2000 * i) (6000)))), .int (nI (2))])) rfl ?_
          refine zb_if_eq (tgt := 46) hx hb dX11_which_37 (by decide) (fun c_37 => ?_) (fun c_37 => ?_)
          · have h_3 := c_37
            refine lv_iconst (v := nI 0) hx hb dX11_which_46 (by decide) ?_
            refine lv_ior hx hb dX11_which_47 ?_
            rw [show nI 2 ||| nI 0 = nI 2 by decide]
            refine W.eq (g2 := F0 m 48 ls ([.int (nI (2))])) rfl ?_
            refine lv_istore_n (lv' := [(2, .int (nI (2))), (3, .int (nI (3))), (0, .ref (o)), (1, .int (nI (i)))]) hx hb dX11_which_48 rfl hl (by decide) rfl (fun ls hl => ?_)
            refine lv_iinc (v := nI (4)) (lv' := [(3, .int (nI (4))), (2, .int (nI (2))), (0, .ref (o)), (1, .int (nI (i)))]) hx hb dX11_which_49 hl (k := 1) rfl (nI_add _ _) (by decide) rfl (fun ls hl => ?_)
            refine lv_goto (tgt := 13) hx hb dX11_which_52 (by decide) ?_
            refine lv_iload_n hx hb dX11_which_13 rfl (lv_at hl 0 rfl) ?_
            refine lv_iconst (v := nI 4) hx hb dX11_which_14 (by decide) ?_
            refine zi_icmp_ge (tgt := 55) hx hb dX11_which_15 (by decide) (by omega) (by omega) (fun c_15 => ?_) (fun c_15 => absurd c_15 (by decide))
            refine lv_iload_n hx hb dX11_which_55 rfl (lv_at hl 1 rfl) ?_
            exact zr_ie hx hb hr hlocks (by simp only [wB, h_0, h_1, h_2, h_3]; rfl) (hP) hS dX11_which_56
          · have h_3 := c_37
            refine lv_iconst (v := nI 1) hx hb dX11_which_40 (by decide) ?_
            refine lv_iload_n hx hb dX11_which_41 rfl (lv_at hl 0 rfl) ?_
            refine lv_ishl hx hb dX11_which_42 ?_
            rw [show nI 1 <<< (nI 3 &&& 31) = nI 8 by decide]
            refine W.eq (g2 := F0 m 43 ls ([.int (nI (8)), .int (nI (2))])) rfl ?_
            refine lv_goto (tgt := 47) hx hb dX11_which_43 (by decide) ?_
            refine lv_ior hx hb dX11_which_47 ?_
            rw [show nI 2 ||| nI 8 = nI 10 by decide]
            refine W.eq (g2 := F0 m 48 ls ([.int (nI (10))])) rfl ?_
            refine lv_istore_n (lv' := [(2, .int (nI (10))), (3, .int (nI (3))), (0, .ref (o)), (1, .int (nI (i)))]) hx hb dX11_which_48 rfl hl (by decide) rfl (fun ls hl => ?_)
            refine lv_iinc (v := nI (4)) (lv' := [(3, .int (nI (4))), (2, .int (nI (10))), (0, .ref (o)), (1, .int (nI (i)))]) hx hb dX11_which_49 hl (k := 1) rfl (nI_add _ _) (by decide) rfl (fun ls hl => ?_)
            refine lv_goto (tgt := 13) hx hb dX11_which_52 (by decide) ?_
            refine lv_iload_n hx hb dX11_which_13 rfl (lv_at hl 0 rfl) ?_
            refine lv_iconst (v := nI 4) hx hb dX11_which_14 (by decide) ?_
            refine zi_icmp_ge (tgt := 55) hx hb dX11_which_15 (by decide) (by omega) (by omega) (fun c_15 => ?_) (fun c_15 => absurd c_15 (by decide))
            refine lv_iload_n hx hb dX11_which_55 rfl (lv_at hl 1 rfl) ?_
            exact zr_ie hx hb hr hlocks (by simp only [wB, h_0, h_1, h_2, h_3]; rfl) (hP) hS dX11_which_56
        · have h_2 := c_37
          refine lv_iconst (v := nI 1) hx hb dX11_which_40 (by decide) ?_
          refine lv_iload_n hx hb dX11_which_41 rfl (lv_at hl 0 rfl) ?_
          refine lv_ishl hx hb dX11_which_42 ?_
          rw [show nI 1 <<< (nI 2 &&& 31) = nI 4 by decide]
          refine W.eq (g2 := F0 m 43 ls ([.int (nI (4)), .int (nI (2))])) rfl ?_
          refine lv_goto (tgt := 47) hx hb dX11_which_43 (by decide) ?_
          refine lv_ior hx hb dX11_which_47 ?_
          rw [show nI 2 ||| nI 4 = nI 6 by decide]
          refine W.eq (g2 := F0 m 48 ls ([.int (nI (6))])) rfl ?_
          refine lv_istore_n (lv' := [(2, .int (nI (6))), (3, .int (nI (2))), (0, .ref (o)), (1, .int (nI (i)))]) hx hb dX11_which_48 rfl hl (by decide) rfl (fun ls hl => ?_)
          refine lv_iinc (v := nI (3)) (lv' := [(3, .int (nI (3))), (2, .int (nI (6))), (0, .ref (o)), (1, .int (nI (i)))]) hx hb dX11_which_49 hl (k := 1) rfl (nI_add _ _) (by decide) rfl (fun ls hl => ?_)
          refine lv_goto (tgt := 13) hx hb dX11_which_52 (by decide) ?_
          refine lv_iload_n hx hb dX11_which_13 rfl (lv_at hl 0 rfl) ?_
          refine lv_iconst (v := nI 4) hx hb dX11_which_14 (by decide) ?_
          refine zi_icmp_ge (tgt := 55) hx hb dX11_which_15 (by decide) (by omega) (by omega) (fun c_15 => absurd c_15 (by decide)) (fun c_15 => ?_)
          refine lv_iload_n hx hb dX11_which_18 rfl (lv_at hl 1 rfl) ?_
          refine lv_aload_n hx hb dX11_which_19 rfl (lv_at hl 2 rfl) ?_
          refine lv_sipush (v := nI 8000) hx hb dX11_which_20 (by decide) ?_
          refine lv_sipush (v := nI 2000) hx hb dX11_which_23 (by decide) ?_
          refine lv_iload_n hx hb dX11_which_26 rfl (lv_at hl 3 rfl) ?_
          refine zi_mul hx hb dX11_which_27 ?_
          refine zi_add hx hb dX11_which_28 ?_
          refine lv_sipush (v := nI 2000) hx hb dX11_which_29 (by decide) ?_
          refine lv_iload_n hx hb dX11_which_32 rfl (lv_at hl 0 rfl) ?_
          refine zi_mul hx hb dX11_which_33 ?_
          refine zc_VE (As := [.int (nI (8000 + (2000 * i))), .int (nI (6000))]) (rest := [.int (nI (6))]) ⟨hx, hb, hml, hown, hts⟩ ((m_match_all l G o qs fs f 17).2 (8000 + 2000 * i) (6000) ((((u)))) hv (hk 3 (by decide))) (cwV 2 hts (zgV wm_X11_268 wv_X11_filterHolds) rfl rfl rfl (by decide +kernel) ⟨show 30 * 17 + 48 + 1 ≤ 600 by omega, show 8 + (4 + 11) + (900 * 17 + 1200) ≤ 17000 by omega⟩) hK hO rfl hP rfl hl.1 rfl (Nat.le_of_ble_eq_true rfl) dX11_which_34 ⟨Nat.zero_le _, Nat.zero_le _⟩ hS (fun _ h9 => h9) (fun H locs hP hz9 hk9 hS => ?_)
          obtain ⟨hO, hA, hS1, h8, hln, hne9⟩ := id hP
          refine W.eq (g2 := F0 m 37 ls ([.int (nI (nB ((evF f 17).2 (8000 + 2000 * i) (6000)))), .int (nI (6))])) rfl ?_
          refine zb_if_eq (tgt := 46) hx hb dX11_which_37 (by decide) (fun c_37 => ?_) (fun c_37 => ?_)
          · have h_3 := c_37
            refine lv_iconst (v := nI 0) hx hb dX11_which_46 (by decide) ?_
            refine lv_ior hx hb dX11_which_47 ?_
            rw [show nI 6 ||| nI 0 = nI 6 by decide]
            refine W.eq (g2 := F0 m 48 ls ([.int (nI (6))])) rfl ?_
            refine lv_istore_n (lv' := [(2, .int (nI (6))), (3, .int (nI (3))), (0, .ref (o)), (1, .int (nI (i)))]) hx hb dX11_which_48 rfl hl (by decide) rfl (fun ls hl => ?_)
            refine lv_iinc (v := nI (4)) (lv' := [(3, .int (nI (4))), (2, .int (nI (6))), (0, .ref (o)), (1, .int (nI (i)))]) hx hb dX11_which_49 hl (k := 1) rfl (nI_add _ _) (by decide) rfl (fun ls hl => ?_)
            refine lv_goto (tgt := 13) hx hb dX11_which_52 (by decide) ?_
            refine lv_iload_n hx hb dX11_which_13 rfl (lv_at hl 0 rfl) ?_
            refine lv_iconst (v := nI 4) hx hb dX11_which_14 (by decide) ?_
            refine zi_icmp_ge (tgt := 55) hx hb dX11_which_15 (by decide) (by omega) (by omega) (fun c_15 => ?_) (fun c_15 => absurd c_15 (by decide))
            refine lv_iload_n hx hb dX11_which_55 rfl (lv_at hl 1 rfl) ?_
            exact zr_ie hx hb hr hlocks (by simp only [wB, h_0, h_1, h_2, h_3]; rfl) (hP) hS dX11_which_56
          · have h_3 := c_37
            refine lv_iconst (v := nI 1) hx hb dX11_which_40 (by decide) ?_
            refine lv_iload_n hx hb dX11_which_41 rfl (lv_at hl 0 rfl) ?_
            refine lv_ishl hx hb dX11_which_42 ?_
            rw [show nI 1 <<< (nI 3 &&& 31) = nI 8 by decide]
            refine W.eq (g2 := F0 m 43 ls ([.int (nI (8)), .int (nI (6))])) rfl ?_
            refine lv_goto (tgt := 47) hx hb dX11_which_43 (by decide) ?_
            refine lv_ior hx hb dX11_which_47 ?_
            rw [show nI 6 ||| nI 8 = nI 14 by decide]
            refine W.eq (g2 := F0 m 48 ls ([.int (nI (14))])) rfl ?_
            refine lv_istore_n (lv' := [(2, .int (nI (14))), (3, .int (nI (3))), (0, .ref (o)), (1, .int (nI (i)))]) hx hb dX11_which_48 rfl hl (by decide) rfl (fun ls hl => ?_)
            refine lv_iinc (v := nI (4)) (lv' := [(3, .int (nI (4))), (2, .int (nI (14))), (0, .ref (o)), (1, .int (nI (i)))]) hx hb dX11_which_49 hl (k := 1) rfl (nI_add _ _) (by decide) rfl (fun ls hl => ?_)
            refine lv_goto (tgt := 13) hx hb dX11_which_52 (by decide) ?_
            refine lv_iload_n hx hb dX11_which_13 rfl (lv_at hl 0 rfl) ?_
            refine lv_iconst (v := nI 4) hx hb dX11_which_14 (by decide) ?_
            refine zi_icmp_ge (tgt := 55) hx hb dX11_which_15 (by decide) (by omega) (by omega) (fun c_15 => ?_) (fun c_15 => absurd c_15 (by decide))
            refine lv_iload_n hx hb dX11_which_55 rfl (lv_at hl 1 rfl) ?_
            exact zr_ie hx hb hr hlocks (by simp only [wB, h_0, h_1, h_2, h_3]; rfl) (hP) hS dX11_which_56
    · have h_0 := c_37
      refine lv_iconst (v := nI 1) hx hb dX11_which_40 (by decide) ?_
      refine lv_iload_n hx hb dX11_which_41 rfl (lv_at hl 0 rfl) ?_
      refine lv_ishl hx hb dX11_which_42 ?_
      rw [show nI 1 <<< (nI 0 &&& 31) = nI 1 by decide]
      refine W.eq (g2 := F0 m 43 ls ([.int (nI (1)), .int (nI (0))])) rfl ?_
      refine lv_goto (tgt := 47) hx hb dX11_which_43 (by decide) ?_
      refine lv_ior hx hb dX11_which_47 ?_
      rw [show nI 0 ||| nI 1 = nI 1 by decide]
      refine W.eq (g2 := F0 m 48 ls ([.int (nI (1))])) rfl ?_
      refine lv_istore_n (lv' := [(2, .int (nI (1))), (3, .int (nI (0))), (0, .ref (o)), (1, .int (nI (i)))]) hx hb dX11_which_48 rfl hl (by decide) rfl (fun ls hl => ?_)
      refine lv_iinc (v := nI (1)) (lv' := [(3, .int (nI (1))), (2, .int (nI (1))), (0, .ref (o)), (1, .int (nI (i)))]) hx hb dX11_which_49 hl (k := 1) rfl (nI_add _ _) (by decide) rfl (fun ls hl => ?_)
      refine lv_goto (tgt := 13) hx hb dX11_which_52 (by decide) ?_
      refine lv_iload_n hx hb dX11_which_13 rfl (lv_at hl 0 rfl) ?_
      refine lv_iconst (v := nI 4) hx hb dX11_which_14 (by decide) ?_
      refine zi_icmp_ge (tgt := 55) hx hb dX11_which_15 (by decide) (by omega) (by omega) (fun c_15 => absurd c_15 (by decide)) (fun c_15 => ?_)
      refine lv_iload_n hx hb dX11_which_18 rfl (lv_at hl 1 rfl) ?_
      refine lv_aload_n hx hb dX11_which_19 rfl (lv_at hl 2 rfl) ?_
      refine lv_sipush (v := nI 8000) hx hb dX11_which_20 (by decide) ?_
      refine lv_sipush (v := nI 2000) hx hb dX11_which_23 (by decide) ?_
      refine lv_iload_n hx hb dX11_which_26 rfl (lv_at hl 3 rfl) ?_
      refine zi_mul hx hb dX11_which_27 ?_
      refine zi_add hx hb dX11_which_28 ?_
      refine lv_sipush (v := nI 2000) hx hb dX11_which_29 (by decide) ?_
      refine lv_iload_n hx hb dX11_which_32 rfl (lv_at hl 0 rfl) ?_
      refine zi_mul hx hb dX11_which_33 ?_
      refine zc_VE (As := [.int (nI (8000 + (2000 * i))), .int (nI (2000))]) (rest := [.int (nI (1))]) ⟨hx, hb, hml, hown, hts⟩ ((m_match_all l G o qs fs f 17).2 (8000 + 2000 * i) (2000) ((u)) hv (hk 1 (by decide))) (cwV 2 hts (zgV wm_X11_268 wv_X11_filterHolds) rfl rfl rfl (by decide +kernel) ⟨show 30 * 17 + 48 + 1 ≤ 600 by omega, show 8 + (4 + 11) + (900 * 17 + 1200) ≤ 17000 by omega⟩) hK hO rfl hP rfl hl.1 rfl (Nat.le_of_ble_eq_true rfl) dX11_which_34 ⟨Nat.zero_le _, Nat.zero_le _⟩ hS (fun _ h9 => h9) (fun H locs hP hz9 hk9 hS => ?_)
      obtain ⟨hO, hA, hS1, h8, hln, hne9⟩ := id hP
      refine W.eq (g2 := F0 m 37 ls ([.int (nI (nB ((evF f 17).2 (8000 + 2000 * i) (2000)))), .int (nI (1))])) rfl ?_
      refine zb_if_eq (tgt := 46) hx hb dX11_which_37 (by decide) (fun c_37 => ?_) (fun c_37 => ?_)
      · have h_1 := c_37
        refine lv_iconst (v := nI 0) hx hb dX11_which_46 (by decide) ?_
        refine lv_ior hx hb dX11_which_47 ?_
        rw [show nI 1 ||| nI 0 = nI 1 by decide]
        refine W.eq (g2 := F0 m 48 ls ([.int (nI (1))])) rfl ?_
        refine lv_istore_n (lv' := [(2, .int (nI (1))), (3, .int (nI (1))), (0, .ref (o)), (1, .int (nI (i)))]) hx hb dX11_which_48 rfl hl (by decide) rfl (fun ls hl => ?_)
        refine lv_iinc (v := nI (2)) (lv' := [(3, .int (nI (2))), (2, .int (nI (1))), (0, .ref (o)), (1, .int (nI (i)))]) hx hb dX11_which_49 hl (k := 1) rfl (nI_add _ _) (by decide) rfl (fun ls hl => ?_)
        refine lv_goto (tgt := 13) hx hb dX11_which_52 (by decide) ?_
        refine lv_iload_n hx hb dX11_which_13 rfl (lv_at hl 0 rfl) ?_
        refine lv_iconst (v := nI 4) hx hb dX11_which_14 (by decide) ?_
        refine zi_icmp_ge (tgt := 55) hx hb dX11_which_15 (by decide) (by omega) (by omega) (fun c_15 => absurd c_15 (by decide)) (fun c_15 => ?_)
        refine lv_iload_n hx hb dX11_which_18 rfl (lv_at hl 1 rfl) ?_
        refine lv_aload_n hx hb dX11_which_19 rfl (lv_at hl 2 rfl) ?_
        refine lv_sipush (v := nI 8000) hx hb dX11_which_20 (by decide) ?_
        refine lv_sipush (v := nI 2000) hx hb dX11_which_23 (by decide) ?_
        refine lv_iload_n hx hb dX11_which_26 rfl (lv_at hl 3 rfl) ?_
        refine zi_mul hx hb dX11_which_27 ?_
        refine zi_add hx hb dX11_which_28 ?_
        refine lv_sipush (v := nI 2000) hx hb dX11_which_29 (by decide) ?_
        refine lv_iload_n hx hb dX11_which_32 rfl (lv_at hl 0 rfl) ?_
        refine zi_mul hx hb dX11_which_33 ?_
        refine zc_VE (As := [.int (nI (8000 + (2000 * i))), .int (nI (4000))]) (rest := [.int (nI (1))]) ⟨hx, hb, hml, hown, hts⟩ ((m_match_all l G o qs fs f 17).2 (8000 + 2000 * i) (4000) (((u))) hv (hk 2 (by decide))) (cwV 2 hts (zgV wm_X11_268 wv_X11_filterHolds) rfl rfl rfl (by decide +kernel) ⟨show 30 * 17 + 48 + 1 ≤ 600 by omega, show 8 + (4 + 11) + (900 * 17 + 1200) ≤ 17000 by omega⟩) hK hO rfl hP rfl hl.1 rfl (Nat.le_of_ble_eq_true rfl) dX11_which_34 ⟨Nat.zero_le _, Nat.zero_le _⟩ hS (fun _ h9 => h9) (fun H locs hP hz9 hk9 hS => ?_)
        obtain ⟨hO, hA, hS1, h8, hln, hne9⟩ := id hP
        refine W.eq (g2 := F0 m 37 ls ([.int (nI (nB ((evF f 17).2 (8000 + 2000 * i) (4000)))), .int (nI (1))])) rfl ?_
        refine zb_if_eq (tgt := 46) hx hb dX11_which_37 (by decide) (fun c_37 => ?_) (fun c_37 => ?_)
        · have h_2 := c_37
          refine lv_iconst (v := nI 0) hx hb dX11_which_46 (by decide) ?_
          refine lv_ior hx hb dX11_which_47 ?_
          rw [show nI 1 ||| nI 0 = nI 1 by decide]
          refine W.eq (g2 := F0 m 48 ls ([.int (nI (1))])) rfl ?_
          refine lv_istore_n (lv' := [(2, .int (nI (1))), (3, .int (nI (2))), (0, .ref (o)), (1, .int (nI (i)))]) hx hb dX11_which_48 rfl hl (by decide) rfl (fun ls hl => ?_)
          refine lv_iinc (v := nI (3)) (lv' := [(3, .int (nI (3))), (2, .int (nI (1))), (0, .ref (o)), (1, .int (nI (i)))]) hx hb dX11_which_49 hl (k := 1) rfl (nI_add _ _) (by decide) rfl (fun ls hl => ?_)
          refine lv_goto (tgt := 13) hx hb dX11_which_52 (by decide) ?_
          refine lv_iload_n hx hb dX11_which_13 rfl (lv_at hl 0 rfl) ?_
          refine lv_iconst (v := nI 4) hx hb dX11_which_14 (by decide) ?_
          refine zi_icmp_ge (tgt := 55) hx hb dX11_which_15 (by decide) (by omega) (by omega) (fun c_15 => absurd c_15 (by decide)) (fun c_15 => ?_)
          refine lv_iload_n hx hb dX11_which_18 rfl (lv_at hl 1 rfl) ?_
          refine lv_aload_n hx hb dX11_which_19 rfl (lv_at hl 2 rfl) ?_
          refine lv_sipush (v := nI 8000) hx hb dX11_which_20 (by decide) ?_
          refine lv_sipush (v := nI 2000) hx hb dX11_which_23 (by decide) ?_
          refine lv_iload_n hx hb dX11_which_26 rfl (lv_at hl 3 rfl) ?_
          refine zi_mul hx hb dX11_which_27 ?_
          refine zi_add hx hb dX11_which_28 ?_
          refine lv_sipush (v := nI 2000) hx hb dX11_which_29 (by decide) ?_
          refine lv_iload_n hx hb dX11_which_32 rfl (lv_at hl 0 rfl) ?_
          refine zi_mul hx hb dX11_which_33 ?_
          refine zc_VE (As := [.int (nI (8000 + (2000 * i))), .int (nI (6000))]) (rest := [.int (nI (1))]) ⟨hx, hb, hml, hown, hts⟩ ((m_match_all l G o qs fs f 17).2 (8000 + 2000 * i) (6000) ((((u)))) hv (hk 3 (by decide))) (cwV 2 hts (zgV wm_X11_268 wv_X11_filterHolds) rfl rfl rfl (by decide +kernel) ⟨show 30 * 17 + 48 + 1 ≤ 600 by omega, show 8 + (4 + 11) + (900 * 17 + 1200) ≤ 17000 by omega⟩) hK hO rfl hP rfl hl.1 rfl (Nat.le_of_ble_eq_true rfl) dX11_which_34 ⟨Nat.zero_le _, Nat.zero_le _⟩ hS (fun _ h9 => h9) (fun H locs hP hz9 hk9 hS => ?_)
          obtain ⟨hO, hA, hS1, h8, hln, hne9⟩ := id hP
          refine W.eq (g2 := F0 m 37 ls ([.int (nI (nB ((evF f 17).2 (8000 + 2000 * i) (6000)))), .int (nI (1))])) rfl ?_
          refine zb_if_eq (tgt := 46) hx hb dX11_which_37 (by decide) (fun c_37 => ?_) (fun c_37 => ?_)
          · have h_3 := c_37
            refine lv_iconst (v := nI 0) hx hb dX11_which_46 (by decide) ?_
            refine lv_ior hx hb dX11_which_47 ?_
            rw [show nI 1 ||| nI 0 = nI 1 by decide]
            refine W.eq (g2 := F0 m 48 ls ([.int (nI (1))])) rfl ?_
            refine lv_istore_n (lv' := [(2, .int (nI (1))), (3, .int (nI (3))), (0, .ref (o)), (1, .int (nI (i)))]) hx hb dX11_which_48 rfl hl (by decide) rfl (fun ls hl => ?_)
            refine lv_iinc (v := nI (4)) (lv' := [(3, .int (nI (4))), (2, .int (nI (1))), (0, .ref (o)), (1, .int (nI (i)))]) hx hb dX11_which_49 hl (k := 1) rfl (nI_add _ _) (by decide) rfl (fun ls hl => ?_)
            refine lv_goto (tgt := 13) hx hb dX11_which_52 (by decide) ?_
            refine lv_iload_n hx hb dX11_which_13 rfl (lv_at hl 0 rfl) ?_
            refine lv_iconst (v := nI 4) hx hb dX11_which_14 (by decide) ?_
            refine zi_icmp_ge (tgt := 55) hx hb dX11_which_15 (by decide) (by omega) (by omega) (fun c_15 => ?_) (fun c_15 => absurd c_15 (by decide))
            refine lv_iload_n hx hb dX11_which_55 rfl (lv_at hl 1 rfl) ?_
            exact zr_ie hx hb hr hlocks (by simp only [wB, h_0, h_1, h_2, h_3]; rfl) (hP) hS dX11_which_56
          · have h_3 := c_37
            refine lv_iconst (v := nI 1) hx hb dX11_which_40 (by decide) ?_
            refine lv_iload_n hx hb dX11_which_41 rfl (lv_at hl 0 rfl) ?_
            refine lv_ishl hx hb dX11_which_42 ?_
            rw [show nI 1 <<< (nI 3 &&& 31) = nI 8 by decide]
            refine W.eq (g2 := F0 m 43 ls ([.int (nI (8)), .int (nI (1))])) rfl ?_
            refine lv_goto (tgt := 47) hx hb dX11_which_43 (by decide) ?_
            refine lv_ior hx hb dX11_which_47 ?_
            rw [show nI 1 ||| nI 8 = nI 9 by decide]
            refine W.eq (g2 := F0 m 48 ls ([.int (nI (9))])) rfl ?_
            refine lv_istore_n (lv' := [(2, .int (nI (9))), (3, .int (nI (3))), (0, .ref (o)), (1, .int (nI (i)))]) hx hb dX11_which_48 rfl hl (by decide) rfl (fun ls hl => ?_)
            refine lv_iinc (v := nI (4)) (lv' := [(3, .int (nI (4))), (2, .int (nI (9))), (0, .ref (o)), (1, .int (nI (i)))]) hx hb dX11_which_49 hl (k := 1) rfl (nI_add _ _) (by decide) rfl (fun ls hl => ?_)
            refine lv_goto (tgt := 13) hx hb dX11_which_52 (by decide) ?_
            refine lv_iload_n hx hb dX11_which_13 rfl (lv_at hl 0 rfl) ?_
            refine lv_iconst (v := nI 4) hx hb dX11_which_14 (by decide) ?_
            refine zi_icmp_ge (tgt := 55) hx hb dX11_which_15 (by decide) (by omega) (by omega) (fun c_15 => ?_) (fun c_15 => absurd c_15 (by decide))
            refine lv_iload_n hx hb dX11_which_55 rfl (lv_at hl 1 rfl) ?_
            exact zr_ie hx hb hr hlocks (by simp only [wB, h_0, h_1, h_2, h_3]; rfl) (hP) hS dX11_which_56
        · have h_2 := c_37
          refine lv_iconst (v := nI 1) hx hb dX11_which_40 (by decide) ?_
          refine lv_iload_n hx hb dX11_which_41 rfl (lv_at hl 0 rfl) ?_
          refine lv_ishl hx hb dX11_which_42 ?_
          rw [show nI 1 <<< (nI 2 &&& 31) = nI 4 by decide]
          refine W.eq (g2 := F0 m 43 ls ([.int (nI (4)), .int (nI (1))])) rfl ?_
          refine lv_goto (tgt := 47) hx hb dX11_which_43 (by decide) ?_
          refine lv_ior hx hb dX11_which_47 ?_
          rw [show nI 1 ||| nI 4 = nI 5 by decide]
          refine W.eq (g2 := F0 m 48 ls ([.int (nI (5))])) rfl ?_
          refine lv_istore_n (lv' := [(2, .int (nI (5))), (3, .int (nI (2))), (0, .ref (o)), (1, .int (nI (i)))]) hx hb dX11_which_48 rfl hl (by decide) rfl (fun ls hl => ?_)
          refine lv_iinc (v := nI (3)) (lv' := [(3, .int (nI (3))), (2, .int (nI (5))), (0, .ref (o)), (1, .int (nI (i)))]) hx hb dX11_which_49 hl (k := 1) rfl (nI_add _ _) (by decide) rfl (fun ls hl => ?_)
          refine lv_goto (tgt := 13) hx hb dX11_which_52 (by decide) ?_
          refine lv_iload_n hx hb dX11_which_13 rfl (lv_at hl 0 rfl) ?_
          refine lv_iconst (v := nI 4) hx hb dX11_which_14 (by decide) ?_
          refine zi_icmp_ge (tgt := 55) hx hb dX11_which_15 (by decide) (by omega) (by omega) (fun c_15 => absurd c_15 (by decide)) (fun c_15 => ?_)
          refine lv_iload_n hx hb dX11_which_18 rfl (lv_at hl 1 rfl) ?_
          refine lv_aload_n hx hb dX11_which_19 rfl (lv_at hl 2 rfl) ?_
          refine lv_sipush (v := nI 8000) hx hb dX11_which_20 (by decide) ?_
          refine lv_sipush (v := nI 2000) hx hb dX11_which_23 (by decide) ?_
          refine lv_iload_n hx hb dX11_which_26 rfl (lv_at hl 3 rfl) ?_
          refine zi_mul hx hb dX11_which_27 ?_
          refine zi_add hx hb dX11_which_28 ?_
          refine lv_sipush (v := nI 2000) hx hb dX11_which_29 (by decide) ?_
          refine lv_iload_n hx hb dX11_which_32 rfl (lv_at hl 0 rfl) ?_
          refine zi_mul hx hb dX11_which_33 ?_
          refine zc_VE (As := [.int (nI (8000 + (2000 * i))), .int (nI (6000))]) (rest := [.int (nI (5))]) ⟨hx, hb, hml, hown, hts⟩ ((m_match_all l G o qs fs f 17).2 (8000 + 2000 * i) (6000) ((((u)))) hv (hk 3 (by decide))) (cwV 2 hts (zgV wm_X11_268 wv_X11_filterHolds) rfl rfl rfl (by decide +kernel) ⟨show 30 * 17 + 48 + 1 ≤ 600 by omega, show 8 + (4 + 11) + (900 * 17 + 1200) ≤ 17000 by omega⟩) hK hO rfl hP rfl hl.1 rfl (Nat.le_of_ble_eq_true rfl) dX11_which_34 ⟨Nat.zero_le _, Nat.zero_le _⟩ hS (fun _ h9 => h9) (fun H locs hP hz9 hk9 hS => ?_)
          obtain ⟨hO, hA, hS1, h8, hln, hne9⟩ := id hP
          refine W.eq (g2 := F0 m 37 ls ([.int (nI (nB ((evF f 17).2 (8000 + 2000 * i) (6000)))), .int (nI (5))])) rfl ?_
          refine zb_if_eq (tgt := 46) hx hb dX11_which_37 (by decide) (fun c_37 => ?_) (fun c_37 => ?_)
          · have h_3 := c_37
            refine lv_iconst (v := nI 0) hx hb dX11_which_46 (by decide) ?_
            refine lv_ior hx hb dX11_which_47 ?_
            rw [show nI 5 ||| nI 0 = nI 5 by decide]
            refine W.eq (g2 := F0 m 48 ls ([.int (nI (5))])) rfl ?_
            refine lv_istore_n (lv' := [(2, .int (nI (5))), (3, .int (nI (3))), (0, .ref (o)), (1, .int (nI (i)))]) hx hb dX11_which_48 rfl hl (by decide) rfl (fun ls hl => ?_)
            refine lv_iinc (v := nI (4)) (lv' := [(3, .int (nI (4))), (2, .int (nI (5))), (0, .ref (o)), (1, .int (nI (i)))]) hx hb dX11_which_49 hl (k := 1) rfl (nI_add _ _) (by decide) rfl (fun ls hl => ?_)
            refine lv_goto (tgt := 13) hx hb dX11_which_52 (by decide) ?_
            refine lv_iload_n hx hb dX11_which_13 rfl (lv_at hl 0 rfl) ?_
            refine lv_iconst (v := nI 4) hx hb dX11_which_14 (by decide) ?_
            refine zi_icmp_ge (tgt := 55) hx hb dX11_which_15 (by decide) (by omega) (by omega) (fun c_15 => ?_) (fun c_15 => absurd c_15 (by decide))
            refine lv_iload_n hx hb dX11_which_55 rfl (lv_at hl 1 rfl) ?_
            exact zr_ie hx hb hr hlocks (by simp only [wB, h_0, h_1, h_2, h_3]; rfl) (hP) hS dX11_which_56
          · have h_3 := c_37
            refine lv_iconst (v := nI 1) hx hb dX11_which_40 (by decide) ?_
            refine lv_iload_n hx hb dX11_which_41 rfl (lv_at hl 0 rfl) ?_
            refine lv_ishl hx hb dX11_which_42 ?_
            rw [show nI 1 <<< (nI 3 &&& 31) = nI 8 by decide]
            refine W.eq (g2 := F0 m 43 ls ([.int (nI (8)), .int (nI (5))])) rfl ?_
            refine lv_goto (tgt := 47) hx hb dX11_which_43 (by decide) ?_
            refine lv_ior hx hb dX11_which_47 ?_
            rw [show nI 5 ||| nI 8 = nI 13 by decide]
            refine W.eq (g2 := F0 m 48 ls ([.int (nI (13))])) rfl ?_
            refine lv_istore_n (lv' := [(2, .int (nI (13))), (3, .int (nI (3))), (0, .ref (o)), (1, .int (nI (i)))]) hx hb dX11_which_48 rfl hl (by decide) rfl (fun ls hl => ?_)
            refine lv_iinc (v := nI (4)) (lv' := [(3, .int (nI (4))), (2, .int (nI (13))), (0, .ref (o)), (1, .int (nI (i)))]) hx hb dX11_which_49 hl (k := 1) rfl (nI_add _ _) (by decide) rfl (fun ls hl => ?_)
            refine lv_goto (tgt := 13) hx hb dX11_which_52 (by decide) ?_
            refine lv_iload_n hx hb dX11_which_13 rfl (lv_at hl 0 rfl) ?_
            refine lv_iconst (v := nI 4) hx hb dX11_which_14 (by decide) ?_
            refine zi_icmp_ge (tgt := 55) hx hb dX11_which_15 (by decide) (by omega) (by omega) (fun c_15 => ?_) (fun c_15 => absurd c_15 (by decide))
            refine lv_iload_n hx hb dX11_which_55 rfl (lv_at hl 1 rfl) ?_
            exact zr_ie hx hb hr hlocks (by simp only [wB, h_0, h_1, h_2, h_3]; rfl) (hP) hS dX11_which_56
      · have h_1 := c_37
        refine lv_iconst (v := nI 1) hx hb dX11_which_40 (by decide) ?_
        refine lv_iload_n hx hb dX11_which_41 rfl (lv_at hl 0 rfl) ?_
        refine lv_ishl hx hb dX11_which_42 ?_
        rw [show nI 1 <<< (nI 1 &&& 31) = nI 2 by decide]
        refine W.eq (g2 := F0 m 43 ls ([.int (nI (2)), .int (nI (1))])) rfl ?_
        refine lv_goto (tgt := 47) hx hb dX11_which_43 (by decide) ?_
        refine lv_ior hx hb dX11_which_47 ?_
        rw [show nI 1 ||| nI 2 = nI 3 by decide]
        refine W.eq (g2 := F0 m 48 ls ([.int (nI (3))])) rfl ?_
        refine lv_istore_n (lv' := [(2, .int (nI (3))), (3, .int (nI (1))), (0, .ref (o)), (1, .int (nI (i)))]) hx hb dX11_which_48 rfl hl (by decide) rfl (fun ls hl => ?_)
        refine lv_iinc (v := nI (2)) (lv' := [(3, .int (nI (2))), (2, .int (nI (3))), (0, .ref (o)), (1, .int (nI (i)))]) hx hb dX11_which_49 hl (k := 1) rfl (nI_add _ _) (by decide) rfl (fun ls hl => ?_)
        refine lv_goto (tgt := 13) hx hb dX11_which_52 (by decide) ?_
        refine lv_iload_n hx hb dX11_which_13 rfl (lv_at hl 0 rfl) ?_
        refine lv_iconst (v := nI 4) hx hb dX11_which_14 (by decide) ?_
        refine zi_icmp_ge (tgt := 55) hx hb dX11_which_15 (by decide) (by omega) (by omega) (fun c_15 => absurd c_15 (by decide)) (fun c_15 => ?_)
        refine lv_iload_n hx hb dX11_which_18 rfl (lv_at hl 1 rfl) ?_
        refine lv_aload_n hx hb dX11_which_19 rfl (lv_at hl 2 rfl) ?_
        refine lv_sipush (v := nI 8000) hx hb dX11_which_20 (by decide) ?_
        refine lv_sipush (v := nI 2000) hx hb dX11_which_23 (by decide) ?_
        refine lv_iload_n hx hb dX11_which_26 rfl (lv_at hl 3 rfl) ?_
        refine zi_mul hx hb dX11_which_27 ?_
        refine zi_add hx hb dX11_which_28 ?_
        refine lv_sipush (v := nI 2000) hx hb dX11_which_29 (by decide) ?_
        refine lv_iload_n hx hb dX11_which_32 rfl (lv_at hl 0 rfl) ?_
        refine zi_mul hx hb dX11_which_33 ?_
        refine zc_VE (As := [.int (nI (8000 + (2000 * i))), .int (nI (4000))]) (rest := [.int (nI (3))]) ⟨hx, hb, hml, hown, hts⟩ ((m_match_all l G o qs fs f 17).2 (8000 + 2000 * i) (4000) (((u))) hv (hk 2 (by decide))) (cwV 2 hts (zgV wm_X11_268 wv_X11_filterHolds) rfl rfl rfl (by decide +kernel) ⟨show 30 * 17 + 48 + 1 ≤ 600 by omega, show 8 + (4 + 11) + (900 * 17 + 1200) ≤ 17000 by omega⟩) hK hO rfl hP rfl hl.1 rfl (Nat.le_of_ble_eq_true rfl) dX11_which_34 ⟨Nat.zero_le _, Nat.zero_le _⟩ hS (fun _ h9 => h9) (fun H locs hP hz9 hk9 hS => ?_)
        obtain ⟨hO, hA, hS1, h8, hln, hne9⟩ := id hP
        refine W.eq (g2 := F0 m 37 ls ([.int (nI (nB ((evF f 17).2 (8000 + 2000 * i) (4000)))), .int (nI (3))])) rfl ?_
        refine zb_if_eq (tgt := 46) hx hb dX11_which_37 (by decide) (fun c_37 => ?_) (fun c_37 => ?_)
        · have h_2 := c_37
          refine lv_iconst (v := nI 0) hx hb dX11_which_46 (by decide) ?_
          refine lv_ior hx hb dX11_which_47 ?_
          rw [show nI 3 ||| nI 0 = nI 3 by decide]
          refine W.eq (g2 := F0 m 48 ls ([.int (nI (3))])) rfl ?_
          refine lv_istore_n (lv' := [(2, .int (nI (3))), (3, .int (nI (2))), (0, .ref (o)), (1, .int (nI (i)))]) hx hb dX11_which_48 rfl hl (by decide) rfl (fun ls hl => ?_)
          refine lv_iinc (v := nI (3)) (lv' := [(3, .int (nI (3))), (2, .int (nI (3))), (0, .ref (o)), (1, .int (nI (i)))]) hx hb dX11_which_49 hl (k := 1) rfl (nI_add _ _) (by decide) rfl (fun ls hl => ?_)
          refine lv_goto (tgt := 13) hx hb dX11_which_52 (by decide) ?_
          refine lv_iload_n hx hb dX11_which_13 rfl (lv_at hl 0 rfl) ?_
          refine lv_iconst (v := nI 4) hx hb dX11_which_14 (by decide) ?_
          refine zi_icmp_ge (tgt := 55) hx hb dX11_which_15 (by decide) (by omega) (by omega) (fun c_15 => absurd c_15 (by decide)) (fun c_15 => ?_)
          refine lv_iload_n hx hb dX11_which_18 rfl (lv_at hl 1 rfl) ?_
          refine lv_aload_n hx hb dX11_which_19 rfl (lv_at hl 2 rfl) ?_
          refine lv_sipush (v := nI 8000) hx hb dX11_which_20 (by decide) ?_
          refine lv_sipush (v := nI 2000) hx hb dX11_which_23 (by decide) ?_
          refine lv_iload_n hx hb dX11_which_26 rfl (lv_at hl 3 rfl) ?_
          refine zi_mul hx hb dX11_which_27 ?_
          refine zi_add hx hb dX11_which_28 ?_
          refine lv_sipush (v := nI 2000) hx hb dX11_which_29 (by decide) ?_
          refine lv_iload_n hx hb dX11_which_32 rfl (lv_at hl 0 rfl) ?_
          refine zi_mul hx hb dX11_which_33 ?_
          refine zc_VE (As := [.int (nI (8000 + (2000 * i))), .int (nI (6000))]) (rest := [.int (nI (3))]) ⟨hx, hb, hml, hown, hts⟩ ((m_match_all l G o qs fs f 17).2 (8000 + 2000 * i) (6000) ((((u)))) hv (hk 3 (by decide))) (cwV 2 hts (zgV wm_X11_268 wv_X11_filterHolds) rfl rfl rfl (by decide +kernel) ⟨show 30 * 17 + 48 + 1 ≤ 600 by omega, show 8 + (4 + 11) + (900 * 17 + 1200) ≤ 17000 by omega⟩) hK hO rfl hP rfl hl.1 rfl (Nat.le_of_ble_eq_true rfl) dX11_which_34 ⟨Nat.zero_le _, Nat.zero_le _⟩ hS (fun _ h9 => h9) (fun H locs hP hz9 hk9 hS => ?_)
          obtain ⟨hO, hA, hS1, h8, hln, hne9⟩ := id hP
          refine W.eq (g2 := F0 m 37 ls ([.int (nI (nB ((evF f 17).2 (8000 + 2000 * i) (6000)))), .int (nI (3))])) rfl ?_
          refine zb_if_eq (tgt := 46) hx hb dX11_which_37 (by decide) (fun c_37 => ?_) (fun c_37 => ?_)
          · have h_3 := c_37
            refine lv_iconst (v := nI 0) hx hb dX11_which_46 (by decide) ?_
            refine lv_ior hx hb dX11_which_47 ?_
            rw [show nI 3 ||| nI 0 = nI 3 by decide]
            refine W.eq (g2 := F0 m 48 ls ([.int (nI (3))])) rfl ?_
            refine lv_istore_n (lv' := [(2, .int (nI (3))), (3, .int (nI (3))), (0, .ref (o)), (1, .int (nI (i)))]) hx hb dX11_which_48 rfl hl (by decide) rfl (fun ls hl => ?_)
            refine lv_iinc (v := nI (4)) (lv' := [(3, .int (nI (4))), (2, .int (nI (3))), (0, .ref (o)), (1, .int (nI (i)))]) hx hb dX11_which_49 hl (k := 1) rfl (nI_add _ _) (by decide) rfl (fun ls hl => ?_)
            refine lv_goto (tgt := 13) hx hb dX11_which_52 (by decide) ?_
            refine lv_iload_n hx hb dX11_which_13 rfl (lv_at hl 0 rfl) ?_
            refine lv_iconst (v := nI 4) hx hb dX11_which_14 (by decide) ?_
            refine zi_icmp_ge (tgt := 55) hx hb dX11_which_15 (by decide) (by omega) (by omega) (fun c_15 => ?_) (fun c_15 => absurd c_15 (by decide))
            refine lv_iload_n hx hb dX11_which_55 rfl (lv_at hl 1 rfl) ?_
            exact zr_ie hx hb hr hlocks (by simp only [wB, h_0, h_1, h_2, h_3]; rfl) (hP) hS dX11_which_56
          · have h_3 := c_37
            refine lv_iconst (v := nI 1) hx hb dX11_which_40 (by decide) ?_
            refine lv_iload_n hx hb dX11_which_41 rfl (lv_at hl 0 rfl) ?_
            refine lv_ishl hx hb dX11_which_42 ?_
            rw [show nI 1 <<< (nI 3 &&& 31) = nI 8 by decide]
            refine W.eq (g2 := F0 m 43 ls ([.int (nI (8)), .int (nI (3))])) rfl ?_
            refine lv_goto (tgt := 47) hx hb dX11_which_43 (by decide) ?_
            refine lv_ior hx hb dX11_which_47 ?_
            rw [show nI 3 ||| nI 8 = nI 11 by decide]
            refine W.eq (g2 := F0 m 48 ls ([.int (nI (11))])) rfl ?_
            refine lv_istore_n (lv' := [(2, .int (nI (11))), (3, .int (nI (3))), (0, .ref (o)), (1, .int (nI (i)))]) hx hb dX11_which_48 rfl hl (by decide) rfl (fun ls hl => ?_)
            refine lv_iinc (v := nI (4)) (lv' := [(3, .int (nI (4))), (2, .int (nI (11))), (0, .ref (o)), (1, .int (nI (i)))]) hx hb dX11_which_49 hl (k := 1) rfl (nI_add _ _) (by decide) rfl (fun ls hl => ?_)
            refine lv_goto (tgt := 13) hx hb dX11_which_52 (by decide) ?_
            refine lv_iload_n hx hb dX11_which_13 rfl (lv_at hl 0 rfl) ?_
            refine lv_iconst (v := nI 4) hx hb dX11_which_14 (by decide) ?_
            refine zi_icmp_ge (tgt := 55) hx hb dX11_which_15 (by decide) (by omega) (by omega) (fun c_15 => ?_) (fun c_15 => absurd c_15 (by decide))
            refine lv_iload_n hx hb dX11_which_55 rfl (lv_at hl 1 rfl) ?_
            exact zr_ie hx hb hr hlocks (by simp only [wB, h_0, h_1, h_2, h_3]; rfl) (hP) hS dX11_which_56
        · have h_2 := c_37
          refine lv_iconst (v := nI 1) hx hb dX11_which_40 (by decide) ?_
          refine lv_iload_n hx hb dX11_which_41 rfl (lv_at hl 0 rfl) ?_
          refine lv_ishl hx hb dX11_which_42 ?_
          rw [show nI 1 <<< (nI 2 &&& 31) = nI 4 by decide]
          refine W.eq (g2 := F0 m 43 ls ([.int (nI (4)), .int (nI (3))])) rfl ?_
          refine lv_goto (tgt := 47) hx hb dX11_which_43 (by decide) ?_
          refine lv_ior hx hb dX11_which_47 ?_
          rw [show nI 3 ||| nI 4 = nI 7 by decide]
          refine W.eq (g2 := F0 m 48 ls ([.int (nI (7))])) rfl ?_
          refine lv_istore_n (lv' := [(2, .int (nI (7))), (3, .int (nI (2))), (0, .ref (o)), (1, .int (nI (i)))]) hx hb dX11_which_48 rfl hl (by decide) rfl (fun ls hl => ?_)
          refine lv_iinc (v := nI (3)) (lv' := [(3, .int (nI (3))), (2, .int (nI (7))), (0, .ref (o)), (1, .int (nI (i)))]) hx hb dX11_which_49 hl (k := 1) rfl (nI_add _ _) (by decide) rfl (fun ls hl => ?_)
          refine lv_goto (tgt := 13) hx hb dX11_which_52 (by decide) ?_
          refine lv_iload_n hx hb dX11_which_13 rfl (lv_at hl 0 rfl) ?_
          refine lv_iconst (v := nI 4) hx hb dX11_which_14 (by decide) ?_
          refine zi_icmp_ge (tgt := 55) hx hb dX11_which_15 (by decide) (by omega) (by omega) (fun c_15 => absurd c_15 (by decide)) (fun c_15 => ?_)
          refine lv_iload_n hx hb dX11_which_18 rfl (lv_at hl 1 rfl) ?_
          refine lv_aload_n hx hb dX11_which_19 rfl (lv_at hl 2 rfl) ?_
          refine lv_sipush (v := nI 8000) hx hb dX11_which_20 (by decide) ?_
          refine lv_sipush (v := nI 2000) hx hb dX11_which_23 (by decide) ?_
          refine lv_iload_n hx hb dX11_which_26 rfl (lv_at hl 3 rfl) ?_
          refine zi_mul hx hb dX11_which_27 ?_
          refine zi_add hx hb dX11_which_28 ?_
          refine lv_sipush (v := nI 2000) hx hb dX11_which_29 (by decide) ?_
          refine lv_iload_n hx hb dX11_which_32 rfl (lv_at hl 0 rfl) ?_
          refine zi_mul hx hb dX11_which_33 ?_
          refine zc_VE (As := [.int (nI (8000 + (2000 * i))), .int (nI (6000))]) (rest := [.int (nI (7))]) ⟨hx, hb, hml, hown, hts⟩ ((m_match_all l G o qs fs f 17).2 (8000 + 2000 * i) (6000) ((((u)))) hv (hk 3 (by decide))) (cwV 2 hts (zgV wm_X11_268 wv_X11_filterHolds) rfl rfl rfl (by decide +kernel) ⟨show 30 * 17 + 48 + 1 ≤ 600 by omega, show 8 + (4 + 11) + (900 * 17 + 1200) ≤ 17000 by omega⟩) hK hO rfl hP rfl hl.1 rfl (Nat.le_of_ble_eq_true rfl) dX11_which_34 ⟨Nat.zero_le _, Nat.zero_le _⟩ hS (fun _ h9 => h9) (fun H locs hP hz9 hk9 hS => ?_)
          obtain ⟨hO, hA, hS1, h8, hln, hne9⟩ := id hP
          refine W.eq (g2 := F0 m 37 ls ([.int (nI (nB ((evF f 17).2 (8000 + 2000 * i) (6000)))), .int (nI (7))])) rfl ?_
          refine zb_if_eq (tgt := 46) hx hb dX11_which_37 (by decide) (fun c_37 => ?_) (fun c_37 => ?_)
          · have h_3 := c_37
            refine lv_iconst (v := nI 0) hx hb dX11_which_46 (by decide) ?_
            refine lv_ior hx hb dX11_which_47 ?_
            rw [show nI 7 ||| nI 0 = nI 7 by decide]
            refine W.eq (g2 := F0 m 48 ls ([.int (nI (7))])) rfl ?_
            refine lv_istore_n (lv' := [(2, .int (nI (7))), (3, .int (nI (3))), (0, .ref (o)), (1, .int (nI (i)))]) hx hb dX11_which_48 rfl hl (by decide) rfl (fun ls hl => ?_)
            refine lv_iinc (v := nI (4)) (lv' := [(3, .int (nI (4))), (2, .int (nI (7))), (0, .ref (o)), (1, .int (nI (i)))]) hx hb dX11_which_49 hl (k := 1) rfl (nI_add _ _) (by decide) rfl (fun ls hl => ?_)
            refine lv_goto (tgt := 13) hx hb dX11_which_52 (by decide) ?_
            refine lv_iload_n hx hb dX11_which_13 rfl (lv_at hl 0 rfl) ?_
            refine lv_iconst (v := nI 4) hx hb dX11_which_14 (by decide) ?_
            refine zi_icmp_ge (tgt := 55) hx hb dX11_which_15 (by decide) (by omega) (by omega) (fun c_15 => ?_) (fun c_15 => absurd c_15 (by decide))
            refine lv_iload_n hx hb dX11_which_55 rfl (lv_at hl 1 rfl) ?_
            exact zr_ie hx hb hr hlocks (by simp only [wB, h_0, h_1, h_2, h_3]; rfl) (hP) hS dX11_which_56
          · have h_3 := c_37
            refine lv_iconst (v := nI 1) hx hb dX11_which_40 (by decide) ?_
            refine lv_iload_n hx hb dX11_which_41 rfl (lv_at hl 0 rfl) ?_
            refine lv_ishl hx hb dX11_which_42 ?_
            rw [show nI 1 <<< (nI 3 &&& 31) = nI 8 by decide]
            refine W.eq (g2 := F0 m 43 ls ([.int (nI (8)), .int (nI (7))])) rfl ?_
            refine lv_goto (tgt := 47) hx hb dX11_which_43 (by decide) ?_
            refine lv_ior hx hb dX11_which_47 ?_
            rw [show nI 7 ||| nI 8 = nI 15 by decide]
            refine W.eq (g2 := F0 m 48 ls ([.int (nI (15))])) rfl ?_
            refine lv_istore_n (lv' := [(2, .int (nI (15))), (3, .int (nI (3))), (0, .ref (o)), (1, .int (nI (i)))]) hx hb dX11_which_48 rfl hl (by decide) rfl (fun ls hl => ?_)
            refine lv_iinc (v := nI (4)) (lv' := [(3, .int (nI (4))), (2, .int (nI (15))), (0, .ref (o)), (1, .int (nI (i)))]) hx hb dX11_which_49 hl (k := 1) rfl (nI_add _ _) (by decide) rfl (fun ls hl => ?_)
            refine lv_goto (tgt := 13) hx hb dX11_which_52 (by decide) ?_
            refine lv_iload_n hx hb dX11_which_13 rfl (lv_at hl 0 rfl) ?_
            refine lv_iconst (v := nI 4) hx hb dX11_which_14 (by decide) ?_
            refine zi_icmp_ge (tgt := 55) hx hb dX11_which_15 (by decide) (by omega) (by omega) (fun c_15 => ?_) (fun c_15 => absurd c_15 (by decide))
            refine lv_iload_n hx hb dX11_which_55 rfl (lv_at hl 1 rfl) ?_
            exact zr_ie hx hb hr hlocks (by simp only [wB, h_0, h_1, h_2, h_3]; rfl) (hP) hS dX11_which_56
  · exact absurd (c_4.symm.trans (is4 hi)) (by decide)

set_option maxHeartbeats 4000000 in
set_option maxRecDepth 100000 in
theorem m_which_no (l : Launch) (G : zG) (o qs : Nat) (fs : List Value) (f : Nat → Nat) (x : Int32) (u : Bool) (hx4 : is4i x = false) : Met l yX11_which wsX11_which (rPub) (zP G [.ref (o), .int (x)] (fun H => MM G o qs fs f u H)) (zQ (fun x => x = o) (some (.int (-1))) (fun H => MM G o qs fs f (u) H)) 0 0 (fun x => x = o) := by
  refine Met.ofW (cc := cX11_which) (maxL := 4) (ret := (some .int)) (by decide) rfl ?_
  intro p en s m args below meth c s₁ B hml hv
  obtain ⟨rfl, hP, hK⟩ := hv
  have hx := B.exec
  have hb := B.bytes
  have hr := B.returns
  have hts := atoms_spec (ws := wsX11_which) B.pre
  have hz : ∀ w ∈ zW, w.before _ s = true := fun w h => hts w (List.mem_cons_of_mem _ h)
  have hown : s.vm.findClass RX11 = some m.cls := findClass_of_methodNamed B.named
  have hlocks := B.notSynchronized
  obtain ⟨hO, hA, hS1, h8, hln, hne9⟩ := id hP
  have hS : va_S (fun x => x = o) s.heap s.heap [] := va_S.rf
  have hl := lv_entry ([.ref (o), .int (x)]) (n := 4) (Nat.le_of_ble_eq_true rfl)
  rw [lg_entry_eq]
  generalize (lg_sl ([.ref (o), .int (x)]) ++ List.replicate (4 - (lg_sl ([.ref (o), .int (x)])).length) Slot.unset).toArray = ls at hl ⊢
  have hl : lv_has ls 4 [(0, .ref (o)), (1, .int (x))] := hl
  refine lv_iload_n hx hb dX11_which_0 rfl (lv_at hl 1 rfl) ?_
  refine zc_S (As := [.int (x)]) (rest := []) ⟨hx, hb, hml, hown, hts⟩ (m_isFour l G x) (cwS 1 hts (zgS wm_X11_308 wu_X11_isFour) rfl rfl rfl (by decide +kernel) ⟨show 0 + 1 ≤ 600 by omega, show 8 + (1 + 11) + (0) ≤ 17000 by omega⟩) hK trivial rfl hl.1 rfl (Nat.le_of_ble_eq_true rfl) dX11_which_1 ⟨Nat.zero_le _, Nat.zero_le _⟩ ?_
  refine zb_if_ne (tgt := 9) hx hb dX11_which_4 (by decide) (fun c_4 => ?_) (fun c_4 => ?_)
  · exact absurd (hx4.symm.trans c_4) (by decide)
  · refine lv_iconst (v := (-1)) hx hb dX11_which_7 (by decide) ?_
    exact zr_ie hx hb hr hlocks (rfl) (hP) hS dX11_which_8
