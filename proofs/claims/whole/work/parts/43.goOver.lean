set_option maxHeartbeats 4000000 in
set_option maxRecDepth 100000 in
theorem m_isKind0 (l : Launch) (G : zG) (o : Nat) (fs : List Value) (k : Nat) (hk : k < 2 ^ 31) : Met l yX11_isKind wsX11_isKind ({ frames := 0, cells := 0, slots := 0, locals := 0 }) (zP G [.ref (o), .int (nI (k))] (fun H => zO G H o 10 fs)) (zR (.int (nI (nB (okK k))))) 0 0 (fun _ => False) := by
  refine Met.ofW (cc := cX11_isKind) (maxL := 2) (ret := (some .boolean)) (by decide) rfl ?_
  intro p en s m args below meth c s₁ B hml hv
  obtain ⟨rfl, hP, hK⟩ := hv
  have hx := B.exec
  have hb := B.bytes
  have hr := B.returns
  have hts := atoms_spec (ws := wsX11_isKind) B.pre
  have hz : ∀ w ∈ zW, w.before _ s = true := fun w h => hts w (List.mem_cons_of_mem _ h)
  have hown : s.vm.findClass RX11 = some m.cls := findClass_of_methodNamed B.named
  have hlocks := B.notSynchronized
  have hl := lv_entry ([.ref (o), .int (nI (k))]) (n := 2) (Nat.le_of_ble_eq_true rfl)
  rw [lg_entry_eq]
  generalize (lg_sl ([.ref (o), .int (nI (k))]) ++ List.replicate (2 - (lg_sl ([.ref (o), .int (nI (k))])).length) Slot.unset).toArray = ls at hl ⊢
  have hl : lv_has ls 2 [(0, .ref (o)), (1, .int (nI (k)))] := hl
  refine lv_iload_n hx hb dX11_isKind_0 rfl (lv_at hl 1 rfl) ?_
  refine lv_iconst (v := nI 2) hx hb dX11_isKind_1 (by decide) ?_
  refine zi_icmp_eq (tgt := 39) hx hb dX11_isKind_2 (by decide) (by omega) (by omega) (fun c_2 => ?_) (fun c_2 => ?_)
  · refine lv_iconst (v := nI 1) hx hb dX11_isKind_39 (by decide) ?_
    refine lv_goto (tgt := 44) hx hb dX11_isKind_40 (by decide) ?_
    exact zr_z hx hb hr hlocks (by simp_all [okK, nB]) dX11_isKind_44
  · refine lv_iload_n hx hb dX11_isKind_5 rfl (lv_at hl 1 rfl) ?_
    refine lv_iconst (v := nI 3) hx hb dX11_isKind_6 (by decide) ?_
    refine zi_icmp_eq (tgt := 39) hx hb dX11_isKind_7 (by decide) (by omega) (by omega) (fun c_7 => ?_) (fun c_7 => ?_)
    · refine lv_iconst (v := nI 1) hx hb dX11_isKind_39 (by decide) ?_
      refine lv_goto (tgt := 44) hx hb dX11_isKind_40 (by decide) ?_
      exact zr_z hx hb hr hlocks (by simp_all [okK, nB]) dX11_isKind_44
    · refine lv_iload_n hx hb dX11_isKind_10 rfl (lv_at hl 1 rfl) ?_
      refine lv_iconst (v := nI 4) hx hb dX11_isKind_11 (by decide) ?_
      refine zi_icmp_eq (tgt := 39) hx hb dX11_isKind_12 (by decide) (by omega) (by omega) (fun c_12 => ?_) (fun c_12 => ?_)
      · refine lv_iconst (v := nI 1) hx hb dX11_isKind_39 (by decide) ?_
        refine lv_goto (tgt := 44) hx hb dX11_isKind_40 (by decide) ?_
        exact zr_z hx hb hr hlocks (by simp_all [okK, nB]) dX11_isKind_44
      · refine lv_iload_n hx hb dX11_isKind_15 rfl (lv_at hl 1 rfl) ?_
        refine lv_bipush (v := nI 8) hx hb dX11_isKind_16 (by decide) ?_
        refine zi_icmp_eq (tgt := 39) hx hb dX11_isKind_18 (by decide) (by omega) (by omega) (fun c_18 => ?_) (fun c_18 => ?_)
        · refine lv_iconst (v := nI 1) hx hb dX11_isKind_39 (by decide) ?_
          refine lv_goto (tgt := 44) hx hb dX11_isKind_40 (by decide) ?_
          exact zr_z hx hb hr hlocks (by simp_all [okK, nB]) dX11_isKind_44
        · refine lv_iload_n hx hb dX11_isKind_21 rfl (lv_at hl 1 rfl) ?_
          refine lv_bipush (v := nI 10) hx hb dX11_isKind_22 (by decide) ?_
          refine zi_icmp_eq (tgt := 39) hx hb dX11_isKind_24 (by decide) (by omega) (by omega) (fun c_24 => ?_) (fun c_24 => ?_)
          · refine lv_iconst (v := nI 1) hx hb dX11_isKind_39 (by decide) ?_
            refine lv_goto (tgt := 44) hx hb dX11_isKind_40 (by decide) ?_
            exact zr_z hx hb hr hlocks (by simp_all [okK, nB]) dX11_isKind_44
          · refine lv_iload_n hx hb dX11_isKind_27 rfl (lv_at hl 1 rfl) ?_
            refine lv_bipush (v := nI 16) hx hb dX11_isKind_28 (by decide) ?_
            refine zi_icmp_eq (tgt := 39) hx hb dX11_isKind_30 (by decide) (by omega) (by omega) (fun c_30 => ?_) (fun c_30 => ?_)
            · refine lv_iconst (v := nI 1) hx hb dX11_isKind_39 (by decide) ?_
              refine lv_goto (tgt := 44) hx hb dX11_isKind_40 (by decide) ?_
              exact zr_z hx hb hr hlocks (by simp_all [okK, nB]) dX11_isKind_44
            · refine lv_iload_n hx hb dX11_isKind_33 rfl (lv_at hl 1 rfl) ?_
              refine lv_bipush (v := nI 18) hx hb dX11_isKind_34 (by decide) ?_
              refine zi_icmp_ne (tgt := 43) hx hb dX11_isKind_36 (by decide) (by omega) (by omega) (fun c_36 => ?_) (fun c_36 => ?_)
              · refine lv_iconst (v := nI 0) hx hb dX11_isKind_43 (by decide) ?_
                exact zr_z hx hb hr hlocks (by simp_all [okK, nB]) dX11_isKind_44
              · refine lv_iconst (v := nI 1) hx hb dX11_isKind_39 (by decide) ?_
                refine lv_goto (tgt := 44) hx hb dX11_isKind_40 (by decide) ?_
                exact zr_z hx hb hr hlocks (by simp_all [okK, nB]) dX11_isKind_44

set_option maxHeartbeats 4000000 in
set_option maxRecDepth 100000 in
theorem m_goOver (l : Launch) (G : zG) (o : Nat) (w : Nat → Value) (q : Nat → Nat) (fa nd : Nat) (g pa be nm ed bx mn rw : Nat → Nat) (nb : Nat) (hnb : nb ≤ 2000) (hgb : gB pa bx mn rw) : Met l yX11_goOver wsX11_goOver ({ frames := 5, cells := 0, slots := 0, locals := 129 }) (zP G [.ref (o), .int (nI (nb))] (fun H => MD G o w q fa nd g pa be nm ed bx mn rw H)) (zQ (dAx o q) none (fun H => ∃ (fa1 nd1 : Nat) (pa1 be1 nm1 ed1 bx1 mn1 rw1 : Nat → Nat), MD G o w q fa1 nd1 g pa1 be1 nm1 ed1 bx1 mn1 rw1 H ∧ gB pa1 bx1 mn1 rw1 ∧ fa1 < 100 ∧ (fa1 = 0 ↔ dcG g nb))) 0 0 (dAx o q) := by
  refine Met.ofW (cc := cX11_goOver) (maxL := 5) (ret := none) (by decide) rfl ?_
  intro p en s m args below meth c s₁ B hml hv
  obtain ⟨rfl, hP, hK⟩ := hv
  have hx := B.exec
  have hb := B.bytes
  have hr := B.returns
  have hts := atoms_spec (ws := wsX11_goOver) B.pre
  have hz : ∀ w ∈ zW, w.before _ s = true := fun w h => hts w (List.mem_cons_of_mem _ h)
  have hown : s.vm.findClass RX11 = some m.cls := findClass_of_methodNamed B.named
  have hlocks := B.notSynchronized
  obtain ⟨hO, -, -, -, h8⟩ := id hP
  have hS : va_S (dAx o q) s.heap s.heap [] := va_S.rf
  have L0 : ∀ (fa a9 op nd : Nat) (pa be nm ed bx mn rw : Nat → Nat), fa < 100 → op ≤ 17 → (op = 0 ∨ fa ≠ 0) → gB pa bx mn rw → (fa = 0 ↔ dcG g nb) → ∀ (H : Heap) (locs : List Loc), MD G o w q fa nd g pa be nm ed bx mn rw H → va_S (dAx o q) s.heap H locs → ∀ ls : Array Slot, lv_has ls 5 [(3, .int (nI (a9))), (2, .int (nI (op))), (0, .ref (o))] → W p l en (headSpec wsX11_goOver ({ frames := 5, cells := 0, slots := 0, locals := 129 })).room s m ([.ref (o), .int (nI (nb))] : List Value).toArray below meth c H locs 0 0 (MQ below (zQ (dAx o q) none (fun H => ∃ (fa1 nd1 : Nat) (pa1 be1 nm1 ed1 bx1 mn1 rw1 : Nat → Nat), MD G o w q fa1 nd1 g pa1 be1 nm1 ed1 bx1 mn1 rw1 H ∧ gB pa1 bx1 mn1 rw1 ∧ fa1 < 100 ∧ (fa1 = 0 ↔ dcG g nb))) ([.ref (o), .int (nI (nb))] : List Value).toArray s 0 0 (dAx o q)) (F0 m 30 ls []) := by
    intro fa a9 op nd pa be nm ed bx mn rw hf1 hop1 hor hgb hiff H locs hP hS ls hl
    have hO := hP.1
    have h8 := hP.2.2.2.2
    refine lv_iload_n hx hb dX11_goOver_30 rfl (lv_at hl 1 rfl) ?_
    refine zi_if_le (tgt := 237) hx hb dX11_goOver_31 (by decide) (by omega) (fun c_31 => ?_) (fun c_31 => ?_)
    · exact zr_v hx hb hr hlocks ⟨fa, nd, pa, be, nm, ed, bx, mn, rw, hP, hgb, hf1, hiff⟩ hS dX11_goOver_237
    · refine lv_aload_n hx hb dX11_goOver_34 rfl (lv_at hl 2 rfl) ?_
      refine zi_get (C := RX11) (T := TX11) (N := 23) (v := .int (nI (fa))) hx hb hz wo_X11 hown hK hO rfl 13 (by decide) (hz _ wf_X11_68) (fun _ h9 => h9) rfl dX11_goOver_35 ?_
      refine zi_if_ne (tgt := 237) hx hb dX11_goOver_38 (by decide) (by omega) (fun c_38 => ?_) (fun c_38 => ?_)
      · exact zr_v hx hb hr hlocks ⟨fa, nd, pa, be, nm, ed, bx, mn, rw, hP, hgb, hf1, hiff⟩ hS dX11_goOver_237
      · exact (hor.elim (fun z => by omega) (fun z => absurd c_38 z))
  have L30 : ∀ (F a last op cnt nd : Nat) (row : Bool) (L : List Nat) (pa be nm ed bx mn rw : Nat → Nat), last - a < F → gI g a last op cnt nd row L pa be nm ed bx mn rw → ∀ (H : Heap) (locs : List Loc), MD G o w q 0 nd g pa be nm ed bx mn rw H → va_S (dAx o q) s.heap H locs → (∀ e, pE g F op a last row cnt L = some e → ∀ (nd1 : Nat) (pa1 be1 nm1 ed1 bx1 mn1 rw1 : Nat → Nat), gK e op nd nd1 pa be nm ed bx mn rw pa1 be1 nm1 ed1 bx1 mn1 rw1 → ∀ (H : Heap) (locs : List Loc), MD G o w q 0 nd1 g pa1 be1 nm1 ed1 bx1 mn1 rw1 H → va_S (dAx o q) s.heap H locs → ∀ ls : Array Slot, lv_has ls 5 [(3, .int (nI (e))), (2, .int (nI (op - 1))), (0, .ref (o))] → W p l en (headSpec wsX11_goOver ({ frames := 5, cells := 0, slots := 0, locals := 129 })).room s m ([.ref (o), .int (nI (nb))] : List Value).toArray below meth c H locs 0 0 (MQ below (zQ (dAx o q) none (fun H => ∃ (fa1 nd1 : Nat) (pa1 be1 nm1 ed1 bx1 mn1 rw1 : Nat → Nat), MD G o w q fa1 nd1 g pa1 be1 nm1 ed1 bx1 mn1 rw1 H ∧ gB pa1 bx1 mn1 rw1 ∧ fa1 < 100 ∧ (fa1 = 0 ↔ dcG g nb))) ([.ref (o), .int (nI (nb))] : List Value).toArray s 0 0 (dAx o q)) (F0 m 30 ls [])) → (pE g F op a last row cnt L = none → ∀ (fa a9 op1 nd1 : Nat) (pa1 be1 nm1 ed1 bx1 mn1 rw1 : Nat → Nat), fa ≠ 0 → fa < 100 → op1 ≤ 17 → gB pa1 bx1 mn1 rw1 → ∀ (H : Heap) (locs : List Loc), MD G o w q fa nd1 g pa1 be1 nm1 ed1 bx1 mn1 rw1 H → va_S (dAx o q) s.heap H locs → ∀ ls : Array Slot, lv_has ls 5 [(3, .int (nI (a9))), (2, .int (nI (op1))), (0, .ref (o))] → W p l en (headSpec wsX11_goOver ({ frames := 5, cells := 0, slots := 0, locals := 129 })).room s m ([.ref (o), .int (nI (nb))] : List Value).toArray below meth c H locs 0 0 (MQ below (zQ (dAx o q) none (fun H => ∃ (fa1 nd1 : Nat) (pa1 be1 nm1 ed1 bx1 mn1 rw1 : Nat → Nat), MD G o w q fa1 nd1 g pa1 be1 nm1 ed1 bx1 mn1 rw1 H ∧ gB pa1 bx1 mn1 rw1 ∧ fa1 < 100 ∧ (fa1 = 0 ↔ dcG g nb))) ([.ref (o), .int (nI (nb))] : List Value).toArray s 0 0 (dAx o q)) (F0 m 30 ls [])) → ∀ ls : Array Slot, lv_has ls 5 [(3, .int (nI (a))), (2, .int (nI (op))), (0, .ref (o))] → W p l en (headSpec wsX11_goOver ({ frames := 5, cells := 0, slots := 0, locals := 129 })).room s m ([.ref (o), .int (nI (nb))] : List Value).toArray below meth c H locs 0 0 (MQ below (zQ (dAx o q) none (fun H => ∃ (fa1 nd1 : Nat) (pa1 be1 nm1 ed1 bx1 mn1 rw1 : Nat → Nat), MD G o w q fa1 nd1 g pa1 be1 nm1 ed1 bx1 mn1 rw1 H ∧ gB pa1 bx1 mn1 rw1 ∧ fa1 < 100 ∧ (fa1 = 0 ↔ dcG g nb))) ([.ref (o), .int (nI (nb))] : List Value).toArray s 0 0 (dAx o q)) (F0 m 30 ls []) := by
    intro F
    induction F with
    | zero => intro a last op cnt nd row L pa be nm ed bx mn rw hm_; exact absurd hm_ (Nat.not_lt_zero _)
    | succ F ih_ =>
      intro a last op cnt nd row L pa be nm ed bx mn rw hm_ hI H locs hP hS Ks Kn ls hl
      obtain ⟨hop, hop2, hal, hlast, hn1, hn2, hed, hrw9, hmn9, hcn, hbx9, hnd, hpk, hgb, htp⟩ := id hI
      have htE := tE_gt g a last
      have hO := hP.1
      have h8 := hP.2.2.2.2
      refine lv_iload_n hx hb dX11_goOver_30 rfl (lv_at hl 1 rfl) ?_
      refine zi_if_le (tgt := 237) hx hb dX11_goOver_31 (by decide) (by omega) (fun c_31 => ?_) (fun c_31 => ?_)
      · exfalso; omega
      · refine lv_aload_n hx hb dX11_goOver_34 rfl (lv_at hl 2 rfl) ?_
        refine zi_get (C := RX11) (T := TX11) (N := 23) (v := .int (nI (0))) hx hb hz wo_X11 hown hK hO rfl 13 (by decide) (hz _ wf_X11_68) (fun _ h9 => h9) rfl dX11_goOver_35 ?_
        refine zi_if_ne (tgt := 237) hx hb dX11_goOver_38 (by decide) (by decide) (fun c_38 => absurd c_38 (by decide)) (fun c_38 => ?_)
        refine lv_aload_n hx hb dX11_goOver_41 rfl (lv_at hl 2 rfl) ?_
        refine zi_get (C := RX11) (T := TX11) (N := 23) (v := .ref (q 18)) hx hb hz wo_X11 hown hK hO rfl 18 (by decide) (hz _ wf_X11_38) (fun _ h9 => h9) rfl dX11_goOver_42 ?_
        refine lv_iload_n hx hb dX11_goOver_45 rfl (lv_at hl 1 rfl) ?_
        refine lv_iconst (v := nI 1) hx hb dX11_goOver_46 (by decide) ?_
        refine zi_sub hx hb (by omega) dX11_goOver_47 ?_
        refine zi_ald hx hb hK hP.a18 (by omega) (by decide) dX11_goOver_48 ?_
        refine lv_iconst (v := nI 1) hx hb dX11_goOver_49 (by decide) ?_
        refine zi_sub hx hb (by omega) dX11_goOver_50 ?_
        have hla : ed (op - 1) - 1 = last := by omega
        rw [hla]
        refine lv_istore (lv' := [(4, .int (nI (last))), (3, .int (nI (a))), (2, .int (nI (op))), (0, .ref (o))]) hx hb dX11_goOver_51 hl (by decide) rfl (fun ls hl => ?_)
        refine lv_iload_n hx hb dX11_goOver_53 rfl (lv_at hl 1 rfl) ?_
        refine lv_iload hx hb dX11_goOver_54 (lv_at hl 0 rfl) ?_
        refine zi_icmp_ne (tgt := 83) hx hb dX11_goOver_56 (by decide) (by omega) (by omega) (fun c_56 => ?_) (fun c_56 => ?_)
        · refine lv_aload_n hx hb dX11_goOver_83 rfl (lv_at hl 3 rfl) ?_
          refine zi_get (C := RX11) (T := TX11) (N := 23) (v := .ref (q 12)) hx hb hz wo_X11 hown hK hO rfl 12 (by decide) (hz _ wf_X11_26) (fun _ h9 => h9) rfl dX11_goOver_84 ?_
          refine lv_iload_n hx hb dX11_goOver_87 rfl (lv_at hl 1 rfl) ?_
          refine zi_ald hx hb hK hP.a12 (by omega) (by decide) dX11_goOver_88 ?_
          refine zi_if_ne (tgt := 101) hx hb dX11_goOver_89 (by decide) (Nat.lt_trans (h8 _) (by decide)) (fun c_89 => ?_) (fun c_89 => ?_)
          · refine lv_aload_n hx hb dX11_goOver_101 rfl (lv_at hl 3 rfl) ?_
            refine lv_aload_n hx hb dX11_goOver_102 rfl (lv_at hl 3 rfl) ?_
            refine zi_get (C := RX11) (T := TX11) (N := 23) (v := .ref (q 12)) hx hb hz wo_X11 hown hK hO rfl 12 (by decide) (hz _ wf_X11_26) (fun _ h9 => h9) rfl dX11_goOver_103 ?_
            refine lv_iload_n hx hb dX11_goOver_106 rfl (lv_at hl 1 rfl) ?_
            refine zi_ald hx hb hK hP.a12 (by omega) (by decide) dX11_goOver_107 ?_
            refine zc_V (As := [.int (nI (g a))]) (rest := []) ⟨hx, hb, hml, hown, hts⟩ (m_isKind0 l G o (dF w q 0 nd) (g a) (Nat.lt_trans (h8 _) (by decide))) (cwV 1 hts (zgV wm_X11_88 wv_X11_isKind) rfl rfl rfl (by decide +kernel) ⟨Nat.le_of_ble_eq_true rfl, Nat.le_of_ble_eq_true rfl⟩) hK hO rfl hP.1 rfl hl.1 rfl (Nat.le_of_ble_eq_true rfl) dX11_goOver_108 ⟨Nat.zero_le _, Nat.zero_le _⟩ ?_
            refine zb_if_ne (tgt := 123) hx hb dX11_goOver_111 (by decide) (fun c_111 => ?_) (fun c_111 => ?_)
            · refine lv_aload_n hx hb dX11_goOver_123 rfl (lv_at hl 3 rfl) ?_
              refine lv_iload_n hx hb dX11_goOver_124 rfl (lv_at hl 1 rfl) ?_
              refine lv_iload hx hb dX11_goOver_125 (lv_at hl 0 rfl) ?_
              refine lv_iload_n hx hb dX11_goOver_127 rfl (lv_at hl 2 rfl) ?_
              by_cases hg : elG g pa be nm bx mn rw nd a last op
              · have hgt : gE g row cnt a last L = true := by unfold gE; rw [c_111, decide_eq_true hg.1, decide_eq_true hg.2.1, ← nmO_eq hI.2.2.2.2.2.2.2.2.2.2.2.2.2.2 hI.2.2.2.2.1 hI.2.2.2.2.2.2.2.1 hI.2.2.2.2.2.2.2.2.1, hg.2.2]; rfl
                refine zc_VE (As := [.int (nI (a)), .int (nI (last)), .int (nI (op))]) (rest := []) ⟨hx, hb, hml, hown, hts⟩ (m_element_y l G o w q 0 nd g pa be nm ed bx mn rw a last op (by omega) (by omega) hop hop2 ⟨by omega, by omega⟩ hnd hgb.1 hgb.2.1 hgb.2.2.1 hgb.2.2.2 hg) (cwV 3 hts (zgV wm_X11_92 wv_X11_element) rfl rfl rfl (by decide +kernel) ⟨Nat.le_of_ble_eq_true rfl, Nat.le_of_ble_eq_true rfl⟩) hK hO rfl hP rfl hl.1 rfl (Nat.le_of_ble_eq_true rfl) dX11_goOver_128 ⟨Nat.zero_le _, Nat.zero_le _⟩ hS (fun _ h9 => h9) (fun H locs hP hz9 hk9 hS => ?_)
                obtain ⟨hO, -, -, -, h8⟩ := id hP
                refine W.eq (g2 := F0 m 131 ls ([.int (nI (vaR g (g a) (tE g a last + 1) last))])) rfl ?_
                refine lv_istore_n (lv' := [(3, .int (nI (vaR g (g a) (tE g a last + 1) last))), (4, .int (nI (last))), (2, .int (nI (op))), (0, .ref (o))]) hx hb dX11_goOver_131 rfl hl (by decide) rfl (fun ls hl => ?_)
                refine lv_aload_n hx hb dX11_goOver_132 rfl (lv_at hl 3 rfl) ?_
                refine zi_get (C := RX11) (T := TX11) (N := 23) (v := .int (nI (vaF g (g a) (tE g a last + 1) last))) hx hb hz wo_X11 hown hK hO rfl 13 (by decide) (hz _ wf_X11_68) (fun _ h9 => h9) rfl dX11_goOver_133 ?_
                refine zi_if_ne (tgt := 234) hx hb dX11_goOver_136 (by decide) (Nat.lt_trans (vaF_lt _ _ _ _) (by decide)) (fun c_136 => ?_) (fun c_136 => ?_)
                · refine lv_goto (tgt := 30) hx hb dX11_goOver_234 (by decide) ?_
                  have h34 : ¬ (g a = 3 ∨ g a = 4) := fun z => c_136 (vaF_b z)
                  exact Kn (pE_vN c_56 hgt h34 c_136) (vaF g (g a) (tE g a last + 1) last) (vaR g (g a) (tE g a last + 1) last) op (nd + 1) (upN pa nd (bx (op - 1))) (upN be nd a) (upN nm nd (tE g a last)) ed bx (upN mn (op - 1) (mn (op - 1) + 1)) rw c_136 (vaF_lt _ _ _ _) (by omega) (hgb.up (hgb.2.1 _) (by have := hgb.2.2.1 (op - 1); omega)) H locs hP hS ls (lv_sub hl [0, 2, 3] rfl)
                · rw [c_136] at hP
                  have hvr := vaR_le (g := g) (k := g a) (a := tE g a last + 1) (last := last) (by have := hg.1; omega) c_136
                  have hbn : upN be nd a (nd + 1 - 1) = a := upN_self be nd a
                  refine lv_aload_n hx hb dX11_goOver_139 rfl (lv_at hl 3 rfl) ?_
                  refine zi_get (C := RX11) (T := TX11) (N := 23) (v := .ref (q 12)) hx hb hz wo_X11 hown hK hO rfl 12 (by decide) (hz _ wf_X11_26) (fun _ h9 => h9) rfl dX11_goOver_140 ?_
                  refine lv_aload_n hx hb dX11_goOver_143 rfl (lv_at hl 3 rfl) ?_
                  refine zi_get (C := RX11) (T := TX11) (N := 23) (v := .ref (q 16)) hx hb hz wo_X11 hown hK hO rfl 16 (by decide) (hz _ wf_X11_32) (fun _ h9 => h9) rfl dX11_goOver_144 ?_
                  refine lv_aload_n hx hb dX11_goOver_147 rfl (lv_at hl 3 rfl) ?_
                  refine zi_get (C := RX11) (T := TX11) (N := 23) (v := .int (nI (nd + 1))) hx hb hz wo_X11 hown hK hO rfl 14 (by decide) (hz _ wf_X11_81) (fun _ h9 => h9) rfl dX11_goOver_148 ?_
                  refine lv_iconst (v := nI 1) hx hb dX11_goOver_151 (by decide) ?_
                  refine zi_sub hx hb (by omega) dX11_goOver_152 ?_
                  refine zi_ald hx hb hK hP.a16 (by omega) (by decide) dX11_goOver_153 ?_
                  rw [hbn]
                  refine zi_ald hx hb hK hP.a12 (by omega) (by decide) dX11_goOver_154 ?_
                  refine lv_iconst (v := nI 3) hx hb dX11_goOver_155 (by decide) ?_
                  refine zi_icmp_eq (tgt := 179) hx hb dX11_goOver_156 (by decide) (Nat.lt_trans (h8 _) (by decide)) (by omega) (fun c_156 => ?_) (fun c_156 => ?_)
                  · refine lv_aload_n hx hb dX11_goOver_179 rfl (lv_at hl 3 rfl) ?_
                    refine lv_iload_n hx hb dX11_goOver_180 rfl (lv_at hl 0 rfl) ?_
                    refine lv_iload hx hb dX11_goOver_181 (lv_at hl 1 rfl) ?_
                    refine lv_iload_n hx hb dX11_goOver_183 rfl (lv_at hl 0 rfl) ?_
                    refine zi_sub hx hb (by omega) dX11_goOver_184 ?_
                    refine lv_iload_n hx hb dX11_goOver_185 rfl (lv_at hl 2 rfl) ?_
                    refine lv_aload_n hx hb dX11_goOver_186 rfl (lv_at hl 3 rfl) ?_
                    refine zi_get (C := RX11) (T := TX11) (N := 23) (v := .int (nI (nd + 1))) hx hb hz wo_X11 hown hK hO rfl 14 (by decide) (hz _ wf_X11_81) (fun _ h9 => h9) rfl dX11_goOver_187 ?_
                    refine lv_iconst (v := nI 1) hx hb dX11_goOver_190 (by decide) ?_
                    refine zi_sub hx hb (by omega) dX11_goOver_191 ?_
                    refine lv_aload_n hx hb dX11_goOver_192 rfl (lv_at hl 3 rfl) ?_
                    refine zi_get (C := RX11) (T := TX11) (N := 23) (v := .ref (q 12)) hx hb hz wo_X11 hown hK hO rfl 12 (by decide) (hz _ wf_X11_26) (fun _ h9 => h9) rfl dX11_goOver_193 ?_
                    refine lv_aload_n hx hb dX11_goOver_196 rfl (lv_at hl 3 rfl) ?_
                    refine zi_get (C := RX11) (T := TX11) (N := 23) (v := .ref (q 16)) hx hb hz wo_X11 hown hK hO rfl 16 (by decide) (hz _ wf_X11_32) (fun _ h9 => h9) rfl dX11_goOver_197 ?_
                    refine lv_aload_n hx hb dX11_goOver_200 rfl (lv_at hl 3 rfl) ?_
                    refine zi_get (C := RX11) (T := TX11) (N := 23) (v := .int (nI (nd + 1))) hx hb hz wo_X11 hown hK hO rfl 14 (by decide) (hz _ wf_X11_81) (fun _ h9 => h9) rfl dX11_goOver_201 ?_
                    refine lv_iconst (v := nI 1) hx hb dX11_goOver_204 (by decide) ?_
                    refine zi_sub hx hb (by omega) dX11_goOver_205 ?_
                    refine zi_ald hx hb hK hP.a16 (by omega) (by decide) dX11_goOver_206 ?_
                    rw [hbn]
                    refine zi_ald hx hb hK hP.a12 (by omega) (by decide) dX11_goOver_207 ?_
                    refine lv_iconst (v := nI 4) hx hb dX11_goOver_208 (by decide) ?_
                    refine zi_icmp_ne (tgt := 216) hx hb dX11_goOver_209 (by decide) (Nat.lt_trans (h8 _) (by decide)) (by omega) (fun c_209 => ?_) (fun c_209 => ?_)
                    · refine lv_iconst (v := nI 0) hx hb dX11_goOver_216 (by decide) ?_
                      rw [show nI 0 = nI (nB (decide (g a = 4))) by rw [decide_eq_false c_209]; rfl]
                      refine zc_VE (As := [.int (nI (vaR g (g a) (tE g a last + 1) last)), .int (nI (last - (vaR g (g a) (tE g a last + 1) last))), .int (nI (op)), .int (nI (nd + 1 - 1)), .int (nI (nB (decide (g a = 4))))]) (rest := []) ⟨hx, hb, hml, hown, hts⟩ (m_opens l G o w q 0 (nd + 1) g (upN pa nd (bx (op - 1))) (upN be nd a) (upN nm nd (tE g a last)) ed bx (upN mn (op - 1) (mn (op - 1) + 1)) rw (vaR g (g a) (tE g a last + 1) last) (last - (vaR g (g a) (tE g a last + 1) last)) op (nd + 1 - 1) (decide (g a = 4)) (by omega) hop2 (by omega)) (cwV 5 hts (zgV wm_X11_84 wv_X11_opens) rfl rfl rfl (by decide +kernel) ⟨Nat.le_of_ble_eq_true rfl, Nat.le_of_ble_eq_true rfl⟩) hK hO rfl hP rfl hl.1 rfl (Nat.le_of_ble_eq_true rfl) dX11_goOver_217 ⟨Nat.zero_le _, Nat.zero_le _⟩ hS (fun _ h9 => h9) (fun H locs hP hz9 hk9 hS => ?_)
                      obtain ⟨hO, -, -, -, h8⟩ := id hP
                      refine W.eq (g2 := F0 m 220 ls ([.int (nI (nB (decide (opF g (vaR g (g a) (tE g a last + 1) last) (last - (vaR g (g a) (tE g a last + 1) last)) op = 0))))])) rfl ?_
                      refine zb_if_eq (tgt := 229) hx hb dX11_goOver_220 (by decide) (fun c_220 => ?_) (fun c_220 => ?_)
                      · refine lv_iload_n hx hb dX11_goOver_229 rfl (lv_at hl 2 rfl) ?_
                        refine lv_istore_n (lv' := [(2, .int (nI (op))), (3, .int (nI (vaR g (g a) (tE g a last + 1) last))), (4, .int (nI (last))), (0, .ref (o))]) hx hb dX11_goOver_230 rfl hl (by decide) rfl (fun ls hl => ?_)
                        refine lv_iinc (v := nI (vaR g (g a) (tE g a last + 1) last + 4)) (lv' := [(3, .int (nI (vaR g (g a) (tE g a last + 1) last + 4))), (2, .int (nI (op))), (4, .int (nI (last))), (0, .ref (o))]) hx hb dX11_goOver_231 hl (k := 1) rfl (nI_add _ _) (by decide) rfl (fun ls hl => ?_)
                        refine lv_goto (tgt := 30) hx hb dX11_goOver_234 (by decide) ?_
                        have h34 : g a = 3 ∨ g a = 4 := Or.inl c_156
                        have hvb : vaR g (g a) (tE g a last + 1) last = tE g a last + 1 := vaR_b h34
                        have h0 : opF g (vaR g (g a) (tE g a last + 1) last) (last - vaR g (g a) (tE g a last + 1) last) op ≠ 0 := of_decide_eq_false c_220
                        have hP : MD G o w q (opF g (vaR g (g a) (tE g a last + 1) last) (last - vaR g (g a) (tE g a last + 1) last) op) (nd + 1) g (upN pa nd (bx (op - 1))) (upN be nd a) (upN nm nd (tE g a last)) ed bx (upN mn (op - 1) (mn (op - 1) + 1)) rw H := by rw [if_neg h0, if_neg h0, if_neg h0, if_neg h0] at hP; exact hP
                        exact Kn (pE_bN c_56 hgt h34 (by rw [hvb] at h0; exact h0)) (opF g (vaR g (g a) (tE g a last + 1) last) (last - vaR g (g a) (tE g a last + 1) last) op) (vaR g (g a) (tE g a last + 1) last + 4) op (nd + 1) (upN pa nd (bx (op - 1))) (upN be nd a) (upN nm nd (tE g a last)) ed bx (upN mn (op - 1) (mn (op - 1) + 1)) rw h0 (opF_lt _ _ _ _) (by omega) (hgb.up (hgb.2.1 _) (by have := hgb.2.2.1 (op - 1); omega)) H locs hP hS ls (lv_sub hl [0, 1, 3] rfl)
                      · refine lv_iload_n hx hb dX11_goOver_223 rfl (lv_at hl 2 rfl) ?_
                        refine lv_iconst (v := nI 1) hx hb dX11_goOver_224 (by decide) ?_
                        refine zi_add hx hb dX11_goOver_225 ?_
                        refine lv_goto (tgt := 230) hx hb dX11_goOver_226 (by decide) ?_
                        refine lv_istore_n (lv' := [(2, .int (nI (op + 1))), (3, .int (nI (vaR g (g a) (tE g a last + 1) last))), (4, .int (nI (last))), (0, .ref (o))]) hx hb dX11_goOver_230 rfl hl (by decide) rfl (fun ls hl => ?_)
                        refine lv_iinc (v := nI (vaR g (g a) (tE g a last + 1) last + 4)) (lv' := [(3, .int (nI (vaR g (g a) (tE g a last + 1) last + 4))), (2, .int (nI (op + 1))), (4, .int (nI (last))), (0, .ref (o))]) hx hb dX11_goOver_231 hl (k := 1) rfl (nI_add _ _) (by decide) rfl (fun ls hl => ?_)
                        refine lv_goto (tgt := 30) hx hb dX11_goOver_234 (by decide) ?_
                        have h34 : g a = 3 ∨ g a = 4 := Or.inl c_156
                        have hvb : vaR g (g a) (tE g a last + 1) last = tE g a last + 1 := vaR_b h34
                        have h0 : opF g (vaR g (g a) (tE g a last + 1) last) (last - vaR g (g a) (tE g a last + 1) last) op = 0 := of_decide_eq_true c_220
                        rw [if_pos h0, if_pos h0, if_pos h0, if_pos h0, h0] at hP
                        rw [hvb] at h0 hP
                        have h1 := opF_0 h0
                        rw [show tE g a last + 1 + wh g (tE g a last + 1) = (tE g a last + 1 + wh g (tE g a last + 1) - 1) + 1 by omega] at hP
                        have hN := hI.next (a1 := tE g a last + 1) hg.1 (by omega) (by omega)
                        have hN2 := hN.inside (b := tE g a last + 1 + wh g (tE g a last + 1) - 1) (rb := (decide (g a = 4))) (by omega) h1.2.2.2.1 (by omega) (by omega)
                        refine ih_ (tE g a last + 1 + 4) (tE g a last + 1 + wh g (tE g a last + 1) - 1) (op + 1) 0 (nd + 1) (decide (g a = 4)) [] (upN pa nd (bx (op - 1))) (upN be nd a) (upN nm nd (tE g a last)) (upN ed op (tE g a last + 1 + wh g (tE g a last + 1) - 1 + 1)) (upN bx op (nd + 1 - 1)) (upN (upN mn (op - 1) (mn (op - 1) + 1)) op 0) (upN rw op (nB (decide (g a = 4)))) (by omega) hN2 H locs hP hS ?_ ?_ ls (by rw [hvb] at hl; exact lv_sub hl [0, 1, 3] rfl)
                        · intro e he nd1 pa1 be1 nm1 ed1 bx1 mn1 rw1 hk H locs hP hS ls hl
                          have hee := pE_e he
                          have hN3 := hN.back (by omega) (by omega) hk (by omega)
                          refine ih_ e last op (cnt + 1) nd1 row (a :: L) pa1 be1 nm1 ed1 bx1 mn1 rw1 (by omega) hN3 H locs hP hS ?_ ?_ ls hl
                          · intro e2 he2 nd2 pa2 be2 nm2 ed2 bx2 mn2 rw2 hk2 H locs hP hS ls hl
                            exact Ks e2 ((pE_b c_56 hgt h34 h0 he).trans he2) nd2 pa2 be2 nm2 ed2 bx2 mn2 rw2 (hI.after hg.1 (hN.over (by omega) (by omega) hk hk2)) H locs hP hS ls hl
                          · intro he2
                            exact Kn ((pE_b c_56 hgt h34 h0 he).trans he2)
                        · intro he
                          exact Kn (pE_bI c_56 hgt h34 h0 he)
                    · refine lv_iconst (v := nI 1) hx hb dX11_goOver_212 (by decide) ?_
                      refine lv_goto (tgt := 217) hx hb dX11_goOver_213 (by decide) ?_
                      rw [show nI 1 = nI (nB (decide (g a = 4))) by rw [decide_eq_true c_209]; rfl]
                      refine zc_VE (As := [.int (nI (vaR g (g a) (tE g a last + 1) last)), .int (nI (last - (vaR g (g a) (tE g a last + 1) last))), .int (nI (op)), .int (nI (nd + 1 - 1)), .int (nI (nB (decide (g a = 4))))]) (rest := []) ⟨hx, hb, hml, hown, hts⟩ (m_opens l G o w q 0 (nd + 1) g (upN pa nd (bx (op - 1))) (upN be nd a) (upN nm nd (tE g a last)) ed bx (upN mn (op - 1) (mn (op - 1) + 1)) rw (vaR g (g a) (tE g a last + 1) last) (last - (vaR g (g a) (tE g a last + 1) last)) op (nd + 1 - 1) (decide (g a = 4)) (by omega) hop2 (by omega)) (cwV 5 hts (zgV wm_X11_84 wv_X11_opens) rfl rfl rfl (by decide +kernel) ⟨Nat.le_of_ble_eq_true rfl, Nat.le_of_ble_eq_true rfl⟩) hK hO rfl hP rfl hl.1 rfl (Nat.le_of_ble_eq_true rfl) dX11_goOver_217 ⟨Nat.zero_le _, Nat.zero_le _⟩ hS (fun _ h9 => h9) (fun H locs hP hz9 hk9 hS => ?_)
                      obtain ⟨hO, -, -, -, h8⟩ := id hP
                      refine W.eq (g2 := F0 m 220 ls ([.int (nI (nB (decide (opF g (vaR g (g a) (tE g a last + 1) last) (last - (vaR g (g a) (tE g a last + 1) last)) op = 0))))])) rfl ?_
                      refine zb_if_eq (tgt := 229) hx hb dX11_goOver_220 (by decide) (fun c_220 => ?_) (fun c_220 => ?_)
                      · refine lv_iload_n hx hb dX11_goOver_229 rfl (lv_at hl 2 rfl) ?_
                        refine lv_istore_n (lv' := [(2, .int (nI (op))), (3, .int (nI (vaR g (g a) (tE g a last + 1) last))), (4, .int (nI (last))), (0, .ref (o))]) hx hb dX11_goOver_230 rfl hl (by decide) rfl (fun ls hl => ?_)
                        refine lv_iinc (v := nI (vaR g (g a) (tE g a last + 1) last + 4)) (lv' := [(3, .int (nI (vaR g (g a) (tE g a last + 1) last + 4))), (2, .int (nI (op))), (4, .int (nI (last))), (0, .ref (o))]) hx hb dX11_goOver_231 hl (k := 1) rfl (nI_add _ _) (by decide) rfl (fun ls hl => ?_)
                        refine lv_goto (tgt := 30) hx hb dX11_goOver_234 (by decide) ?_
                        have h34 : g a = 3 ∨ g a = 4 := Or.inl c_156
                        have hvb : vaR g (g a) (tE g a last + 1) last = tE g a last + 1 := vaR_b h34
                        have h0 : opF g (vaR g (g a) (tE g a last + 1) last) (last - vaR g (g a) (tE g a last + 1) last) op ≠ 0 := of_decide_eq_false c_220
                        have hP : MD G o w q (opF g (vaR g (g a) (tE g a last + 1) last) (last - vaR g (g a) (tE g a last + 1) last) op) (nd + 1) g (upN pa nd (bx (op - 1))) (upN be nd a) (upN nm nd (tE g a last)) ed bx (upN mn (op - 1) (mn (op - 1) + 1)) rw H := by rw [if_neg h0, if_neg h0, if_neg h0, if_neg h0] at hP; exact hP
                        exact Kn (pE_bN c_56 hgt h34 (by rw [hvb] at h0; exact h0)) (opF g (vaR g (g a) (tE g a last + 1) last) (last - vaR g (g a) (tE g a last + 1) last) op) (vaR g (g a) (tE g a last + 1) last + 4) op (nd + 1) (upN pa nd (bx (op - 1))) (upN be nd a) (upN nm nd (tE g a last)) ed bx (upN mn (op - 1) (mn (op - 1) + 1)) rw h0 (opF_lt _ _ _ _) (by omega) (hgb.up (hgb.2.1 _) (by have := hgb.2.2.1 (op - 1); omega)) H locs hP hS ls (lv_sub hl [0, 1, 3] rfl)
                      · refine lv_iload_n hx hb dX11_goOver_223 rfl (lv_at hl 2 rfl) ?_
                        refine lv_iconst (v := nI 1) hx hb dX11_goOver_224 (by decide) ?_
                        refine zi_add hx hb dX11_goOver_225 ?_
                        refine lv_goto (tgt := 230) hx hb dX11_goOver_226 (by decide) ?_
                        refine lv_istore_n (lv' := [(2, .int (nI (op + 1))), (3, .int (nI (vaR g (g a) (tE g a last + 1) last))), (4, .int (nI (last))), (0, .ref (o))]) hx hb dX11_goOver_230 rfl hl (by decide) rfl (fun ls hl => ?_)
                        refine lv_iinc (v := nI (vaR g (g a) (tE g a last + 1) last + 4)) (lv' := [(3, .int (nI (vaR g (g a) (tE g a last + 1) last + 4))), (2, .int (nI (op + 1))), (4, .int (nI (last))), (0, .ref (o))]) hx hb dX11_goOver_231 hl (k := 1) rfl (nI_add _ _) (by decide) rfl (fun ls hl => ?_)
                        refine lv_goto (tgt := 30) hx hb dX11_goOver_234 (by decide) ?_
                        have h34 : g a = 3 ∨ g a = 4 := Or.inl c_156
                        have hvb : vaR g (g a) (tE g a last + 1) last = tE g a last + 1 := vaR_b h34
                        have h0 : opF g (vaR g (g a) (tE g a last + 1) last) (last - vaR g (g a) (tE g a last + 1) last) op = 0 := of_decide_eq_true c_220
                        rw [if_pos h0, if_pos h0, if_pos h0, if_pos h0, h0] at hP
                        rw [hvb] at h0 hP
                        have h1 := opF_0 h0
                        rw [show tE g a last + 1 + wh g (tE g a last + 1) = (tE g a last + 1 + wh g (tE g a last + 1) - 1) + 1 by omega] at hP
                        have hN := hI.next (a1 := tE g a last + 1) hg.1 (by omega) (by omega)
                        have hN2 := hN.inside (b := tE g a last + 1 + wh g (tE g a last + 1) - 1) (rb := (decide (g a = 4))) (by omega) h1.2.2.2.1 (by omega) (by omega)
                        refine ih_ (tE g a last + 1 + 4) (tE g a last + 1 + wh g (tE g a last + 1) - 1) (op + 1) 0 (nd + 1) (decide (g a = 4)) [] (upN pa nd (bx (op - 1))) (upN be nd a) (upN nm nd (tE g a last)) (upN ed op (tE g a last + 1 + wh g (tE g a last + 1) - 1 + 1)) (upN bx op (nd + 1 - 1)) (upN (upN mn (op - 1) (mn (op - 1) + 1)) op 0) (upN rw op (nB (decide (g a = 4)))) (by omega) hN2 H locs hP hS ?_ ?_ ls (by rw [hvb] at hl; exact lv_sub hl [0, 1, 3] rfl)
                        · intro e he nd1 pa1 be1 nm1 ed1 bx1 mn1 rw1 hk H locs hP hS ls hl
                          have hee := pE_e he
                          have hN3 := hN.back (by omega) (by omega) hk (by omega)
                          refine ih_ e last op (cnt + 1) nd1 row (a :: L) pa1 be1 nm1 ed1 bx1 mn1 rw1 (by omega) hN3 H locs hP hS ?_ ?_ ls hl
                          · intro e2 he2 nd2 pa2 be2 nm2 ed2 bx2 mn2 rw2 hk2 H locs hP hS ls hl
                            exact Ks e2 ((pE_b c_56 hgt h34 h0 he).trans he2) nd2 pa2 be2 nm2 ed2 bx2 mn2 rw2 (hI.after hg.1 (hN.over (by omega) (by omega) hk hk2)) H locs hP hS ls hl
                          · intro he2
                            exact Kn ((pE_b c_56 hgt h34 h0 he).trans he2)
                        · intro he
                          exact Kn (pE_bI c_56 hgt h34 h0 he)
                  · refine lv_aload_n hx hb dX11_goOver_159 rfl (lv_at hl 3 rfl) ?_
                    refine zi_get (C := RX11) (T := TX11) (N := 23) (v := .ref (q 12)) hx hb hz wo_X11 hown hK hO rfl 12 (by decide) (hz _ wf_X11_26) (fun _ h9 => h9) rfl dX11_goOver_160 ?_
                    refine lv_aload_n hx hb dX11_goOver_163 rfl (lv_at hl 3 rfl) ?_
                    refine zi_get (C := RX11) (T := TX11) (N := 23) (v := .ref (q 16)) hx hb hz wo_X11 hown hK hO rfl 16 (by decide) (hz _ wf_X11_32) (fun _ h9 => h9) rfl dX11_goOver_164 ?_
                    refine lv_aload_n hx hb dX11_goOver_167 rfl (lv_at hl 3 rfl) ?_
                    refine zi_get (C := RX11) (T := TX11) (N := 23) (v := .int (nI (nd + 1))) hx hb hz wo_X11 hown hK hO rfl 14 (by decide) (hz _ wf_X11_81) (fun _ h9 => h9) rfl dX11_goOver_168 ?_
                    refine lv_iconst (v := nI 1) hx hb dX11_goOver_171 (by decide) ?_
                    refine zi_sub hx hb (by omega) dX11_goOver_172 ?_
                    refine zi_ald hx hb hK hP.a16 (by omega) (by decide) dX11_goOver_173 ?_
                    rw [hbn]
                    refine zi_ald hx hb hK hP.a12 (by omega) (by decide) dX11_goOver_174 ?_
                    refine lv_iconst (v := nI 4) hx hb dX11_goOver_175 (by decide) ?_
                    refine zi_icmp_ne (tgt := 234) hx hb dX11_goOver_176 (by decide) (Nat.lt_trans (h8 _) (by decide)) (by omega) (fun c_176 => ?_) (fun c_176 => ?_)
                    · refine lv_goto (tgt := 30) hx hb dX11_goOver_234 (by decide) ?_
                      have h34 : ¬ (g a = 3 ∨ g a = 4) := fun z => z.elim c_156 c_176
                      refine ih_ (vaR g (g a) (tE g a last + 1) last) last op (cnt + 1) (nd + 1) row (a :: L) (upN pa nd (bx (op - 1))) (upN be nd a) (upN nm nd (tE g a last)) ed bx (upN mn (op - 1) (mn (op - 1) + 1)) rw (by omega) (hI.next hg.1 (by omega) (by omega)) H locs hP hS ?_ ?_ ls (lv_sub hl [0, 2, 3] rfl)
                      · intro e he nd1 pa1 be1 nm1 ed1 bx1 mn1 rw1 hk H locs hP hS ls hl
                        exact Ks e ((pE_v c_56 hgt h34 c_136).trans he) nd1 pa1 be1 nm1 ed1 bx1 mn1 rw1 (hI.after hg.1 hk) H locs hP hS ls hl
                      · intro he
                        exact Kn ((pE_v c_56 hgt h34 c_136).trans he)
                    · refine lv_aload_n hx hb dX11_goOver_179 rfl (lv_at hl 3 rfl) ?_
                      refine lv_iload_n hx hb dX11_goOver_180 rfl (lv_at hl 0 rfl) ?_
                      refine lv_iload hx hb dX11_goOver_181 (lv_at hl 1 rfl) ?_
                      refine lv_iload_n hx hb dX11_goOver_183 rfl (lv_at hl 0 rfl) ?_
                      refine zi_sub hx hb (by omega) dX11_goOver_184 ?_
                      refine lv_iload_n hx hb dX11_goOver_185 rfl (lv_at hl 2 rfl) ?_
                      refine lv_aload_n hx hb dX11_goOver_186 rfl (lv_at hl 3 rfl) ?_
                      refine zi_get (C := RX11) (T := TX11) (N := 23) (v := .int (nI (nd + 1))) hx hb hz wo_X11 hown hK hO rfl 14 (by decide) (hz _ wf_X11_81) (fun _ h9 => h9) rfl dX11_goOver_187 ?_
                      refine lv_iconst (v := nI 1) hx hb dX11_goOver_190 (by decide) ?_
                      refine zi_sub hx hb (by omega) dX11_goOver_191 ?_
                      refine lv_aload_n hx hb dX11_goOver_192 rfl (lv_at hl 3 rfl) ?_
                      refine zi_get (C := RX11) (T := TX11) (N := 23) (v := .ref (q 12)) hx hb hz wo_X11 hown hK hO rfl 12 (by decide) (hz _ wf_X11_26) (fun _ h9 => h9) rfl dX11_goOver_193 ?_
                      refine lv_aload_n hx hb dX11_goOver_196 rfl (lv_at hl 3 rfl) ?_
                      refine zi_get (C := RX11) (T := TX11) (N := 23) (v := .ref (q 16)) hx hb hz wo_X11 hown hK hO rfl 16 (by decide) (hz _ wf_X11_32) (fun _ h9 => h9) rfl dX11_goOver_197 ?_
                      refine lv_aload_n hx hb dX11_goOver_200 rfl (lv_at hl 3 rfl) ?_
                      refine zi_get (C := RX11) (T := TX11) (N := 23) (v := .int (nI (nd + 1))) hx hb hz wo_X11 hown hK hO rfl 14 (by decide) (hz _ wf_X11_81) (fun _ h9 => h9) rfl dX11_goOver_201 ?_
                      refine lv_iconst (v := nI 1) hx hb dX11_goOver_204 (by decide) ?_
                      refine zi_sub hx hb (by omega) dX11_goOver_205 ?_
                      refine zi_ald hx hb hK hP.a16 (by omega) (by decide) dX11_goOver_206 ?_
                      rw [hbn]
                      refine zi_ald hx hb hK hP.a12 (by omega) (by decide) dX11_goOver_207 ?_
                      refine lv_iconst (v := nI 4) hx hb dX11_goOver_208 (by decide) ?_
                      refine zi_icmp_ne (tgt := 216) hx hb dX11_goOver_209 (by decide) (Nat.lt_trans (h8 _) (by decide)) (by omega) (fun c_209 => ?_) (fun c_209 => ?_)
                      · refine lv_iconst (v := nI 0) hx hb dX11_goOver_216 (by decide) ?_
                        rw [show nI 0 = nI (nB (decide (g a = 4))) by rw [decide_eq_false c_209]; rfl]
                        refine zc_VE (As := [.int (nI (vaR g (g a) (tE g a last + 1) last)), .int (nI (last - (vaR g (g a) (tE g a last + 1) last))), .int (nI (op)), .int (nI (nd + 1 - 1)), .int (nI (nB (decide (g a = 4))))]) (rest := []) ⟨hx, hb, hml, hown, hts⟩ (m_opens l G o w q 0 (nd + 1) g (upN pa nd (bx (op - 1))) (upN be nd a) (upN nm nd (tE g a last)) ed bx (upN mn (op - 1) (mn (op - 1) + 1)) rw (vaR g (g a) (tE g a last + 1) last) (last - (vaR g (g a) (tE g a last + 1) last)) op (nd + 1 - 1) (decide (g a = 4)) (by omega) hop2 (by omega)) (cwV 5 hts (zgV wm_X11_84 wv_X11_opens) rfl rfl rfl (by decide +kernel) ⟨Nat.le_of_ble_eq_true rfl, Nat.le_of_ble_eq_true rfl⟩) hK hO rfl hP rfl hl.1 rfl (Nat.le_of_ble_eq_true rfl) dX11_goOver_217 ⟨Nat.zero_le _, Nat.zero_le _⟩ hS (fun _ h9 => h9) (fun H locs hP hz9 hk9 hS => ?_)
                        obtain ⟨hO, -, -, -, h8⟩ := id hP
                        refine W.eq (g2 := F0 m 220 ls ([.int (nI (nB (decide (opF g (vaR g (g a) (tE g a last + 1) last) (last - (vaR g (g a) (tE g a last + 1) last)) op = 0))))])) rfl ?_
                        refine zb_if_eq (tgt := 229) hx hb dX11_goOver_220 (by decide) (fun c_220 => ?_) (fun c_220 => ?_)
                        · refine lv_iload_n hx hb dX11_goOver_229 rfl (lv_at hl 2 rfl) ?_
                          refine lv_istore_n (lv' := [(2, .int (nI (op))), (3, .int (nI (vaR g (g a) (tE g a last + 1) last))), (4, .int (nI (last))), (0, .ref (o))]) hx hb dX11_goOver_230 rfl hl (by decide) rfl (fun ls hl => ?_)
                          refine lv_iinc (v := nI (vaR g (g a) (tE g a last + 1) last + 4)) (lv' := [(3, .int (nI (vaR g (g a) (tE g a last + 1) last + 4))), (2, .int (nI (op))), (4, .int (nI (last))), (0, .ref (o))]) hx hb dX11_goOver_231 hl (k := 1) rfl (nI_add _ _) (by decide) rfl (fun ls hl => ?_)
                          refine lv_goto (tgt := 30) hx hb dX11_goOver_234 (by decide) ?_
                          have h34 : g a = 3 ∨ g a = 4 := Or.inr c_176
                          have hvb : vaR g (g a) (tE g a last + 1) last = tE g a last + 1 := vaR_b h34
                          have h0 : opF g (vaR g (g a) (tE g a last + 1) last) (last - vaR g (g a) (tE g a last + 1) last) op ≠ 0 := of_decide_eq_false c_220
                          have hP : MD G o w q (opF g (vaR g (g a) (tE g a last + 1) last) (last - vaR g (g a) (tE g a last + 1) last) op) (nd + 1) g (upN pa nd (bx (op - 1))) (upN be nd a) (upN nm nd (tE g a last)) ed bx (upN mn (op - 1) (mn (op - 1) + 1)) rw H := by rw [if_neg h0, if_neg h0, if_neg h0, if_neg h0] at hP; exact hP
                          exact Kn (pE_bN c_56 hgt h34 (by rw [hvb] at h0; exact h0)) (opF g (vaR g (g a) (tE g a last + 1) last) (last - vaR g (g a) (tE g a last + 1) last) op) (vaR g (g a) (tE g a last + 1) last + 4) op (nd + 1) (upN pa nd (bx (op - 1))) (upN be nd a) (upN nm nd (tE g a last)) ed bx (upN mn (op - 1) (mn (op - 1) + 1)) rw h0 (opF_lt _ _ _ _) (by omega) (hgb.up (hgb.2.1 _) (by have := hgb.2.2.1 (op - 1); omega)) H locs hP hS ls (lv_sub hl [0, 1, 3] rfl)
                        · refine lv_iload_n hx hb dX11_goOver_223 rfl (lv_at hl 2 rfl) ?_
                          refine lv_iconst (v := nI 1) hx hb dX11_goOver_224 (by decide) ?_
                          refine zi_add hx hb dX11_goOver_225 ?_
                          refine lv_goto (tgt := 230) hx hb dX11_goOver_226 (by decide) ?_
                          refine lv_istore_n (lv' := [(2, .int (nI (op + 1))), (3, .int (nI (vaR g (g a) (tE g a last + 1) last))), (4, .int (nI (last))), (0, .ref (o))]) hx hb dX11_goOver_230 rfl hl (by decide) rfl (fun ls hl => ?_)
                          refine lv_iinc (v := nI (vaR g (g a) (tE g a last + 1) last + 4)) (lv' := [(3, .int (nI (vaR g (g a) (tE g a last + 1) last + 4))), (2, .int (nI (op + 1))), (4, .int (nI (last))), (0, .ref (o))]) hx hb dX11_goOver_231 hl (k := 1) rfl (nI_add _ _) (by decide) rfl (fun ls hl => ?_)
                          refine lv_goto (tgt := 30) hx hb dX11_goOver_234 (by decide) ?_
                          have h34 : g a = 3 ∨ g a = 4 := Or.inr c_176
                          have hvb : vaR g (g a) (tE g a last + 1) last = tE g a last + 1 := vaR_b h34
                          have h0 : opF g (vaR g (g a) (tE g a last + 1) last) (last - vaR g (g a) (tE g a last + 1) last) op = 0 := of_decide_eq_true c_220
                          rw [if_pos h0, if_pos h0, if_pos h0, if_pos h0, h0] at hP
                          rw [hvb] at h0 hP
                          have h1 := opF_0 h0
                          rw [show tE g a last + 1 + wh g (tE g a last + 1) = (tE g a last + 1 + wh g (tE g a last + 1) - 1) + 1 by omega] at hP
                          have hN := hI.next (a1 := tE g a last + 1) hg.1 (by omega) (by omega)
                          have hN2 := hN.inside (b := tE g a last + 1 + wh g (tE g a last + 1) - 1) (rb := (decide (g a = 4))) (by omega) h1.2.2.2.1 (by omega) (by omega)
                          refine ih_ (tE g a last + 1 + 4) (tE g a last + 1 + wh g (tE g a last + 1) - 1) (op + 1) 0 (nd + 1) (decide (g a = 4)) [] (upN pa nd (bx (op - 1))) (upN be nd a) (upN nm nd (tE g a last)) (upN ed op (tE g a last + 1 + wh g (tE g a last + 1) - 1 + 1)) (upN bx op (nd + 1 - 1)) (upN (upN mn (op - 1) (mn (op - 1) + 1)) op 0) (upN rw op (nB (decide (g a = 4)))) (by omega) hN2 H locs hP hS ?_ ?_ ls (by rw [hvb] at hl; exact lv_sub hl [0, 1, 3] rfl)
                          · intro e he nd1 pa1 be1 nm1 ed1 bx1 mn1 rw1 hk H locs hP hS ls hl
                            have hee := pE_e he
                            have hN3 := hN.back (by omega) (by omega) hk (by omega)
                            refine ih_ e last op (cnt + 1) nd1 row (a :: L) pa1 be1 nm1 ed1 bx1 mn1 rw1 (by omega) hN3 H locs hP hS ?_ ?_ ls hl
                            · intro e2 he2 nd2 pa2 be2 nm2 ed2 bx2 mn2 rw2 hk2 H locs hP hS ls hl
                              exact Ks e2 ((pE_b c_56 hgt h34 h0 he).trans he2) nd2 pa2 be2 nm2 ed2 bx2 mn2 rw2 (hI.after hg.1 (hN.over (by omega) (by omega) hk hk2)) H locs hP hS ls hl
                            · intro he2
                              exact Kn ((pE_b c_56 hgt h34 h0 he).trans he2)
                          · intro he
                            exact Kn (pE_bI c_56 hgt h34 h0 he)
                      · refine lv_iconst (v := nI 1) hx hb dX11_goOver_212 (by decide) ?_
                        refine lv_goto (tgt := 217) hx hb dX11_goOver_213 (by decide) ?_
                        rw [show nI 1 = nI (nB (decide (g a = 4))) by rw [decide_eq_true c_209]; rfl]
                        refine zc_VE (As := [.int (nI (vaR g (g a) (tE g a last + 1) last)), .int (nI (last - (vaR g (g a) (tE g a last + 1) last))), .int (nI (op)), .int (nI (nd + 1 - 1)), .int (nI (nB (decide (g a = 4))))]) (rest := []) ⟨hx, hb, hml, hown, hts⟩ (m_opens l G o w q 0 (nd + 1) g (upN pa nd (bx (op - 1))) (upN be nd a) (upN nm nd (tE g a last)) ed bx (upN mn (op - 1) (mn (op - 1) + 1)) rw (vaR g (g a) (tE g a last + 1) last) (last - (vaR g (g a) (tE g a last + 1) last)) op (nd + 1 - 1) (decide (g a = 4)) (by omega) hop2 (by omega)) (cwV 5 hts (zgV wm_X11_84 wv_X11_opens) rfl rfl rfl (by decide +kernel) ⟨Nat.le_of_ble_eq_true rfl, Nat.le_of_ble_eq_true rfl⟩) hK hO rfl hP rfl hl.1 rfl (Nat.le_of_ble_eq_true rfl) dX11_goOver_217 ⟨Nat.zero_le _, Nat.zero_le _⟩ hS (fun _ h9 => h9) (fun H locs hP hz9 hk9 hS => ?_)
                        obtain ⟨hO, -, -, -, h8⟩ := id hP
                        refine W.eq (g2 := F0 m 220 ls ([.int (nI (nB (decide (opF g (vaR g (g a) (tE g a last + 1) last) (last - (vaR g (g a) (tE g a last + 1) last)) op = 0))))])) rfl ?_
                        refine zb_if_eq (tgt := 229) hx hb dX11_goOver_220 (by decide) (fun c_220 => ?_) (fun c_220 => ?_)
                        · refine lv_iload_n hx hb dX11_goOver_229 rfl (lv_at hl 2 rfl) ?_
                          refine lv_istore_n (lv' := [(2, .int (nI (op))), (3, .int (nI (vaR g (g a) (tE g a last + 1) last))), (4, .int (nI (last))), (0, .ref (o))]) hx hb dX11_goOver_230 rfl hl (by decide) rfl (fun ls hl => ?_)
                          refine lv_iinc (v := nI (vaR g (g a) (tE g a last + 1) last + 4)) (lv' := [(3, .int (nI (vaR g (g a) (tE g a last + 1) last + 4))), (2, .int (nI (op))), (4, .int (nI (last))), (0, .ref (o))]) hx hb dX11_goOver_231 hl (k := 1) rfl (nI_add _ _) (by decide) rfl (fun ls hl => ?_)
                          refine lv_goto (tgt := 30) hx hb dX11_goOver_234 (by decide) ?_
                          have h34 : g a = 3 ∨ g a = 4 := Or.inr c_176
                          have hvb : vaR g (g a) (tE g a last + 1) last = tE g a last + 1 := vaR_b h34
                          have h0 : opF g (vaR g (g a) (tE g a last + 1) last) (last - vaR g (g a) (tE g a last + 1) last) op ≠ 0 := of_decide_eq_false c_220
                          have hP : MD G o w q (opF g (vaR g (g a) (tE g a last + 1) last) (last - vaR g (g a) (tE g a last + 1) last) op) (nd + 1) g (upN pa nd (bx (op - 1))) (upN be nd a) (upN nm nd (tE g a last)) ed bx (upN mn (op - 1) (mn (op - 1) + 1)) rw H := by rw [if_neg h0, if_neg h0, if_neg h0, if_neg h0] at hP; exact hP
                          exact Kn (pE_bN c_56 hgt h34 (by rw [hvb] at h0; exact h0)) (opF g (vaR g (g a) (tE g a last + 1) last) (last - vaR g (g a) (tE g a last + 1) last) op) (vaR g (g a) (tE g a last + 1) last + 4) op (nd + 1) (upN pa nd (bx (op - 1))) (upN be nd a) (upN nm nd (tE g a last)) ed bx (upN mn (op - 1) (mn (op - 1) + 1)) rw h0 (opF_lt _ _ _ _) (by omega) (hgb.up (hgb.2.1 _) (by have := hgb.2.2.1 (op - 1); omega)) H locs hP hS ls (lv_sub hl [0, 1, 3] rfl)
                        · refine lv_iload_n hx hb dX11_goOver_223 rfl (lv_at hl 2 rfl) ?_
                          refine lv_iconst (v := nI 1) hx hb dX11_goOver_224 (by decide) ?_
                          refine zi_add hx hb dX11_goOver_225 ?_
                          refine lv_goto (tgt := 230) hx hb dX11_goOver_226 (by decide) ?_
                          refine lv_istore_n (lv' := [(2, .int (nI (op + 1))), (3, .int (nI (vaR g (g a) (tE g a last + 1) last))), (4, .int (nI (last))), (0, .ref (o))]) hx hb dX11_goOver_230 rfl hl (by decide) rfl (fun ls hl => ?_)
                          refine lv_iinc (v := nI (vaR g (g a) (tE g a last + 1) last + 4)) (lv' := [(3, .int (nI (vaR g (g a) (tE g a last + 1) last + 4))), (2, .int (nI (op + 1))), (4, .int (nI (last))), (0, .ref (o))]) hx hb dX11_goOver_231 hl (k := 1) rfl (nI_add _ _) (by decide) rfl (fun ls hl => ?_)
                          refine lv_goto (tgt := 30) hx hb dX11_goOver_234 (by decide) ?_
                          have h34 : g a = 3 ∨ g a = 4 := Or.inr c_176
                          have hvb : vaR g (g a) (tE g a last + 1) last = tE g a last + 1 := vaR_b h34
                          have h0 : opF g (vaR g (g a) (tE g a last + 1) last) (last - vaR g (g a) (tE g a last + 1) last) op = 0 := of_decide_eq_true c_220
                          rw [if_pos h0, if_pos h0, if_pos h0, if_pos h0, h0] at hP
                          rw [hvb] at h0 hP
                          have h1 := opF_0 h0
                          rw [show tE g a last + 1 + wh g (tE g a last + 1) = (tE g a last + 1 + wh g (tE g a last + 1) - 1) + 1 by omega] at hP
                          have hN := hI.next (a1 := tE g a last + 1) hg.1 (by omega) (by omega)
                          have hN2 := hN.inside (b := tE g a last + 1 + wh g (tE g a last + 1) - 1) (rb := (decide (g a = 4))) (by omega) h1.2.2.2.1 (by omega) (by omega)
                          refine ih_ (tE g a last + 1 + 4) (tE g a last + 1 + wh g (tE g a last + 1) - 1) (op + 1) 0 (nd + 1) (decide (g a = 4)) [] (upN pa nd (bx (op - 1))) (upN be nd a) (upN nm nd (tE g a last)) (upN ed op (tE g a last + 1 + wh g (tE g a last + 1) - 1 + 1)) (upN bx op (nd + 1 - 1)) (upN (upN mn (op - 1) (mn (op - 1) + 1)) op 0) (upN rw op (nB (decide (g a = 4)))) (by omega) hN2 H locs hP hS ?_ ?_ ls (by rw [hvb] at hl; exact lv_sub hl [0, 1, 3] rfl)
                          · intro e he nd1 pa1 be1 nm1 ed1 bx1 mn1 rw1 hk H locs hP hS ls hl
                            have hee := pE_e he
                            have hN3 := hN.back (by omega) (by omega) hk (by omega)
                            refine ih_ e last op (cnt + 1) nd1 row (a :: L) pa1 be1 nm1 ed1 bx1 mn1 rw1 (by omega) hN3 H locs hP hS ?_ ?_ ls hl
                            · intro e2 he2 nd2 pa2 be2 nm2 ed2 bx2 mn2 rw2 hk2 H locs hP hS ls hl
                              exact Ks e2 ((pE_b c_56 hgt h34 h0 he).trans he2) nd2 pa2 be2 nm2 ed2 bx2 mn2 rw2 (hI.after hg.1 (hN.over (by omega) (by omega) hk hk2)) H locs hP hS ls hl
                            · intro he2
                              exact Kn ((pE_b c_56 hgt h34 h0 he).trans he2)
                          · intro he
                            exact Kn (pE_bI c_56 hgt h34 h0 he)
              · have hgf : gE g row cnt a last L = false := gE_f c_111 (fun z => hg (by rw [elG, nmO_eq hI.2.2.2.2.2.2.2.2.2.2.2.2.2.2 hI.2.2.2.2.1 hI.2.2.2.2.2.2.2.1 hI.2.2.2.2.2.2.2.2.1]; exact z))
                refine zc_VE (As := [.int (nI (a)), .int (nI (last)), .int (nI (op))]) (rest := []) ⟨hx, hb, hml, hown, hts⟩ (m_element_n l G o w q 0 nd g pa be nm ed bx mn rw a last op (by omega) (by omega) hop hop2 ⟨by omega, by omega⟩ hnd hgb.1 hgb.2.1 hgb.2.2.1 hgb.2.2.2 hg) (cwV 3 hts (zgV wm_X11_92 wv_X11_element) rfl rfl rfl (by decide +kernel) ⟨Nat.le_of_ble_eq_true rfl, Nat.le_of_ble_eq_true rfl⟩) hK hO rfl hP rfl hl.1 rfl (Nat.le_of_ble_eq_true rfl) dX11_goOver_128 ⟨Nat.zero_le _, Nat.zero_le _⟩ hS (fun _ h9 => h9) (fun H locs hP hz9 hk9 hS => ?_)
                obtain ⟨hO, -, -, -, h8⟩ := id hP
                refine W.eq (g2 := F0 m 131 ls ([.int (nI (tE g a last))])) rfl ?_
                refine lv_istore_n (lv' := [(3, .int (nI (tE g a last))), (4, .int (nI (last))), (2, .int (nI (op))), (0, .ref (o))]) hx hb dX11_goOver_131 rfl hl (by decide) rfl (fun ls hl => ?_)
                refine lv_aload_n hx hb dX11_goOver_132 rfl (lv_at hl 3 rfl) ?_
                refine zi_get (C := RX11) (T := TX11) (N := 23) (v := .int (nI (if last ≤ tE g a last then 1 else if bd g (a + 1) (tE g a last) < 0 then 7 else 4))) hx hb hz wo_X11 hown hK hO rfl 13 (by decide) (hz _ wf_X11_68) (fun _ h9 => h9) rfl dX11_goOver_133 ?_
                refine zi_if_ne (tgt := 234) hx hb dX11_goOver_136 (by decide) (by (repeat' split) <;> decide) (fun c_136 => ?_) (fun c_136 => ?_)
                · refine lv_goto (tgt := 30) hx hb dX11_goOver_234 (by decide) ?_
                  exact Kn (pE_no c_56 hgf) (if last ≤ tE g a last then 1 else if bd g (a + 1) (tE g a last) < 0 then 7 else 4) (tE g a last) op nd pa be nm ed bx mn rw (by (repeat' split) <;> decide) (by (repeat' split) <;> decide) (by omega) hgb H locs hP hS ls (lv_sub hl [0, 2, 3] rfl)
                · exact absurd c_136 (by (repeat' split) <;> decide)
            · refine lv_aload_n hx hb dX11_goOver_114 rfl (lv_at hl 3 rfl) ?_
              refine lv_iconst (v := nI 3) hx hb dX11_goOver_115 (by decide) ?_
              refine lv_iload_n hx hb dX11_goOver_116 rfl (lv_at hl 1 rfl) ?_
              refine zc_VE (As := [.int (nI (3)), .int (nI (a))]) (rest := []) ⟨hx, hb, hml, hown, hts⟩ (m_stop l G o w q 0 nd g pa be nm ed bx mn rw 3 (nI (a)) (by decide)) (cwV 2 hts (zgV wm_X11_71 wv_X11_stop) rfl rfl rfl (by decide +kernel) ⟨Nat.le_of_ble_eq_true rfl, Nat.le_of_ble_eq_true rfl⟩) hK hO rfl hP rfl hl.1 rfl (Nat.le_of_ble_eq_true rfl) dX11_goOver_117 ⟨Nat.zero_le _, Nat.zero_le _⟩ hS (fun _ h9 => h9) (fun H locs hP hz9 hk9 hS => ?_)
              obtain ⟨hO, -, -, -, h8⟩ := id hP
              refine W.eq (g2 := F0 m 120 ls ([])) rfl ?_
              refine lv_goto (tgt := 234) hx hb dX11_goOver_120 (by decide) ?_
              refine lv_goto (tgt := 30) hx hb dX11_goOver_234 (by decide) ?_
              exact Kn (pE_no c_56 (by unfold gE; rw [c_111]; rfl)) 3 a op nd pa be nm ed bx mn rw (by decide) (by decide) (by omega) hgb H locs hP hS ls (lv_sub hl [1, 2, 3] rfl)
          · refine lv_aload_n hx hb dX11_goOver_92 rfl (lv_at hl 3 rfl) ?_
            refine lv_iconst (v := nI 2) hx hb dX11_goOver_93 (by decide) ?_
            refine lv_iload_n hx hb dX11_goOver_94 rfl (lv_at hl 1 rfl) ?_
            refine zc_VE (As := [.int (nI (2)), .int (nI (a))]) (rest := []) ⟨hx, hb, hml, hown, hts⟩ (m_stop l G o w q 0 nd g pa be nm ed bx mn rw 2 (nI (a)) (by decide)) (cwV 2 hts (zgV wm_X11_71 wv_X11_stop) rfl rfl rfl (by decide +kernel) ⟨Nat.le_of_ble_eq_true rfl, Nat.le_of_ble_eq_true rfl⟩) hK hO rfl hP rfl hl.1 rfl (Nat.le_of_ble_eq_true rfl) dX11_goOver_95 ⟨Nat.zero_le _, Nat.zero_le _⟩ hS (fun _ h9 => h9) (fun H locs hP hz9 hk9 hS => ?_)
            obtain ⟨hO, -, -, -, h8⟩ := id hP
            refine W.eq (g2 := F0 m 98 ls ([])) rfl ?_
            refine lv_goto (tgt := 234) hx hb dX11_goOver_98 (by decide) ?_
            refine lv_goto (tgt := 30) hx hb dX11_goOver_234 (by decide) ?_
            exact Kn (pE_no c_56 (by unfold gE; rw [c_89]; rfl)) 2 a op nd pa be nm ed bx mn rw (by decide) (by decide) (by omega) hgb H locs hP hS ls (lv_sub hl [1, 2, 3] rfl)
        · refine lv_aload_n hx hb dX11_goOver_59 rfl (lv_at hl 3 rfl) ?_
          refine zi_get (C := RX11) (T := TX11) (N := 23) (v := .ref (q 12)) hx hb hz wo_X11 hown hK hO rfl 12 (by decide) (hz _ wf_X11_26) (fun _ h9 => h9) rfl dX11_goOver_60 ?_
          refine lv_iload_n hx hb dX11_goOver_63 rfl (lv_at hl 1 rfl) ?_
          refine zi_ald hx hb hK hP.a12 (by omega) (by decide) dX11_goOver_64 ?_
          refine zi_if_eq (tgt := 74) hx hb dX11_goOver_65 (by decide) (Nat.lt_trans (h8 _) (by decide)) (fun c_65 => ?_) (fun c_65 => ?_)
          · refine lv_iinc (v := nI (a + 1)) (lv' := [(3, .int (nI (a + 1))), (4, .int (nI (last))), (2, .int (nI (op))), (0, .ref (o))]) hx hb dX11_goOver_74 hl (k := 1) rfl (nI_add _ _) (by decide) rfl (fun ls hl => ?_)
            refine lv_iinc (v := nI (op - 1)) (lv' := [(2, .int (nI (op - 1))), (3, .int (nI (a + 1))), (4, .int (nI (last))), (0, .ref (o))]) hx hb dX11_goOver_77 hl (k := 2) rfl (zi_dec (k := 1) (by omega)) (by decide) rfl (fun ls hl => ?_)
            refine lv_goto (tgt := 234) hx hb dX11_goOver_80 (by decide) ?_
            refine lv_goto (tgt := 30) hx hb dX11_goOver_234 (by decide) ?_
            exact Ks (a + 1) (pE_end0 c_56 c_65) nd pa be nm ed bx mn rw ⟨Nat.le_refl _, by omega, fun k _ => ⟨rfl, rfl, rfl⟩, fun k k1 k2 => by omega, hnd, hpk, fun j _ => ⟨rfl, rfl, rfl, rfl⟩, hgb⟩ H locs hP hS ls (lv_sub hl [1, 0, 3] rfl)
          · refine lv_aload_n hx hb dX11_goOver_68 rfl (lv_at hl 3 rfl) ?_
            refine lv_iconst (v := nI 2) hx hb dX11_goOver_69 (by decide) ?_
            refine lv_iload_n hx hb dX11_goOver_70 rfl (lv_at hl 1 rfl) ?_
            refine zc_VE (As := [.int (nI (2)), .int (nI (a))]) (rest := []) ⟨hx, hb, hml, hown, hts⟩ (m_stop l G o w q 0 nd g pa be nm ed bx mn rw 2 (nI (a)) (by decide)) (cwV 2 hts (zgV wm_X11_71 wv_X11_stop) rfl rfl rfl (by decide +kernel) ⟨Nat.le_of_ble_eq_true rfl, Nat.le_of_ble_eq_true rfl⟩) hK hO rfl hP rfl hl.1 rfl (Nat.le_of_ble_eq_true rfl) dX11_goOver_71 ⟨Nat.zero_le _, Nat.zero_le _⟩ hS (fun _ h9 => h9) (fun H locs hP hz9 hk9 hS => ?_)
            obtain ⟨hO, -, -, -, h8⟩ := id hP
            refine W.eq (g2 := F0 m 74 ls ([])) rfl ?_
            refine lv_iinc (v := nI (a + 1)) (lv' := [(3, .int (nI (a + 1))), (4, .int (nI (last))), (2, .int (nI (op))), (0, .ref (o))]) hx hb dX11_goOver_74 hl (k := 1) rfl (nI_add _ _) (by decide) rfl (fun ls hl => ?_)
            refine lv_iinc (v := nI (op - 1)) (lv' := [(2, .int (nI (op - 1))), (3, .int (nI (a + 1))), (4, .int (nI (last))), (0, .ref (o))]) hx hb dX11_goOver_77 hl (k := 2) rfl (zi_dec (k := 1) (by omega)) (by decide) rfl (fun ls hl => ?_)
            refine lv_goto (tgt := 234) hx hb dX11_goOver_80 (by decide) ?_
            refine lv_goto (tgt := 30) hx hb dX11_goOver_234 (by decide) ?_
            exact Kn (pE_endN c_56 c_65) 2 (a + 1) (op - 1) nd pa be nm ed bx mn rw (by decide) (by decide) (by omega) hgb H locs hP hS ls (lv_sub hl [1, 0, 3] rfl)
  have hl := lv_entry ([.ref (o), .int (nI (nb))]) (n := 5) (Nat.le_of_ble_eq_true rfl)
  rw [lg_entry_eq]
  generalize (lg_sl ([.ref (o), .int (nI (nb))]) ++ List.replicate (5 - (lg_sl ([.ref (o), .int (nI (nb))])).length) Slot.unset).toArray = ls at hl ⊢
  have hl : lv_has ls 5 [(0, .ref (o)), (1, .int (nI (nb)))] := hl
  refine lv_aload_n hx hb dX11_goOver_0 rfl (lv_at hl 0 rfl) ?_
  refine lv_iconst (v := nI 0) hx hb dX11_goOver_1 (by decide) ?_
  refine zi_put (C := RX11) (T := TX11) (N := 23) (ty := .int) (v := .int (nI (0))) hx hb hz wo_X11 tyX11 tyX11_ok nmX11 hown hK hO rfl 13 (by decide) (hz _ wf_X11_68) (fun _ h9 => h9) rfl (by decide +kernel) rfl rfl (by show 13 < 23; decide) (A := (dAx o q)) (Or.inl rfl) hS dX11_goOver_2 (fun H locs _ hk9 hO9 hS => ?_)
  have hP : MD G o w q 0 nd g pa be nm ed bx mn rw H := hP.put hk9 hO9
  have hO := hP.1
  have h8 := hP.2.2.2.2
  refine lv_aload_n hx hb dX11_goOver_5 rfl (lv_at hl 0 rfl) ?_
  refine lv_iconst (v := nI 1) hx hb dX11_goOver_6 (by decide) ?_
  refine zi_put (C := RX11) (T := TX11) (N := 23) (ty := .int) (v := .int (nI (1))) hx hb hz wo_X11 tyX11 tyX11_ok nmX11 hown hK hO rfl 14 (by decide) (hz _ wf_X11_81) (fun _ h9 => h9) rfl (by decide +kernel) rfl rfl (by show 14 < 23; decide) (A := (dAx o q)) (Or.inl rfl) hS dX11_goOver_7 (fun H locs _ hk9 hO9 hS => ?_)
  have hP : MD G o w q 0 1 g pa be nm ed bx mn rw H := hP.put hk9 hO9
  have hO := hP.1
  have h8 := hP.2.2.2.2
  refine lv_aload_n hx hb dX11_goOver_10 rfl (lv_at hl 0 rfl) ?_
  refine lv_iconst (v := nI 0) hx hb dX11_goOver_11 (by decide) ?_
  refine lv_iload_n hx hb dX11_goOver_12 rfl (lv_at hl 1 rfl) ?_
  refine lv_iconst (v := nI 0) hx hb dX11_goOver_13 (by decide) ?_
  refine lv_iconst (v := nI 0) hx hb dX11_goOver_14 (by decide) ?_
  refine lv_iconst (v := nI 0) hx hb dX11_goOver_15 (by decide) ?_
  refine zc_VE (As := [.int (nI (0)), .int (nI (nb)), .int (nI (0)), .int (nI (0)), .int (nI (0))]) (rest := []) ⟨hx, hb, hml, hown, hts⟩ (m_opens l G o w q 0 1 g pa be nm ed bx mn rw 0 nb 0 0 false (by omega) (by decide) (by decide)) (cwV 5 hts (zgV wm_X11_84 wv_X11_opens) rfl rfl rfl (by decide +kernel) ⟨Nat.le_of_ble_eq_true rfl, Nat.le_of_ble_eq_true rfl⟩) hK hO rfl hP rfl hl.1 rfl (Nat.le_of_ble_eq_true rfl) dX11_goOver_16 ⟨Nat.zero_le _, Nat.zero_le _⟩ hS (fun _ h9 => h9) (fun H locs hP hz9 hk9 hS => ?_)
  obtain ⟨hO, -, -, -, h8⟩ := id hP
  refine W.eq (g2 := F0 m 19 ls ([.int (nI (nB (decide (opF g 0 nb 0 = 0))))])) rfl ?_
  refine zb_if_eq (tgt := 26) hx hb dX11_goOver_19 (by decide) (fun c_19 => ?_) (fun c_19 => ?_)
  · refine lv_iconst (v := nI 0) hx hb dX11_goOver_26 (by decide) ?_
    refine lv_istore_n (lv' := [(2, .int (nI (0))), (0, .ref (o)), (1, .int (nI (nb)))]) hx hb dX11_goOver_27 rfl hl (by decide) rfl (fun ls hl => ?_)
    refine lv_iconst (v := nI 4) hx hb dX11_goOver_28 (by decide) ?_
    refine lv_istore_n (lv' := [(3, .int (nI (4))), (2, .int (nI (0))), (0, .ref (o)), (1, .int (nI (nb)))]) hx hb dX11_goOver_29 rfl hl (by decide) rfl (fun ls hl => ?_)
    have h0 : opF g 0 nb 0 ≠ 0 := of_decide_eq_false c_19
    have hP : MD G o w q (opF g 0 nb 0) 1 g pa be nm ed bx mn rw H := by rw [if_neg h0, if_neg h0, if_neg h0, if_neg h0] at hP; exact hP
    exact L0 (opF g 0 nb 0) 4 0 1 pa be nm ed bx mn rw (opF_lt _ _ _ _) (by decide) (Or.inl rfl) hgb ⟨fun z => absurd z h0, fun z => absurd z.1 h0⟩ H locs hP hS ls (lv_sub hl [0, 1, 2] rfl)
  · refine lv_iconst (v := nI 1) hx hb dX11_goOver_22 (by decide) ?_
    refine lv_goto (tgt := 27) hx hb dX11_goOver_23 (by decide) ?_
    refine lv_istore_n (lv' := [(2, .int (nI (1))), (0, .ref (o)), (1, .int (nI (nb)))]) hx hb dX11_goOver_27 rfl hl (by decide) rfl (fun ls hl => ?_)
    refine lv_iconst (v := nI 4) hx hb dX11_goOver_28 (by decide) ?_
    refine lv_istore_n (lv' := [(3, .int (nI (4))), (2, .int (nI (1))), (0, .ref (o)), (1, .int (nI (nb)))]) hx hb dX11_goOver_29 rfl hl (by decide) rfl (fun ls hl => ?_)
    have h0 : opF g 0 nb 0 = 0 := of_decide_eq_true c_19
    have h1 := opF_0 h0
    have hw9 : wh g 0 = nb := h1.2.2.2.2 rfl
    rw [if_pos h0, if_pos h0, if_pos h0, if_pos h0, h0, show 0 + wh g 0 = (nb - 1) + 1 by omega] at hP
    refine L30 nb 4 (nb - 1) 1 0 1 false [] pa be nm (upN ed 0 (nb - 1 + 1)) (upN bx 0 0) (upN mn 0 0) (upN rw 0 (nB false)) (by omega) ⟨by decide, by decide, by omega, by omega, by decide, by decide, rfl, rfl, rfl, by decide, (by show upN bx 0 0 0 < 1; rw [upN_self]; decide), (fun k k1 k2 => by omega), (fun k k1 k2 => by omega), hgb.op (by decide), (fun k k1 k2 => by omega), (fun x hx => by cases hx)⟩ H locs hP hS ?_ ?_ ls (lv_sub hl [0, 1, 2] rfl)
    · intro e he nd1 pa1 be1 nm1 ed1 bx1 mn1 rw1 hk H locs hP hS ls hl
      exact L0 0 e 0 nd1 pa1 be1 nm1 ed1 bx1 mn1 rw1 (by decide) (by decide) (Or.inl rfl) hk.2.2.2.2.2.2.2 ⟨fun _ => ⟨h0, fun z => by rw [he] at z; cases z⟩, fun _ => rfl⟩ H locs hP hS ls hl
    · intro he fa1 a9 op1 nd1 pa1 be1 nm1 ed1 bx1 mn1 rw1 hf hf1 ho hgb H locs hP hS ls hl
      exact L0 fa1 a9 op1 nd1 pa1 be1 nm1 ed1 bx1 mn1 rw1 hf1 ho (Or.inr hf) hgb ⟨fun z => absurd z hf, fun z => absurd he z.2⟩ H locs hP hS ls hl
