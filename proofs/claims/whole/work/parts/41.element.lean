set_option maxHeartbeats 4000000 in
set_option maxRecDepth 100000 in
theorem m_element_y (l : Launch) (G : zG) (o : Nat) (w : Nat → Value) (q : Nat → Nat) (fa nd : Nat) (g pa be nm ed bx mn rw : Nat → Nat) (a last op : Nat) (hal : a < last) (hlast : last < 2000) (hop : 1 ≤ op) (hop2 : op ≤ 16) (hn1 : 1 ≤ nd ∧ nd < 1000) (hnd : ∀ k, 1 ≤ k → k < nd → be k < nm k ∧ nm k ≤ 2000) (hpa : ∀ k, pa k < 2 ^ 30) (hbx : ∀ k, bx k < 2 ^ 30) (hmn : ∀ k, mn k < 2 ^ 30) (hrw : ∀ k, rw k < 2 ^ 30) (hg : elG g pa be nm bx mn rw nd a last op) : Met l yX11_element wsX11_element ({ frames := 4, cells := 0, slots := 0, locals := 102 }) (zP G [.ref (o), .int (nI (a)), .int (nI (last)), .int (nI (op))] (fun H => MD G o w q 0 nd g pa be nm ed bx mn rw H)) (zQ (dAx o q) (some (.int (nI (vaR g (g a) ((tE g a last) + 1) last)))) (fun H => MD G o w q (vaF g (g a) ((tE g a last) + 1) last) (nd + 1) g (upN pa nd (bx (op - 1))) (upN be nd a) (upN nm nd (tE g a last)) ed bx (upN mn (op - 1) (mn (op - 1) + 1)) rw H)) 0 0 (dAx o q) := by
  refine Met.ofW (cc := cX11_element) (maxL := 8) (ret := (some .int)) (by decide) rfl ?_
  intro p en s m args below meth c s₁ B hml hv
  obtain ⟨rfl, hP, hK⟩ := hv
  have hx := B.exec
  have hb := B.bytes
  have hr := B.returns
  have hts := atoms_spec (ws := wsX11_element) B.pre
  have hz : ∀ w ∈ zW, w.before _ s = true := fun w h => hts w (List.mem_cons_of_mem _ h)
  have hown : s.vm.findClass RX11 = some m.cls := findClass_of_methodNamed B.named
  have hlocks := B.notSynchronized
  obtain ⟨hO, -, -, -, h8⟩ := id hP
  have hS : va_S (dAx o q) s.heap s.heap [] := va_S.rf
  have hl := lv_entry ([.ref (o), .int (nI (a)), .int (nI (last)), .int (nI (op))]) (n := 8) (Nat.le_of_ble_eq_true rfl)
  rw [lg_entry_eq]
  generalize (lg_sl ([.ref (o), .int (nI (a)), .int (nI (last)), .int (nI (op))]) ++ List.replicate (8 - (lg_sl ([.ref (o), .int (nI (a)), .int (nI (last)), .int (nI (op))])).length) Slot.unset).toArray = ls at hl ⊢
  have hl : lv_has ls 8 [(0, .ref (o)), (1, .int (nI (a))), (2, .int (nI (last))), (3, .int (nI (op)))] := hl
  refine lv_iload_n hx hb dX11_element_0 rfl (lv_at hl 1 rfl) ?_
  refine lv_iconst (v := nI 1) hx hb dX11_element_1 (by decide) ?_
  refine zi_add hx hb dX11_element_2 ?_
  refine lv_istore (lv' := [(4, .int (nI (a + 1))), (0, .ref (o)), (1, .int (nI (a))), (2, .int (nI (last))), (3, .int (nI (op)))]) hx hb dX11_element_3 hl (by decide) rfl (fun ls hl => ?_)
  refine lv_iload hx hb dX11_element_5 (lv_at hl 0 rfl) ?_
  refine lv_istore (lv' := [(5, .int (nI (a + 1))), (4, .int (nI (a + 1))), (0, .ref (o)), (1, .int (nI (a))), (2, .int (nI (last))), (3, .int (nI (op)))]) hx hb dX11_element_7 hl (by decide) rfl (fun ls hl => ?_)
  have L9 : ∀ (n_ : Nat) (k : Nat), last - k < n_ → (a + 1 ≤ k) → (k ≤ last) → (tE g a last = nz g (last - k) k) → ∀ (H : Heap) (locs : List Loc), MD G o w q 0 nd g pa be nm ed bx mn rw H → va_S (dAx o q) s.heap H locs → ∀ ls : Array Slot, lv_has ls 8 [(0, .ref (o)), (1, .int (nI (a))), (2, .int (nI (last))), (3, .int (nI (op))), (4, .int (nI (a + 1))), (5, .int (nI (k)))] → W p l en (headSpec wsX11_element ({ frames := 4, cells := 0, slots := 0, locals := 102 })).room s m ([.ref (o), .int (nI (a)), .int (nI (last)), .int (nI (op))] : List Value).toArray below meth c H locs 0 0 (MQ below (zQ (dAx o q) (some (.int (nI (vaR g (g a) ((tE g a last) + 1) last)))) (fun H => MD G o w q (vaF g (g a) ((tE g a last) + 1) last) (nd + 1) g (upN pa nd (bx (op - 1))) (upN be nd a) (upN nm nd (tE g a last)) ed bx (upN mn (op - 1) (mn (op - 1) + 1)) rw H)) ([.ref (o), .int (nI (a)), .int (nI (last)), .int (nI (op))] : List Value).toArray s 0 0 (dAx o q)) (F0 m 9 ls []) := by
    intro n_
    induction n_ with
    | zero => intro k hm_; exact absurd hm_ (Nat.not_lt_zero _)
    | succ n_ ih_ =>
      intro k hm_ h1 h2 ht H locs hP hS ls hl
      obtain ⟨hO, -, -, -, h8⟩ := id hP
      refine lv_iload hx hb dX11_element_9 (lv_at hl 5 rfl) ?_
      refine lv_iload_n hx hb dX11_element_11 rfl (lv_at hl 2 rfl) ?_
      refine zi_icmp_ge (tgt := 31) hx hb dX11_element_12 (by decide) (by omega) (by omega) (fun c_12 => ?_) (fun c_12 => ?_)
      · have hkE : tE g a last = k := ht.trans (nz_last g c_12)
        refine lv_iload hx hb dX11_element_31 (lv_at hl 5 rfl) ?_
        refine lv_iload_n hx hb dX11_element_33 rfl (lv_at hl 2 rfl) ?_
        refine zi_icmp_lt (tgt := 47) hx hb dX11_element_34 (by decide) (by omega) (by omega) (fun c_34 => ?_) (fun c_34 => ?_)
        · refine lv_aload_n hx hb dX11_element_47 rfl (lv_at hl 0 rfl) ?_
          refine zi_get (C := RX11) (T := TX11) (N := 23) (v := .ref (q 12)) hx hb hz wo_X11 hown hK hO rfl 12 (by decide) (hz _ wf_X11_26) (fun _ h9 => h9) rfl dX11_element_48 ?_
          refine lv_iload hx hb dX11_element_51 (lv_at hl 4 rfl) ?_
          refine lv_iload hx hb dX11_element_53 (lv_at hl 5 rfl) ?_
          refine zc_S (As := [.ref (q 12), .int (nI (a + 1)), .int (nI (k))]) (rest := []) ⟨hx, hb, hml, hown, hts⟩ (m_badText l G (q 12) 2000 g (by decide) h8 (a + 1) k (by omega) (by omega)) (cwS 3 hts (zgS wm_X11_96 wu_X11_badText) rfl rfl rfl (by decide +kernel) ⟨Nat.le_of_ble_eq_true rfl, Nat.le_of_ble_eq_true rfl⟩) hK hP.a12 rfl hl.1 rfl (Nat.le_of_ble_eq_true rfl) dX11_element_55 ⟨Nat.zero_le _, Nat.zero_le _⟩ ?_
          refine lv_istore (lv' := [(6, .int (bd g (a + 1) k)), (0, .ref (o)), (1, .int (nI (a))), (2, .int (nI (last))), (3, .int (nI (op))), (4, .int (nI (a + 1))), (5, .int (nI (k)))]) hx hb dX11_element_58 hl (by decide) rfl (fun ls hl => ?_)
          refine lv_iload hx hb dX11_element_60 (lv_at hl 0 rfl) ?_
          refine lv_if_lt (tgt := 75) hx hb dX11_element_62 (by decide) (fun c_62 => ?_) (fun c_62 => ?_)
          · refine lv_aload_n hx hb dX11_element_75 rfl (lv_at hl 1 rfl) ?_
            refine lv_iload hx hb dX11_element_76 (lv_at hl 5 rfl) ?_
            refine lv_iload hx hb dX11_element_78 (lv_at hl 6 rfl) ?_
            refine lv_iload_n hx hb dX11_element_80 rfl (lv_at hl 4 rfl) ?_
            refine zc_V (As := [.int (nI (a + 1)), .int (nI (k)), .int (nI (op))]) (rest := []) ⟨hx, hb, hml, hown, hts⟩ (m_isName l G o w q 0 nd g pa be nm ed bx mn rw (a + 1) k op (by omega) (by omega) hop hop2 (by omega) hnd hpa hbx hmn hrw) (cwV 3 hts (zgV wm_X11_99 wv_X11_isName) rfl rfl rfl (by decide +kernel) ⟨Nat.le_of_ble_eq_true rfl, Nat.le_of_ble_eq_true rfl⟩) hK hO rfl hP rfl hl.1 rfl (Nat.le_of_ble_eq_true rfl) dX11_element_81 ⟨Nat.zero_le _, Nat.zero_le _⟩ ?_
            refine zb_if_ne (tgt := 95) hx hb dX11_element_84 (by decide) (fun c_84 => ?_) (fun c_84 => ?_)
            · refine lv_aload_n hx hb dX11_element_95 rfl (lv_at hl 1 rfl) ?_
              refine zi_get (C := RX11) (T := TX11) (N := 23) (v := .int (nI (0))) hx hb hz wo_X11 hown hK hO rfl 13 (by decide) (hz _ wf_X11_68) (fun _ h9 => h9) rfl dX11_element_96 ?_
              refine zi_if_eq (tgt := 105) hx hb dX11_element_99 (by decide) (by decide) (fun c_99 => ?_) (fun c_99 => absurd c_99 (by decide))
              refine lv_aload_n hx hb dX11_element_105 rfl (lv_at hl 1 rfl) ?_
              refine zi_get (C := RX11) (T := TX11) (N := 23) (v := .int (nI (nd))) hx hb hz wo_X11 hown hK hO rfl 14 (by decide) (hz _ wf_X11_81) (fun _ h9 => h9) rfl dX11_element_106 ?_
              refine lv_istore (lv' := [(7, .int (nI (nd))), (6, .int (bd g (a + 1) k)), (0, .ref (o)), (1, .int (nI (a))), (2, .int (nI (last))), (3, .int (nI (op))), (4, .int (nI (a + 1))), (5, .int (nI (k)))]) hx hb dX11_element_109 hl (by decide) rfl (fun ls hl => ?_)
              refine lv_aload_n hx hb dX11_element_111 rfl (lv_at hl 2 rfl) ?_
              refine lv_dup hx hb dX11_element_112 rfl ?_
              refine zi_get (C := RX11) (T := TX11) (N := 23) (v := .int (nI (nd))) hx hb hz wo_X11 hown hK hO rfl 14 (by decide) (hz _ wf_X11_81) (fun _ h9 => h9) rfl dX11_element_113 ?_
              refine lv_iconst (v := nI 1) hx hb dX11_element_116 (by decide) ?_
              refine zi_add hx hb dX11_element_117 ?_
              refine zi_put (C := RX11) (T := TX11) (N := 23) (ty := .int) (v := .int (nI (nd + 1))) hx hb hz wo_X11 tyX11 tyX11_ok nmX11 hown hK hO rfl 14 (by decide) (hz _ wf_X11_81) (fun _ h9 => h9) rfl (by decide +kernel) rfl rfl (by show 14 < 23; decide) (A := (dAx o q)) (Or.inl rfl) hS dX11_element_118 (fun H locs _ hk9 hO9 hS => ?_)
              have hP : MD G o w q 0 (nd + 1) g pa be nm ed bx mn rw H := hP.put hk9 hO9
              have hO := hP.1
              have h8 := hP.2.2.2.2
              refine lv_aload_n hx hb dX11_element_121 rfl (lv_at hl 2 rfl) ?_
              refine zi_get (C := RX11) (T := TX11) (N := 23) (v := .ref (q 15)) hx hb hz wo_X11 hown hK hO rfl 15 (by decide) (hz _ wf_X11_29) (fun _ h9 => h9) rfl dX11_element_122 ?_
              refine lv_iload hx hb dX11_element_125 (lv_at hl 0 rfl) ?_
              refine lv_aload_n hx hb dX11_element_127 rfl (lv_at hl 2 rfl) ?_
              refine zi_get (C := RX11) (T := TX11) (N := 23) (v := .ref (q 19)) hx hb hz wo_X11 hown hK hO rfl 19 (by decide) (hz _ wf_X11_41) (fun _ h9 => h9) rfl dX11_element_128 ?_
              refine lv_iload_n hx hb dX11_element_131 rfl (lv_at hl 5 rfl) ?_
              refine lv_iconst (v := nI 1) hx hb dX11_element_132 (by decide) ?_
              refine zi_sub hx hb (by omega) dX11_element_133 ?_
              refine zi_ald hx hb hK hP.a19 (by omega) (by decide) dX11_element_134 ?_
              refine zi_ast hx hb hK hP.a15 (by omega) (by decide) (A := (dAx o q)) (Or.inr ⟨15, by decide, rfl⟩) hS dX11_element_135 (fun H locs _ hk9 hA9 hS => ?_)
              have hP : MD G o w q 0 (nd + 1) g (upN pa nd (bx (op - 1))) be nm ed bx mn rw H := hP.s15 hk9 hA9
              have hO := hP.1
              have h8 := hP.2.2.2.2
              refine lv_aload_n hx hb dX11_element_136 rfl (lv_at hl 2 rfl) ?_
              refine zi_get (C := RX11) (T := TX11) (N := 23) (v := .ref (q 16)) hx hb hz wo_X11 hown hK hO rfl 16 (by decide) (hz _ wf_X11_32) (fun _ h9 => h9) rfl dX11_element_137 ?_
              refine lv_iload hx hb dX11_element_140 (lv_at hl 0 rfl) ?_
              refine lv_iload_n hx hb dX11_element_142 rfl (lv_at hl 3 rfl) ?_
              refine zi_ast hx hb hK hP.a16 (by omega) (by decide) (A := (dAx o q)) (Or.inr ⟨16, by decide, rfl⟩) hS dX11_element_143 (fun H locs _ hk9 hA9 hS => ?_)
              have hP : MD G o w q 0 (nd + 1) g (upN pa nd (bx (op - 1))) (upN be nd a) nm ed bx mn rw H := hP.s16 hk9 hA9
              have hO := hP.1
              have h8 := hP.2.2.2.2
              refine lv_aload_n hx hb dX11_element_144 rfl (lv_at hl 2 rfl) ?_
              refine zi_get (C := RX11) (T := TX11) (N := 23) (v := .ref (q 17)) hx hb hz wo_X11 hown hK hO rfl 17 (by decide) (hz _ wf_X11_35) (fun _ h9 => h9) rfl dX11_element_145 ?_
              refine lv_iload hx hb dX11_element_148 (lv_at hl 0 rfl) ?_
              refine lv_iload hx hb dX11_element_150 (lv_at hl 7 rfl) ?_
              refine zi_ast hx hb hK hP.a17 (by omega) (by decide) (A := (dAx o q)) (Or.inr ⟨17, by decide, rfl⟩) hS dX11_element_152 (fun H locs _ hk9 hA9 hS => ?_)
              have hP : MD G o w q 0 (nd + 1) g (upN pa nd (bx (op - 1))) (upN be nd a) (upN nm nd k) ed bx mn rw H := hP.s17 hk9 hA9
              have hO := hP.1
              have h8 := hP.2.2.2.2
              refine lv_aload_n hx hb dX11_element_153 rfl (lv_at hl 2 rfl) ?_
              refine zi_get (C := RX11) (T := TX11) (N := 23) (v := .ref (q 20)) hx hb hz wo_X11 hown hK hO rfl 20 (by decide) (hz _ wf_X11_44) (fun _ h9 => h9) rfl dX11_element_154 ?_
              refine lv_iload_n hx hb dX11_element_157 rfl (lv_at hl 5 rfl) ?_
              refine lv_iconst (v := nI 1) hx hb dX11_element_158 (by decide) ?_
              refine zi_sub hx hb (by omega) dX11_element_159 ?_
              refine lv_dup2_11 hx hb dX11_element_160 rfl rfl ?_
              refine zi_ald hx hb hK hP.a20 (by omega) (by decide) dX11_element_161 ?_
              refine lv_iconst (v := nI 1) hx hb dX11_element_162 (by decide) ?_
              refine zi_add hx hb dX11_element_163 ?_
              refine zi_ast hx hb hK hP.a20 (by omega) (by decide) (A := (dAx o q)) (Or.inr ⟨20, by decide, rfl⟩) hS dX11_element_164 (fun H locs _ hk9 hA9 hS => ?_)
              have hP : MD G o w q 0 (nd + 1) g (upN pa nd (bx (op - 1))) (upN be nd a) (upN nm nd k) ed bx (upN mn (op - 1) (mn (op - 1) + 1)) rw H := hP.s20 hk9 hA9
              have hO := hP.1
              have h8 := hP.2.2.2.2
              refine lv_aload_n hx hb dX11_element_165 rfl (lv_at hl 2 rfl) ?_
              refine lv_aload_n hx hb dX11_element_166 rfl (lv_at hl 2 rfl) ?_
              refine zi_get (C := RX11) (T := TX11) (N := 23) (v := .ref (q 12)) hx hb hz wo_X11 hown hK hO rfl 12 (by decide) (hz _ wf_X11_26) (fun _ h9 => h9) rfl dX11_element_167 ?_
              refine lv_iload_n hx hb dX11_element_170 rfl (lv_at hl 3 rfl) ?_
              refine zi_ald hx hb hK hP.a12 (by omega) (by decide) dX11_element_171 ?_
              refine lv_iload hx hb dX11_element_172 (lv_at hl 7 rfl) ?_
              refine lv_iconst (v := nI 1) hx hb dX11_element_174 (by decide) ?_
              refine zi_add hx hb dX11_element_175 ?_
              refine lv_iload_n hx hb dX11_element_176 rfl (lv_at hl 4 rfl) ?_
              refine zc_VE (As := [.int (nI (g a)), .int (nI (k + 1)), .int (nI (last))]) (rest := []) ⟨hx, hb, hml, hown, hts⟩ (m_value l G o w q fa (nd + 1) g (upN pa nd (bx (op - 1))) (upN be nd a) (upN nm nd k) ed bx (upN mn (op - 1) (mn (op - 1) + 1)) rw (g a) (k + 1) last (h8 _) (by omega) hlast) (cwV 3 hts (zgV wm_X11_103 wv_X11_value) rfl rfl rfl (by decide +kernel) ⟨Nat.le_of_ble_eq_true rfl, Nat.le_of_ble_eq_true rfl⟩) hK hO rfl hP rfl hl.1 rfl (Nat.le_of_ble_eq_true rfl) dX11_element_177 ⟨Nat.zero_le _, Nat.zero_le _⟩ hS (fun _ h9 => h9) (fun H locs hP hz9 hk9 hS => ?_)
              obtain ⟨hO, -, -, -, h8⟩ := id hP
              refine W.eq (g2 := F0 m 180 ls ([.int (nI (vaR g (g a) (k + 1) last))])) rfl ?_
              exact zr_ie hx hb hr hlocks (by rw [hkE]) (by rw [hkE]; exact hP) hS dX11_element_180
            · exact absurd (c_84.symm.trans (show (if rw (op - 1) = 1 then isNu g (a + 1) k (mn (op - 1)) else nmU (nmS g pa be nm bx (a + 1) k op) (nd - 1) 1) = true by have h7 := hg.2.2; rw [hkE] at h7; exact h7)) (by decide)
          · exact absurd (by have h7 := hg.2.1; rwa [hkE] at h7) c_62
        · have h7 := hg.1; rw [hkE] at h7; exfalso; omega
      · refine lv_aload_n hx hb dX11_element_15 rfl (lv_at hl 0 rfl) ?_
        refine zi_get (C := RX11) (T := TX11) (N := 23) (v := .ref (q 12)) hx hb hz wo_X11 hown hK hO rfl 12 (by decide) (hz _ wf_X11_26) (fun _ h9 => h9) rfl dX11_element_16 ?_
        refine lv_iload hx hb dX11_element_19 (lv_at hl 5 rfl) ?_
        refine zi_ald hx hb hK hP.a12 (by omega) (by decide) dX11_element_21 ?_
        refine zi_if_eq (tgt := 31) hx hb dX11_element_22 (by decide) (Nat.lt_trans (h8 _) (by decide)) (fun c_22 => ?_) (fun c_22 => ?_)
        · have hkE : tE g a last = k := ht.trans (nz_zero g c_12 c_22)
          refine lv_iload hx hb dX11_element_31 (lv_at hl 5 rfl) ?_
          refine lv_iload_n hx hb dX11_element_33 rfl (lv_at hl 2 rfl) ?_
          refine zi_icmp_lt (tgt := 47) hx hb dX11_element_34 (by decide) (by omega) (by omega) (fun c_34 => ?_) (fun c_34 => ?_)
          · refine lv_aload_n hx hb dX11_element_47 rfl (lv_at hl 0 rfl) ?_
            refine zi_get (C := RX11) (T := TX11) (N := 23) (v := .ref (q 12)) hx hb hz wo_X11 hown hK hO rfl 12 (by decide) (hz _ wf_X11_26) (fun _ h9 => h9) rfl dX11_element_48 ?_
            refine lv_iload hx hb dX11_element_51 (lv_at hl 4 rfl) ?_
            refine lv_iload hx hb dX11_element_53 (lv_at hl 5 rfl) ?_
            refine zc_S (As := [.ref (q 12), .int (nI (a + 1)), .int (nI (k))]) (rest := []) ⟨hx, hb, hml, hown, hts⟩ (m_badText l G (q 12) 2000 g (by decide) h8 (a + 1) k (by omega) (by omega)) (cwS 3 hts (zgS wm_X11_96 wu_X11_badText) rfl rfl rfl (by decide +kernel) ⟨Nat.le_of_ble_eq_true rfl, Nat.le_of_ble_eq_true rfl⟩) hK hP.a12 rfl hl.1 rfl (Nat.le_of_ble_eq_true rfl) dX11_element_55 ⟨Nat.zero_le _, Nat.zero_le _⟩ ?_
            refine lv_istore (lv' := [(6, .int (bd g (a + 1) k)), (0, .ref (o)), (1, .int (nI (a))), (2, .int (nI (last))), (3, .int (nI (op))), (4, .int (nI (a + 1))), (5, .int (nI (k)))]) hx hb dX11_element_58 hl (by decide) rfl (fun ls hl => ?_)
            refine lv_iload hx hb dX11_element_60 (lv_at hl 0 rfl) ?_
            refine lv_if_lt (tgt := 75) hx hb dX11_element_62 (by decide) (fun c_62 => ?_) (fun c_62 => ?_)
            · refine lv_aload_n hx hb dX11_element_75 rfl (lv_at hl 1 rfl) ?_
              refine lv_iload hx hb dX11_element_76 (lv_at hl 5 rfl) ?_
              refine lv_iload hx hb dX11_element_78 (lv_at hl 6 rfl) ?_
              refine lv_iload_n hx hb dX11_element_80 rfl (lv_at hl 4 rfl) ?_
              refine zc_V (As := [.int (nI (a + 1)), .int (nI (k)), .int (nI (op))]) (rest := []) ⟨hx, hb, hml, hown, hts⟩ (m_isName l G o w q 0 nd g pa be nm ed bx mn rw (a + 1) k op (by omega) (by omega) hop hop2 (by omega) hnd hpa hbx hmn hrw) (cwV 3 hts (zgV wm_X11_99 wv_X11_isName) rfl rfl rfl (by decide +kernel) ⟨Nat.le_of_ble_eq_true rfl, Nat.le_of_ble_eq_true rfl⟩) hK hO rfl hP rfl hl.1 rfl (Nat.le_of_ble_eq_true rfl) dX11_element_81 ⟨Nat.zero_le _, Nat.zero_le _⟩ ?_
              refine zb_if_ne (tgt := 95) hx hb dX11_element_84 (by decide) (fun c_84 => ?_) (fun c_84 => ?_)
              · refine lv_aload_n hx hb dX11_element_95 rfl (lv_at hl 1 rfl) ?_
                refine zi_get (C := RX11) (T := TX11) (N := 23) (v := .int (nI (0))) hx hb hz wo_X11 hown hK hO rfl 13 (by decide) (hz _ wf_X11_68) (fun _ h9 => h9) rfl dX11_element_96 ?_
                refine zi_if_eq (tgt := 105) hx hb dX11_element_99 (by decide) (by decide) (fun c_99 => ?_) (fun c_99 => absurd c_99 (by decide))
                refine lv_aload_n hx hb dX11_element_105 rfl (lv_at hl 1 rfl) ?_
                refine zi_get (C := RX11) (T := TX11) (N := 23) (v := .int (nI (nd))) hx hb hz wo_X11 hown hK hO rfl 14 (by decide) (hz _ wf_X11_81) (fun _ h9 => h9) rfl dX11_element_106 ?_
                refine lv_istore (lv' := [(7, .int (nI (nd))), (6, .int (bd g (a + 1) k)), (0, .ref (o)), (1, .int (nI (a))), (2, .int (nI (last))), (3, .int (nI (op))), (4, .int (nI (a + 1))), (5, .int (nI (k)))]) hx hb dX11_element_109 hl (by decide) rfl (fun ls hl => ?_)
                refine lv_aload_n hx hb dX11_element_111 rfl (lv_at hl 2 rfl) ?_
                refine lv_dup hx hb dX11_element_112 rfl ?_
                refine zi_get (C := RX11) (T := TX11) (N := 23) (v := .int (nI (nd))) hx hb hz wo_X11 hown hK hO rfl 14 (by decide) (hz _ wf_X11_81) (fun _ h9 => h9) rfl dX11_element_113 ?_
                refine lv_iconst (v := nI 1) hx hb dX11_element_116 (by decide) ?_
                refine zi_add hx hb dX11_element_117 ?_
                refine zi_put (C := RX11) (T := TX11) (N := 23) (ty := .int) (v := .int (nI (nd + 1))) hx hb hz wo_X11 tyX11 tyX11_ok nmX11 hown hK hO rfl 14 (by decide) (hz _ wf_X11_81) (fun _ h9 => h9) rfl (by decide +kernel) rfl rfl (by show 14 < 23; decide) (A := (dAx o q)) (Or.inl rfl) hS dX11_element_118 (fun H locs _ hk9 hO9 hS => ?_)
                have hP : MD G o w q 0 (nd + 1) g pa be nm ed bx mn rw H := hP.put hk9 hO9
                have hO := hP.1
                have h8 := hP.2.2.2.2
                refine lv_aload_n hx hb dX11_element_121 rfl (lv_at hl 2 rfl) ?_
                refine zi_get (C := RX11) (T := TX11) (N := 23) (v := .ref (q 15)) hx hb hz wo_X11 hown hK hO rfl 15 (by decide) (hz _ wf_X11_29) (fun _ h9 => h9) rfl dX11_element_122 ?_
                refine lv_iload hx hb dX11_element_125 (lv_at hl 0 rfl) ?_
                refine lv_aload_n hx hb dX11_element_127 rfl (lv_at hl 2 rfl) ?_
                refine zi_get (C := RX11) (T := TX11) (N := 23) (v := .ref (q 19)) hx hb hz wo_X11 hown hK hO rfl 19 (by decide) (hz _ wf_X11_41) (fun _ h9 => h9) rfl dX11_element_128 ?_
                refine lv_iload_n hx hb dX11_element_131 rfl (lv_at hl 5 rfl) ?_
                refine lv_iconst (v := nI 1) hx hb dX11_element_132 (by decide) ?_
                refine zi_sub hx hb (by omega) dX11_element_133 ?_
                refine zi_ald hx hb hK hP.a19 (by omega) (by decide) dX11_element_134 ?_
                refine zi_ast hx hb hK hP.a15 (by omega) (by decide) (A := (dAx o q)) (Or.inr ⟨15, by decide, rfl⟩) hS dX11_element_135 (fun H locs _ hk9 hA9 hS => ?_)
                have hP : MD G o w q 0 (nd + 1) g (upN pa nd (bx (op - 1))) be nm ed bx mn rw H := hP.s15 hk9 hA9
                have hO := hP.1
                have h8 := hP.2.2.2.2
                refine lv_aload_n hx hb dX11_element_136 rfl (lv_at hl 2 rfl) ?_
                refine zi_get (C := RX11) (T := TX11) (N := 23) (v := .ref (q 16)) hx hb hz wo_X11 hown hK hO rfl 16 (by decide) (hz _ wf_X11_32) (fun _ h9 => h9) rfl dX11_element_137 ?_
                refine lv_iload hx hb dX11_element_140 (lv_at hl 0 rfl) ?_
                refine lv_iload_n hx hb dX11_element_142 rfl (lv_at hl 3 rfl) ?_
                refine zi_ast hx hb hK hP.a16 (by omega) (by decide) (A := (dAx o q)) (Or.inr ⟨16, by decide, rfl⟩) hS dX11_element_143 (fun H locs _ hk9 hA9 hS => ?_)
                have hP : MD G o w q 0 (nd + 1) g (upN pa nd (bx (op - 1))) (upN be nd a) nm ed bx mn rw H := hP.s16 hk9 hA9
                have hO := hP.1
                have h8 := hP.2.2.2.2
                refine lv_aload_n hx hb dX11_element_144 rfl (lv_at hl 2 rfl) ?_
                refine zi_get (C := RX11) (T := TX11) (N := 23) (v := .ref (q 17)) hx hb hz wo_X11 hown hK hO rfl 17 (by decide) (hz _ wf_X11_35) (fun _ h9 => h9) rfl dX11_element_145 ?_
                refine lv_iload hx hb dX11_element_148 (lv_at hl 0 rfl) ?_
                refine lv_iload hx hb dX11_element_150 (lv_at hl 7 rfl) ?_
                refine zi_ast hx hb hK hP.a17 (by omega) (by decide) (A := (dAx o q)) (Or.inr ⟨17, by decide, rfl⟩) hS dX11_element_152 (fun H locs _ hk9 hA9 hS => ?_)
                have hP : MD G o w q 0 (nd + 1) g (upN pa nd (bx (op - 1))) (upN be nd a) (upN nm nd k) ed bx mn rw H := hP.s17 hk9 hA9
                have hO := hP.1
                have h8 := hP.2.2.2.2
                refine lv_aload_n hx hb dX11_element_153 rfl (lv_at hl 2 rfl) ?_
                refine zi_get (C := RX11) (T := TX11) (N := 23) (v := .ref (q 20)) hx hb hz wo_X11 hown hK hO rfl 20 (by decide) (hz _ wf_X11_44) (fun _ h9 => h9) rfl dX11_element_154 ?_
                refine lv_iload_n hx hb dX11_element_157 rfl (lv_at hl 5 rfl) ?_
                refine lv_iconst (v := nI 1) hx hb dX11_element_158 (by decide) ?_
                refine zi_sub hx hb (by omega) dX11_element_159 ?_
                refine lv_dup2_11 hx hb dX11_element_160 rfl rfl ?_
                refine zi_ald hx hb hK hP.a20 (by omega) (by decide) dX11_element_161 ?_
                refine lv_iconst (v := nI 1) hx hb dX11_element_162 (by decide) ?_
                refine zi_add hx hb dX11_element_163 ?_
                refine zi_ast hx hb hK hP.a20 (by omega) (by decide) (A := (dAx o q)) (Or.inr ⟨20, by decide, rfl⟩) hS dX11_element_164 (fun H locs _ hk9 hA9 hS => ?_)
                have hP : MD G o w q 0 (nd + 1) g (upN pa nd (bx (op - 1))) (upN be nd a) (upN nm nd k) ed bx (upN mn (op - 1) (mn (op - 1) + 1)) rw H := hP.s20 hk9 hA9
                have hO := hP.1
                have h8 := hP.2.2.2.2
                refine lv_aload_n hx hb dX11_element_165 rfl (lv_at hl 2 rfl) ?_
                refine lv_aload_n hx hb dX11_element_166 rfl (lv_at hl 2 rfl) ?_
                refine zi_get (C := RX11) (T := TX11) (N := 23) (v := .ref (q 12)) hx hb hz wo_X11 hown hK hO rfl 12 (by decide) (hz _ wf_X11_26) (fun _ h9 => h9) rfl dX11_element_167 ?_
                refine lv_iload_n hx hb dX11_element_170 rfl (lv_at hl 3 rfl) ?_
                refine zi_ald hx hb hK hP.a12 (by omega) (by decide) dX11_element_171 ?_
                refine lv_iload hx hb dX11_element_172 (lv_at hl 7 rfl) ?_
                refine lv_iconst (v := nI 1) hx hb dX11_element_174 (by decide) ?_
                refine zi_add hx hb dX11_element_175 ?_
                refine lv_iload_n hx hb dX11_element_176 rfl (lv_at hl 4 rfl) ?_
                refine zc_VE (As := [.int (nI (g a)), .int (nI (k + 1)), .int (nI (last))]) (rest := []) ⟨hx, hb, hml, hown, hts⟩ (m_value l G o w q fa (nd + 1) g (upN pa nd (bx (op - 1))) (upN be nd a) (upN nm nd k) ed bx (upN mn (op - 1) (mn (op - 1) + 1)) rw (g a) (k + 1) last (h8 _) (by omega) hlast) (cwV 3 hts (zgV wm_X11_103 wv_X11_value) rfl rfl rfl (by decide +kernel) ⟨Nat.le_of_ble_eq_true rfl, Nat.le_of_ble_eq_true rfl⟩) hK hO rfl hP rfl hl.1 rfl (Nat.le_of_ble_eq_true rfl) dX11_element_177 ⟨Nat.zero_le _, Nat.zero_le _⟩ hS (fun _ h9 => h9) (fun H locs hP hz9 hk9 hS => ?_)
                obtain ⟨hO, -, -, -, h8⟩ := id hP
                refine W.eq (g2 := F0 m 180 ls ([.int (nI (vaR g (g a) (k + 1) last))])) rfl ?_
                exact zr_ie hx hb hr hlocks (by rw [hkE]) (by rw [hkE]; exact hP) hS dX11_element_180
              · exact absurd (c_84.symm.trans (show (if rw (op - 1) = 1 then isNu g (a + 1) k (mn (op - 1)) else nmU (nmS g pa be nm bx (a + 1) k op) (nd - 1) 1) = true by have h7 := hg.2.2; rw [hkE] at h7; exact h7)) (by decide)
            · exact absurd (by have h7 := hg.2.1; rwa [hkE] at h7) c_62
          · have h7 := hg.1; rw [hkE] at h7; exfalso; omega
        · refine lv_iinc (v := nI (k + 1)) (lv' := [(5, .int (nI (k + 1))), (0, .ref (o)), (1, .int (nI (a))), (2, .int (nI (last))), (3, .int (nI (op))), (4, .int (nI (a + 1)))]) hx hb dX11_element_25 hl (k := 5) rfl (nI_add _ _) (by decide) rfl (fun ls hl => ?_)
          refine lv_goto (tgt := 9) hx hb dX11_element_28 (by decide) ?_
          exact ih_ (k + 1) (by omega) (by omega) (by omega) (ht.trans (nz_next g c_12 c_22)) _ _ hP hS ls (lv_sub hl [1, 2, 3, 4, 5, 0] rfl)
  exact L9 ((last - (a + 1)) + 1) (a + 1) (Nat.lt_succ_self _) (Nat.le_refl _) (by omega) rfl _ _ hP hS ls (lv_sub hl [2, 3, 4, 5, 1, 0] rfl)

set_option maxHeartbeats 4000000 in
set_option maxRecDepth 100000 in
theorem m_element_n (l : Launch) (G : zG) (o : Nat) (w : Nat → Value) (q : Nat → Nat) (fa nd : Nat) (g pa be nm ed bx mn rw : Nat → Nat) (a last op : Nat) (hal : a < last) (hlast : last < 2000) (hop : 1 ≤ op) (hop2 : op ≤ 16) (hn1 : 1 ≤ nd ∧ nd < 1000) (hnd : ∀ k, 1 ≤ k → k < nd → be k < nm k ∧ nm k ≤ 2000) (hpa : ∀ k, pa k < 2 ^ 30) (hbx : ∀ k, bx k < 2 ^ 30) (hmn : ∀ k, mn k < 2 ^ 30) (hrw : ∀ k, rw k < 2 ^ 30) (hg : ¬ elG g pa be nm bx mn rw nd a last op) : Met l yX11_element wsX11_element ({ frames := 4, cells := 0, slots := 0, locals := 93 }) (zP G [.ref (o), .int (nI (a)), .int (nI (last)), .int (nI (op))] (fun H => MD G o w q 0 nd g pa be nm ed bx mn rw H)) (zQ (dAx o q) (some (.int (nI (tE g a last)))) (fun H => MD G o w q ((if last ≤ (tE g a last) then 1 else if bd g (a + 1) (tE g a last) < 0 then 7 else 4)) nd g pa be nm ed bx mn rw H)) 0 0 (dAx o q) := by
  refine Met.ofW (cc := cX11_element) (maxL := 8) (ret := (some .int)) (by decide) rfl ?_
  intro p en s m args below meth c s₁ B hml hv
  obtain ⟨rfl, hP, hK⟩ := hv
  have hx := B.exec
  have hb := B.bytes
  have hr := B.returns
  have hts := atoms_spec (ws := wsX11_element) B.pre
  have hz : ∀ w ∈ zW, w.before _ s = true := fun w h => hts w (List.mem_cons_of_mem _ h)
  have hown : s.vm.findClass RX11 = some m.cls := findClass_of_methodNamed B.named
  have hlocks := B.notSynchronized
  obtain ⟨hO, -, -, -, h8⟩ := id hP
  have hS : va_S (dAx o q) s.heap s.heap [] := va_S.rf
  have hl := lv_entry ([.ref (o), .int (nI (a)), .int (nI (last)), .int (nI (op))]) (n := 8) (Nat.le_of_ble_eq_true rfl)
  rw [lg_entry_eq]
  generalize (lg_sl ([.ref (o), .int (nI (a)), .int (nI (last)), .int (nI (op))]) ++ List.replicate (8 - (lg_sl ([.ref (o), .int (nI (a)), .int (nI (last)), .int (nI (op))])).length) Slot.unset).toArray = ls at hl ⊢
  have hl : lv_has ls 8 [(0, .ref (o)), (1, .int (nI (a))), (2, .int (nI (last))), (3, .int (nI (op)))] := hl
  refine lv_iload_n hx hb dX11_element_0 rfl (lv_at hl 1 rfl) ?_
  refine lv_iconst (v := nI 1) hx hb dX11_element_1 (by decide) ?_
  refine zi_add hx hb dX11_element_2 ?_
  refine lv_istore (lv' := [(4, .int (nI (a + 1))), (0, .ref (o)), (1, .int (nI (a))), (2, .int (nI (last))), (3, .int (nI (op)))]) hx hb dX11_element_3 hl (by decide) rfl (fun ls hl => ?_)
  refine lv_iload hx hb dX11_element_5 (lv_at hl 0 rfl) ?_
  refine lv_istore (lv' := [(5, .int (nI (a + 1))), (4, .int (nI (a + 1))), (0, .ref (o)), (1, .int (nI (a))), (2, .int (nI (last))), (3, .int (nI (op)))]) hx hb dX11_element_7 hl (by decide) rfl (fun ls hl => ?_)
  have L9 : ∀ (n_ : Nat) (k : Nat), last - k < n_ → (a + 1 ≤ k) → (k ≤ last) → (tE g a last = nz g (last - k) k) → ∀ (H : Heap) (locs : List Loc), MD G o w q 0 nd g pa be nm ed bx mn rw H → va_S (dAx o q) s.heap H locs → ∀ ls : Array Slot, lv_has ls 8 [(0, .ref (o)), (1, .int (nI (a))), (2, .int (nI (last))), (3, .int (nI (op))), (4, .int (nI (a + 1))), (5, .int (nI (k)))] → W p l en (headSpec wsX11_element ({ frames := 4, cells := 0, slots := 0, locals := 93 })).room s m ([.ref (o), .int (nI (a)), .int (nI (last)), .int (nI (op))] : List Value).toArray below meth c H locs 0 0 (MQ below (zQ (dAx o q) (some (.int (nI (tE g a last)))) (fun H => MD G o w q ((if last ≤ (tE g a last) then 1 else if bd g (a + 1) (tE g a last) < 0 then 7 else 4)) nd g pa be nm ed bx mn rw H)) ([.ref (o), .int (nI (a)), .int (nI (last)), .int (nI (op))] : List Value).toArray s 0 0 (dAx o q)) (F0 m 9 ls []) := by
    intro n_
    induction n_ with
    | zero => intro k hm_; exact absurd hm_ (Nat.not_lt_zero _)
    | succ n_ ih_ =>
      intro k hm_ h1 h2 ht H locs hP hS ls hl
      obtain ⟨hO, -, -, -, h8⟩ := id hP
      refine lv_iload hx hb dX11_element_9 (lv_at hl 5 rfl) ?_
      refine lv_iload_n hx hb dX11_element_11 rfl (lv_at hl 2 rfl) ?_
      refine zi_icmp_ge (tgt := 31) hx hb dX11_element_12 (by decide) (by omega) (by omega) (fun c_12 => ?_) (fun c_12 => ?_)
      · have hkE : tE g a last = k := ht.trans (nz_last g c_12)
        refine lv_iload hx hb dX11_element_31 (lv_at hl 5 rfl) ?_
        refine lv_iload_n hx hb dX11_element_33 rfl (lv_at hl 2 rfl) ?_
        refine zi_icmp_lt (tgt := 47) hx hb dX11_element_34 (by decide) (by omega) (by omega) (fun c_34 => ?_) (fun c_34 => ?_)
        · refine lv_aload_n hx hb dX11_element_47 rfl (lv_at hl 0 rfl) ?_
          refine zi_get (C := RX11) (T := TX11) (N := 23) (v := .ref (q 12)) hx hb hz wo_X11 hown hK hO rfl 12 (by decide) (hz _ wf_X11_26) (fun _ h9 => h9) rfl dX11_element_48 ?_
          refine lv_iload hx hb dX11_element_51 (lv_at hl 4 rfl) ?_
          refine lv_iload hx hb dX11_element_53 (lv_at hl 5 rfl) ?_
          refine zc_S (As := [.ref (q 12), .int (nI (a + 1)), .int (nI (k))]) (rest := []) ⟨hx, hb, hml, hown, hts⟩ (m_badText l G (q 12) 2000 g (by decide) h8 (a + 1) k (by omega) (by omega)) (cwS 3 hts (zgS wm_X11_96 wu_X11_badText) rfl rfl rfl (by decide +kernel) ⟨Nat.le_of_ble_eq_true rfl, Nat.le_of_ble_eq_true rfl⟩) hK hP.a12 rfl hl.1 rfl (Nat.le_of_ble_eq_true rfl) dX11_element_55 ⟨Nat.zero_le _, Nat.zero_le _⟩ ?_
          refine lv_istore (lv' := [(6, .int (bd g (a + 1) k)), (0, .ref (o)), (1, .int (nI (a))), (2, .int (nI (last))), (3, .int (nI (op))), (4, .int (nI (a + 1))), (5, .int (nI (k)))]) hx hb dX11_element_58 hl (by decide) rfl (fun ls hl => ?_)
          refine lv_iload hx hb dX11_element_60 (lv_at hl 0 rfl) ?_
          refine lv_if_lt (tgt := 75) hx hb dX11_element_62 (by decide) (fun c_62 => ?_) (fun c_62 => ?_)
          · refine lv_aload_n hx hb dX11_element_75 rfl (lv_at hl 1 rfl) ?_
            refine lv_iload hx hb dX11_element_76 (lv_at hl 5 rfl) ?_
            refine lv_iload hx hb dX11_element_78 (lv_at hl 6 rfl) ?_
            refine lv_iload_n hx hb dX11_element_80 rfl (lv_at hl 4 rfl) ?_
            refine zc_V (As := [.int (nI (a + 1)), .int (nI (k)), .int (nI (op))]) (rest := []) ⟨hx, hb, hml, hown, hts⟩ (m_isName l G o w q 0 nd g pa be nm ed bx mn rw (a + 1) k op (by omega) (by omega) hop hop2 (by omega) hnd hpa hbx hmn hrw) (cwV 3 hts (zgV wm_X11_99 wv_X11_isName) rfl rfl rfl (by decide +kernel) ⟨Nat.le_of_ble_eq_true rfl, Nat.le_of_ble_eq_true rfl⟩) hK hO rfl hP rfl hl.1 rfl (Nat.le_of_ble_eq_true rfl) dX11_element_81 ⟨Nat.zero_le _, Nat.zero_le _⟩ ?_
            refine zb_if_ne (tgt := 95) hx hb dX11_element_84 (by decide) (fun c_84 => ?_) (fun c_84 => ?_)
            · exact absurd ⟨by rw [hkE]; exact c_34, by rw [hkE]; exact c_62, by rw [hkE]; exact c_84⟩ hg
            · refine lv_aload_n hx hb dX11_element_87 rfl (lv_at hl 1 rfl) ?_
              refine lv_bipush (v := nI 7) hx hb dX11_element_88 (by decide) ?_
              refine lv_iload hx hb dX11_element_90 (lv_at hl 5 rfl) ?_
              refine zc_VE (As := [.int (nI (7)), .int (nI (a + 1))]) (rest := []) ⟨hx, hb, hml, hown, hts⟩ (m_stop l G o w q 0 nd g pa be nm ed bx mn rw 7 (nI (a + 1)) (by decide)) (cwV 2 hts (zgV wm_X11_71 wv_X11_stop) rfl rfl rfl (by decide +kernel) ⟨Nat.le_of_ble_eq_true rfl, Nat.le_of_ble_eq_true rfl⟩) hK hO rfl hP rfl hl.1 rfl (Nat.le_of_ble_eq_true rfl) dX11_element_92 ⟨Nat.zero_le _, Nat.zero_le _⟩ hS (fun _ h9 => h9) (fun H locs hP hz9 hk9 hS => ?_)
              obtain ⟨hO, -, -, -, h8⟩ := id hP
              refine W.eq (g2 := F0 m 95 ls ([])) rfl ?_
              refine lv_aload_n hx hb dX11_element_95 rfl (lv_at hl 1 rfl) ?_
              refine zi_get (C := RX11) (T := TX11) (N := 23) (v := .int (nI (dSt 0 7))) hx hb hz wo_X11 hown hK hO rfl 13 (by decide) (hz _ wf_X11_68) (fun _ h9 => h9) rfl dX11_element_96 ?_
              refine zi_if_eq (tgt := 105) hx hb dX11_element_99 (by decide) (by decide) (fun c_99 => ?_) (fun c_99 => ?_)
              · exact absurd c_99 (by decide)
              · refine lv_iload hx hb dX11_element_102 (lv_at hl 6 rfl) ?_
                exact zr_ie hx hb hr hlocks (by rw [hkE]) (by rw [hkE, if_neg (by omega), if_pos c_62]; exact hP) hS dX11_element_104
          · refine lv_aload_n hx hb dX11_element_65 rfl (lv_at hl 1 rfl) ?_
            refine lv_iconst (v := nI 4) hx hb dX11_element_66 (by decide) ?_
            refine lv_iload hx hb dX11_element_67 (lv_at hl 0 rfl) ?_
            refine zc_VE (As := [.int (nI (4)), .int (bd g (a + 1) k)]) (rest := []) ⟨hx, hb, hml, hown, hts⟩ (m_stop l G o w q 0 nd g pa be nm ed bx mn rw 4 (bd g (a + 1) k) (by decide)) (cwV 2 hts (zgV wm_X11_71 wv_X11_stop) rfl rfl rfl (by decide +kernel) ⟨Nat.le_of_ble_eq_true rfl, Nat.le_of_ble_eq_true rfl⟩) hK hO rfl hP rfl hl.1 rfl (Nat.le_of_ble_eq_true rfl) dX11_element_69 ⟨Nat.zero_le _, Nat.zero_le _⟩ hS (fun _ h9 => h9) (fun H locs hP hz9 hk9 hS => ?_)
            obtain ⟨hO, -, -, -, h8⟩ := id hP
            refine W.eq (g2 := F0 m 72 ls ([])) rfl ?_
            refine lv_goto (tgt := 95) hx hb dX11_element_72 (by decide) ?_
            refine lv_aload_n hx hb dX11_element_95 rfl (lv_at hl 1 rfl) ?_
            refine zi_get (C := RX11) (T := TX11) (N := 23) (v := .int (nI (dSt 0 4))) hx hb hz wo_X11 hown hK hO rfl 13 (by decide) (hz _ wf_X11_68) (fun _ h9 => h9) rfl dX11_element_96 ?_
            refine zi_if_eq (tgt := 105) hx hb dX11_element_99 (by decide) (by decide) (fun c_99 => ?_) (fun c_99 => ?_)
            · exact absurd c_99 (by decide)
            · refine lv_iload hx hb dX11_element_102 (lv_at hl 6 rfl) ?_
              exact zr_ie hx hb hr hlocks (by rw [hkE]) (by rw [hkE, if_neg (by omega), if_neg c_62]; exact hP) hS dX11_element_104
        · refine lv_aload_n hx hb dX11_element_37 rfl (lv_at hl 0 rfl) ?_
          refine lv_iconst (v := nI 1) hx hb dX11_element_38 (by decide) ?_
          refine lv_iload hx hb dX11_element_39 (lv_at hl 4 rfl) ?_
          refine zc_VE (As := [.int (nI (1)), .int (nI (a + 1))]) (rest := []) ⟨hx, hb, hml, hown, hts⟩ (m_stop l G o w q 0 nd g pa be nm ed bx mn rw 1 (nI (a + 1)) (by decide)) (cwV 2 hts (zgV wm_X11_71 wv_X11_stop) rfl rfl rfl (by decide +kernel) ⟨Nat.le_of_ble_eq_true rfl, Nat.le_of_ble_eq_true rfl⟩) hK hO rfl hP rfl hl.1 rfl (Nat.le_of_ble_eq_true rfl) dX11_element_41 ⟨Nat.zero_le _, Nat.zero_le _⟩ hS (fun _ h9 => h9) (fun H locs hP hz9 hk9 hS => ?_)
          obtain ⟨hO, -, -, -, h8⟩ := id hP
          refine W.eq (g2 := F0 m 44 ls ([])) rfl ?_
          refine lv_iload hx hb dX11_element_44 (lv_at hl 5 rfl) ?_
          exact zr_ie hx hb hr hlocks (by rw [hkE]) (by rw [hkE, if_pos c_34]; exact hP) hS dX11_element_46
      · refine lv_aload_n hx hb dX11_element_15 rfl (lv_at hl 0 rfl) ?_
        refine zi_get (C := RX11) (T := TX11) (N := 23) (v := .ref (q 12)) hx hb hz wo_X11 hown hK hO rfl 12 (by decide) (hz _ wf_X11_26) (fun _ h9 => h9) rfl dX11_element_16 ?_
        refine lv_iload hx hb dX11_element_19 (lv_at hl 5 rfl) ?_
        refine zi_ald hx hb hK hP.a12 (by omega) (by decide) dX11_element_21 ?_
        refine zi_if_eq (tgt := 31) hx hb dX11_element_22 (by decide) (Nat.lt_trans (h8 _) (by decide)) (fun c_22 => ?_) (fun c_22 => ?_)
        · have hkE : tE g a last = k := ht.trans (nz_zero g c_12 c_22)
          refine lv_iload hx hb dX11_element_31 (lv_at hl 5 rfl) ?_
          refine lv_iload_n hx hb dX11_element_33 rfl (lv_at hl 2 rfl) ?_
          refine zi_icmp_lt (tgt := 47) hx hb dX11_element_34 (by decide) (by omega) (by omega) (fun c_34 => ?_) (fun c_34 => ?_)
          · refine lv_aload_n hx hb dX11_element_47 rfl (lv_at hl 0 rfl) ?_
            refine zi_get (C := RX11) (T := TX11) (N := 23) (v := .ref (q 12)) hx hb hz wo_X11 hown hK hO rfl 12 (by decide) (hz _ wf_X11_26) (fun _ h9 => h9) rfl dX11_element_48 ?_
            refine lv_iload hx hb dX11_element_51 (lv_at hl 4 rfl) ?_
            refine lv_iload hx hb dX11_element_53 (lv_at hl 5 rfl) ?_
            refine zc_S (As := [.ref (q 12), .int (nI (a + 1)), .int (nI (k))]) (rest := []) ⟨hx, hb, hml, hown, hts⟩ (m_badText l G (q 12) 2000 g (by decide) h8 (a + 1) k (by omega) (by omega)) (cwS 3 hts (zgS wm_X11_96 wu_X11_badText) rfl rfl rfl (by decide +kernel) ⟨Nat.le_of_ble_eq_true rfl, Nat.le_of_ble_eq_true rfl⟩) hK hP.a12 rfl hl.1 rfl (Nat.le_of_ble_eq_true rfl) dX11_element_55 ⟨Nat.zero_le _, Nat.zero_le _⟩ ?_
            refine lv_istore (lv' := [(6, .int (bd g (a + 1) k)), (0, .ref (o)), (1, .int (nI (a))), (2, .int (nI (last))), (3, .int (nI (op))), (4, .int (nI (a + 1))), (5, .int (nI (k)))]) hx hb dX11_element_58 hl (by decide) rfl (fun ls hl => ?_)
            refine lv_iload hx hb dX11_element_60 (lv_at hl 0 rfl) ?_
            refine lv_if_lt (tgt := 75) hx hb dX11_element_62 (by decide) (fun c_62 => ?_) (fun c_62 => ?_)
            · refine lv_aload_n hx hb dX11_element_75 rfl (lv_at hl 1 rfl) ?_
              refine lv_iload hx hb dX11_element_76 (lv_at hl 5 rfl) ?_
              refine lv_iload hx hb dX11_element_78 (lv_at hl 6 rfl) ?_
              refine lv_iload_n hx hb dX11_element_80 rfl (lv_at hl 4 rfl) ?_
              refine zc_V (As := [.int (nI (a + 1)), .int (nI (k)), .int (nI (op))]) (rest := []) ⟨hx, hb, hml, hown, hts⟩ (m_isName l G o w q 0 nd g pa be nm ed bx mn rw (a + 1) k op (by omega) (by omega) hop hop2 (by omega) hnd hpa hbx hmn hrw) (cwV 3 hts (zgV wm_X11_99 wv_X11_isName) rfl rfl rfl (by decide +kernel) ⟨Nat.le_of_ble_eq_true rfl, Nat.le_of_ble_eq_true rfl⟩) hK hO rfl hP rfl hl.1 rfl (Nat.le_of_ble_eq_true rfl) dX11_element_81 ⟨Nat.zero_le _, Nat.zero_le _⟩ ?_
              refine zb_if_ne (tgt := 95) hx hb dX11_element_84 (by decide) (fun c_84 => ?_) (fun c_84 => ?_)
              · exact absurd ⟨by rw [hkE]; exact c_34, by rw [hkE]; exact c_62, by rw [hkE]; exact c_84⟩ hg
              · refine lv_aload_n hx hb dX11_element_87 rfl (lv_at hl 1 rfl) ?_
                refine lv_bipush (v := nI 7) hx hb dX11_element_88 (by decide) ?_
                refine lv_iload hx hb dX11_element_90 (lv_at hl 5 rfl) ?_
                refine zc_VE (As := [.int (nI (7)), .int (nI (a + 1))]) (rest := []) ⟨hx, hb, hml, hown, hts⟩ (m_stop l G o w q 0 nd g pa be nm ed bx mn rw 7 (nI (a + 1)) (by decide)) (cwV 2 hts (zgV wm_X11_71 wv_X11_stop) rfl rfl rfl (by decide +kernel) ⟨Nat.le_of_ble_eq_true rfl, Nat.le_of_ble_eq_true rfl⟩) hK hO rfl hP rfl hl.1 rfl (Nat.le_of_ble_eq_true rfl) dX11_element_92 ⟨Nat.zero_le _, Nat.zero_le _⟩ hS (fun _ h9 => h9) (fun H locs hP hz9 hk9 hS => ?_)
                obtain ⟨hO, -, -, -, h8⟩ := id hP
                refine W.eq (g2 := F0 m 95 ls ([])) rfl ?_
                refine lv_aload_n hx hb dX11_element_95 rfl (lv_at hl 1 rfl) ?_
                refine zi_get (C := RX11) (T := TX11) (N := 23) (v := .int (nI (dSt 0 7))) hx hb hz wo_X11 hown hK hO rfl 13 (by decide) (hz _ wf_X11_68) (fun _ h9 => h9) rfl dX11_element_96 ?_
                refine zi_if_eq (tgt := 105) hx hb dX11_element_99 (by decide) (by decide) (fun c_99 => ?_) (fun c_99 => ?_)
                · exact absurd c_99 (by decide)
                · refine lv_iload hx hb dX11_element_102 (lv_at hl 6 rfl) ?_
                  exact zr_ie hx hb hr hlocks (by rw [hkE]) (by rw [hkE, if_neg (by omega), if_pos c_62]; exact hP) hS dX11_element_104
            · refine lv_aload_n hx hb dX11_element_65 rfl (lv_at hl 1 rfl) ?_
              refine lv_iconst (v := nI 4) hx hb dX11_element_66 (by decide) ?_
              refine lv_iload hx hb dX11_element_67 (lv_at hl 0 rfl) ?_
              refine zc_VE (As := [.int (nI (4)), .int (bd g (a + 1) k)]) (rest := []) ⟨hx, hb, hml, hown, hts⟩ (m_stop l G o w q 0 nd g pa be nm ed bx mn rw 4 (bd g (a + 1) k) (by decide)) (cwV 2 hts (zgV wm_X11_71 wv_X11_stop) rfl rfl rfl (by decide +kernel) ⟨Nat.le_of_ble_eq_true rfl, Nat.le_of_ble_eq_true rfl⟩) hK hO rfl hP rfl hl.1 rfl (Nat.le_of_ble_eq_true rfl) dX11_element_69 ⟨Nat.zero_le _, Nat.zero_le _⟩ hS (fun _ h9 => h9) (fun H locs hP hz9 hk9 hS => ?_)
              obtain ⟨hO, -, -, -, h8⟩ := id hP
              refine W.eq (g2 := F0 m 72 ls ([])) rfl ?_
              refine lv_goto (tgt := 95) hx hb dX11_element_72 (by decide) ?_
              refine lv_aload_n hx hb dX11_element_95 rfl (lv_at hl 1 rfl) ?_
              refine zi_get (C := RX11) (T := TX11) (N := 23) (v := .int (nI (dSt 0 4))) hx hb hz wo_X11 hown hK hO rfl 13 (by decide) (hz _ wf_X11_68) (fun _ h9 => h9) rfl dX11_element_96 ?_
              refine zi_if_eq (tgt := 105) hx hb dX11_element_99 (by decide) (by decide) (fun c_99 => ?_) (fun c_99 => ?_)
              · exact absurd c_99 (by decide)
              · refine lv_iload hx hb dX11_element_102 (lv_at hl 6 rfl) ?_
                exact zr_ie hx hb hr hlocks (by rw [hkE]) (by rw [hkE, if_neg (by omega), if_neg c_62]; exact hP) hS dX11_element_104
          · refine lv_aload_n hx hb dX11_element_37 rfl (lv_at hl 0 rfl) ?_
            refine lv_iconst (v := nI 1) hx hb dX11_element_38 (by decide) ?_
            refine lv_iload hx hb dX11_element_39 (lv_at hl 4 rfl) ?_
            refine zc_VE (As := [.int (nI (1)), .int (nI (a + 1))]) (rest := []) ⟨hx, hb, hml, hown, hts⟩ (m_stop l G o w q 0 nd g pa be nm ed bx mn rw 1 (nI (a + 1)) (by decide)) (cwV 2 hts (zgV wm_X11_71 wv_X11_stop) rfl rfl rfl (by decide +kernel) ⟨Nat.le_of_ble_eq_true rfl, Nat.le_of_ble_eq_true rfl⟩) hK hO rfl hP rfl hl.1 rfl (Nat.le_of_ble_eq_true rfl) dX11_element_41 ⟨Nat.zero_le _, Nat.zero_le _⟩ hS (fun _ h9 => h9) (fun H locs hP hz9 hk9 hS => ?_)
            obtain ⟨hO, -, -, -, h8⟩ := id hP
            refine W.eq (g2 := F0 m 44 ls ([])) rfl ?_
            refine lv_iload hx hb dX11_element_44 (lv_at hl 5 rfl) ?_
            exact zr_ie hx hb hr hlocks (by rw [hkE]) (by rw [hkE, if_pos c_34]; exact hP) hS dX11_element_46
        · refine lv_iinc (v := nI (k + 1)) (lv' := [(5, .int (nI (k + 1))), (0, .ref (o)), (1, .int (nI (a))), (2, .int (nI (last))), (3, .int (nI (op))), (4, .int (nI (a + 1)))]) hx hb dX11_element_25 hl (k := 5) rfl (nI_add _ _) (by decide) rfl (fun ls hl => ?_)
          refine lv_goto (tgt := 9) hx hb dX11_element_28 (by decide) ?_
          exact ih_ (k + 1) (by omega) (by omega) (by omega) (ht.trans (nz_next g c_12 c_22)) _ _ hP hS ls (lv_sub hl [1, 2, 3, 4, 5, 0] rfl)
  exact L9 ((last - (a + 1)) + 1) (a + 1) (Nat.lt_succ_self _) (Nat.le_refl _) (by omega) rfl _ _ hP hS ls (lv_sub hl [2, 3, 4, 5, 1, 0] rfl)
