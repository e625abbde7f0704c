set_option maxHeartbeats 4000000 in
set_option maxRecDepth 100000 in
theorem m_isDocument (l : Launch) (G : zG) (o : Nat) (q : Nat → Nat) (tp : Nat) (pl : Int32) (wr wa nc np ns fa nd : Nat) (u : Bool) (X : Nat → Nat → Nat) (nb : Nat) (hnb : nb ≤ 2000) : Met l yX11_isDocument wsX11_isDocument ({ frames := 6, cells := 0, slots := 0, locals := 153 }) (zP G [.ref (o), .int (nI (nb))] (fun H => RS G o q tp pl wr wa nc np ns fa nd u X H)) (zQ (rAx o q) (some (.int (nI (nB (dcB (X 1) 16000 nb))))) (fun H => ∃ (fa1 nd1 : Nat) (X1 : Nat → Nat → Nat), RS G o q tp pl wr wa nc np ns fa1 nd1 u X1 H ∧ X1 1 = X 1 ∧ X1 4 = X 4 ∧ X1 5 = X 5 ∧ X1 6 = X 6 ∧ X1 12 = cpG (X 1) (X 12) nb)) 0 0 (rAx o q) := by
  refine Met.ofW (cc := cX11_isDocument) (maxL := 3) (ret := (some .boolean)) (by decide) rfl ?_
  intro p en s m args below meth c s₁ B hml hv
  obtain ⟨rfl, hP, hK⟩ := hv
  have hx := B.exec
  have hb := B.bytes
  have hr := B.returns
  have hts := atoms_spec (ws := wsX11_isDocument) B.pre
  have hz : ∀ w ∈ zW, w.before _ s = true := fun w h => hts w (List.mem_cons_of_mem _ h)
  have hown : s.vm.findClass RX11 = some m.cls := findClass_of_methodNamed B.named
  have hlocks := B.notSynchronized
  obtain ⟨hO, -⟩ := id hP
  have hS : va_S (rAx o q) s.heap s.heap [] := va_S.rf
  have hx12 := hP.2.2.2.2.2.1
  have hP : RS G o q tp pl wr wa nc np ns fa nd u (upX X 12 (cpG (X 1) (X 12) 0)) s.heap := by rw [cpG_0, show upX X 12 (X 12) = X from by funext j; unfold upX; split <;> simp_all]; exact hP
  have hO := hP.1
  have hl := lv_entry ([.ref (o), .int (nI (nb))]) (n := 3) (Nat.le_of_ble_eq_true rfl)
  rw [lg_entry_eq]
  generalize (lg_sl ([.ref (o), .int (nI (nb))]) ++ List.replicate (3 - (lg_sl ([.ref (o), .int (nI (nb))])).length) Slot.unset).toArray = ls at hl ⊢
  have hl : lv_has ls 3 [(0, .ref (o)), (1, .int (nI (nb)))] := hl
  refine lv_iconst (v := nI 0) hx hb dX11_isDocument_0 (by decide) ?_
  refine lv_istore_n (lv' := [(2, .int (nI (0))), (0, .ref (o)), (1, .int (nI (nb)))]) hx hb dX11_isDocument_1 rfl hl (by decide) rfl (fun ls hl => ?_)
  have L2 : ∀ (n_ : Nat) (k : Nat), nb - k < n_ → (k ≤ nb) → ∀ (H : Heap) (locs : List Loc), RS G o q tp pl wr wa nc np ns fa nd u (upX X 12 (cpG (X 1) (X 12) k)) H → va_S (rAx o q) s.heap H locs → ∀ ls : Array Slot, lv_has ls 3 [(0, .ref (o)), (1, .int (nI (nb))), (2, .int (nI (k)))] → W p l en (headSpec wsX11_isDocument ({ frames := 6, cells := 0, slots := 0, locals := 153 })).room s m ([.ref (o), .int (nI (nb))] : List Value).toArray below meth c H locs 0 0 (MQ below (zQ (rAx o q) (some (.int (nI (nB (dcB (X 1) 16000 nb))))) (fun H => ∃ (fa1 nd1 : Nat) (X1 : Nat → Nat → Nat), RS G o q tp pl wr wa nc np ns fa1 nd1 u X1 H ∧ X1 1 = X 1 ∧ X1 4 = X 4 ∧ X1 5 = X 5 ∧ X1 6 = X 6 ∧ X1 12 = cpG (X 1) (X 12) nb)) ([.ref (o), .int (nI (nb))] : List Value).toArray s 0 0 (rAx o q)) (F0 m 2 ls []) := by
    intro n_
    induction n_ with
    | zero => intro k hm_; exact absurd hm_ (Nat.not_lt_zero _)
    | succ n_ ih_ =>
      intro k hm_ hk9 H locs hP hS ls hl
      obtain ⟨hO, -⟩ := id hP
      refine lv_iload_n hx hb dX11_isDocument_2 rfl (lv_at hl 2 rfl) ?_
      refine lv_iload_n hx hb dX11_isDocument_3 rfl (lv_at hl 1 rfl) ?_
      refine zi_icmp_ge (tgt := 29) hx hb dX11_isDocument_4 (by decide) (by omega) (by omega) (fun c_4 => ?_) (fun c_4 => ?_)
      · have hkn : nb = k := by omega
        subst hkn
        refine lv_aload_n hx hb dX11_isDocument_29 rfl (lv_at hl 0 rfl) ?_
        refine lv_iload_n hx hb dX11_isDocument_30 rfl (lv_at hl 1 rfl) ?_
        refine zc_VE (As := [.int (nI (nb))]) (rest := []) ⟨hx, hb, hml, hown, hts⟩ (m_goOver l G o (rw_ q tp pl wr wa nc np ns fa nd u) q fa nd (cpG (X 1) (X 12) nb) (X 15) (X 16) (X 17) (X 18) (X 19) (X 20) (X 21) nb hnb hP.2.2.2.2.2.2) (cwV 1 hts (zgV wm_X11_121 wv_X11_goOver) rfl rfl rfl (by decide +kernel) ⟨Nat.le_of_ble_eq_true rfl, Nat.le_of_ble_eq_true rfl⟩) hK hO rfl hP.md rfl hl.1 rfl (Nat.le_of_ble_eq_true rfl) dX11_isDocument_31 ⟨Nat.zero_le _, Nat.zero_le _⟩ hS (fun _ h9 => dAx_r h9) (fun H1 locs hP1 hz9 hk9 hS => ?_)
        obtain ⟨fa1, nd1, pa1, be1, nm1, ed1, bx1, mn1, rw1, hM1, hB1, hf1, hi1⟩ := hP1
        have hP : RS G o q tp pl wr wa nc np ns fa1 nd1 u (upD (upX X 12 (cpG (X 1) (X 12) nb)) pa1 be1 nm1 ed1 bx1 mn1 rw1) H1 := hP.ofMD hM1 hB1 hk9
        clear hO
        generalize H1 = H at *
        have hO := hP.1
        refine W.eq (g2 := F0 m 34 ls []) rfl ?_
        refine lv_aload_n hx hb dX11_isDocument_34 rfl (lv_at hl 0 rfl) ?_
        refine zi_get (C := RX11) (T := TX11) (N := 23) (v := .int (nI (fa1))) hx hb hz wo_X11 hown hK hO rfl 13 (by decide) (hz _ wf_X11_68) (fun _ h9 => h9) rfl dX11_isDocument_35 ?_
        refine zi_if_ne (tgt := 45) hx hb dX11_isDocument_38 (by decide) (by omega) (fun c_38 => ?_) (fun c_38 => ?_)
        · refine lv_iconst (v := nI 0) hx hb dX11_isDocument_45 (by decide) ?_
          exact zr_ze hx hb hr hlocks (by rw [dc_fa (g := X 12) hnb hi1, decide_eq_false c_38]; rfl) (⟨fa1, nd1, _, hP, rfl, rfl, rfl, rfl, rfl⟩) hS dX11_isDocument_46
        · refine lv_iconst (v := nI 1) hx hb dX11_isDocument_41 (by decide) ?_
          refine lv_goto (tgt := 46) hx hb dX11_isDocument_42 (by decide) ?_
          exact zr_ze hx hb hr hlocks (by rw [dc_fa (g := X 12) hnb hi1, decide_eq_true c_38]; rfl) (⟨fa1, nd1, _, hP, rfl, rfl, rfl, rfl, rfl⟩) hS dX11_isDocument_46
      · refine lv_aload_n hx hb dX11_isDocument_7 rfl (lv_at hl 0 rfl) ?_
        refine zi_get (C := RX11) (T := TX11) (N := 23) (v := .ref (q 12)) hx hb hz wo_X11 hown hK hO rfl 12 (by decide) (hz _ wf_X11_26) (fun _ h9 => h9) rfl dX11_isDocument_8 ?_
        refine lv_iload_n hx hb dX11_isDocument_11 rfl (lv_at hl 2 rfl) ?_
        refine lv_aload_n hx hb dX11_isDocument_12 rfl (lv_at hl 0 rfl) ?_
        refine zi_get (C := RX11) (T := TX11) (N := 23) (v := .ref (q 1)) hx hb hz wo_X11 hown hK hO rfl 1 (by decide) (hz _ wf_X11_7) (fun _ h9 => h9) rfl dX11_isDocument_13 ?_
        refine lv_sipush (v := nI 16000) hx hb dX11_isDocument_16 (by decide) ?_
        refine lv_iload_n hx hb dX11_isDocument_19 rfl (lv_at hl 2 rfl) ?_
        refine zi_add hx hb dX11_isDocument_20 ?_
        refine zi_ald hx hb hK (show zA G H (q 1) 18000 (X 1) from hP.2.1 1 (by decide)) (by omega) (by decide) dX11_isDocument_21 ?_
        refine zi_ast hx hb hK (show zA G H (q 12) 2000 (cpG (X 1) (X 12) k) from hP.2.1 12 (by decide)) (by omega) (by decide) (A := (rAx o q)) (Or.inr ⟨12, by decide, rfl⟩) hS dX11_isDocument_22 (fun H locs _ hk9 hA9 hS => ?_)
        rw [cpG_s] at hA9
        have hP : RS G o q tp pl wr wa nc np ns fa nd u (upX (upX X 12 (cpG (X 1) (X 12) k)) 12 (cpG (X 1) (X 12) (k + 1))) H := hP.st (by decide) (by decide) hk9 hA9 (fun _ => cpG_lt hP.2.2.2.2.1 (fun j => hx12 j) (k + 1))
        have hO := hP.1
        rw [show upX (upX X 12 (cpG (X 1) (X 12) k)) 12 (cpG (X 1) (X 12) (k + 1)) = upX X 12 (cpG (X 1) (X 12) (k + 1)) from by funext j; unfold upX; split <;> rfl] at hP
        have hO := hP.1
        refine lv_iinc (v := nI (k + 1)) (lv' := [(2, .int (nI (k + 1))), (0, .ref (o)), (1, .int (nI (nb)))]) hx hb dX11_isDocument_23 hl (k := 2) rfl (nI_add _ _) (by decide) rfl (fun ls hl => ?_)
        refine lv_goto (tgt := 2) hx hb dX11_isDocument_26 (by decide) ?_
        exact ih_ (k + 1) (by omega) (by omega) _ _ hP hS ls (lv_sub hl [1, 2, 0] rfl)
  exact L2 ((nb - 0) + 1) 0 (Nat.lt_succ_self _) (Nat.zero_le _) _ _ hP hS ls (lv_sub hl [1, 2, 0] rfl)

set_option maxHeartbeats 4000000 in
set_option maxRecDepth 100000 in
theorem m_read_no (l : Launch) (G : zG) (o : Nat) (q : Nat → Nat) (tp : Nat) (pl : Int32) (wr wa nc np ns fa nd : Nat) (u : Bool) (X : Nat → Nat → Nat) (x y : Int32) (hxy : ¬ (is4i x = true ∧ ¬ y < 0 ∧ y ≤ nI tp)) : Met l yX11_read wsX11_read ({ frames := 1, cells := 0, slots := 0, locals := 20 }) (zP G [.ref (o), .int (x), .int (y)] (fun H => RS G o q tp pl wr wa nc np ns fa nd u X H)) (zR (.int (-2))) 0 0 (fun _ => False) := by
  refine Met.ofW (cc := cX11_read) (maxL := 4) (ret := (some .int)) (by decide) rfl ?_
  intro p en s m args below meth c s₁ B hml hv
  obtain ⟨rfl, hP, hK⟩ := hv
  have hx := B.exec
  have hb := B.bytes
  have hr := B.returns
  have hts := atoms_spec (ws := wsX11_read) B.pre
  have hz : ∀ w ∈ zW, w.before _ s = true := fun w h => hts w (List.mem_cons_of_mem _ h)
  have hown : s.vm.findClass RX11 = some m.cls := findClass_of_methodNamed B.named
  have hlocks := B.notSynchronized
  obtain ⟨hO, -⟩ := id hP
  have hl := lv_entry ([.ref (o), .int (x), .int (y)]) (n := 4) (Nat.le_of_ble_eq_true rfl)
  rw [lg_entry_eq]
  generalize (lg_sl ([.ref (o), .int (x), .int (y)]) ++ List.replicate (4 - (lg_sl ([.ref (o), .int (x), .int (y)])).length) Slot.unset).toArray = ls at hl ⊢
  have hl : lv_has ls 4 [(0, .ref (o)), (1, .int (x)), (2, .int (y))] := hl
  refine lv_iload_n hx hb dX11_read_0 rfl (lv_at hl 1 rfl) ?_
  refine zc_S (As := [.int (x)]) (rest := []) ⟨hx, hb, hml, hown, hts⟩ (m_isFour l G (x)) (cwS 1 hts (zgS wm_X11_308 wu_X11_isFour) rfl rfl rfl (by decide +kernel) ⟨Nat.le_of_ble_eq_true rfl, Nat.le_of_ble_eq_true rfl⟩) hK trivial rfl hl.1 rfl (Nat.le_of_ble_eq_true rfl) dX11_read_1 ⟨Nat.zero_le _, Nat.zero_le _⟩ ?_
  refine zb_if_eq (tgt := 19) hx hb dX11_read_4 (by decide) (fun c_4 => ?_) (fun c_4 => ?_)
  · refine lv_bipush (v := (-2)) hx hb dX11_read_19 (by decide) ?_
    exact zr_i hx hb hr hlocks (rfl) dX11_read_21
  · refine lv_iload_n hx hb dX11_read_7 rfl (lv_at hl 2 rfl) ?_
    refine lv_if_lt (tgt := 19) hx hb dX11_read_8 (by decide) (fun c_8 => ?_) (fun c_8 => ?_)
    · refine lv_bipush (v := (-2)) hx hb dX11_read_19 (by decide) ?_
      exact zr_i hx hb hr hlocks (rfl) dX11_read_21
    · refine lv_iload_n hx hb dX11_read_11 rfl (lv_at hl 2 rfl) ?_
      refine lv_aload_n hx hb dX11_read_12 rfl (lv_at hl 0 rfl) ?_
      refine zi_get (C := RX11) (T := TX11) (N := 23) (v := .int (nI (tp))) hx hb hz wo_X11 hown hK hO rfl 2 (by decide) (hz _ wf_X11_53) (fun _ h9 => h9) rfl dX11_read_13 ?_
      refine lv_icmp_le (tgt := 22) hx hb dX11_read_16 (by decide) (fun c_16 => ?_) (fun c_16 => ?_)
      · exact absurd ⟨c_4, c_8, c_16⟩ hxy
      · refine lv_bipush (v := (-2)) hx hb dX11_read_19 (by decide) ?_
        exact zr_i hx hb hr hlocks (rfl) dX11_read_21

set_option maxHeartbeats 4000000 in
set_option maxRecDepth 100000 in
theorem m_filter_no (l : Launch) (G : zG) (o : Nat) (q : Nat → Nat) (tp : Nat) (pl : Int32) (wr wa nc np ns fa nd : Nat) (u : Bool) (X : Nat → Nat → Nat) (x y : Int32) (hxy : ¬ (is4i x = true ∧ ¬ y < 0 ∧ y ≤ nI tp)) : Met l yX11_filter wsX11_filter ({ frames := 1, cells := 0, slots := 0, locals := 20 }) (zP G [.ref (o), .int (x), .int (y)] (fun H => RS G o q tp pl wr wa nc np ns fa nd u X H)) (zR (.int (-2))) 0 0 (fun _ => False) := by
  refine Met.ofW (cc := cX11_filter) (maxL := 4) (ret := (some .int)) (by decide) rfl ?_
  intro p en s m args below meth c s₁ B hml hv
  obtain ⟨rfl, hP, hK⟩ := hv
  have hx := B.exec
  have hb := B.bytes
  have hr := B.returns
  have hts := atoms_spec (ws := wsX11_filter) B.pre
  have hz : ∀ w ∈ zW, w.before _ s = true := fun w h => hts w (List.mem_cons_of_mem _ h)
  have hown : s.vm.findClass RX11 = some m.cls := findClass_of_methodNamed B.named
  have hlocks := B.notSynchronized
  obtain ⟨hO, -⟩ := id hP
  have hl := lv_entry ([.ref (o), .int (x), .int (y)]) (n := 4) (Nat.le_of_ble_eq_true rfl)
  rw [lg_entry_eq]
  generalize (lg_sl ([.ref (o), .int (x), .int (y)]) ++ List.replicate (4 - (lg_sl ([.ref (o), .int (x), .int (y)])).length) Slot.unset).toArray = ls at hl ⊢
  have hl : lv_has ls 4 [(0, .ref (o)), (1, .int (x)), (2, .int (y))] := hl
  refine lv_iload_n hx hb dX11_filter_0 rfl (lv_at hl 1 rfl) ?_
  refine zc_S (As := [.int (x)]) (rest := []) ⟨hx, hb, hml, hown, hts⟩ (m_isFour l G (x)) (cwS 1 hts (zgS wm_X11_308 wu_X11_isFour) rfl rfl rfl (by decide +kernel) ⟨Nat.le_of_ble_eq_true rfl, Nat.le_of_ble_eq_true rfl⟩) hK trivial rfl hl.1 rfl (Nat.le_of_ble_eq_true rfl) dX11_filter_1 ⟨Nat.zero_le _, Nat.zero_le _⟩ ?_
  refine zb_if_eq (tgt := 19) hx hb dX11_filter_4 (by decide) (fun c_4 => ?_) (fun c_4 => ?_)
  · refine lv_bipush (v := (-2)) hx hb dX11_filter_19 (by decide) ?_
    exact zr_i hx hb hr hlocks (rfl) dX11_filter_21
  · refine lv_iload_n hx hb dX11_filter_7 rfl (lv_at hl 2 rfl) ?_
    refine lv_if_lt (tgt := 19) hx hb dX11_filter_8 (by decide) (fun c_8 => ?_) (fun c_8 => ?_)
    · refine lv_bipush (v := (-2)) hx hb dX11_filter_19 (by decide) ?_
      exact zr_i hx hb hr hlocks (rfl) dX11_filter_21
    · refine lv_iload_n hx hb dX11_filter_11 rfl (lv_at hl 2 rfl) ?_
      refine lv_aload_n hx hb dX11_filter_12 rfl (lv_at hl 0 rfl) ?_
      refine zi_get (C := RX11) (T := TX11) (N := 23) (v := .int (nI (tp))) hx hb hz wo_X11 hown hK hO rfl 2 (by decide) (hz _ wf_X11_53) (fun _ h9 => h9) rfl dX11_filter_13 ?_
      refine lv_icmp_le (tgt := 22) hx hb dX11_filter_16 (by decide) (fun c_16 => ?_) (fun c_16 => ?_)
      · exact absurd ⟨c_4, c_8, c_16⟩ hxy
      · refine lv_bipush (v := (-2)) hx hb dX11_filter_19 (by decide) ?_
        exact zr_i hx hb hr hlocks (rfl) dX11_filter_21

set_option maxHeartbeats 4000000 in
set_option maxRecDepth 100000 in
theorem m_read (l : Launch) (G : zG) (o : Nat) (q : Nat → Nat) (tp : Nat) (pl : Int32) (wr wa nc np ns fa nd : Nat) (u : Bool) (X : Nat → Nat → Nat) (i nb : Nat) (hi : i < 4) (hnb : nb ≤ tp) (htp : tp ≤ 2000) : Met l yX11_read wsX11_read ({ frames := 7, cells := 0, slots := 0, locals := 175 }) (zP G [.ref (o), .int (nI (i)), .int (nI (nb))] (fun H => RS G o q tp pl wr wa nc np ns fa nd u X H)) (zQ (rAx o q) (some (.int (if dcB (X 1) 16000 nb = true then nI 0 else -1))) (fun H => ∃ (fa1 nd1 : Nat) (X1 : Nat → Nat → Nat), RS G o q 0 pl wr wa nc np ns fa1 nd1 u X1 H ∧ X1 1 = (if dcB (X 1) 16000 nb = true then cpW (X 1) (fun j => X 1 (16000 + j)) (2000 * i) nb else X 1) ∧ X1 4 = X 4 ∧ X1 5 = X 5 ∧ X1 6 = X 6)) 0 0 (rAx o q) := by
  refine Met.ofW (cc := cX11_read) (maxL := 4) (ret := (some .int)) (by decide) rfl ?_
  intro p en s m args below meth c s₁ B hml hv
  obtain ⟨rfl, hP, hK⟩ := hv
  have hx := B.exec
  have hb := B.bytes
  have hr := B.returns
  have hts := atoms_spec (ws := wsX11_read) B.pre
  have hz : ∀ w ∈ zW, w.before _ s = true := fun w h => hts w (List.mem_cons_of_mem _ h)
  have hown : s.vm.findClass RX11 = some m.cls := findClass_of_methodNamed B.named
  have hlocks := B.notSynchronized
  obtain ⟨hO, -⟩ := id hP
  have hS : va_S (rAx o q) s.heap s.heap [] := va_S.rf
  have hf4 : decide (¬ nI i < 0 ∧ nI i < 4) = true := decide_eq_true ⟨nI_pos (by omega), by rw [show (4 : Int32) = nI 4 from by decide]; exact (nI_ltI (by omega) (by decide)).mpr hi⟩
  have hl := lv_entry ([.ref (o), .int (nI (i)), .int (nI (nb))]) (n := 4) (Nat.le_of_ble_eq_true rfl)
  rw [lg_entry_eq]
  generalize (lg_sl ([.ref (o), .int (nI (i)), .int (nI (nb))]) ++ List.replicate (4 - (lg_sl ([.ref (o), .int (nI (i)), .int (nI (nb))])).length) Slot.unset).toArray = ls at hl ⊢
  have hl : lv_has ls 4 [(0, .ref (o)), (1, .int (nI (i))), (2, .int (nI (nb)))] := hl
  refine lv_iload_n hx hb dX11_read_0 rfl (lv_at hl 1 rfl) ?_
  refine zc_S (As := [.int (nI (i))]) (rest := []) ⟨hx, hb, hml, hown, hts⟩ (m_isFour l G (nI (i))) (cwS 1 hts (zgS wm_X11_308 wu_X11_isFour) rfl rfl rfl (by decide +kernel) ⟨Nat.le_of_ble_eq_true rfl, Nat.le_of_ble_eq_true rfl⟩) hK trivial rfl hl.1 rfl (Nat.le_of_ble_eq_true rfl) dX11_read_1 ⟨Nat.zero_le _, Nat.zero_le _⟩ ?_
  refine zb_if_eq (tgt := 19) hx hb dX11_read_4 (by decide) (fun c_4 => ?_) (fun c_4 => ?_)
  · exact absurd (c_4.symm.trans hf4) (by decide)
  · refine lv_iload_n hx hb dX11_read_7 rfl (lv_at hl 2 rfl) ?_
    refine zi_if_lt (tgt := 19) hx hb dX11_read_8 (by decide) (by omega) ?_
    refine lv_iload_n hx hb dX11_read_11 rfl (lv_at hl 2 rfl) ?_
    refine lv_aload_n hx hb dX11_read_12 rfl (lv_at hl 0 rfl) ?_
    refine zi_get (C := RX11) (T := TX11) (N := 23) (v := .int (nI (tp))) hx hb hz wo_X11 hown hK hO rfl 2 (by decide) (hz _ wf_X11_53) (fun _ h9 => h9) rfl dX11_read_13 ?_
    refine zi_icmp_le (tgt := 22) hx hb dX11_read_16 (by decide) (by omega) (by omega) (fun c_16 => ?_) (fun c_16 => ?_)
    · refine lv_aload_n hx hb dX11_read_22 rfl (lv_at hl 0 rfl) ?_
      refine lv_iconst (v := nI 0) hx hb dX11_read_23 (by decide) ?_
      refine zi_put (C := RX11) (T := TX11) (N := 23) (ty := .int) (v := .int (nI (0))) hx hb hz wo_X11 tyX11 tyX11_ok nmX11 hown hK hO rfl 2 (by decide) (hz _ wf_X11_53) (fun _ h9 => h9) rfl (by decide +kernel) rfl rfl (by show 2 < 23; decide) (A := (rAx o q)) (Or.inl rfl) hS dX11_read_24 (fun H locs _ hk9 hO9 hS => ?_)
      have hP : RS G o q 0 pl wr wa nc np ns fa nd u X H := hP.put hk9 hO9
      have hO := hP.1
      refine lv_aload_n hx hb dX11_read_27 rfl (lv_at hl 0 rfl) ?_
      refine lv_iload_n hx hb dX11_read_28 rfl (lv_at hl 2 rfl) ?_
      refine zc_VE (As := [.int (nI (nb))]) (rest := []) ⟨hx, hb, hml, hown, hts⟩ (m_isDocument l G o q 0 pl wr wa nc np ns fa nd u X nb (by omega)) (cwV 1 hts (zgV wm_X11_311 wv_X11_isDocument) rfl rfl rfl (by decide +kernel) ⟨Nat.le_of_ble_eq_true rfl, Nat.le_of_ble_eq_true rfl⟩) hK hO rfl hP rfl hl.1 rfl (Nat.le_of_ble_eq_true rfl) dX11_read_29 ⟨Nat.zero_le _, Nat.zero_le _⟩ hS (fun _ h9 => h9) (fun H locs hP hz9 hk9 hS => ?_)
      obtain ⟨fa1, nd1, X1, hP, e1, e4, e5, e6, e12⟩ := hP
      obtain ⟨hO, -⟩ := id hP
      refine W.eq (g2 := F0 m 32 ls ([.int (nI (nB (dcB (X 1) 16000 nb)))])) rfl ?_
      refine zb_if_ne (tgt := 37) hx hb dX11_read_32 (by decide) (fun c_32 => ?_) (fun c_32 => ?_)
      · have hx1 := hP.2.2.2.2.1
        have hx12 := hP.2.2.2.2.2.1
        have hP : RS G o q 0 pl wr wa nc np ns fa1 nd1 u (upX X1 1 (cpW (X1 1) (X1 12) (2000 * i) 0)) H := by rw [cpW_0, show upX X1 1 (X1 1) = X1 from by funext j; unfold upX; split <;> simp_all]; exact hP
        have hO := hP.1
        refine lv_iconst (v := nI 0) hx hb dX11_read_37 (by decide) ?_
        refine lv_istore_n (lv' := [(3, .int (nI (0))), (0, .ref (o)), (1, .int (nI (i))), (2, .int (nI (nb)))]) hx hb dX11_read_38 rfl hl (by decide) rfl (fun ls hl => ?_)
        have L39 : ∀ (n_ : Nat) (k : Nat), nb - k < n_ → (k ≤ nb) → ∀ (H : Heap) (locs : List Loc), RS G o q 0 pl wr wa nc np ns fa1 nd1 u (upX X1 1 (cpW (X1 1) (X1 12) (2000 * i) k)) H → va_S (rAx o q) s.heap H locs → ∀ ls : Array Slot, lv_has ls 4 [(0, .ref (o)), (1, .int (nI (i))), (2, .int (nI (nb))), (3, .int (nI (k)))] → W p l en (headSpec wsX11_read ({ frames := 7, cells := 0, slots := 0, locals := 175 })).room s m ([.ref (o), .int (nI (i)), .int (nI (nb))] : List Value).toArray below meth c H locs 0 0 (MQ below (zQ (rAx o q) (some (.int (if dcB (X 1) 16000 nb = true then nI 0 else -1))) (fun H => ∃ (fa1 nd1 : Nat) (X1 : Nat → Nat → Nat), RS G o q 0 pl wr wa nc np ns fa1 nd1 u X1 H ∧ X1 1 = (if dcB (X 1) 16000 nb = true then cpW (X 1) (fun j => X 1 (16000 + j)) (2000 * i) nb else X 1) ∧ X1 4 = X 4 ∧ X1 5 = X 5 ∧ X1 6 = X 6)) ([.ref (o), .int (nI (i)), .int (nI (nb))] : List Value).toArray s 0 0 (rAx o q)) (F0 m 39 ls []) := by
          intro n_
          induction n_ with
          | zero => intro k hm_; exact absurd hm_ (Nat.not_lt_zero _)
          | succ n_ ih_ =>
            intro k hm_ hk9 H locs hP hS ls hl
            obtain ⟨hO, -⟩ := id hP
            refine lv_iload_n hx hb dX11_read_39 rfl (lv_at hl 3 rfl) ?_
            refine lv_iload_n hx hb dX11_read_40 rfl (lv_at hl 2 rfl) ?_
            refine zi_icmp_ge (tgt := 68) hx hb dX11_read_41 (by decide) (by omega) (by omega) (fun c_41 => ?_) (fun c_41 => ?_)
            · have hkn : nb = k := by omega
              subst hkn
              refine lv_iconst (v := nI 0) hx hb dX11_read_68 (by decide) ?_
              exact zr_ie hx hb hr hlocks (by rw [if_pos c_32]) (⟨fa1, nd1, _, hP, by rw [if_pos c_32]; show cpW (X1 1) (X1 12) (2000 * i) nb = _; rw [e1, e12, cpW_cp], e4, e5, e6⟩) hS dX11_read_69
            · refine lv_aload_n hx hb dX11_read_44 rfl (lv_at hl 0 rfl) ?_
              refine zi_get (C := RX11) (T := TX11) (N := 23) (v := .ref (q 1)) hx hb hz wo_X11 hown hK hO rfl 1 (by decide) (hz _ wf_X11_7) (fun _ h9 => h9) rfl dX11_read_45 ?_
              refine lv_sipush (v := nI 2000) hx hb dX11_read_48 (by decide) ?_
              refine lv_iload_n hx hb dX11_read_51 rfl (lv_at hl 1 rfl) ?_
              refine zi_mul hx hb dX11_read_52 ?_
              refine lv_iload_n hx hb dX11_read_53 rfl (lv_at hl 3 rfl) ?_
              refine zi_add hx hb dX11_read_54 ?_
              refine lv_aload_n hx hb dX11_read_55 rfl (lv_at hl 0 rfl) ?_
              refine zi_get (C := RX11) (T := TX11) (N := 23) (v := .ref (q 12)) hx hb hz wo_X11 hown hK hO rfl 12 (by decide) (hz _ wf_X11_26) (fun _ h9 => h9) rfl dX11_read_56 ?_
              refine lv_iload_n hx hb dX11_read_59 rfl (lv_at hl 3 rfl) ?_
              refine zi_ald hx hb hK (show zA G H (q 12) 2000 (X1 12) from hP.2.1 12 (by decide)) (by omega) (by decide) dX11_read_60 ?_
              refine zi_ast hx hb hK (show zA G H (q 1) 18000 (cpW (X1 1) (X1 12) (2000 * i) k) from hP.2.1 1 (by decide)) (by omega) (by decide) (A := (rAx o q)) (Or.inr ⟨1, by decide, rfl⟩) hS dX11_read_61 (fun H locs _ hk9 hA9 hS => ?_)
              rw [cpW_s] at hA9
              have hP : RS G o q 0 pl wr wa nc np ns fa1 nd1 u (upX (upX X1 1 (cpW (X1 1) (X1 12) (2000 * i) k)) 1 (cpW (X1 1) (X1 12) (2000 * i) (k + 1))) H := hP.st (by decide) (by decide) hk9 hA9 (fun _ => cpW_lt hx1 hx12 _ _)
              have hO := hP.1
              rw [show upX (upX X1 1 (cpW (X1 1) (X1 12) (2000 * i) k)) 1 (cpW (X1 1) (X1 12) (2000 * i) (k + 1)) = upX X1 1 (cpW (X1 1) (X1 12) (2000 * i) (k + 1)) from by funext j; unfold upX; split <;> rfl] at hP
              have hO := hP.1
              refine lv_iinc (v := nI (k + 1)) (lv' := [(3, .int (nI (k + 1))), (0, .ref (o)), (1, .int (nI (i))), (2, .int (nI (nb)))]) hx hb dX11_read_62 hl (k := 3) rfl (nI_add _ _) (by decide) rfl (fun ls hl => ?_)
              refine lv_goto (tgt := 39) hx hb dX11_read_65 (by decide) ?_
              exact ih_ (k + 1) (by omega) (by omega) _ _ hP hS ls (lv_sub hl [1, 2, 3, 0] rfl)
        exact L39 ((nb - 0) + 1) 0 (Nat.lt_succ_self _) (Nat.zero_le _) _ _ hP hS ls (lv_sub hl [1, 2, 3, 0] rfl)
      · refine lv_iconst (v := (-1)) hx hb dX11_read_35 (by decide) ?_
        exact zr_ie hx hb hr hlocks (by rw [if_neg (by rw [c_32]; decide)]) (⟨fa1, nd1, X1, hP, by rw [if_neg (by rw [c_32]; decide)]; exact e1, e4, e5, e6⟩) hS dX11_read_36
    · exfalso; omega

set_option maxHeartbeats 4000000 in
set_option maxRecDepth 100000 in
theorem m_filter_bad (l : Launch) (G : zG) (o : Nat) (q : Nat → Nat) (tp : Nat) (pl : Int32) (wr wa nc np ns fa nd : Nat) (u : Bool) (X : Nat → Nat → Nat) (i nb : Nat) (hi : i < 4) (hnb : nb ≤ tp) (htp : tp ≤ 2000) (hdb : dcB (X 1) 16000 nb = false) : Met l yX11_filter wsX11_filter ({ frames := 7, cells := 0, slots := 0, locals := 175 }) (zP G [.ref (o), .int (nI (i)), .int (nI (nb))] (fun H => RS G o q tp pl wr wa nc np ns fa nd u X H)) (zQ (rAx o q) (some (.int (-1))) (fun H => ∃ (fa1 nd1 : Nat) (X1 : Nat → Nat → Nat), RS G o q 0 (-1) wr wa nc np ns fa1 nd1 u X1 H ∧ X1 1 = X 1 ∧ X1 4 = X 4 ∧ X1 5 = X 5 ∧ X1 6 = X 6)) 0 0 (rAx o q) := by
  refine Met.ofW (cc := cX11_filter) (maxL := 4) (ret := (some .int)) (by decide) rfl ?_
  intro p en s m args below meth c s₁ B hml hv
  obtain ⟨rfl, hP, hK⟩ := hv
  have hx := B.exec
  have hb := B.bytes
  have hr := B.returns
  have hts := atoms_spec (ws := wsX11_filter) B.pre
  have hz : ∀ w ∈ zW, w.before _ s = true := fun w h => hts w (List.mem_cons_of_mem _ h)
  have hown : s.vm.findClass RX11 = some m.cls := findClass_of_methodNamed B.named
  have hlocks := B.notSynchronized
  obtain ⟨hO, -⟩ := id hP
  have hS : va_S (rAx o q) s.heap s.heap [] := va_S.rf
  have hf4 : decide (¬ nI i < 0 ∧ nI i < 4) = true := decide_eq_true ⟨nI_pos (by omega), by rw [show (4 : Int32) = nI 4 from by decide]; exact (nI_ltI (by omega) (by decide)).mpr hi⟩
  have hl := lv_entry ([.ref (o), .int (nI (i)), .int (nI (nb))]) (n := 4) (Nat.le_of_ble_eq_true rfl)
  rw [lg_entry_eq]
  generalize (lg_sl ([.ref (o), .int (nI (i)), .int (nI (nb))]) ++ List.replicate (4 - (lg_sl ([.ref (o), .int (nI (i)), .int (nI (nb))])).length) Slot.unset).toArray = ls at hl ⊢
  have hl : lv_has ls 4 [(0, .ref (o)), (1, .int (nI (i))), (2, .int (nI (nb)))] := hl
  refine lv_iload_n hx hb dX11_filter_0 rfl (lv_at hl 1 rfl) ?_
  refine zc_S (As := [.int (nI (i))]) (rest := []) ⟨hx, hb, hml, hown, hts⟩ (m_isFour l G (nI (i))) (cwS 1 hts (zgS wm_X11_308 wu_X11_isFour) rfl rfl rfl (by decide +kernel) ⟨Nat.le_of_ble_eq_true rfl, Nat.le_of_ble_eq_true rfl⟩) hK trivial rfl hl.1 rfl (Nat.le_of_ble_eq_true rfl) dX11_filter_1 ⟨Nat.zero_le _, Nat.zero_le _⟩ ?_
  refine zb_if_eq (tgt := 19) hx hb dX11_filter_4 (by decide) (fun c_4 => ?_) (fun c_4 => ?_)
  · exact absurd (c_4.symm.trans hf4) (by decide)
  · refine lv_iload_n hx hb dX11_filter_7 rfl (lv_at hl 2 rfl) ?_
    refine zi_if_lt (tgt := 19) hx hb dX11_filter_8 (by decide) (by omega) ?_
    refine lv_iload_n hx hb dX11_filter_11 rfl (lv_at hl 2 rfl) ?_
    refine lv_aload_n hx hb dX11_filter_12 rfl (lv_at hl 0 rfl) ?_
    refine zi_get (C := RX11) (T := TX11) (N := 23) (v := .int (nI (tp))) hx hb hz wo_X11 hown hK hO rfl 2 (by decide) (hz _ wf_X11_53) (fun _ h9 => h9) rfl dX11_filter_13 ?_
    refine zi_icmp_le (tgt := 22) hx hb dX11_filter_16 (by decide) (by omega) (by omega) (fun c_16 => ?_) (fun c_16 => ?_)
    · refine lv_aload_n hx hb dX11_filter_22 rfl (lv_at hl 0 rfl) ?_
      refine lv_iconst (v := nI 0) hx hb dX11_filter_23 (by decide) ?_
      refine zi_put (C := RX11) (T := TX11) (N := 23) (ty := .int) (v := .int (nI (0))) hx hb hz wo_X11 tyX11 tyX11_ok nmX11 hown hK hO rfl 2 (by decide) (hz _ wf_X11_53) (fun _ h9 => h9) rfl (by decide +kernel) rfl rfl (by show 2 < 23; decide) (A := (rAx o q)) (Or.inl rfl) hS dX11_filter_24 (fun H locs _ hk9 hO9 hS => ?_)
      have hP : RS G o q 0 pl wr wa nc np ns fa nd u X H := hP.put hk9 hO9
      have hO := hP.1
      refine lv_aload_n hx hb dX11_filter_27 rfl (lv_at hl 0 rfl) ?_
      refine lv_iconst (v := (-1)) hx hb dX11_filter_28 (by decide) ?_
      refine zi_put (C := RX11) (T := TX11) (N := 23) (ty := .int) (v := .int ((-1))) hx hb hz wo_X11 tyX11 tyX11_ok nmX11 hown hK hO rfl 3 (by decide) (hz _ wf_X11_13) (fun _ h9 => h9) rfl (by decide +kernel) rfl rfl (by show 3 < 23; decide) (A := (rAx o q)) (Or.inl rfl) hS dX11_filter_29 (fun H locs _ hk9 hO9 hS => ?_)
      have hP : RS G o q 0 ((-1)) wr wa nc np ns fa nd u X H := hP.put hk9 hO9
      have hO := hP.1
      refine lv_aload_n hx hb dX11_filter_32 rfl (lv_at hl 0 rfl) ?_
      refine lv_iload_n hx hb dX11_filter_33 rfl (lv_at hl 2 rfl) ?_
      refine zc_VE (As := [.int (nI (nb))]) (rest := []) ⟨hx, hb, hml, hown, hts⟩ (m_isDocument l G o q 0 ((-1)) wr wa nc np ns fa nd u X nb (by omega)) (cwV 1 hts (zgV wm_X11_311 wv_X11_isDocument) rfl rfl rfl (by decide +kernel) ⟨Nat.le_of_ble_eq_true rfl, Nat.le_of_ble_eq_true rfl⟩) hK hO rfl hP rfl hl.1 rfl (Nat.le_of_ble_eq_true rfl) dX11_filter_34 ⟨Nat.zero_le _, Nat.zero_le _⟩ hS (fun _ h9 => h9) (fun H locs hP hz9 hk9 hS => ?_)
      obtain ⟨fa1, nd1, X1, hP, e1, e4, e5, e6, e12⟩ := hP
      obtain ⟨hO, -⟩ := id hP
      refine W.eq (g2 := F0 m 37 ls ([.int (nI (nB (dcB (X 1) 16000 nb)))])) rfl ?_
      refine zb_if_ne (tgt := 42) hx hb dX11_filter_37 (by decide) (fun c_37 => ?_) (fun c_37 => ?_)
      · exact absurd (c_37.symm.trans hdb) (by decide)
      · refine lv_iconst (v := (-1)) hx hb dX11_filter_40 (by decide) ?_
        exact zr_ie hx hb hr hlocks (rfl) (⟨fa1, nd1, X1, hP, e1, e4, e5, e6⟩) hS dX11_filter_41
    · exfalso; omega

set_option maxHeartbeats 4000000 in
set_option maxRecDepth 100000 in
theorem m_filter_wrong (l : Launch) (G : zG) (o : Nat) (q : Nat → Nat) (tp : Nat) (pl : Int32) (wr wa nc np ns fa nd : Nat) (u : Bool) (X : Nat → Nat → Nat) (i nb : Nat) (hi : i < 4) (hnb : nb ≤ tp) (htp : tp ≤ 2000) (hdb : dcB (X 1) 16000 nb = true) (hw : ((ckF (X 1) 16).2 16000 (0, wa, 0, 0, 0)).1 ≠ 0) : Met l yX11_filter wsX11_filter ({ frames := 57, cells := 0, slots := 0, locals := 1452 }) (zP G [.ref (o), .int (nI (i)), .int (nI (nb))] (fun H => RS G o q tp pl wr wa nc np ns fa nd u X H)) (zQ (rAx o q) (some (.int (nI ((ckF (X 1) 16).2 16000 (0, wa, 0, 0, 0)).1))) (fun H => ∃ (fa1 nd1 wr1 wa1 nc1 np1 ns1 : Nat) (X1 : Nat → Nat → Nat), RS G o q 0 (nI ((ckF (X 1) 16).2 16000 (0, wa, 0, 0, 0)).2.1 - nI 16000) wr1 wa1 nc1 np1 ns1 fa1 nd1 u X1 H ∧ X1 1 = X 1 ∧ X1 4 = X 4 ∧ X1 5 = X 5 ∧ X1 6 = X 6)) 0 0 (rAx o q) := by
  refine Met.ofW (cc := cX11_filter) (maxL := 4) (ret := (some .int)) (by decide) rfl ?_
  intro p en s m args below meth c s₁ B hml hv
  obtain ⟨rfl, hP, hK⟩ := hv
  have hx := B.exec
  have hb := B.bytes
  have hr := B.returns
  have hts := atoms_spec (ws := wsX11_filter) B.pre
  have hz : ∀ w ∈ zW, w.before _ s = true := fun w h => hts w (List.mem_cons_of_mem _ h)
  have hown : s.vm.findClass RX11 = some m.cls := findClass_of_methodNamed B.named
  have hlocks := B.notSynchronized
  obtain ⟨hO, -⟩ := id hP
  have hS : va_S (rAx o q) s.heap s.heap [] := va_S.rf
  have hf4 : decide (¬ nI i < 0 ∧ nI i < 4) = true := decide_eq_true ⟨nI_pos (by omega), by rw [show (4 : Int32) = nI 4 from by decide]; exact (nI_ltI (by omega) (by decide)).mpr hi⟩
  have hl := lv_entry ([.ref (o), .int (nI (i)), .int (nI (nb))]) (n := 4) (Nat.le_of_ble_eq_true rfl)
  rw [lg_entry_eq]
  generalize (lg_sl ([.ref (o), .int (nI (i)), .int (nI (nb))]) ++ List.replicate (4 - (lg_sl ([.ref (o), .int (nI (i)), .int (nI (nb))])).length) Slot.unset).toArray = ls at hl ⊢
  have hl : lv_has ls 4 [(0, .ref (o)), (1, .int (nI (i))), (2, .int (nI (nb)))] := hl
  refine lv_iload_n hx hb dX11_filter_0 rfl (lv_at hl 1 rfl) ?_
  refine zc_S (As := [.int (nI (i))]) (rest := []) ⟨hx, hb, hml, hown, hts⟩ (m_isFour l G (nI (i))) (cwS 1 hts (zgS wm_X11_308 wu_X11_isFour) rfl rfl rfl (by decide +kernel) ⟨Nat.le_of_ble_eq_true rfl, Nat.le_of_ble_eq_true rfl⟩) hK trivial rfl hl.1 rfl (Nat.le_of_ble_eq_true rfl) dX11_filter_1 ⟨Nat.zero_le _, Nat.zero_le _⟩ ?_
  refine zb_if_eq (tgt := 19) hx hb dX11_filter_4 (by decide) (fun c_4 => ?_) (fun c_4 => ?_)
  · exact absurd (c_4.symm.trans hf4) (by decide)
  · refine lv_iload_n hx hb dX11_filter_7 rfl (lv_at hl 2 rfl) ?_
    refine zi_if_lt (tgt := 19) hx hb dX11_filter_8 (by decide) (by omega) ?_
    refine lv_iload_n hx hb dX11_filter_11 rfl (lv_at hl 2 rfl) ?_
    refine lv_aload_n hx hb dX11_filter_12 rfl (lv_at hl 0 rfl) ?_
    refine zi_get (C := RX11) (T := TX11) (N := 23) (v := .int (nI (tp))) hx hb hz wo_X11 hown hK hO rfl 2 (by decide) (hz _ wf_X11_53) (fun _ h9 => h9) rfl dX11_filter_13 ?_
    refine zi_icmp_le (tgt := 22) hx hb dX11_filter_16 (by decide) (by omega) (by omega) (fun c_16 => ?_) (fun c_16 => ?_)
    · refine lv_aload_n hx hb dX11_filter_22 rfl (lv_at hl 0 rfl) ?_
      refine lv_iconst (v := nI 0) hx hb dX11_filter_23 (by decide) ?_
      refine zi_put (C := RX11) (T := TX11) (N := 23) (ty := .int) (v := .int (nI (0))) hx hb hz wo_X11 tyX11 tyX11_ok nmX11 hown hK hO rfl 2 (by decide) (hz _ wf_X11_53) (fun _ h9 => h9) rfl (by decide +kernel) rfl rfl (by show 2 < 23; decide) (A := (rAx o q)) (Or.inl rfl) hS dX11_filter_24 (fun H locs _ hk9 hO9 hS => ?_)
      have hP : RS G o q 0 pl wr wa nc np ns fa nd u X H := hP.put hk9 hO9
      have hO := hP.1
      refine lv_aload_n hx hb dX11_filter_27 rfl (lv_at hl 0 rfl) ?_
      refine lv_iconst (v := (-1)) hx hb dX11_filter_28 (by decide) ?_
      refine zi_put (C := RX11) (T := TX11) (N := 23) (ty := .int) (v := .int ((-1))) hx hb hz wo_X11 tyX11 tyX11_ok nmX11 hown hK hO rfl 3 (by decide) (hz _ wf_X11_13) (fun _ h9 => h9) rfl (by decide +kernel) rfl rfl (by show 3 < 23; decide) (A := (rAx o q)) (Or.inl rfl) hS dX11_filter_29 (fun H locs _ hk9 hO9 hS => ?_)
      have hP : RS G o q 0 ((-1)) wr wa nc np ns fa nd u X H := hP.put hk9 hO9
      have hO := hP.1
      refine lv_aload_n hx hb dX11_filter_32 rfl (lv_at hl 0 rfl) ?_
      refine lv_iload_n hx hb dX11_filter_33 rfl (lv_at hl 2 rfl) ?_
      refine zc_VE (As := [.int (nI (nb))]) (rest := []) ⟨hx, hb, hml, hown, hts⟩ (m_isDocument l G o q 0 ((-1)) wr wa nc np ns fa nd u X nb (by omega)) (cwV 1 hts (zgV wm_X11_311 wv_X11_isDocument) rfl rfl rfl (by decide +kernel) ⟨Nat.le_of_ble_eq_true rfl, Nat.le_of_ble_eq_true rfl⟩) hK hO rfl hP rfl hl.1 rfl (Nat.le_of_ble_eq_true rfl) dX11_filter_34 ⟨Nat.zero_le _, Nat.zero_le _⟩ hS (fun _ h9 => h9) (fun H locs hP hz9 hk9 hS => ?_)
      obtain ⟨fa1, nd1, X1, hP, e1, e4, e5, e6, e12⟩ := hP
      obtain ⟨hO, -⟩ := id hP
      refine W.eq (g2 := F0 m 37 ls ([.int (nI (nB (dcB (X 1) 16000 nb)))])) rfl ?_
      refine zb_if_ne (tgt := 42) hx hb dX11_filter_37 (by decide) (fun c_37 => ?_) (fun c_37 => ?_)
      · refine lv_aload_n hx hb dX11_filter_42 rfl (lv_at hl 0 rfl) ?_
        refine lv_iconst (v := nI 0) hx hb dX11_filter_43 (by decide) ?_
        refine zi_put (C := RX11) (T := TX11) (N := 23) (ty := .int) (v := .int (nI (0))) hx hb hz wo_X11 tyX11 tyX11_ok nmX11 hown hK hO rfl 10 (by decide) (hz _ wf_X11_191) (fun _ h9 => h9) rfl (by decide +kernel) rfl rfl (by show 10 < 23; decide) (A := (rAx o q)) (Or.inl rfl) hS dX11_filter_44 (fun H locs _ hk9 hO9 hS => ?_)
        have hP : RS G o q 0 ((-1)) 0 wa nc np ns fa1 nd1 u X1 H := hP.put hk9 hO9
        have hO := hP.1
        refine lv_aload_n hx hb dX11_filter_47 rfl (lv_at hl 0 rfl) ?_
        refine lv_iconst (v := nI 0) hx hb dX11_filter_48 (by decide) ?_
        refine zi_put (C := RX11) (T := TX11) (N := 23) (ty := .int) (v := .int (nI (0))) hx hb hz wo_X11 tyX11 tyX11_ok nmX11 hown hK hO rfl 7 (by decide) (hz _ wf_X11_197) (fun _ h9 => h9) rfl (by decide +kernel) rfl rfl (by show 7 < 23; decide) (A := (rAx o q)) (Or.inl rfl) hS dX11_filter_49 (fun H locs _ hk9 hO9 hS => ?_)
        have hP : RS G o q 0 ((-1)) 0 wa 0 np ns fa1 nd1 u X1 H := hP.put hk9 hO9
        have hO := hP.1
        refine lv_aload_n hx hb dX11_filter_52 rfl (lv_at hl 0 rfl) ?_
        refine lv_iconst (v := nI 0) hx hb dX11_filter_53 (by decide) ?_
        refine zi_put (C := RX11) (T := TX11) (N := 23) (ty := .int) (v := .int (nI (0))) hx hb hz wo_X11 tyX11 tyX11_ok nmX11 hown hK hO rfl 8 (by decide) (hz _ wf_X11_221) (fun _ h9 => h9) rfl (by decide +kernel) rfl rfl (by show 8 < 23; decide) (A := (rAx o q)) (Or.inl rfl) hS dX11_filter_54 (fun H locs _ hk9 hO9 hS => ?_)
        have hP : RS G o q 0 ((-1)) 0 wa 0 0 ns fa1 nd1 u X1 H := hP.put hk9 hO9
        have hO := hP.1
        refine lv_aload_n hx hb dX11_filter_57 rfl (lv_at hl 0 rfl) ?_
        refine lv_iconst (v := nI 0) hx hb dX11_filter_58 (by decide) ?_
        refine zi_put (C := RX11) (T := TX11) (N := 23) (ty := .int) (v := .int (nI (0))) hx hb hz wo_X11 tyX11 tyX11_ok nmX11 hown hK hO rfl 9 (by decide) (hz _ wf_X11_224) (fun _ h9 => h9) rfl (by decide +kernel) rfl rfl (by show 9 < 23; decide) (A := (rAx o q)) (Or.inl rfl) hS dX11_filter_59 (fun H locs _ hk9 hO9 hS => ?_)
        have hP : RS G o q 0 ((-1)) 0 wa 0 0 0 fa1 nd1 u X1 H := hP.put hk9 hO9
        have hO := hP.1
        refine lv_aload_n hx hb dX11_filter_62 rfl (lv_at hl 0 rfl) ?_
        refine lv_sipush (v := nI 16000) hx hb dX11_filter_63 (by decide) ?_
        have hdc : okV (X1 1) 16 3 16000 := by rw [e1]; exact (dcB_ok hdb (by omega) (by decide)).1
        have hI9 := (ckF_inv (X1 1) 16).2 16000 (0, wa, 0, 0, 0) ⟨by show (0 : Nat) < 6; decide, by show (0 : Nat) ≤ 102; decide, fun _ => by show (0 : Nat) ≤ 100; decide⟩ rfl
        refine zc_VE (As := [.int (nI (16000))]) (rest := []) ⟨hx, hb, hml, hown, hts⟩ ((m_check_all l G o (q 1) (rw_ q 0 ((-1)) 0 wa 0 0 0 fa1 nd1 u) (X1 1) 16).2 (0, wa, 0, 0, 0) 16000 hdc rfl ⟨by show (0 : Nat) < 6; decide, by show (0 : Nat) ≤ 102; decide, fun _ => by show (0 : Nat) ≤ 100; decide⟩) (cwV 1 hts (zgV wm_X11_215 wv_X11_checkFilter) rfl rfl rfl (by decide +kernel) ⟨Nat.le_of_ble_eq_true rfl, Nat.le_of_ble_eq_true rfl⟩) hK hO rfl hP.mc rfl hl.1 rfl (Nat.le_of_ble_eq_true rfl) dX11_filter_66 ⟨Nat.zero_le _, Nat.zero_le _⟩ hS (fun _ h9 => Or.inl h9) (fun H1 locs hM1 hz9 hk9 hS => ?_)
        have hP : RS G o q 0 ((-1)) (((ckF (X1 1) 16).2 16000 (0, wa, 0, 0, 0)).1) (((ckF (X1 1) 16).2 16000 (0, wa, 0, 0, 0)).2.1) (((ckF (X1 1) 16).2 16000 (0, wa, 0, 0, 0)).2.2.1) (((ckF (X1 1) 16).2 16000 (0, wa, 0, 0, 0)).2.2.2.1) (((ckF (X1 1) 16).2 16000 (0, wa, 0, 0, 0)).2.2.2.2) fa1 nd1 u X1 H1 := hP.ofMC hM1 hk9
        clear hO
        generalize H1 = H at *
        have hO := hP.1
        refine W.eq (g2 := F0 m 69 ls []) rfl ?_
        refine lv_aload_n hx hb dX11_filter_69 rfl (lv_at hl 0 rfl) ?_
        refine zi_get (C := RX11) (T := TX11) (N := 23) (v := .int (nI (((ckF (X1 1) 16).2 16000 (0, wa, 0, 0, 0)).1))) hx hb hz wo_X11 hown hK hO rfl 10 (by decide) (hz _ wf_X11_191) (fun _ h9 => h9) rfl dX11_filter_70 ?_
        refine zi_if_le (tgt := 93) hx hb dX11_filter_73 (by decide) (Nat.lt_trans hI9.1 (by decide)) (fun c_73 => ?_) (fun c_73 => ?_)
        · exact absurd (by rw [← e1]; exact c_73) hw
        · refine lv_aload_n hx hb dX11_filter_76 rfl (lv_at hl 0 rfl) ?_
          refine lv_aload_n hx hb dX11_filter_77 rfl (lv_at hl 0 rfl) ?_
          refine zi_get (C := RX11) (T := TX11) (N := 23) (v := .int (nI (((ckF (X1 1) 16).2 16000 (0, wa, 0, 0, 0)).2.1))) hx hb hz wo_X11 hown hK hO rfl 11 (by decide) (hz _ wf_X11_194) (fun _ h9 => h9) rfl dX11_filter_78 ?_
          refine lv_sipush (v := nI 16000) hx hb dX11_filter_81 (by decide) ?_
          refine lv_isub hx hb dX11_filter_84 ?_
          refine zi_put (C := RX11) (T := TX11) (N := 23) (ty := .int) (v := .int (nI (((ckF (X1 1) 16).2 16000 (0, wa, 0, 0, 0)).2.1) - nI (16000))) hx hb hz wo_X11 tyX11 tyX11_ok nmX11 hown hK hO rfl 3 (by decide) (hz _ wf_X11_13) (fun _ h9 => h9) rfl (by decide +kernel) rfl rfl (by show 3 < 23; decide) (A := (rAx o q)) (Or.inl rfl) hS dX11_filter_85 (fun H locs _ hk9 hO9 hS => ?_)
          have hP : RS G o q 0 (nI (((ckF (X1 1) 16).2 16000 (0, wa, 0, 0, 0)).2.1) - nI (16000)) (((ckF (X1 1) 16).2 16000 (0, wa, 0, 0, 0)).1) (((ckF (X1 1) 16).2 16000 (0, wa, 0, 0, 0)).2.1) (((ckF (X1 1) 16).2 16000 (0, wa, 0, 0, 0)).2.2.1) (((ckF (X1 1) 16).2 16000 (0, wa, 0, 0, 0)).2.2.2.1) (((ckF (X1 1) 16).2 16000 (0, wa, 0, 0, 0)).2.2.2.2) fa1 nd1 u X1 H := hP.put hk9 hO9
          have hO := hP.1
          refine lv_aload_n hx hb dX11_filter_88 rfl (lv_at hl 0 rfl) ?_
          refine zi_get (C := RX11) (T := TX11) (N := 23) (v := .int (nI (((ckF (X1 1) 16).2 16000 (0, wa, 0, 0, 0)).1))) hx hb hz wo_X11 hown hK hO rfl 10 (by decide) (hz _ wf_X11_191) (fun _ h9 => h9) rfl dX11_filter_89 ?_
          exact zr_ie hx hb hr hlocks (by rw [e1]) (⟨fa1, nd1, _, _, _, _, _, X1, (show _ from by rw [← e1]; exact hP), e1, e4, e5, e6⟩) hS dX11_filter_92
      · exact absurd (c_37.symm.trans hdb) (by decide)
    · exfalso; omega

set_option maxHeartbeats 4000000 in
set_option maxRecDepth 100000 in
theorem m_filter_ok (l : Launch) (G : zG) (o : Nat) (q : Nat → Nat) (tp : Nat) (pl : Int32) (wr wa nc np ns fa nd : Nat) (u : Bool) (X : Nat → Nat → Nat) (i nb : Nat) (hi : i < 4) (hnb : nb ≤ tp) (htp : tp ≤ 2000) (hdb : dcB (X 1) 16000 nb = true) (hw : ((ckF (X 1) 16).2 16000 (0, wa, 0, 0, 0)).1 = 0) : Met l yX11_filter wsX11_filter ({ frames := 57, cells := 0, slots := 0, locals := 1452 }) (zP G [.ref (o), .int (nI (i)), .int (nI (nb))] (fun H => RS G o q tp pl wr wa nc np ns fa nd u X H)) (zQ (rAx o q) (some (.int (nI 0))) (fun H => ∃ (fa1 nd1 wr1 wa1 nc1 np1 ns1 : Nat) (X1 : Nat → Nat → Nat), RS G o q 0 (-1) wr1 wa1 nc1 np1 ns1 fa1 nd1 u X1 H ∧ X1 1 = cpW (X 1) (fun j => X 1 (16000 + j)) (8000 + 2000 * i) nb ∧ X1 4 = upN (X 4) i ((ckF (X 1) 16).2 16000 (0, wa, 0, 0, 0)).2.2.1 ∧ X1 5 = upN (X 5) i ((ckF (X 1) 16).2 16000 (0, wa, 0, 0, 0)).2.2.2.1 ∧ X1 6 = upN (X 6) i ((ckF (X 1) 16).2 16000 (0, wa, 0, 0, 0)).2.2.2.2)) 0 0 (rAx o q) := by
  refine Met.ofW (cc := cX11_filter) (maxL := 4) (ret := (some .int)) (by decide) rfl ?_
  intro p en s m args below meth c s₁ B hml hv
  obtain ⟨rfl, hP, hK⟩ := hv
  have hx := B.exec
  have hb := B.bytes
  have hr := B.returns
  have hts := atoms_spec (ws := wsX11_filter) B.pre
  have hz : ∀ w ∈ zW, w.before _ s = true := fun w h => hts w (List.mem_cons_of_mem _ h)
  have hown : s.vm.findClass RX11 = some m.cls := findClass_of_methodNamed B.named
  have hlocks := B.notSynchronized
  obtain ⟨hO, -⟩ := id hP
  have hS : va_S (rAx o q) s.heap s.heap [] := va_S.rf
  have hf4 : decide (¬ nI i < 0 ∧ nI i < 4) = true := decide_eq_true ⟨nI_pos (by omega), by rw [show (4 : Int32) = nI 4 from by decide]; exact (nI_ltI (by omega) (by decide)).mpr hi⟩
  have hl := lv_entry ([.ref (o), .int (nI (i)), .int (nI (nb))]) (n := 4) (Nat.le_of_ble_eq_true rfl)
  rw [lg_entry_eq]
  generalize (lg_sl ([.ref (o), .int (nI (i)), .int (nI (nb))]) ++ List.replicate (4 - (lg_sl ([.ref (o), .int (nI (i)), .int (nI (nb))])).length) Slot.unset).toArray = ls at hl ⊢
  have hl : lv_has ls 4 [(0, .ref (o)), (1, .int (nI (i))), (2, .int (nI (nb)))] := hl
  refine lv_iload_n hx hb dX11_filter_0 rfl (lv_at hl 1 rfl) ?_
  refine zc_S (As := [.int (nI (i))]) (rest := []) ⟨hx, hb, hml, hown, hts⟩ (m_isFour l G (nI (i))) (cwS 1 hts (zgS wm_X11_308 wu_X11_isFour) rfl rfl rfl (by decide +kernel) ⟨Nat.le_of_ble_eq_true rfl, Nat.le_of_ble_eq_true rfl⟩) hK trivial rfl hl.1 rfl (Nat.le_of_ble_eq_true rfl) dX11_filter_1 ⟨Nat.zero_le _, Nat.zero_le _⟩ ?_
  refine zb_if_eq (tgt := 19) hx hb dX11_filter_4 (by decide) (fun c_4 => ?_) (fun c_4 => ?_)
  · exact absurd (c_4.symm.trans hf4) (by decide)
  · refine lv_iload_n hx hb dX11_filter_7 rfl (lv_at hl 2 rfl) ?_
    refine zi_if_lt (tgt := 19) hx hb dX11_filter_8 (by decide) (by omega) ?_
    refine lv_iload_n hx hb dX11_filter_11 rfl (lv_at hl 2 rfl) ?_
    refine lv_aload_n hx hb dX11_filter_12 rfl (lv_at hl 0 rfl) ?_
    refine zi_get (C := RX11) (T := TX11) (N := 23) (v := .int (nI (tp))) hx hb hz wo_X11 hown hK hO rfl 2 (by decide) (hz _ wf_X11_53) (fun _ h9 => h9) rfl dX11_filter_13 ?_
    refine zi_icmp_le (tgt := 22) hx hb dX11_filter_16 (by decide) (by omega) (by omega) (fun c_16 => ?_) (fun c_16 => ?_)
    · refine lv_aload_n hx hb dX11_filter_22 rfl (lv_at hl 0 rfl) ?_
      refine lv_iconst (v := nI 0) hx hb dX11_filter_23 (by decide) ?_
      refine zi_put (C := RX11) (T := TX11) (N := 23) (ty := .int) (v := .int (nI (0))) hx hb hz wo_X11 tyX11 tyX11_ok nmX11 hown hK hO rfl 2 (by decide) (hz _ wf_X11_53) (fun _ h9 => h9) rfl (by decide +kernel) rfl rfl (by show 2 < 23; decide) (A := (rAx o q)) (Or.inl rfl) hS dX11_filter_24 (fun H locs _ hk9 hO9 hS => ?_)
      have hP : RS G o q 0 pl wr wa nc np ns fa nd u X H := hP.put hk9 hO9
      have hO := hP.1
      refine lv_aload_n hx hb dX11_filter_27 rfl (lv_at hl 0 rfl) ?_
      refine lv_iconst (v := (-1)) hx hb dX11_filter_28 (by decide) ?_
      refine zi_put (C := RX11) (T := TX11) (N := 23) (ty := .int) (v := .int ((-1))) hx hb hz wo_X11 tyX11 tyX11_ok nmX11 hown hK hO rfl 3 (by decide) (hz _ wf_X11_13) (fun _ h9 => h9) rfl (by decide +kernel) rfl rfl (by show 3 < 23; decide) (A := (rAx o q)) (Or.inl rfl) hS dX11_filter_29 (fun H locs _ hk9 hO9 hS => ?_)
      have hP : RS G o q 0 ((-1)) wr wa nc np ns fa nd u X H := hP.put hk9 hO9
      have hO := hP.1
      refine lv_aload_n hx hb dX11_filter_32 rfl (lv_at hl 0 rfl) ?_
      refine lv_iload_n hx hb dX11_filter_33 rfl (lv_at hl 2 rfl) ?_
      refine zc_VE (As := [.int (nI (nb))]) (rest := []) ⟨hx, hb, hml, hown, hts⟩ (m_isDocument l G o q 0 ((-1)) wr wa nc np ns fa nd u X nb (by omega)) (cwV 1 hts (zgV wm_X11_311 wv_X11_isDocument) rfl rfl rfl (by decide +kernel) ⟨Nat.le_of_ble_eq_true rfl, Nat.le_of_ble_eq_true rfl⟩) hK hO rfl hP rfl hl.1 rfl (Nat.le_of_ble_eq_true rfl) dX11_filter_34 ⟨Nat.zero_le _, Nat.zero_le _⟩ hS (fun _ h9 => h9) (fun H locs hP hz9 hk9 hS => ?_)
      obtain ⟨fa1, nd1, X1, hP, e1, e4, e5, e6, e12⟩ := hP
      obtain ⟨hO, -⟩ := id hP
      refine W.eq (g2 := F0 m 37 ls ([.int (nI (nB (dcB (X 1) 16000 nb)))])) rfl ?_
      refine zb_if_ne (tgt := 42) hx hb dX11_filter_37 (by decide) (fun c_37 => ?_) (fun c_37 => ?_)
      · refine lv_aload_n hx hb dX11_filter_42 rfl (lv_at hl 0 rfl) ?_
        refine lv_iconst (v := nI 0) hx hb dX11_filter_43 (by decide) ?_
        refine zi_put (C := RX11) (T := TX11) (N := 23) (ty := .int) (v := .int (nI (0))) hx hb hz wo_X11 tyX11 tyX11_ok nmX11 hown hK hO rfl 10 (by decide) (hz _ wf_X11_191) (fun _ h9 => h9) rfl (by decide +kernel) rfl rfl (by show 10 < 23; decide) (A := (rAx o q)) (Or.inl rfl) hS dX11_filter_44 (fun H locs _ hk9 hO9 hS => ?_)
        have hP : RS G o q 0 ((-1)) 0 wa nc np ns fa1 nd1 u X1 H := hP.put hk9 hO9
        have hO := hP.1
        refine lv_aload_n hx hb dX11_filter_47 rfl (lv_at hl 0 rfl) ?_
        refine lv_iconst (v := nI 0) hx hb dX11_filter_48 (by decide) ?_
        refine zi_put (C := RX11) (T := TX11) (N := 23) (ty := .int) (v := .int (nI (0))) hx hb hz wo_X11 tyX11 tyX11_ok nmX11 hown hK hO rfl 7 (by decide) (hz _ wf_X11_197) (fun _ h9 => h9) rfl (by decide +kernel) rfl rfl (by show 7 < 23; decide) (A := (rAx o q)) (Or.inl rfl) hS dX11_filter_49 (fun H locs _ hk9 hO9 hS => ?_)
        have hP : RS G o q 0 ((-1)) 0 wa 0 np ns fa1 nd1 u X1 H := hP.put hk9 hO9
        have hO := hP.1
        refine lv_aload_n hx hb dX11_filter_52 rfl (lv_at hl 0 rfl) ?_
        refine lv_iconst (v := nI 0) hx hb dX11_filter_53 (by decide) ?_
        refine zi_put (C := RX11) (T := TX11) (N := 23) (ty := .int) (v := .int (nI (0))) hx hb hz wo_X11 tyX11 tyX11_ok nmX11 hown hK hO rfl 8 (by decide) (hz _ wf_X11_221) (fun _ h9 => h9) rfl (by decide +kernel) rfl rfl (by show 8 < 23; decide) (A := (rAx o q)) (Or.inl rfl) hS dX11_filter_54 (fun H locs _ hk9 hO9 hS => ?_)
        have hP : RS G o q 0 ((-1)) 0 wa 0 0 ns fa1 nd1 u X1 H := hP.put hk9 hO9
        have hO := hP.1
        refine lv_aload_n hx hb dX11_filter_57 rfl (lv_at hl 0 rfl) ?_
        refine lv_iconst (v := nI 0) hx hb dX11_filter_58 (by decide) ?_
        refine zi_put (C := RX11) (T := TX11) (N := 23) (ty := .int) (v := .int (nI (0))) hx hb hz wo_X11 tyX11 tyX11_ok nmX11 hown hK hO rfl 9 (by decide) (hz _ wf_X11_224) (fun _ h9 => h9) rfl (by decide +kernel) rfl rfl (by show 9 < 23; decide) (A := (rAx o q)) (Or.inl rfl) hS dX11_filter_59 (fun H locs _ hk9 hO9 hS => ?_)
        have hP : RS G o q 0 ((-1)) 0 wa 0 0 0 fa1 nd1 u X1 H := hP.put hk9 hO9
        have hO := hP.1
        refine lv_aload_n hx hb dX11_filter_62 rfl (lv_at hl 0 rfl) ?_
        refine lv_sipush (v := nI 16000) hx hb dX11_filter_63 (by decide) ?_
        have hdc : okV (X1 1) 16 3 16000 := by rw [e1]; exact (dcB_ok hdb (by omega) (by decide)).1
        have hI9 := (ckF_inv (X1 1) 16).2 16000 (0, wa, 0, 0, 0) ⟨by show (0 : Nat) < 6; decide, by show (0 : Nat) ≤ 102; decide, fun _ => by show (0 : Nat) ≤ 100; decide⟩ rfl
        refine zc_VE (As := [.int (nI (16000))]) (rest := []) ⟨hx, hb, hml, hown, hts⟩ ((m_check_all l G o (q 1) (rw_ q 0 ((-1)) 0 wa 0 0 0 fa1 nd1 u) (X1 1) 16).2 (0, wa, 0, 0, 0) 16000 hdc rfl ⟨by show (0 : Nat) < 6; decide, by show (0 : Nat) ≤ 102; decide, fun _ => by show (0 : Nat) ≤ 100; decide⟩) (cwV 1 hts (zgV wm_X11_215 wv_X11_checkFilter) rfl rfl rfl (by decide +kernel) ⟨Nat.le_of_ble_eq_true rfl, Nat.le_of_ble_eq_true rfl⟩) hK hO rfl hP.mc rfl hl.1 rfl (Nat.le_of_ble_eq_true rfl) dX11_filter_66 ⟨Nat.zero_le _, Nat.zero_le _⟩ hS (fun _ h9 => Or.inl h9) (fun H1 locs hM1 hz9 hk9 hS => ?_)
        have hP : RS G o q 0 ((-1)) (((ckF (X1 1) 16).2 16000 (0, wa, 0, 0, 0)).1) (((ckF (X1 1) 16).2 16000 (0, wa, 0, 0, 0)).2.1) (((ckF (X1 1) 16).2 16000 (0, wa, 0, 0, 0)).2.2.1) (((ckF (X1 1) 16).2 16000 (0, wa, 0, 0, 0)).2.2.2.1) (((ckF (X1 1) 16).2 16000 (0, wa, 0, 0, 0)).2.2.2.2) fa1 nd1 u X1 H1 := hP.ofMC hM1 hk9
        clear hO
        generalize H1 = H at *
        have hO := hP.1
        refine W.eq (g2 := F0 m 69 ls []) rfl ?_
        refine lv_aload_n hx hb dX11_filter_69 rfl (lv_at hl 0 rfl) ?_
        refine zi_get (C := RX11) (T := TX11) (N := 23) (v := .int (nI (((ckF (X1 1) 16).2 16000 (0, wa, 0, 0, 0)).1))) hx hb hz wo_X11 hown hK hO rfl 10 (by decide) (hz _ wf_X11_191) (fun _ h9 => h9) rfl dX11_filter_70 ?_
        refine zi_if_le (tgt := 93) hx hb dX11_filter_73 (by decide) (Nat.lt_trans hI9.1 (by decide)) (fun c_73 => ?_) (fun c_73 => ?_)
        · have hx1 := hP.2.2.2.2.1
          have hx12 := hP.2.2.2.2.2.1
          have hP : RS G o q 0 ((-1)) (((ckF (X1 1) 16).2 16000 (0, wa, 0, 0, 0)).1) (((ckF (X1 1) 16).2 16000 (0, wa, 0, 0, 0)).2.1) (((ckF (X1 1) 16).2 16000 (0, wa, 0, 0, 0)).2.2.1) (((ckF (X1 1) 16).2 16000 (0, wa, 0, 0, 0)).2.2.2.1) (((ckF (X1 1) 16).2 16000 (0, wa, 0, 0, 0)).2.2.2.2) fa1 nd1 u (upX X1 1 (cpW (X1 1) (X1 12) (8000 + 2000 * i) 0)) H := by rw [cpW_0, show upX X1 1 (X1 1) = X1 from by funext j; unfold upX; split <;> simp_all]; exact hP
          have hO := hP.1
          refine lv_iconst (v := nI 0) hx hb dX11_filter_93 (by decide) ?_
          refine lv_istore_n (lv' := [(3, .int (nI (0))), (0, .ref (o)), (1, .int (nI (i))), (2, .int (nI (nb)))]) hx hb dX11_filter_94 rfl hl (by decide) rfl (fun ls hl => ?_)
          have L95 : ∀ (n_ : Nat) (k : Nat), nb - k < n_ → (k ≤ nb) → ∀ (H : Heap) (locs : List Loc), RS G o q 0 ((-1)) (((ckF (X1 1) 16).2 16000 (0, wa, 0, 0, 0)).1) (((ckF (X1 1) 16).2 16000 (0, wa, 0, 0, 0)).2.1) (((ckF (X1 1) 16).2 16000 (0, wa, 0, 0, 0)).2.2.1) (((ckF (X1 1) 16).2 16000 (0, wa, 0, 0, 0)).2.2.2.1) (((ckF (X1 1) 16).2 16000 (0, wa, 0, 0, 0)).2.2.2.2) fa1 nd1 u (upX X1 1 (cpW (X1 1) (X1 12) (8000 + 2000 * i) k)) H → va_S (rAx o q) s.heap H locs → ∀ ls : Array Slot, lv_has ls 4 [(0, .ref (o)), (1, .int (nI (i))), (2, .int (nI (nb))), (3, .int (nI (k)))] → W p l en (headSpec wsX11_filter ({ frames := 57, cells := 0, slots := 0, locals := 1452 })).room s m ([.ref (o), .int (nI (i)), .int (nI (nb))] : List Value).toArray below meth c H locs 0 0 (MQ below (zQ (rAx o q) (some (.int (nI 0))) (fun H => ∃ (fa1 nd1 wr1 wa1 nc1 np1 ns1 : Nat) (X1 : Nat → Nat → Nat), RS G o q 0 (-1) wr1 wa1 nc1 np1 ns1 fa1 nd1 u X1 H ∧ X1 1 = cpW (X 1) (fun j => X 1 (16000 + j)) (8000 + 2000 * i) nb ∧ X1 4 = upN (X 4) i ((ckF (X 1) 16).2 16000 (0, wa, 0, 0, 0)).2.2.1 ∧ X1 5 = upN (X 5) i ((ckF (X 1) 16).2 16000 (0, wa, 0, 0, 0)).2.2.2.1 ∧ X1 6 = upN (X 6) i ((ckF (X 1) 16).2 16000 (0, wa, 0, 0, 0)).2.2.2.2)) ([.ref (o), .int (nI (i)), .int (nI (nb))] : List Value).toArray s 0 0 (rAx o q)) (F0 m 95 ls []) := by
            intro n_
            induction n_ with
            | zero => intro k hm_; exact absurd hm_ (Nat.not_lt_zero _)
            | succ n_ ih_ =>
              intro k hm_ hk9 H locs hP hS ls hl
              obtain ⟨hO, -⟩ := id hP
              refine lv_iload_n hx hb dX11_filter_95 rfl (lv_at hl 3 rfl) ?_
              refine lv_iload_n hx hb dX11_filter_96 rfl (lv_at hl 2 rfl) ?_
              refine zi_icmp_ge (tgt := 128) hx hb dX11_filter_97 (by decide) (by omega) (by omega) (fun c_97 => ?_) (fun c_97 => ?_)
              · have hkn : nb = k := by omega
                subst hkn
                refine lv_aload_n hx hb dX11_filter_128 rfl (lv_at hl 0 rfl) ?_
                refine zi_get (C := RX11) (T := TX11) (N := 23) (v := .ref (q 4)) hx hb hz wo_X11 hown hK hO rfl 4 (by decide) (hz _ wf_X11_17) (fun _ h9 => h9) rfl dX11_filter_129 ?_
                refine lv_iload_n hx hb dX11_filter_132 rfl (lv_at hl 1 rfl) ?_
                refine lv_aload_n hx hb dX11_filter_133 rfl (lv_at hl 0 rfl) ?_
                refine zi_get (C := RX11) (T := TX11) (N := 23) (v := .int (nI (((ckF (X1 1) 16).2 16000 (0, wa, 0, 0, 0)).2.2.1))) hx hb hz wo_X11 hown hK hO rfl 7 (by decide) (hz _ wf_X11_197) (fun _ h9 => h9) rfl dX11_filter_134 ?_
                refine zi_ast hx hb hK (show zA G H (q 4) 4 (X1 4) from hP.2.1 4 (by decide)) (by omega) (by decide) (A := (rAx o q)) (Or.inr ⟨4, by decide, rfl⟩) hS dX11_filter_137 (fun H locs _ hk9 hA9 hS => ?_)
                have hP : RS G o q 0 ((-1)) (((ckF (X1 1) 16).2 16000 (0, wa, 0, 0, 0)).1) (((ckF (X1 1) 16).2 16000 (0, wa, 0, 0, 0)).2.1) (((ckF (X1 1) 16).2 16000 (0, wa, 0, 0, 0)).2.2.1) (((ckF (X1 1) 16).2 16000 (0, wa, 0, 0, 0)).2.2.2.1) (((ckF (X1 1) 16).2 16000 (0, wa, 0, 0, 0)).2.2.2.2) fa1 nd1 u (upX (upX X1 1 (cpW (X1 1) (X1 12) (8000 + 2000 * i) nb)) 4 (upN (X1 4) i (((ckF (X1 1) 16).2 16000 (0, wa, 0, 0, 0)).2.2.1))) H := hP.st (by decide) (by decide) hk9 hA9 (fun h9 => by omega)
                have hO := hP.1
                refine lv_aload_n hx hb dX11_filter_138 rfl (lv_at hl 0 rfl) ?_
                refine zi_get (C := RX11) (T := TX11) (N := 23) (v := .ref (q 5)) hx hb hz wo_X11 hown hK hO rfl 5 (by decide) (hz _ wf_X11_20) (fun _ h9 => h9) rfl dX11_filter_139 ?_
                refine lv_iload_n hx hb dX11_filter_142 rfl (lv_at hl 1 rfl) ?_
                refine lv_aload_n hx hb dX11_filter_143 rfl (lv_at hl 0 rfl) ?_
                refine zi_get (C := RX11) (T := TX11) (N := 23) (v := .int (nI (((ckF (X1 1) 16).2 16000 (0, wa, 0, 0, 0)).2.2.2.1))) hx hb hz wo_X11 hown hK hO rfl 8 (by decide) (hz _ wf_X11_221) (fun _ h9 => h9) rfl dX11_filter_144 ?_
                refine zi_ast hx hb hK (show zA G H (q 5) 4 (X1 5) from hP.2.1 5 (by decide)) (by omega) (by decide) (A := (rAx o q)) (Or.inr ⟨5, by decide, rfl⟩) hS dX11_filter_147 (fun H locs _ hk9 hA9 hS => ?_)
                have hP : RS G o q 0 ((-1)) (((ckF (X1 1) 16).2 16000 (0, wa, 0, 0, 0)).1) (((ckF (X1 1) 16).2 16000 (0, wa, 0, 0, 0)).2.1) (((ckF (X1 1) 16).2 16000 (0, wa, 0, 0, 0)).2.2.1) (((ckF (X1 1) 16).2 16000 (0, wa, 0, 0, 0)).2.2.2.1) (((ckF (X1 1) 16).2 16000 (0, wa, 0, 0, 0)).2.2.2.2) fa1 nd1 u (upX (upX (upX X1 1 (cpW (X1 1) (X1 12) (8000 + 2000 * i) nb)) 4 (upN (X1 4) i (((ckF (X1 1) 16).2 16000 (0, wa, 0, 0, 0)).2.2.1))) 5 (upN (X1 5) i (((ckF (X1 1) 16).2 16000 (0, wa, 0, 0, 0)).2.2.2.1))) H := hP.st (by decide) (by decide) hk9 hA9 (fun h9 => by omega)
                have hO := hP.1
                refine lv_aload_n hx hb dX11_filter_148 rfl (lv_at hl 0 rfl) ?_
                refine zi_get (C := RX11) (T := TX11) (N := 23) (v := .ref (q 6)) hx hb hz wo_X11 hown hK hO rfl 6 (by decide) (hz _ wf_X11_23) (fun _ h9 => h9) rfl dX11_filter_149 ?_
                refine lv_iload_n hx hb dX11_filter_152 rfl (lv_at hl 1 rfl) ?_
                refine lv_aload_n hx hb dX11_filter_153 rfl (lv_at hl 0 rfl) ?_
                refine zi_get (C := RX11) (T := TX11) (N := 23) (v := .int (nI (((ckF (X1 1) 16).2 16000 (0, wa, 0, 0, 0)).2.2.2.2))) hx hb hz wo_X11 hown hK hO rfl 9 (by decide) (hz _ wf_X11_224) (fun _ h9 => h9) rfl dX11_filter_154 ?_
                refine zi_ast hx hb hK (show zA G H (q 6) 4 (X1 6) from hP.2.1 6 (by decide)) (by omega) (by decide) (A := (rAx o q)) (Or.inr ⟨6, by decide, rfl⟩) hS dX11_filter_157 (fun H locs _ hk9 hA9 hS => ?_)
                have hP : RS G o q 0 ((-1)) (((ckF (X1 1) 16).2 16000 (0, wa, 0, 0, 0)).1) (((ckF (X1 1) 16).2 16000 (0, wa, 0, 0, 0)).2.1) (((ckF (X1 1) 16).2 16000 (0, wa, 0, 0, 0)).2.2.1) (((ckF (X1 1) 16).2 16000 (0, wa, 0, 0, 0)).2.2.2.1) (((ckF (X1 1) 16).2 16000 (0, wa, 0, 0, 0)).2.2.2.2) fa1 nd1 u (upX (upX (upX (upX X1 1 (cpW (X1 1) (X1 12) (8000 + 2000 * i) nb)) 4 (upN (X1 4) i (((ckF (X1 1) 16).2 16000 (0, wa, 0, 0, 0)).2.2.1))) 5 (upN (X1 5) i (((ckF (X1 1) 16).2 16000 (0, wa, 0, 0, 0)).2.2.2.1))) 6 (upN (X1 6) i (((ckF (X1 1) 16).2 16000 (0, wa, 0, 0, 0)).2.2.2.2))) H := hP.st (by decide) (by decide) hk9 hA9 (fun h9 => by omega)
                have hO := hP.1
                refine lv_iconst (v := nI 0) hx hb dX11_filter_158 (by decide) ?_
                exact zr_ie hx hb hr hlocks (rfl) (⟨fa1, nd1, _, _, _, _, _, _, hP, (show cpW (X1 1) (X1 12) (8000 + 2000 * i) nb = _ from by rw [e1, e12, cpW_cp]), (show upN (X1 4) i _ = _ from by rw [e4, e1]), (show upN (X1 5) i _ = _ from by rw [e5, e1]), (show upN (X1 6) i _ = _ from by rw [e6, e1])⟩) hS dX11_filter_159
              · refine lv_aload_n hx hb dX11_filter_100 rfl (lv_at hl 0 rfl) ?_
                refine zi_get (C := RX11) (T := TX11) (N := 23) (v := .ref (q 1)) hx hb hz wo_X11 hown hK hO rfl 1 (by decide) (hz _ wf_X11_7) (fun _ h9 => h9) rfl dX11_filter_101 ?_
                refine lv_sipush (v := nI 8000) hx hb dX11_filter_104 (by decide) ?_
                refine lv_sipush (v := nI 2000) hx hb dX11_filter_107 (by decide) ?_
                refine lv_iload_n hx hb dX11_filter_110 rfl (lv_at hl 1 rfl) ?_
                refine zi_mul hx hb dX11_filter_111 ?_
                refine zi_add hx hb dX11_filter_112 ?_
                refine lv_iload_n hx hb dX11_filter_113 rfl (lv_at hl 3 rfl) ?_
                refine zi_add hx hb dX11_filter_114 ?_
                refine lv_aload_n hx hb dX11_filter_115 rfl (lv_at hl 0 rfl) ?_
                refine zi_get (C := RX11) (T := TX11) (N := 23) (v := .ref (q 12)) hx hb hz wo_X11 hown hK hO rfl 12 (by decide) (hz _ wf_X11_26) (fun _ h9 => h9) rfl dX11_filter_116 ?_
                refine lv_iload_n hx hb dX11_filter_119 rfl (lv_at hl 3 rfl) ?_
                refine zi_ald hx hb hK (show zA G H (q 12) 2000 (X1 12) from hP.2.1 12 (by decide)) (by omega) (by decide) dX11_filter_120 ?_
                refine zi_ast hx hb hK (show zA G H (q 1) 18000 (cpW (X1 1) (X1 12) (8000 + 2000 * i) k) from hP.2.1 1 (by decide)) (by omega) (by decide) (A := (rAx o q)) (Or.inr ⟨1, by decide, rfl⟩) hS dX11_filter_121 (fun H locs _ hk9 hA9 hS => ?_)
                rw [cpW_s] at hA9
                have hP : RS G o q 0 ((-1)) (((ckF (X1 1) 16).2 16000 (0, wa, 0, 0, 0)).1) (((ckF (X1 1) 16).2 16000 (0, wa, 0, 0, 0)).2.1) (((ckF (X1 1) 16).2 16000 (0, wa, 0, 0, 0)).2.2.1) (((ckF (X1 1) 16).2 16000 (0, wa, 0, 0, 0)).2.2.2.1) (((ckF (X1 1) 16).2 16000 (0, wa, 0, 0, 0)).2.2.2.2) fa1 nd1 u (upX (upX X1 1 (cpW (X1 1) (X1 12) (8000 + 2000 * i) k)) 1 (cpW (X1 1) (X1 12) (8000 + 2000 * i) (k + 1))) H := hP.st (by decide) (by decide) hk9 hA9 (fun _ => cpW_lt hx1 hx12 _ _)
                have hO := hP.1
                rw [show upX (upX X1 1 (cpW (X1 1) (X1 12) (8000 + 2000 * i) k)) 1 (cpW (X1 1) (X1 12) (8000 + 2000 * i) (k + 1)) = upX X1 1 (cpW (X1 1) (X1 12) (8000 + 2000 * i) (k + 1)) from by funext j; unfold upX; split <;> rfl] at hP
                have hO := hP.1
                refine lv_iinc (v := nI (k + 1)) (lv' := [(3, .int (nI (k + 1))), (0, .ref (o)), (1, .int (nI (i))), (2, .int (nI (nb)))]) hx hb dX11_filter_122 hl (k := 3) rfl (nI_add _ _) (by decide) rfl (fun ls hl => ?_)
                refine lv_goto (tgt := 95) hx hb dX11_filter_125 (by decide) ?_
                exact ih_ (k + 1) (by omega) (by omega) _ _ hP hS ls (lv_sub hl [1, 2, 3, 0] rfl)
          exact L95 ((nb - 0) + 1) 0 (Nat.lt_succ_self _) (Nat.zero_le _) _ _ hP hS ls (lv_sub hl [1, 2, 3, 0] rfl)
        · exact absurd (show ((ckF (X1 1) 16).2 16000 (0, wa, 0, 0, 0)).1 = 0 from by rw [e1]; exact hw) (by omega)
      · exact absurd (c_37.symm.trans hdb) (by decide)
    · exfalso; omega

set_option maxHeartbeats 4000000 in
set_option maxRecDepth 100000 in
theorem m_many_no (l : Launch) (G : zG) (o : Nat) (q : Nat → Nat) (tp : Nat) (pl : Int32) (wr wa nc np ns fa nd : Nat) (u : Bool) (X : Nat → Nat → Nat) (x y : Int32) (hxy : ¬ (is4i x = true ∧ ¬ y < 0 ∧ y ≤ 3)) : Met l yX11_many wsX11_many ({ frames := 1, cells := 0, slots := 0, locals := 20 }) (zP G [.ref (o), .int (x), .int (y)] (fun H => RS G o q tp pl wr wa nc np ns fa nd u X H)) (zR (.int (-1))) 0 0 (fun _ => False) := by
  refine Met.ofW (cc := cX11_many) (maxL := 3) (ret := (some .int)) (by decide) rfl ?_
  intro p en s m args below meth c s₁ B hml hv
  obtain ⟨rfl, hP, hK⟩ := hv
  have hx := B.exec
  have hb := B.bytes
  have hr := B.returns
  have hts := atoms_spec (ws := wsX11_many) B.pre
  have hz : ∀ w ∈ zW, w.before _ s = true := fun w h => hts w (List.mem_cons_of_mem _ h)
  have hown : s.vm.findClass RX11 = some m.cls := findClass_of_methodNamed B.named
  have hlocks := B.notSynchronized
  obtain ⟨hO, -⟩ := id hP
  have hl := lv_entry ([.ref (o), .int (x), .int (y)]) (n := 3) (Nat.le_of_ble_eq_true rfl)
  rw [lg_entry_eq]
  generalize (lg_sl ([.ref (o), .int (x), .int (y)]) ++ List.replicate (3 - (lg_sl ([.ref (o), .int (x), .int (y)])).length) Slot.unset).toArray = ls at hl ⊢
  have hl : lv_has ls 3 [(0, .ref (o)), (1, .int (x)), (2, .int (y))] := hl
  refine lv_iload_n hx hb dX11_many_0 rfl (lv_at hl 1 rfl) ?_
  refine zc_S (As := [.int (x)]) (rest := []) ⟨hx, hb, hml, hown, hts⟩ (m_isFour l G (x)) (cwS 1 hts (zgS wm_X11_308 wu_X11_isFour) rfl rfl rfl (by decide +kernel) ⟨Nat.le_of_ble_eq_true rfl, Nat.le_of_ble_eq_true rfl⟩) hK trivial rfl hl.1 rfl (Nat.le_of_ble_eq_true rfl) dX11_many_1 ⟨Nat.zero_le _, Nat.zero_le _⟩ ?_
  refine zb_if_eq (tgt := 16) hx hb dX11_many_4 (by decide) (fun c_4 => ?_) (fun c_4 => ?_)
  · refine lv_iconst (v := (-1)) hx hb dX11_many_16 (by decide) ?_
    exact zr_i hx hb hr hlocks (rfl) dX11_many_17
  · refine lv_iload_n hx hb dX11_many_7 rfl (lv_at hl 2 rfl) ?_
    refine lv_if_lt (tgt := 16) hx hb dX11_many_8 (by decide) (fun c_8 => ?_) (fun c_8 => ?_)
    · refine lv_iconst (v := (-1)) hx hb dX11_many_16 (by decide) ?_
      exact zr_i hx hb hr hlocks (rfl) dX11_many_17
    · refine lv_iload_n hx hb dX11_many_11 rfl (lv_at hl 2 rfl) ?_
      refine lv_iconst (v := nI 3) hx hb dX11_many_12 (by decide) ?_
      refine lv_icmp_le (tgt := 18) hx hb dX11_many_13 (by decide) (fun c_13 => ?_) (fun c_13 => ?_)
      · exact absurd ⟨c_4, c_8, by rw [show nI 3 = (3 : Int32) from by decide] at c_13; exact c_13⟩ hxy
      · refine lv_iconst (v := (-1)) hx hb dX11_many_16 (by decide) ?_
        exact zr_i hx hb hr hlocks (rfl) dX11_many_17

set_option maxHeartbeats 4000000 in
set_option maxRecDepth 100000 in
theorem m_many (l : Launch) (G : zG) (o : Nat) (q : Nat → Nat) (tp : Nat) (pl : Int32) (wr wa nc np ns fa nd : Nat) (u : Bool) (X : Nat → Nat → Nat) (i y : Nat) (hi : i < 4) (hy : y < 4) (hB9 : Bx 18000 (X 1) (8000 + 2000 * i) (els (X 1) (8000 + 2000 * i))) : Met l yX11_many wsX11_many ({ frames := 4, cells := 0, slots := 0, locals := 89 }) (zP G [.ref (o), .int (nI (i)), .int (nI (y))] (fun H => RS G o q tp pl wr wa nc np ns fa nd u X H)) (zR (.int (nI (if y = 0 then (els (X 1) (8000 + 2000 * i)).length else X (3 + y) i)))) 0 0 (fun _ => False) := by
  refine Met.ofW (cc := cX11_many) (maxL := 3) (ret := (some .int)) (by decide) rfl ?_
  intro p en s m args below meth c s₁ B hml hv
  obtain ⟨rfl, hP, hK⟩ := hv
  have hx := B.exec
  have hb := B.bytes
  have hr := B.returns
  have hts := atoms_spec (ws := wsX11_many) B.pre
  have hz : ∀ w ∈ zW, w.before _ s = true := fun w h => hts w (List.mem_cons_of_mem _ h)
  have hown : s.vm.findClass RX11 = some m.cls := findClass_of_methodNamed B.named
  have hlocks := B.notSynchronized
  obtain ⟨hO, -⟩ := id hP
  have hf4 : decide (¬ nI i < 0 ∧ nI i < 4) = true := decide_eq_true ⟨nI_pos (by omega), by rw [show (4 : Int32) = nI 4 from by decide]; exact (nI_ltI (by omega) (by decide)).mpr hi⟩
  have hl := lv_entry ([.ref (o), .int (nI (i)), .int (nI (y))]) (n := 3) (Nat.le_of_ble_eq_true rfl)
  rw [lg_entry_eq]
  generalize (lg_sl ([.ref (o), .int (nI (i)), .int (nI (y))]) ++ List.replicate (3 - (lg_sl ([.ref (o), .int (nI (i)), .int (nI (y))])).length) Slot.unset).toArray = ls at hl ⊢
  have hl : lv_has ls 3 [(0, .ref (o)), (1, .int (nI (i))), (2, .int (nI (y)))] := hl
  refine lv_iload_n hx hb dX11_many_0 rfl (lv_at hl 1 rfl) ?_
  refine zc_S (As := [.int (nI (i))]) (rest := []) ⟨hx, hb, hml, hown, hts⟩ (m_isFour l G (nI (i))) (cwS 1 hts (zgS wm_X11_308 wu_X11_isFour) rfl rfl rfl (by decide +kernel) ⟨Nat.le_of_ble_eq_true rfl, Nat.le_of_ble_eq_true rfl⟩) hK trivial rfl hl.1 rfl (Nat.le_of_ble_eq_true rfl) dX11_many_1 ⟨Nat.zero_le _, Nat.zero_le _⟩ ?_
  refine zb_if_eq (tgt := 16) hx hb dX11_many_4 (by decide) (fun c_4 => ?_) (fun c_4 => ?_)
  · exact absurd (c_4.symm.trans hf4) (by decide)
  · refine lv_iload_n hx hb dX11_many_7 rfl (lv_at hl 2 rfl) ?_
    refine zi_if_lt (tgt := 16) hx hb dX11_many_8 (by decide) (by omega) ?_
    refine lv_iload_n hx hb dX11_many_11 rfl (lv_at hl 2 rfl) ?_
    refine lv_iconst (v := nI 3) hx hb dX11_many_12 (by decide) ?_
    refine zi_icmp_le (tgt := 18) hx hb dX11_many_13 (by decide) (by omega) (by omega) (fun c_13 => ?_) (fun c_13 => ?_)
    · refine lv_iload_n hx hb dX11_many_18 rfl (lv_at hl 2 rfl) ?_
      refine zi_if_ne (tgt := 38) hx hb dX11_many_19 (by decide) (by omega) (fun c_19 => ?_) (fun c_19 => ?_)
      · refine lv_iload_n hx hb dX11_many_38 rfl (lv_at hl 2 rfl) ?_
        refine lv_iconst (v := nI 1) hx hb dX11_many_39 (by decide) ?_
        refine zi_icmp_ne (tgt := 52) hx hb dX11_many_40 (by decide) (by omega) (by omega) (fun c_40 => ?_) (fun c_40 => ?_)
        · refine lv_iload_n hx hb dX11_many_52 rfl (lv_at hl 2 rfl) ?_
          refine lv_iconst (v := nI 2) hx hb dX11_many_53 (by decide) ?_
          refine zi_icmp_ne (tgt := 66) hx hb dX11_many_54 (by decide) (by omega) (by omega) (fun c_54 => ?_) (fun c_54 => ?_)
          · refine lv_aload_n hx hb dX11_many_66 rfl (lv_at hl 0 rfl) ?_
            refine zi_get (C := RX11) (T := TX11) (N := 23) (v := .ref (q 6)) hx hb hz wo_X11 hown hK hO rfl 6 (by decide) (hz _ wf_X11_23) (fun _ h9 => h9) rfl dX11_many_67 ?_
            refine lv_iload_n hx hb dX11_many_70 rfl (lv_at hl 1 rfl) ?_
            refine zi_ald hx hb hK (show zA G _ (q 6) 4 (X 6) from hP.2.1 6 (by decide)) (by omega) (by decide) dX11_many_71 ?_
            exact zr_i hx hb hr hlocks (by rw [if_neg c_19, show y = 3 by omega]) dX11_many_72
          · refine lv_aload_n hx hb dX11_many_57 rfl (lv_at hl 0 rfl) ?_
            refine zi_get (C := RX11) (T := TX11) (N := 23) (v := .ref (q 5)) hx hb hz wo_X11 hown hK hO rfl 5 (by decide) (hz _ wf_X11_20) (fun _ h9 => h9) rfl dX11_many_58 ?_
            refine lv_iload_n hx hb dX11_many_61 rfl (lv_at hl 1 rfl) ?_
            refine zi_ald hx hb hK (show zA G _ (q 5) 4 (X 5) from hP.2.1 5 (by decide)) (by omega) (by decide) dX11_many_62 ?_
            refine lv_goto (tgt := 72) hx hb dX11_many_63 (by decide) ?_
            exact zr_i hx hb hr hlocks (by rw [if_neg c_19, c_54]) dX11_many_72
        · refine lv_aload_n hx hb dX11_many_43 rfl (lv_at hl 0 rfl) ?_
          refine zi_get (C := RX11) (T := TX11) (N := 23) (v := .ref (q 4)) hx hb hz wo_X11 hown hK hO rfl 4 (by decide) (hz _ wf_X11_17) (fun _ h9 => h9) rfl dX11_many_44 ?_
          refine lv_iload_n hx hb dX11_many_47 rfl (lv_at hl 1 rfl) ?_
          refine zi_ald hx hb hK (show zA G _ (q 4) 4 (X 4) from hP.2.1 4 (by decide)) (by omega) (by decide) dX11_many_48 ?_
          refine lv_goto (tgt := 72) hx hb dX11_many_49 (by decide) ?_
          exact zr_i hx hb hr hlocks (by rw [if_neg c_19, c_40]) dX11_many_72
      · refine lv_aload_n hx hb dX11_many_22 rfl (lv_at hl 0 rfl) ?_
        refine lv_sipush (v := nI 8000) hx hb dX11_many_23 (by decide) ?_
        refine lv_sipush (v := nI 2000) hx hb dX11_many_26 (by decide) ?_
        refine lv_iload_n hx hb dX11_many_29 rfl (lv_at hl 1 rfl) ?_
        refine zi_mul hx hb dX11_many_30 ?_
        refine zi_add hx hb dX11_many_31 ?_
        refine zc_V (As := [.int (nI (8000 + (2000 * i)))]) (rest := []) ⟨hx, hb, hml, hown, hts⟩ (m_countOf l G o (q 1) (rF q tp pl wr wa nc np ns fa nd u) (X 1) (8000 + 2000 * i) (els (X 1) (8000 + 2000 * i)) hB9) (cwV 1 hts (zgV wm_X11_277 wv_X11_countOf) rfl rfl rfl (by decide +kernel) ⟨Nat.le_of_ble_eq_true rfl, Nat.le_of_ble_eq_true rfl⟩) hK hO rfl hP.mv rfl hl.1 rfl (Nat.le_of_ble_eq_true rfl) dX11_many_32 ⟨Nat.zero_le _, Nat.zero_le _⟩ ?_
        refine lv_goto (tgt := 72) hx hb dX11_many_35 (by decide) ?_
        exact zr_i hx hb hr hlocks (by rw [if_pos c_19]) dX11_many_72
    · exfalso; omega
