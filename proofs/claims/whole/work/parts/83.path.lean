set_option maxHeartbeats 4000000 in
set_option maxRecDepth 100000 in
theorem c_sinit_n (l : Launch) (G : zG) (th nm : Nat) : Met l yX7_init wsX7_init ({ frames := 1, cells := 0, slots := 0, locals := 21 }) (zP G [.ref (th), .ref (nm), .null] (fun H => zO G H th 6 [.null, .null, .int (nI 0)])) (zX (fun q => q = th) (fun r9 H => r9 = none ∧ zO G H th 6 [.ref nm, .null, .int (nI 1)])) (0) (0) (fun q => q = th) := by
  refine Met.ofW (cc := cX7_init) (maxL := 3) (ret := none) (by decide) rfl ?_
  intro p en s m args below meth c s₁ B hml hv
  obtain ⟨rfl, hP, hK⟩ := hv
  have hx := B.exec
  have hb := B.bytes
  have hr := B.returns
  have hts := atoms_spec (ws := wsX7_init) B.pre
  have hz : ∀ w ∈ zW, w.before _ s = true := fun w h => hts w (List.mem_cons_of_mem _ h)
  have hown : s.vm.findClass RX7 = some m.cls := findClass_of_methodNamed B.named
  have hlocks := B.notSynchronized
  have hS : va_S (fun q => q = th) s.heap s.heap [] := va_S.rf
  have hl := lv_entry ([.ref (th), .ref (nm), .null]) (n := 3) (Nat.le_of_ble_eq_true rfl)
  rw [lg_entry_eq]
  generalize (lg_sl ([.ref (th), .ref (nm), .null]) ++ List.replicate (3 - (lg_sl ([.ref (th), .ref (nm), .null])).length) Slot.unset).toArray = ls at hl ⊢
  have hl : lv_has ls 3 [(0, .ref (th)), (1, .ref (nm)), (2, .null)] := hl
  refine lv_aload_n hx hb dX7_init_0 rfl (lv_at hl 0 rfl) ?_
  refine W.objInit hx hb hown (hz _ wm_X7_3) (hz _ wOn) (hz _ wOc) rfl (hl.1.trans hml.symm) rfl dX7_init_1 (by show 1 ≤ _; exact Nat.le_of_ble_eq_true rfl) (by show _ ≤ _; exact Nat.le_of_ble_eq_true rfl) ?_
  refine W.eq (g2 := F0 m 4 ls ([])) rfl ?_
  refine lv_aload_n hx hb dX7_init_4 rfl (lv_at hl 0 rfl) ?_
  refine lv_aload_n hx hb dX7_init_5 rfl (lv_at hl 1 rfl) ?_
  refine zx_put (C := RX7) (T := TX7) (N := 3) (v := .ref (nm)) hx hb hz wo_X7 tyX7 tyX7_ok nmX7 hown hK hP rfl 0 (by decide) (hz _ wf_X7_9) (fun _ h9 => h9) (Or.inr ⟨rfl, (name_of_methodNamed B.named B.method).1, rfl⟩) rfl rfl (Nat.le_of_ble_eq_true rfl) (by first | exact rfl | omega | (dsimp only; omega)) hS dX7_init_6 (fun H locs hz9 hP hk9 hS => ?_)
  have hP : zO G H (th) 6 [.ref (nm), .null, .int (nI (0))] := hP
  refine lv_aload_n hx hb dX7_init_9 rfl (lv_at hl 0 rfl) ?_
  refine lv_aload_nN hx hb dX7_init_10 rfl (lv_at hl 2 rfl) ?_
  refine zx_put (C := RX7) (T := TX7) (N := 3) (v := .null) hx hb hz wo_X7 tyX7 tyX7_ok nmX7 hown hK hP rfl 1 (by decide) (hz _ wf_X7_15) (fun _ h9 => h9) (Or.inr ⟨rfl, (name_of_methodNamed B.named B.method).1, rfl⟩) rfl rfl (Nat.le_of_ble_eq_true rfl) (by first | exact rfl | omega | (dsimp only; omega)) hS dX7_init_11 (fun H locs hz9 hP hk9 hS => ?_)
  have hP : zO G H (th) 6 [.ref (nm), .null, .int (nI (0))] := hP
  refine lv_aload_n hx hb dX7_init_14 rfl (lv_at hl 0 rfl) ?_
  refine lv_aload_nN hx hb dX7_init_15 rfl (lv_at hl 2 rfl) ?_
  refine lv_ifnonnullN hx hb dX7_init_16 ?_
  refine lv_iconst (v := nI 1) hx hb dX7_init_19 (by decide) ?_
  refine lv_goto (tgt := 29) hx hb dX7_init_20 (by decide) ?_
  refine zx_put (C := RX7) (T := TX7) (N := 3) (v := .int (nI (1))) hx hb hz wo_X7 tyX7 tyX7_ok nmX7 hown hK hP rfl 2 (by decide) (hz _ wf_X7_19) (fun _ h9 => h9) (Or.inr ⟨rfl, (name_of_methodNamed B.named B.method).1, rfl⟩) rfl rfl (Nat.le_of_ble_eq_true rfl) (by first | exact rfl | omega | (dsimp only; omega)) hS dX7_init_29 (fun H locs hz9 hP hk9 hS => ?_)
  have hP : zO G H (th) 6 [.ref (nm), .null, .int (nI (1))] := hP
  exact zx_v hx hb hr hlocks (by show 0 ≤ 0; omega) (by show 0 ≤ 0; omega) (⟨rfl, hP⟩) hS dX7_init_32

set_option maxHeartbeats 4000000 in
set_option maxRecDepth 100000 in
theorem c_sinit_r (l : Launch) (G : zG) (th nm sa cnt : Nat) (fsS : List Value) (hf2 : fsS[2]? = some (.int (nI cnt))) (hne : sa ≠ th) : Met l yX7_init wsX7_init ({ frames := 1, cells := 0, slots := 0, locals := 21 }) (zP G [.ref (th), .ref (nm), .ref (sa)] (fun H => zO G H th 6 [.null, .null, .int (nI 0)] ∧ zO G H sa 6 fsS)) (zX (fun q => q = th) (fun r9 H => r9 = none ∧ zO G H th 6 [.ref nm, .ref sa, .int (nI (cnt + 1))])) (0) (0) (fun q => q = th) := by
  refine Met.ofW (cc := cX7_init) (maxL := 3) (ret := none) (by decide) rfl ?_
  intro p en s m args below meth c s₁ B hml hv
  obtain ⟨rfl, hP, hK⟩ := hv
  have hx := B.exec
  have hb := B.bytes
  have hr := B.returns
  have hts := atoms_spec (ws := wsX7_init) B.pre
  have hz : ∀ w ∈ zW, w.before _ s = true := fun w h => hts w (List.mem_cons_of_mem _ h)
  have hown : s.vm.findClass RX7 = some m.cls := findClass_of_methodNamed B.named
  have hlocks := B.notSynchronized
  obtain ⟨hO, hSa⟩ := id hP
  have hS : va_S (fun q => q = th) s.heap s.heap [] := va_S.rf
  have hl := lv_entry ([.ref (th), .ref (nm), .ref (sa)]) (n := 3) (Nat.le_of_ble_eq_true rfl)
  rw [lg_entry_eq]
  generalize (lg_sl ([.ref (th), .ref (nm), .ref (sa)]) ++ List.replicate (3 - (lg_sl ([.ref (th), .ref (nm), .ref (sa)])).length) Slot.unset).toArray = ls at hl ⊢
  have hl : lv_has ls 3 [(0, .ref (th)), (1, .ref (nm)), (2, .ref (sa))] := hl
  refine lv_aload_n hx hb dX7_init_0 rfl (lv_at hl 0 rfl) ?_
  refine W.objInit hx hb hown (hz _ wm_X7_3) (hz _ wOn) (hz _ wOc) rfl (hl.1.trans hml.symm) rfl dX7_init_1 (by show 1 ≤ _; exact Nat.le_of_ble_eq_true rfl) (by show _ ≤ _; exact Nat.le_of_ble_eq_true rfl) ?_
  refine W.eq (g2 := F0 m 4 ls ([])) rfl ?_
  refine lv_aload_n hx hb dX7_init_4 rfl (lv_at hl 0 rfl) ?_
  refine lv_aload_n hx hb dX7_init_5 rfl (lv_at hl 1 rfl) ?_
  refine zx_put (C := RX7) (T := TX7) (N := 3) (v := .ref (nm)) hx hb hz wo_X7 tyX7 tyX7_ok nmX7 hown hK hO rfl 0 (by decide) (hz _ wf_X7_9) (fun _ h9 => h9) (Or.inr ⟨rfl, (name_of_methodNamed B.named B.method).1, rfl⟩) rfl rfl (Nat.le_of_ble_eq_true rfl) (by first | exact rfl | omega | (dsimp only; omega)) hS dX7_init_6 (fun H locs hz9 hO hk9 hS => ?_)
  have hO : zO G H (th) 6 [.ref (nm), .null, .int (nI (0))] := hO
  have hSa := hSa.keep hk9 (by first | exact id | exact rfl | omega | (dsimp only; omega))
  refine lv_aload_n hx hb dX7_init_9 rfl (lv_at hl 0 rfl) ?_
  refine lv_aload_n hx hb dX7_init_10 rfl (lv_at hl 2 rfl) ?_
  refine zx_put (C := RX7) (T := TX7) (N := 3) (v := .ref (sa)) hx hb hz wo_X7 tyX7 tyX7_ok nmX7 hown hK hO rfl 1 (by decide) (hz _ wf_X7_15) (fun _ h9 => h9) (Or.inr ⟨rfl, (name_of_methodNamed B.named B.method).1, rfl⟩) rfl rfl (Nat.le_of_ble_eq_true rfl) (by first | exact rfl | omega | (dsimp only; omega)) hS dX7_init_11 (fun H locs hz9 hO hk9 hS => ?_)
  have hO : zO G H (th) 6 [.ref (nm), .ref (sa), .int (nI (0))] := hO
  have hSa := hSa.keep hk9 (by first | exact id | exact rfl | omega | (dsimp only; omega))
  refine lv_aload_n hx hb dX7_init_14 rfl (lv_at hl 0 rfl) ?_
  refine lv_aload_n hx hb dX7_init_15 rfl (lv_at hl 2 rfl) ?_
  refine lv_ifnonnull (tgt := 23) hx hb dX7_init_16 (by decide) ?_
  refine lv_aload_n hx hb dX7_init_23 rfl (lv_at hl 2 rfl) ?_
  refine zi_get (C := RX7) (T := TX7) (N := 3) (v := .int (nI (cnt))) hx hb hz wo_X7 hown hK hSa rfl 2 (by decide) (hz _ wf_X7_19) (fun _ h9 => h9) hf2 dX7_init_24 ?_
  refine lv_iconst (v := nI 1) hx hb dX7_init_27 (by decide) ?_
  refine zi_add hx hb dX7_init_28 ?_
  refine zx_put (C := RX7) (T := TX7) (N := 3) (v := .int (nI (cnt + 1))) hx hb hz wo_X7 tyX7 tyX7_ok nmX7 hown hK hO rfl 2 (by decide) (hz _ wf_X7_19) (fun _ h9 => h9) (Or.inr ⟨rfl, (name_of_methodNamed B.named B.method).1, rfl⟩) rfl rfl (Nat.le_of_ble_eq_true rfl) (by first | exact rfl | omega | (dsimp only; omega)) hS dX7_init_29 (fun H locs hz9 hO hk9 hS => ?_)
  have hO : zO G H (th) 6 [.ref (nm), .ref (sa), .int (nI (cnt + 1))] := hO
  have hSa := hSa.keep hk9 (by first | exact id | exact rfl | omega | (dsimp only; omega))
  exact zx_v hx hb hr hlocks (by show 0 ≤ 0; omega) (by show 0 ≤ 0; omega) (⟨rfl, hO⟩) hS dX7_init_32

theorem c_sinit (l : Launch) (G : zG) (th nm cnt lo hi : Nat) (st : Option Nat) (hth : hi ≤ th) : Met l yX7_init wsX7_init ({ frames := 1, cells := 0, slots := 0, locals := 21 }) (zP G [.ref (th), .ref (nm), va_rf (st)] (fun H => zO G H th 6 [.null, .null, .int (nI 0)] ∧ StC G H lo hi st cnt)) (zX (fun q => q = th) (fun r9 H => r9 = none ∧ zO G H th 6 [.ref nm, va_rf st, .int (nI (cnt + 1))])) 0 0 (fun q => q = th) := by
  cases st with
  | none => exact Met.toX (c_sinit_n l G th nm) (fun H h => h.1) (fun q h => h) (fun r H H1 h _ _ hq => by
      have e : cnt = 0 := h.2.1 rfl
      subst e
      exact hq)
  | some sa =>
    by_cases hr : sa < hi
    · have h0 := Met.exX (fun i : {fsS : List Value // fsS[2]? = some (.int (nI cnt))} => c_sinit_r l G th nm sa cnt i.1 i.2 (by omega))
      refine MetFree.mono h0 (fun a s h9 => ?_) (fun _ _ _ _ _ h9 => h9) (fun a s o t h9 hx => ?_)
      · obtain ⟨e, ⟨h1, h2⟩, hK⟩ := h9
        obtain ⟨-, nm2, nx2, g2⟩ := h2.2 sa rfl
        exact ⟨e, ⟨⟨_, rfl⟩, h1, g2⟩, hK⟩
      · obtain ⟨⟨i, hpi, hx⟩, hL⟩ := hx
        exact ⟨hx, hL⟩
    · refine Met.ofW (cc := cX7_init) (maxL := 3) (ret := none) (by decide) rfl ?_
      intro p en s m args below meth c s₁ B hml hv9
      exact absurd (hv9.2.1.2.2 sa rfl).1.2 hr

set_option maxHeartbeats 4000000 in
set_option maxRecDepth 100000 in
theorem c_ofPath (l : Launch) (G : zG) (n0 a : Nat) (f : Nat → Nat) (e : Nat) (Z : Nat → Prop) (hz0 : f (ne f e) = 0) (hlen0 : ne f e ≤ e + 2001) (hZ : ∀ q, Z q → q < n0) : Met l yX7_ofPath wsX7_ofPath ({ frames := 5, cells := 27, slots := 63 + (ne f e - (e + 1)), locals := 152 }) (zP G [.ref (a)] (fun H => StrZ G H Z a (nL f e) ∧ CH G H ∧ H.size = n0)) (zX (fun q => n0 ≤ q) (fun r9 H => ∃ o8 : Option Nat, r9 = some (va_rf o8) ∧ (o8 = none → stN f e = 0) ∧ ∀ sa, o8 = some sa → stN f e ≠ 0 ∧ Spt G H (ZPp G Z n0 H.size) f 9 (some sa) (e + 1) ∧ StC G H n0 H.size (some sa) (stN f e))) (27) (63 + (ne f e - (e + 1))) (fun q => n0 ≤ q) := by
  refine Met.ofW (cc := cX7_ofPath) (maxL := 5) (ret := (some (.object "FilterReader$Step"))) (by decide) rfl ?_
  intro p en s m args below meth c s₁ B hml hv
  obtain ⟨rfl, hP, hK⟩ := hv
  have hx := B.exec
  have hb := B.bytes
  have hr := B.returns
  have hts := atoms_spec (ws := wsX7_ofPath) B.pre
  have hz : ∀ w ∈ zW, w.before _ s = true := fun w h => hts w (List.mem_cons_of_mem _ h)
  have hown : s.vm.findClass RX7 = some m.cls := findClass_of_methodNamed B.named
  have hlocks := B.notSynchronized
  obtain ⟨hPa, hCH, hn0⟩ := id hP
  have hS : va_S (fun q => n0 ≤ q) s.heap s.heap [] := va_S.rf
  obtain ⟨v, hs, hz9, -, -, hSa⟩ := id hPa
  have hcb := hCH.2.2.2.2.2
  have hwl := nL_len f e
  have hw8 : ∀ i, (nL f e).getD i 0 < 256 := hSa.2.2.1
  have hgt := ne_gt f e
  have hl := lv_entry ([.ref (a)]) (n := 5) (Nat.le_of_ble_eq_true rfl)
  rw [lg_entry_eq]
  generalize (lg_sl ([.ref (a)]) ++ List.replicate (5 - (lg_sl ([.ref (a)])).length) Slot.unset).toArray = ls at hl ⊢
  have hl : lv_has ls 5 [(0, .ref (a))] := hl
  refine lv_null hx hb dX7_ofPath_0 ?_
  refine lv_astore_nN (lv' := [(1, .null), (0, .ref (a))]) hx hb dX7_ofPath_1 rfl hl (by decide) rfl (fun ls hl => ?_)
  refine lv_aload_n hx hb dX7_ofPath_2 rfl (lv_at hl 1 rfl) ?_
  refine zc_Vw (As := []) (rest := []) ⟨hx, hb, hml, hown, hts⟩ (j_length l G a v (nL f e).length (fun i => (nL f e).getD i 0) hs hz9) (cwV 0 hts (zgV wm_X7_23 wv_J0_length_8abf5) rfl rfl rfl (by decide +kernel) ⟨Nat.le_of_ble_eq_true rfl, Nat.le_of_ble_eq_true rfl⟩) hK hSa.1 rfl ⟨hSa, hCH.1⟩ rfl hl.1 rfl (Nat.le_of_ble_eq_true rfl) dX7_ofPath_3 ⟨by show 0 ≤ 27; omega, by show 0 ≤ 63 + (ne f e - (e + 1)); omega⟩ ?_
  refine lv_istore_n (lv' := [(2, .int (nI ((nL f e).length))), (1, .null), (0, .ref (a))]) hx hb dX7_ofPath_6 rfl hl (by decide) rfl (fun ls hl => ?_)
  refine lv_aload_n hx hb dX7_ofPath_7 rfl (lv_at hl 2 rfl) ?_
  refine zc_Vw (As := []) (rest := []) ⟨hx, hb, hml, hown, hts⟩ (j_length l G a v (nL f e).length (fun i => (nL f e).getD i 0) hs hz9) (cwV 0 hts (zgV wm_X7_23 wv_J0_length_8abf5) rfl rfl rfl (by decide +kernel) ⟨Nat.le_of_ble_eq_true rfl, Nat.le_of_ble_eq_true rfl⟩) hK hSa.1 rfl ⟨hSa, hCH.1⟩ rfl hl.1 rfl (Nat.le_of_ble_eq_true rfl) dX7_ofPath_8 ⟨by show 0 ≤ 27; omega, by show 0 ≤ 63 + (ne f e - (e + 1)); omega⟩ ?_
  refine lv_iconst (v := nI 1) hx hb dX7_ofPath_11 (by decide) ?_
  refine lv_isub hx hb dX7_ofPath_12 ?_
  rw [dec_12]
  refine W.eq (g2 := F0 m 13 ls ([.int (nI ((nL f e).length + 1) - nI (2))])) rfl ?_
  refine lv_istore_n (lv' := [(3, .int (nI ((nL f e).length + 1) - nI (2))), (2, .int (nI ((nL f e).length))), (1, .null), (0, .ref (a))]) hx hb dX7_ofPath_13 rfl hl (by decide) rfl (fun ls hl => ?_)
  have L14 : ∀ (n_ : Nat) (y : Nat) (en9 : Nat) (st9 : Option Nat) (cnt : Nat) (qn : Nat) (z2 : Int32) (cl sl : Nat), y < n_ → (pInv f e y en9 cnt qn st9 z2) → (y ≤ 2001) → (cnt ≤ 8) → (cl + 3 * (9 - cnt) ≤ 27) → (sl + 7 * (9 - cnt) + en9 ≤ 63 + (ne f e - (e + 1))) → ∀ (H : Heap) (locs : List Loc), (StrZ G H Z a (nL f e)) → (CH G H) → (Spt G H (ZPp G Z n0 H.size) f cnt st9 qn) → (StC G H n0 H.size st9 cnt) → (n0 ≤ H.size) → va_S (fun q => n0 ≤ q) s.heap H locs → ∀ ls : Array Slot, lv_has ls 5 [(0, .ref (a)), (1, va_rf (st9)), (2, .int (z2)), (3, .int (nI (y) - nI (2)))] → W p l en (headSpec wsX7_ofPath ({ frames := 5, cells := 27, slots := 63 + (ne f e - (e + 1)), locals := 152 })).room s m ([.ref (a)] : List Value).toArray below meth c H locs cl sl (MQ below (zX (fun q => n0 ≤ q) (fun r9 H => ∃ o8 : Option Nat, r9 = some (va_rf o8) ∧ (o8 = none → stN f e = 0) ∧ ∀ sa, o8 = some sa → stN f e ≠ 0 ∧ Spt G H (ZPp G Z n0 H.size) f 9 (some sa) (e + 1) ∧ StC G H n0 H.size (some sa) (stN f e))) ([.ref (a)] : List Value).toArray s (27) (63 + (ne f e - (e + 1))) (fun q => n0 ≤ q)) (F0 m 14 ls []) := by
    intro n_
    induction n_ with
    | zero => intro y en9 st9 cnt qn z2 cl sl hm_; exact absurd hm_ (Nat.not_lt_zero _)
    | succ n_ ih_ =>
      intro y en9 st9 cnt qn z2 cl sl hm_ hpi hy9 hc8 hcl hsl H locs hPa hCH hSp hSc hsz hS ls hl
      obtain ⟨v, hs, hz9, -, -, hSa⟩ := id hPa
      have hC := hCH.1
      obtain ⟨x9, hI⟩ := hCH.2.1
      obtain ⟨sz, hsze⟩ : ∃ z, H.size = z := ⟨_, rfl⟩
      rw [hsze] at hSp hSc
      refine lv_iload_n hx hb dX7_ofPath_14 rfl (lv_at hl 3 rfl) ?_
      refine lv_iconst (v := (-1)) hx hb dX7_ofPath_15 (by decide) ?_
      refine lv_icmp_lt (tgt := 91) hx hb dX7_ofPath_16 (by decide) (fun c_16 => ?_) (fun c_16 => ?_)
      · refine zo_aload_n hx hb dX7_ofPath_91 rfl (lv_at hl 1 rfl) ?_
        exact zx_a hx hb hr (by first | exact Or.inl ⟨_, rfl⟩ | exact Or.inr ⟨_, rfl⟩) hlocks (va_rf_or _) (by show cl ≤ 27; omega) (by show sl ≤ 63 + (ne f e - (e + 1)); omega) (⟨st9, rfl, fun z => absurd z (hpi.2 ((y_lt1 (y := y) (by omega)).mp c_16)).2.2.2, fun sa z => by
      obtain ⟨g1, g2, g3, g4⟩ := hpi.2 ((y_lt1 (y := y) (by omega)).mp c_16)
      have g5 := stN_y g1 (by omega)
      subst z
      rw [g3] at hSp
      refine ⟨by omega, ?_, ?_⟩
      · exact (hSp.le (by omega)).mono (fun q hq => hq.up (by omega))
      · rw [g5, ← g2]
        exact ⟨hSc.1, fun s1 h1 => ⟨⟨(hSc.2 s1 h1).1.1, by have := (hSc.2 s1 h1).1.2; omega⟩, (hSc.2 s1 h1).2⟩⟩⟩) hS dX7_ofPath_92
      · refine lv_iload_n hx hb dX7_ofPath_19 rfl (lv_at hl 3 rfl) ?_
        refine lv_if_lt (tgt := 33) hx hb dX7_ofPath_20 (by decide) (fun c_20 => ?_) (fun c_20 => ?_)
        · have hy1 : y = 1 := by have h1 := (y_lt0 (y := y) (by omega)).mp c_20; have h2 := mt (y_lt1 (y := y) (by omega)).mpr c_16; omega
          subst hy1
          obtain ⟨hi1, hi2, hi3, hi4, hi5, hi6⟩ := hpi.1 (by omega)
          subst hi5
          have hl : lv_has ls 5 [(0, .ref (a)), (1, va_rf (st9)), (2, .int (nI (en9))), (3, .int ((-1)))] := by rw [show nI 1 - nI 2 = (-1) by decide] at hl; exact hl
          refine lv_aload_n hx hb dX7_ofPath_33 rfl (lv_at hl 0 rfl) ?_
          refine lv_iload_n hx hb dX7_ofPath_34 rfl (lv_at hl 3 rfl) ?_
          refine lv_iconst (v := nI 1) hx hb dX7_ofPath_35 (by decide) ?_
          refine lv_iadd hx hb dX7_ofPath_36 ?_
          rw [show ((-1) : Int32) + nI 1 = nI 0 by decide]
          refine W.eq (g2 := F0 m 37 ls ([.int (nI (0)), .ref (a)])) rfl ?_
          refine lv_iload_n hx hb dX7_ofPath_37 rfl (lv_at hl 2 rfl) ?_
          refine zx_Vw (As := [.int (nI (0)), .int (nI (en9))]) (rest := []) ⟨hx, hb, hml, hown, hts⟩ (j_substr l G H.size a (0) en9 (nL f e) Z (by omega) hi2 (by omega)) (cwV 2 hts (zgV wm_X7_33 wv_J0_substring_37a41) rfl rfl rfl (by decide +kernel) ⟨Nat.le_of_ble_eq_true rfl, Nat.le_of_ble_eq_true rfl⟩) hK hSa.1 rfl ⟨hPa, hCH, rfl⟩ rfl hl.1 rfl (Nat.le_of_ble_eq_true rfl) dX7_ofPath_38 ⟨by show cl + 2 ≤ 27; omega, by show sl + (4 + (en9 - (0))) ≤ 63 + (ne f e - (e + 1)); omega⟩ hS (by intro q hq; first | omega | (dsimp only at hq ⊢; omega)) (fun r9 H locs hPo hz9 hk9 hS => ?_)
          have hPa := hPa.keep hk9 (by intro q hq; have hq1 := hZ q hq; first | exact id | omega | (dsimp only; omega))
          have hCH := hCH.keep hk9 ⟨by intro q hq; first | exact id | omega | (dsimp only; omega), by omega⟩
          have hSp := hSp.keep hk9 (by intro q hq; exact hq.elim (fun hq => by have hq1 := hZ q hq; first | exact id | omega | (dsimp only; omega)) (fun hq => by first | exact id | omega | (dsimp only; omega)))
          have hSc := hSc.keep hk9 (by intro q hq; first | exact id | omega | (dsimp only; omega))
          obtain ⟨nm1, rfl, hZ1⟩ := hPo
          obtain ⟨v1, hs1, hy9, -, -, hS1⟩ := id hZ1
          have hsL : (subL (nL f e) (0) en9).length < 2 ^ 31 := hS1.2.2.2
          refine W.eq (g2 := F0 m 41 ls ([.ref (nm1)])) rfl ?_
          refine lv_astore (lv' := [(4, .ref (nm1)), (0, .ref (a)), (1, va_rf (st9)), (2, .int (nI (en9))), (3, .int ((-1)))]) hx hb dX7_ofPath_41 hl (by decide) rfl (fun ls hl => ?_)
          refine lv_aload hx hb dX7_ofPath_43 (lv_at hl 0 rfl) ?_
          refine zc_Vw (As := []) (rest := []) ⟨hx, hb, hml, hown, hts⟩ (j_isEmpty l G nm1 v1 (subL (nL f e) (0) en9).length (fun i => (subL (nL f e) (0) en9).getD i 0) hs1 hy9) (cwV 0 hts (zgV wm_X7_37 wv_J0_isEmpty_aae02) rfl rfl rfl (by decide +kernel) ⟨Nat.le_of_ble_eq_true rfl, Nat.le_of_ble_eq_true rfl⟩) hK hS1.1 rfl ⟨hS1, hCH.1⟩ rfl hl.1 rfl (Nat.le_of_ble_eq_true rfl) dX7_ofPath_45 ⟨by show cl + 2 ≤ 27; omega, by show sl + (4 + (en9 - (0))) ≤ 63 + (ne f e - (e + 1)); omega⟩ ?_
          refine zb_if_ne (tgt := 59) hx hb dX7_ofPath_48 (by decide) (fun c_48 => ?_) (fun c_48 => ?_)
          · refine lv_null hx hb dX7_ofPath_59 ?_
            exact zx_a hx hb hr (by first | exact Or.inl ⟨_, rfl⟩ | exact Or.inr ⟨_, rfl⟩) hlocks (Or.inl rfl) (by show cl + 2 ≤ 27; omega) (by show sl + (4 + (en9 - (0))) ≤ 63 + (ne f e - (e + 1)); omega) (⟨none, rfl, fun _ => stN_no (x := 0) (Or.inl rfl) (Or.inl (by rw [(hi3.seg (x := 0) (by omega) (fun k q1 q2 => hi4 k (by omega) q2)).1]; exact sOK_no1 c_48)), fun v z => nomatch z⟩) hS dX7_ofPath_60
          · refine lv_aload hx hb dX7_ofPath_51 (lv_at hl 0 rfl) ?_
            refine zc_SN (As := [.ref (nm1)]) (rest := []) ⟨hx, hb, hml, hown, hts⟩ (c_begins l G nm1 (subL (nL f e) (0) en9) _) ⟨va_cnB 1 hts (zgN wc_X10_beginsWithDollar) rfl rfl rfl (hK.2.1 _ wm_X7_41) (hz _ wi_X10) (by decide +kernel) ⟨Nat.le_of_ble_eq_true rfl, Nat.le_of_ble_eq_true rfl⟩, hz _ wt_X10_beginsWithDollar, trivial⟩ hK ⟨hZ1, hCH⟩ rfl hl.1 rfl (Nat.le_of_ble_eq_true rfl) dX7_ofPath_53 ⟨by show cl + 2 ≤ 27; omega, by show sl + (4 + (en9 - (0))) ≤ 63 + (ne f e - (e + 1)); omega⟩ ?_
            refine zb_if_eq (tgt := 61) hx hb dX7_ofPath_56 (by decide) (fun c_56 => ?_) (fun c_56 => ?_)
            · refine zx_new (C := RX7) (T := TX7) (N := 3) (ci := 6) (fs := [.null, .null, .int (nI (0))]) hx hb hz wo_X7 tyX7 tyX7_ok hown (hz _ wl_X7_10) (hz _ wa_X7) (hz _ wi_X7) hK rfl df_X7 (by show cl + 2 + 1 ≤ 27; omega) (by show sl + (4 + (en9 - (0))) + 3 ≤ 63 + (ne f e - (e + 1)); omega) hS dX7_ofPath_61 (fun sa H he_sa hz9 hO_sa hk9 hS => ?_)
              have hPa := hPa.keep hk9 (by intro q hq; have hq1 := hZ q hq; first | exact id | omega | (dsimp only; omega))
              have hCH := hCH.keep hk9 ⟨by intro q hq; first | exact id | omega | (dsimp only; omega), by omega⟩
              have hSp := hSp.keep hk9 (by intro q hq; exact hq.elim (fun hq => by have hq1 := hZ q hq; first | exact id | omega | (dsimp only; omega)) (fun hq => by first | exact id | omega | (dsimp only; omega)))
              have hSc := hSc.keep hk9 (by intro q hq; first | exact id | omega | (dsimp only; omega))
              have hZ1 := hZ1.keep hk9 (by intro q hq; exact hq.elim (fun hq => by have hq1 := hZ q hq; first | exact id | omega | (dsimp only; omega)) (fun hq => by simp only [zRg] at hq; first | exact id | omega | (dsimp only; omega)))
              refine lv_dup hx hb dX7_ofPath_64 rfl ?_
              refine lv_aload hx hb dX7_ofPath_65 (lv_at hl 0 rfl) ?_
              refine zo_aload_n hx hb dX7_ofPath_67 rfl (lv_at hl 2 rfl) ?_
              refine zx_I (As := [.ref (nm1), va_rf (st9)]) (rest := [.ref (sa)]) (b := sa) ⟨hx, hb, hml, hown, hts⟩ (c_sinit l G sa nm1 cnt n0 sz st9 (by omega)) (cwI 2 hts (zgN wc_X7_init) rfl rfl rfl (hz _ wi_X7) (hz _ wm_X7_45) (hz _ wn_X7_init) rfl (by decide +kernel) ⟨Nat.le_of_ble_eq_true rfl, Nat.le_of_ble_eq_true rfl⟩) hK ⟨hO_sa, hSc⟩ rfl hl.1 rfl (Nat.le_of_ble_eq_true rfl) dX7_ofPath_68 ⟨by show cl + 2 + 1 + 0 ≤ 27; omega, by show sl + (4 + (en9 - (0))) + 3 + 0 ≤ 63 + (ne f e - (e + 1)); omega⟩ hS (by intro q hq; first | omega | (dsimp only at hq ⊢; omega)) (fun r9 H locs hPo hz9 hk9 hS => ?_)
              have hPa := hPa.keep hk9 (by intro q hq; have hq1 := hZ q hq; first | exact id | omega | (dsimp only; omega))
              have hCH := hCH.keep hk9 ⟨by intro q hq; first | exact id | omega | (dsimp only; omega), by omega⟩
              have hSp := hSp.keep hk9 (by intro q hq; exact hq.elim (fun hq => by have hq1 := hZ q hq; first | exact id | omega | (dsimp only; omega)) (fun hq => by first | exact id | omega | (dsimp only; omega)))
              have hSc := hSc.keep hk9 (by intro q hq; first | exact id | omega | (dsimp only; omega))
              have hZ1 := hZ1.keep hk9 (by intro q hq; exact hq.elim (fun hq => by have hq1 := hZ q hq; first | exact id | omega | (dsimp only; omega)) (fun hq => by simp only [zRg] at hq; first | exact id | omega | (dsimp only; omega)))
              obtain ⟨rfl, hO_sa⟩ := hPo
              refine W.eq (g2 := F0 m 71 ls ([.ref (sa)])) rfl ?_
              refine lv_astore_n (lv' := [(1, .ref (sa)), (4, .ref (nm1)), (0, .ref (a)), (2, .int (nI (en9))), (3, .int ((-1)))]) hx hb dX7_ofPath_71 rfl hl (by decide) rfl (fun ls hl => ?_)
              refine lv_aload_n hx hb dX7_ofPath_72 rfl (lv_at hl 0 rfl) ?_
              refine zi_get (C := RX7) (T := TX7) (N := 3) (v := .int (nI (cnt + 1))) hx hb hz wo_X7 hown hK hO_sa rfl 2 (by decide) (hz _ wf_X7_19) (fun _ h9 => h9) rfl dX7_ofPath_73 ?_
              refine lv_bipush (v := nI 8) hx hb dX7_ofPath_76 (by decide) ?_
              refine zi_icmp_le (tgt := 83) hx hb dX7_ofPath_78 (by decide) (by omega) (by omega) (fun c_78 => ?_) (fun c_78 => ?_)
              · refine lv_iload_n hx hb dX7_ofPath_83 rfl (lv_at hl 4 rfl) ?_
                refine lv_istore_n (lv' := [(2, .int ((-1))), (1, .ref (sa)), (4, .ref (nm1)), (0, .ref (a)), (3, .int ((-1)))]) hx hb dX7_ofPath_84 rfl hl (by decide) rfl (fun ls hl => ?_)
                refine lv_iinc (v := nI (0) - nI (2)) (lv' := [(3, .int (nI (0) - nI (2))), (2, .int ((-1))), (1, .ref (sa)), (4, .ref (nm1)), (0, .ref (a))]) hx hb dX7_ofPath_85 hl (k := 4) rfl (by decide) (by decide) rfl (fun ls hl => ?_)
                refine lv_goto (tgt := 14) hx hb dX7_ofPath_88 (by decide) ?_
                exact ih_ 0 0 (some sa) (cnt + 1) (e + 1) ((-1)) (cl + 2 + 1 + 0) (sl + (4 + (en9 - (0))) + 3 + 0) (by omega) (pInv_e hpi (sOK_y c_48 c_56) sa) (by omega) (by omega) (by omega) (by omega) _ _ hPa hCH (show Spt G H (ZPp G Z n0 H.size) f (cnt + 1) (some sa) (e + 1) from ⟨by omega, nm1, st9, cnt + 1, hO_sa, Or.inr (Or.inl ⟨by omega, by omega⟩), (hZ1.mono (fun q hq => ZPp.sub hq (by omega) (by omega))).to (step_at hz0 hlen0 hi3 (by omega) (fun k q1 q2 => hi4 k (by omega) q2)).1.symm, by rw [(step_at hz0 hlen0 hi3 (x := 0) (by omega) (fun k q1 q2 => hi4 k (by omega) q2)).2, ← hi6]; exact hSp.mono (fun q hq => hq.up (by omega))⟩) (show StC G H n0 H.size (some sa) (cnt + 1) from ⟨(fun z => nomatch z), fun s1 h1 => by cases h1; exact ⟨⟨by omega, by omega⟩, nm1, st9, hO_sa⟩⟩) (by omega) hS ls (lv_sub hl [4, 2, 1, 0] rfl)
              · refine lv_null hx hb dX7_ofPath_81 ?_
                exact zx_a hx hb hr (by first | exact Or.inl ⟨_, rfl⟩ | exact Or.inr ⟨_, rfl⟩) hlocks (Or.inl rfl) (by show cl + 2 + 1 + 0 ≤ 27; omega) (by show sl + (4 + (en9 - (0))) + 3 + 0 ≤ 63 + (ne f e - (e + 1)); omega) (⟨none, rfl, fun _ => stN_no (x := 0) (Or.inl rfl) (Or.inr (by rw [(hi3.seg (x := 0) (by omega) (fun k q1 q2 => hi4 k (by omega) q2)).2]; omega)), fun v z => nomatch z⟩) hS dX7_ofPath_82
            · refine lv_null hx hb dX7_ofPath_59 ?_
              exact zx_a hx hb hr (by first | exact Or.inl ⟨_, rfl⟩ | exact Or.inr ⟨_, rfl⟩) hlocks (Or.inl rfl) (by show cl + 2 ≤ 27; omega) (by show sl + (4 + (en9 - (0))) ≤ 63 + (ne f e - (e + 1)); omega) (⟨none, rfl, fun _ => stN_no (x := 0) (Or.inl rfl) (Or.inl (by rw [(hi3.seg (x := 0) (by omega) (fun k q1 q2 => hi4 k (by omega) q2)).1]; exact sOK_no2 c_56)), fun v z => nomatch z⟩) hS dX7_ofPath_60
        · obtain ⟨x1, rfl⟩ : ∃ x1, y = x1 + 2 := ⟨y - 2, by have h1 := mt (y_lt0 (y := y) (by omega)).mpr c_20; omega⟩
          obtain ⟨hi1, hi2, hi3, hi4, hi5, hi6⟩ := hpi.1 (by omega)
          subst hi5
          have hl : lv_has ls 5 [(0, .ref (a)), (1, va_rf (st9)), (2, .int (nI (en9))), (3, .int (nI (x1)))] := by rw [show nI (x1 + 2) - nI 2 = nI x1 from pk_sub (by omega)] at hl; exact hl
          refine lv_aload_n hx hb dX7_ofPath_23 rfl (lv_at hl 0 rfl) ?_
          refine lv_iload_n hx hb dX7_ofPath_24 rfl (lv_at hl 3 rfl) ?_
          refine zc_Vw (As := [.int (nI (x1))]) (rest := []) ⟨hx, hb, hml, hown, hts⟩ (j_charAt l G a v (nL f e).length (fun i => (nL f e).getD i 0) hs hz9 x9 x1 (by omega)) (cwV 1 hts (zgV wm_X7_29 wv_J0_charAt_5068e) rfl rfl rfl (by decide +kernel) ⟨Nat.le_of_ble_eq_true rfl, Nat.le_of_ble_eq_true rfl⟩) hK hSa.1 rfl ⟨hSa, hC, hI⟩ rfl hl.1 rfl (Nat.le_of_ble_eq_true rfl) dX7_ofPath_25 ⟨by show cl ≤ 27; omega, by show sl ≤ 63 + (ne f e - (e + 1)); omega⟩ ?_
          refine lv_bipush (v := nI 46) hx hb dX7_ofPath_28 (by decide) ?_
          refine zi_icmp_ne (tgt := 85) hx hb dX7_ofPath_30 (by decide) (Nat.lt_trans (hw8 x1) (by decide)) (by omega) (fun c_30 => ?_) (fun c_30 => ?_)
          · refine lv_iinc (v := nI (x1 + 1) - nI (2)) (lv' := [(3, .int (nI (x1 + 1) - nI (2))), (0, .ref (a)), (1, va_rf (st9)), (2, .int (nI (en9)))]) hx hb dX7_ofPath_85 hl (k := 3) rfl (dec_12b x1) (by decide) rfl (fun ls hl => ?_)
            refine lv_goto (tgt := 14) hx hb dX7_ofPath_88 (by decide) ?_
            exact ih_ (x1 + 1) en9 st9 cnt qn (nI en9) (cl) (sl) (by omega) (pInv_n hpi c_30) (by omega) (by omega) (by omega) (by omega) _ _ hPa hCH (hSp.mono (fun q hq => hq.up (by omega))) (show StC G H n0 H.size st9 cnt from ⟨hSc.1, fun s1 h1 => ⟨⟨(hSc.2 s1 h1).1.1, by have := (hSc.2 s1 h1).1.2; omega⟩, (hSc.2 s1 h1).2⟩⟩) (by omega) hS ls (lv_sub hl [1, 2, 3, 0] rfl)
          · refine lv_aload_n hx hb dX7_ofPath_33 rfl (lv_at hl 0 rfl) ?_
            refine lv_iload_n hx hb dX7_ofPath_34 rfl (lv_at hl 3 rfl) ?_
            refine lv_iconst (v := nI 1) hx hb dX7_ofPath_35 (by decide) ?_
            refine zi_add hx hb dX7_ofPath_36 ?_
            refine lv_iload_n hx hb dX7_ofPath_37 rfl (lv_at hl 2 rfl) ?_
            refine zx_Vw (As := [.int (nI (x1 + 1)), .int (nI (en9))]) (rest := []) ⟨hx, hb, hml, hown, hts⟩ (j_substr l G H.size a (x1 + 1) en9 (nL f e) Z (by omega) hi2 (by omega)) (cwV 2 hts (zgV wm_X7_33 wv_J0_substring_37a41) rfl rfl rfl (by decide +kernel) ⟨Nat.le_of_ble_eq_true rfl, Nat.le_of_ble_eq_true rfl⟩) hK hSa.1 rfl ⟨hPa, hCH, rfl⟩ rfl hl.1 rfl (Nat.le_of_ble_eq_true rfl) dX7_ofPath_38 ⟨by show cl + 2 ≤ 27; omega, by show sl + (4 + (en9 - (x1 + 1))) ≤ 63 + (ne f e - (e + 1)); omega⟩ hS (by intro q hq; first | omega | (dsimp only at hq ⊢; omega)) (fun r9 H locs hPo hz9 hk9 hS => ?_)
            have hPa := hPa.keep hk9 (by intro q hq; have hq1 := hZ q hq; first | exact id | omega | (dsimp only; omega))
            have hCH := hCH.keep hk9 ⟨by intro q hq; first | exact id | omega | (dsimp only; omega), by omega⟩
            have hSp := hSp.keep hk9 (by intro q hq; exact hq.elim (fun hq => by have hq1 := hZ q hq; first | exact id | omega | (dsimp only; omega)) (fun hq => by first | exact id | omega | (dsimp only; omega)))
            have hSc := hSc.keep hk9 (by intro q hq; first | exact id | omega | (dsimp only; omega))
            obtain ⟨nm1, rfl, hZ1⟩ := hPo
            obtain ⟨v1, hs1, hy9, -, -, hS1⟩ := id hZ1
            have hsL : (subL (nL f e) (x1 + 1) en9).length < 2 ^ 31 := hS1.2.2.2
            refine W.eq (g2 := F0 m 41 ls ([.ref (nm1)])) rfl ?_
            refine lv_astore (lv' := [(4, .ref (nm1)), (0, .ref (a)), (1, va_rf (st9)), (2, .int (nI (en9))), (3, .int (nI (x1)))]) hx hb dX7_ofPath_41 hl (by decide) rfl (fun ls hl => ?_)
            refine lv_aload hx hb dX7_ofPath_43 (lv_at hl 0 rfl) ?_
            refine zc_Vw (As := []) (rest := []) ⟨hx, hb, hml, hown, hts⟩ (j_isEmpty l G nm1 v1 (subL (nL f e) (x1 + 1) en9).length (fun i => (subL (nL f e) (x1 + 1) en9).getD i 0) hs1 hy9) (cwV 0 hts (zgV wm_X7_37 wv_J0_isEmpty_aae02) rfl rfl rfl (by decide +kernel) ⟨Nat.le_of_ble_eq_true rfl, Nat.le_of_ble_eq_true rfl⟩) hK hS1.1 rfl ⟨hS1, hCH.1⟩ rfl hl.1 rfl (Nat.le_of_ble_eq_true rfl) dX7_ofPath_45 ⟨by show cl + 2 ≤ 27; omega, by show sl + (4 + (en9 - (x1 + 1))) ≤ 63 + (ne f e - (e + 1)); omega⟩ ?_
            refine zb_if_ne (tgt := 59) hx hb dX7_ofPath_48 (by decide) (fun c_48 => ?_) (fun c_48 => ?_)
            · refine lv_null hx hb dX7_ofPath_59 ?_
              exact zx_a hx hb hr (by first | exact Or.inl ⟨_, rfl⟩ | exact Or.inr ⟨_, rfl⟩) hlocks (Or.inl rfl) (by show cl + 2 ≤ 27; omega) (by show sl + (4 + (en9 - (x1 + 1))) ≤ 63 + (ne f e - (e + 1)); omega) (⟨none, rfl, fun _ => stN_no (x := x1 + 1) (Or.inr ⟨by omega, by show (nL f e).getD x1 0 = 46; exact c_30⟩) (Or.inl (by rw [(hi3.seg (x := x1 + 1) (by omega) (fun k q1 q2 => hi4 k (by omega) q2)).1]; exact sOK_no1 c_48)), fun v z => nomatch z⟩) hS dX7_ofPath_60
            · refine lv_aload hx hb dX7_ofPath_51 (lv_at hl 0 rfl) ?_
              refine zc_SN (As := [.ref (nm1)]) (rest := []) ⟨hx, hb, hml, hown, hts⟩ (c_begins l G nm1 (subL (nL f e) (x1 + 1) en9) _) ⟨va_cnB 1 hts (zgN wc_X10_beginsWithDollar) rfl rfl rfl (hK.2.1 _ wm_X7_41) (hz _ wi_X10) (by decide +kernel) ⟨Nat.le_of_ble_eq_true rfl, Nat.le_of_ble_eq_true rfl⟩, hz _ wt_X10_beginsWithDollar, trivial⟩ hK ⟨hZ1, hCH⟩ rfl hl.1 rfl (Nat.le_of_ble_eq_true rfl) dX7_ofPath_53 ⟨by show cl + 2 ≤ 27; omega, by show sl + (4 + (en9 - (x1 + 1))) ≤ 63 + (ne f e - (e + 1)); omega⟩ ?_
              refine zb_if_eq (tgt := 61) hx hb dX7_ofPath_56 (by decide) (fun c_56 => ?_) (fun c_56 => ?_)
              · refine zx_new (C := RX7) (T := TX7) (N := 3) (ci := 6) (fs := [.null, .null, .int (nI (0))]) hx hb hz wo_X7 tyX7 tyX7_ok hown (hz _ wl_X7_10) (hz _ wa_X7) (hz _ wi_X7) hK rfl df_X7 (by show cl + 2 + 1 ≤ 27; omega) (by show sl + (4 + (en9 - (x1 + 1))) + 3 ≤ 63 + (ne f e - (e + 1)); omega) hS dX7_ofPath_61 (fun sa H he_sa hz9 hO_sa hk9 hS => ?_)
                have hPa := hPa.keep hk9 (by intro q hq; have hq1 := hZ q hq; first | exact id | omega | (dsimp only; omega))
                have hCH := hCH.keep hk9 ⟨by intro q hq; first | exact id | omega | (dsimp only; omega), by omega⟩
                have hSp := hSp.keep hk9 (by intro q hq; exact hq.elim (fun hq => by have hq1 := hZ q hq; first | exact id | omega | (dsimp only; omega)) (fun hq => by first | exact id | omega | (dsimp only; omega)))
                have hSc := hSc.keep hk9 (by intro q hq; first | exact id | omega | (dsimp only; omega))
                have hZ1 := hZ1.keep hk9 (by intro q hq; exact hq.elim (fun hq => by have hq1 := hZ q hq; first | exact id | omega | (dsimp only; omega)) (fun hq => by simp only [zRg] at hq; first | exact id | omega | (dsimp only; omega)))
                refine lv_dup hx hb dX7_ofPath_64 rfl ?_
                refine lv_aload hx hb dX7_ofPath_65 (lv_at hl 0 rfl) ?_
                refine zo_aload_n hx hb dX7_ofPath_67 rfl (lv_at hl 2 rfl) ?_
                refine zx_I (As := [.ref (nm1), va_rf (st9)]) (rest := [.ref (sa)]) (b := sa) ⟨hx, hb, hml, hown, hts⟩ (c_sinit l G sa nm1 cnt n0 sz st9 (by omega)) (cwI 2 hts (zgN wc_X7_init) rfl rfl rfl (hz _ wi_X7) (hz _ wm_X7_45) (hz _ wn_X7_init) rfl (by decide +kernel) ⟨Nat.le_of_ble_eq_true rfl, Nat.le_of_ble_eq_true rfl⟩) hK ⟨hO_sa, hSc⟩ rfl hl.1 rfl (Nat.le_of_ble_eq_true rfl) dX7_ofPath_68 ⟨by show cl + 2 + 1 + 0 ≤ 27; omega, by show sl + (4 + (en9 - (x1 + 1))) + 3 + 0 ≤ 63 + (ne f e - (e + 1)); omega⟩ hS (by intro q hq; first | omega | (dsimp only at hq ⊢; omega)) (fun r9 H locs hPo hz9 hk9 hS => ?_)
                have hPa := hPa.keep hk9 (by intro q hq; have hq1 := hZ q hq; first | exact id | omega | (dsimp only; omega))
                have hCH := hCH.keep hk9 ⟨by intro q hq; first | exact id | omega | (dsimp only; omega), by omega⟩
                have hSp := hSp.keep hk9 (by intro q hq; exact hq.elim (fun hq => by have hq1 := hZ q hq; first | exact id | omega | (dsimp only; omega)) (fun hq => by first | exact id | omega | (dsimp only; omega)))
                have hSc := hSc.keep hk9 (by intro q hq; first | exact id | omega | (dsimp only; omega))
                have hZ1 := hZ1.keep hk9 (by intro q hq; exact hq.elim (fun hq => by have hq1 := hZ q hq; first | exact id | omega | (dsimp only; omega)) (fun hq => by simp only [zRg] at hq; first | exact id | omega | (dsimp only; omega)))
                obtain ⟨rfl, hO_sa⟩ := hPo
                refine W.eq (g2 := F0 m 71 ls ([.ref (sa)])) rfl ?_
                refine lv_astore_n (lv' := [(1, .ref (sa)), (4, .ref (nm1)), (0, .ref (a)), (2, .int (nI (en9))), (3, .int (nI (x1)))]) hx hb dX7_ofPath_71 rfl hl (by decide) rfl (fun ls hl => ?_)
                refine lv_aload_n hx hb dX7_ofPath_72 rfl (lv_at hl 0 rfl) ?_
                refine zi_get (C := RX7) (T := TX7) (N := 3) (v := .int (nI (cnt + 1))) hx hb hz wo_X7 hown hK hO_sa rfl 2 (by decide) (hz _ wf_X7_19) (fun _ h9 => h9) rfl dX7_ofPath_73 ?_
                refine lv_bipush (v := nI 8) hx hb dX7_ofPath_76 (by decide) ?_
                refine zi_icmp_le (tgt := 83) hx hb dX7_ofPath_78 (by decide) (by omega) (by omega) (fun c_78 => ?_) (fun c_78 => ?_)
                · refine lv_iload_n hx hb dX7_ofPath_83 rfl (lv_at hl 4 rfl) ?_
                  refine lv_istore_n (lv' := [(2, .int (nI (x1))), (1, .ref (sa)), (4, .ref (nm1)), (0, .ref (a)), (3, .int (nI (x1)))]) hx hb dX7_ofPath_84 rfl hl (by decide) rfl (fun ls hl => ?_)
                  refine lv_iinc (v := nI (x1 + 1) - nI (2)) (lv' := [(3, .int (nI (x1 + 1) - nI (2))), (2, .int (nI (x1))), (1, .ref (sa)), (4, .ref (nm1)), (0, .ref (a))]) hx hb dX7_ofPath_85 hl (k := 4) rfl (dec_12b x1) (by decide) rfl (fun ls hl => ?_)
                  refine lv_goto (tgt := 14) hx hb dX7_ofPath_88 (by decide) ?_
                  exact ih_ (x1 + 1) x1 (some sa) (cnt + 1) (e + 1 + (x1 + 1)) (nI x1) (cl + 2 + 1 + 0) (sl + (4 + (en9 - (x1 + 1))) + 3 + 0) (by omega) (pInv_d hpi c_30 (sOK_y c_48 c_56) sa) (by omega) (by omega) (by omega) (by omega) _ _ hPa hCH (show Spt G H (ZPp G Z n0 H.size) f (cnt + 1) (some sa) (e + 1 + (x1 + 1)) from ⟨by omega, nm1, st9, cnt + 1, hO_sa, Or.inr (Or.inl ⟨by omega, by omega⟩), (hZ1.mono (fun q hq => ZPp.sub hq (by omega) (by omega))).to (step_at hz0 hlen0 hi3 (by omega) (fun k q1 q2 => hi4 k (by omega) q2)).1.symm, by rw [(step_at hz0 hlen0 hi3 (x := x1 + 1) (by omega) (fun k q1 q2 => hi4 k (by omega) q2)).2, ← hi6]; exact hSp.mono (fun q hq => hq.up (by omega))⟩) (show StC G H n0 H.size (some sa) (cnt + 1) from ⟨(fun z => nomatch z), fun s1 h1 => by cases h1; exact ⟨⟨by omega, by omega⟩, nm1, st9, hO_sa⟩⟩) (by omega) hS ls (lv_sub hl [4, 2, 1, 0] rfl)
                · refine lv_null hx hb dX7_ofPath_81 ?_
                  exact zx_a hx hb hr (by first | exact Or.inl ⟨_, rfl⟩ | exact Or.inr ⟨_, rfl⟩) hlocks (Or.inl rfl) (by show cl + 2 + 1 + 0 ≤ 27; omega) (by show sl + (4 + (en9 - (x1 + 1))) + 3 + 0 ≤ 63 + (ne f e - (e + 1)); omega) (⟨none, rfl, fun _ => stN_no (x := x1 + 1) (Or.inr ⟨by omega, by show (nL f e).getD x1 0 = 46; exact c_30⟩) (Or.inr (by rw [(hi3.seg (x := x1 + 1) (by omega) (fun k q1 q2 => hi4 k (by omega) q2)).2]; omega)), fun v z => nomatch z⟩) hS dX7_ofPath_82
              · refine lv_null hx hb dX7_ofPath_59 ?_
                exact zx_a hx hb hr (by first | exact Or.inl ⟨_, rfl⟩ | exact Or.inr ⟨_, rfl⟩) hlocks (Or.inl rfl) (by show cl + 2 ≤ 27; omega) (by show sl + (4 + (en9 - (x1 + 1))) ≤ 63 + (ne f e - (e + 1)); omega) (⟨none, rfl, fun _ => stN_no (x := x1 + 1) (Or.inr ⟨by omega, by show (nL f e).getD x1 0 = 46; exact c_30⟩) (Or.inl (by rw [(hi3.seg (x := x1 + 1) (by omega) (fun k q1 q2 => hi4 k (by omega) q2)).1]; exact sOK_no2 c_56)), fun v z => nomatch z⟩) hS dX7_ofPath_60
  exact L14 ((((nL f e).length + 1)) + 1) ((nL f e).length + 1) ((nL f e).length) none 0 0 (nI (nL f e).length) (0) (0) (Nat.lt_succ_self _) pInv_0 (by omega) (by omega) (by omega) (by omega) _ _ hPa hCH rfl ⟨fun _ => rfl, fun s1 h1 => nomatch h1⟩ (by omega) hS ls (lv_sub hl [3, 2, 1, 0] rfl)
