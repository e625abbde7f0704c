set_option maxHeartbeats 4000000 in
set_option maxRecDepth 100000 in
theorem c_rlinit_n (l : Launch) (G : zG) (th sg : Nat) (ng : Bool) (vl sa : Nat) : Met l yX6_init wsX6_init ({ frames := 1, cells := 0, slots := 0, locals := 21 }) (zP G [.ref (th), .int (nI (sg)), .int (nI (nB (ng))), .ref (vl), .null] (fun H => zO G H th 5 [.int (nI 0), .int (nI (nB false)), .null, .null, .null, .null, .null])) (zX (fun q => q = th) (fun r9 H => r9 = none ∧ zO G H th 5 (rlF sg ng vl none none none none))) (0) (0) (fun q => q = th) := by
  refine Met.ofW (cc := cX6_init) (maxL := 5) (ret := none) (by decide) rfl ?_
  intro p en s m args below meth c s₁ B hml hv
  obtain ⟨rfl, hP, hK⟩ := hv
  have hx := B.exec
  have hb := B.bytes
  have hr := B.returns
  have hts := atoms_spec (ws := wsX6_init) B.pre
  have hz : ∀ w ∈ zW, w.before _ s = true := fun w h => hts w (List.mem_cons_of_mem _ h)
  have hown : s.vm.findClass RX6 = some m.cls := findClass_of_methodNamed B.named
  have hlocks := B.notSynchronized
  have hS : va_S (fun q => q = th) s.heap s.heap [] := va_S.rf
  have hl := lv_entry ([.ref (th), .int (nI (sg)), .int (nI (nB (ng))), .ref (vl), .null]) (n := 5) (Nat.le_of_ble_eq_true rfl)
  rw [lg_entry_eq]
  generalize (lg_sl ([.ref (th), .int (nI (sg)), .int (nI (nB (ng))), .ref (vl), .null]) ++ List.replicate (5 - (lg_sl ([.ref (th), .int (nI (sg)), .int (nI (nB (ng))), .ref (vl), .null])).length) Slot.unset).toArray = ls at hl ⊢
  have hl : lv_has ls 5 [(0, .ref (th)), (1, .int (nI (sg))), (2, .int (nI (nB (ng)))), (3, .ref (vl)), (4, .null)] := hl
  refine lv_aload_n hx hb dX6_init_0 rfl (lv_at hl 0 rfl) ?_
  refine W.objInit hx hb hown (hz _ wm_X6_1) (hz _ wOn) (hz _ wOc) rfl (hl.1.trans hml.symm) rfl dX6_init_1 (by show 1 ≤ _; exact Nat.le_of_ble_eq_true rfl) (by show _ ≤ _; exact Nat.le_of_ble_eq_true rfl) ?_
  refine W.eq (g2 := F0 m 4 ls ([])) rfl ?_
  refine lv_aload_n hx hb dX6_init_4 rfl (lv_at hl 0 rfl) ?_
  refine lv_iload_n hx hb dX6_init_5 rfl (lv_at hl 1 rfl) ?_
  refine zx_put (C := RX6) (T := TX6) (N := 7) (v := .int (nI (sg))) hx hb hz wo_X6 tyX6 tyX6_ok nmX6 hown hK hP rfl 0 (by decide) (hz _ wf_X6_7) (fun _ h9 => h9) (Or.inr ⟨rfl, (name_of_methodNamed B.named B.method).1, rfl⟩) rfl rfl (Nat.le_of_ble_eq_true rfl) (by first | exact rfl | omega | (dsimp only; omega)) hS dX6_init_6 (fun H locs hz9 hP hk9 hS => ?_)
  have hP : zO G H (th) 5 [.int (nI (sg)), .int (nI (nB (false))), .null, .null, .null, .null, .null] := hP
  refine lv_aload_n hx hb dX6_init_9 rfl (lv_at hl 0 rfl) ?_
  refine lv_iload_n hx hb dX6_init_10 rfl (lv_at hl 2 rfl) ?_
  refine zx_put (C := RX6) (T := TX6) (N := 7) (v := .int (nI (nB (ng)))) hx hb hz wo_X6 tyX6 tyX6_ok nmX6 hown hK hP rfl 1 (by decide) (hz _ wf_X6_13) (fun _ h9 => h9) (Or.inr ⟨rfl, (name_of_methodNamed B.named B.method).1, rfl⟩) (znar_b _) (zfit_b _) (Nat.le_of_ble_eq_true rfl) (by first | exact rfl | omega | (dsimp only; omega)) hS dX6_init_11 (fun H locs hz9 hP hk9 hS => ?_)
  have hP : zO G H (th) 5 [.int (nI (sg)), .int (nI (nB (ng))), .null, .null, .null, .null, .null] := hP
  refine lv_aload_n hx hb dX6_init_14 rfl (lv_at hl 0 rfl) ?_
  refine lv_aload_n hx hb dX6_init_15 rfl (lv_at hl 3 rfl) ?_
  refine zx_put (C := RX6) (T := TX6) (N := 7) (v := .ref (vl)) hx hb hz wo_X6 tyX6 tyX6_ok nmX6 hown hK hP rfl 2 (by decide) (hz _ wf_X6_17) (fun _ h9 => h9) (Or.inr ⟨rfl, (name_of_methodNamed B.named B.method).1, rfl⟩) rfl rfl (Nat.le_of_ble_eq_true rfl) (by first | exact rfl | omega | (dsimp only; omega)) hS dX6_init_16 (fun H locs hz9 hP hk9 hS => ?_)
  have hP : zO G H (th) 5 [.int (nI (sg)), .int (nI (nB (ng))), .ref (vl), .null, .null, .null, .null] := hP
  refine lv_aload_n hx hb dX6_init_19 rfl (lv_at hl 0 rfl) ?_
  refine lv_aloadN hx hb dX6_init_20 (lv_at hl 4 rfl) ?_
  refine zx_put (C := RX6) (T := TX6) (N := 7) (v := .null) hx hb hz wo_X6 tyX6 tyX6_ok nmX6 hown hK hP rfl 3 (by decide) (hz _ wf_X6_21) (fun _ h9 => h9) (Or.inr ⟨rfl, (name_of_methodNamed B.named B.method).1, rfl⟩) rfl rfl (Nat.le_of_ble_eq_true rfl) (by first | exact rfl | omega | (dsimp only; omega)) hS dX6_init_22 (fun H locs hz9 hP hk9 hS => ?_)
  have hP : zO G H (th) 5 [.int (nI (sg)), .int (nI (nB (ng))), .ref (vl), .null, .null, .null, .null] := hP
  exact zx_v hx hb hr hlocks (by show 0 ≤ 0; omega) (by show 0 ≤ 0; omega) (⟨rfl, hP⟩) hS dX6_init_25

set_option maxHeartbeats 4000000 in
set_option maxRecDepth 100000 in
theorem c_rlinit_r (l : Launch) (G : zG) (th sg : Nat) (ng : Bool) (vl sa : Nat) : Met l yX6_init wsX6_init ({ frames := 1, cells := 0, slots := 0, locals := 21 }) (zP G [.ref (th), .int (nI (sg)), .int (nI (nB (ng))), .ref (vl), .ref (sa)] (fun H => zO G H th 5 [.int (nI 0), .int (nI (nB false)), .null, .null, .null, .null, .null])) (zX (fun q => q = th) (fun r9 H => r9 = none ∧ zO G H th 5 (rlF sg ng vl (some sa) none none none))) (0) (0) (fun q => q = th) := by
  refine Met.ofW (cc := cX6_init) (maxL := 5) (ret := none) (by decide) rfl ?_
  intro p en s m args below meth c s₁ B hml hv
  obtain ⟨rfl, hP, hK⟩ := hv
  have hx := B.exec
  have hb := B.bytes
  have hr := B.returns
  have hts := atoms_spec (ws := wsX6_init) B.pre
  have hz : ∀ w ∈ zW, w.before _ s = true := fun w h => hts w (List.mem_cons_of_mem _ h)
  have hown : s.vm.findClass RX6 = some m.cls := findClass_of_methodNamed B.named
  have hlocks := B.notSynchronized
  have hS : va_S (fun q => q = th) s.heap s.heap [] := va_S.rf
  have hl := lv_entry ([.ref (th), .int (nI (sg)), .int (nI (nB (ng))), .ref (vl), .ref (sa)]) (n := 5) (Nat.le_of_ble_eq_true rfl)
  rw [lg_entry_eq]
  generalize (lg_sl ([.ref (th), .int (nI (sg)), .int (nI (nB (ng))), .ref (vl), .ref (sa)]) ++ List.replicate (5 - (lg_sl ([.ref (th), .int (nI (sg)), .int (nI (nB (ng))), .ref (vl), .ref (sa)])).length) Slot.unset).toArray = ls at hl ⊢
  have hl : lv_has ls 5 [(0, .ref (th)), (1, .int (nI (sg))), (2, .int (nI (nB (ng)))), (3, .ref (vl)), (4, .ref (sa))] := hl
  refine lv_aload_n hx hb dX6_init_0 rfl (lv_at hl 0 rfl) ?_
  refine W.objInit hx hb hown (hz _ wm_X6_1) (hz _ wOn) (hz _ wOc) rfl (hl.1.trans hml.symm) rfl dX6_init_1 (by show 1 ≤ _; exact Nat.le_of_ble_eq_true rfl) (by show _ ≤ _; exact Nat.le_of_ble_eq_true rfl) ?_
  refine W.eq (g2 := F0 m 4 ls ([])) rfl ?_
  refine lv_aload_n hx hb dX6_init_4 rfl (lv_at hl 0 rfl) ?_
  refine lv_iload_n hx hb dX6_init_5 rfl (lv_at hl 1 rfl) ?_
  refine zx_put (C := RX6) (T := TX6) (N := 7) (v := .int (nI (sg))) hx hb hz wo_X6 tyX6 tyX6_ok nmX6 hown hK hP rfl 0 (by decide) (hz _ wf_X6_7) (fun _ h9 => h9) (Or.inr ⟨rfl, (name_of_methodNamed B.named B.method).1, rfl⟩) rfl rfl (Nat.le_of_ble_eq_true rfl) (by first | exact rfl | omega | (dsimp only; omega)) hS dX6_init_6 (fun H locs hz9 hP hk9 hS => ?_)
  have hP : zO G H (th) 5 [.int (nI (sg)), .int (nI (nB (false))), .null, .null, .null, .null, .null] := hP
  refine lv_aload_n hx hb dX6_init_9 rfl (lv_at hl 0 rfl) ?_
  refine lv_iload_n hx hb dX6_init_10 rfl (lv_at hl 2 rfl) ?_
  refine zx_put (C := RX6) (T := TX6) (N := 7) (v := .int (nI (nB (ng)))) hx hb hz wo_X6 tyX6 tyX6_ok nmX6 hown hK hP rfl 1 (by decide) (hz _ wf_X6_13) (fun _ h9 => h9) (Or.inr ⟨rfl, (name_of_methodNamed B.named B.method).1, rfl⟩) (znar_b _) (zfit_b _) (Nat.le_of_ble_eq_true rfl) (by first | exact rfl | omega | (dsimp only; omega)) hS dX6_init_11 (fun H locs hz9 hP hk9 hS => ?_)
  have hP : zO G H (th) 5 [.int (nI (sg)), .int (nI (nB (ng))), .null, .null, .null, .null, .null] := hP
  refine lv_aload_n hx hb dX6_init_14 rfl (lv_at hl 0 rfl) ?_
  refine lv_aload_n hx hb dX6_init_15 rfl (lv_at hl 3 rfl) ?_
  refine zx_put (C := RX6) (T := TX6) (N := 7) (v := .ref (vl)) hx hb hz wo_X6 tyX6 tyX6_ok nmX6 hown hK hP rfl 2 (by decide) (hz _ wf_X6_17) (fun _ h9 => h9) (Or.inr ⟨rfl, (name_of_methodNamed B.named B.method).1, rfl⟩) rfl rfl (Nat.le_of_ble_eq_true rfl) (by first | exact rfl | omega | (dsimp only; omega)) hS dX6_init_16 (fun H locs hz9 hP hk9 hS => ?_)
  have hP : zO G H (th) 5 [.int (nI (sg)), .int (nI (nB (ng))), .ref (vl), .null, .null, .null, .null] := hP
  refine lv_aload_n hx hb dX6_init_19 rfl (lv_at hl 0 rfl) ?_
  refine lv_aload hx hb dX6_init_20 (lv_at hl 4 rfl) ?_
  refine zx_put (C := RX6) (T := TX6) (N := 7) (v := .ref (sa)) hx hb hz wo_X6 tyX6 tyX6_ok nmX6 hown hK hP rfl 3 (by decide) (hz _ wf_X6_21) (fun _ h9 => h9) (Or.inr ⟨rfl, (name_of_methodNamed B.named B.method).1, rfl⟩) rfl rfl (Nat.le_of_ble_eq_true rfl) (by first | exact rfl | omega | (dsimp only; omega)) hS dX6_init_22 (fun H locs hz9 hP hk9 hS => ?_)
  have hP : zO G H (th) 5 [.int (nI (sg)), .int (nI (nB (ng))), .ref (vl), .ref (sa), .null, .null, .null] := hP
  exact zx_v hx hb hr hlocks (by show 0 ≤ 0; omega) (by show 0 ≤ 0; omega) (⟨rfl, hP⟩) hS dX6_init_25

set_option maxHeartbeats 4000000 in
set_option maxRecDepth 100000 in
theorem c_radd0 (l : Launch) (G : zG) (h p9 sg : Nat) (ng : Bool) (vl : Nat) (pa nx : Option Nat) : Met l yX6_add wsX6_add ({ frames := 0, cells := 0, slots := 0, locals := 0 }) (zP G [.ref (h), .ref (p9)] (fun H => zO G H h 5 (rlF sg ng vl pa none none nx))) (zX (fun q => q = h) (fun r9 H => r9 = none ∧ zO G H h 5 (rlF sg ng vl pa (some p9) (some p9) nx))) (0) (0) (fun q => q = h) := by
  refine Met.ofW (cc := cX6_add) (maxL := 2) (ret := none) (by decide) rfl ?_
  intro p en s m args below meth c s₁ B hml hv
  obtain ⟨rfl, hP, hK⟩ := hv
  have hx := B.exec
  have hb := B.bytes
  have hr := B.returns
  have hts := atoms_spec (ws := wsX6_add) B.pre
  have hz : ∀ w ∈ zW, w.before _ s = true := fun w h => hts w (List.mem_cons_of_mem _ h)
  have hown : s.vm.findClass RX6 = some m.cls := findClass_of_methodNamed B.named
  have hlocks := B.notSynchronized
  have hS : va_S (fun q => q = h) s.heap s.heap [] := va_S.rf
  have hl := lv_entry ([.ref (h), .ref (p9)]) (n := 2) (Nat.le_of_ble_eq_true rfl)
  rw [lg_entry_eq]
  generalize (lg_sl ([.ref (h), .ref (p9)]) ++ List.replicate (2 - (lg_sl ([.ref (h), .ref (p9)])).length) Slot.unset).toArray = ls at hl ⊢
  have hl : lv_has ls 2 [(0, .ref (h)), (1, .ref (p9))] := hl
  refine lv_aload_n hx hb dX6_add_0 rfl (lv_at hl 0 rfl) ?_
  refine zi_get (C := RX6) (T := TX6) (N := 7) (v := .null) hx hb hz wo_X6 hown hK hP rfl 5 (by decide) (hz _ wf_X6_25) (fun _ h9 => h9) rfl dX6_add_1 ?_
  refine lv_ifnonnullN hx hb dX6_add_4 ?_
  refine lv_aload_n hx hb dX6_add_7 rfl (lv_at hl 0 rfl) ?_
  refine lv_aload_n hx hb dX6_add_8 rfl (lv_at hl 1 rfl) ?_
  refine zx_put (C := RX6) (T := TX6) (N := 7) (v := .ref (p9)) hx hb hz wo_X6 tyX6 tyX6_ok nmX6 hown hK hP rfl 4 (by decide) (hz _ wf_X6_29) (fun _ h9 => h9) (Or.inl rfl) rfl rfl (Nat.le_of_ble_eq_true rfl) (by first | exact rfl | omega | (dsimp only; omega)) hS dX6_add_9 (fun H locs hz9 hP hk9 hS => ?_)
  have hP : zO G H (h) 5 [.int (nI (sg)), .int (nI (nB (ng))), .ref (vl), va_rf (pa), .ref (p9), .null, va_rf (nx)] := hP
  refine lv_goto (tgt := 23) hx hb dX6_add_12 (by decide) ?_
  refine lv_aload_n hx hb dX6_add_23 rfl (lv_at hl 0 rfl) ?_
  refine lv_aload_n hx hb dX6_add_24 rfl (lv_at hl 1 rfl) ?_
  refine zx_put (C := RX6) (T := TX6) (N := 7) (v := .ref (p9)) hx hb hz wo_X6 tyX6 tyX6_ok nmX6 hown hK hP rfl 5 (by decide) (hz _ wf_X6_25) (fun _ h9 => h9) (Or.inl rfl) rfl rfl (Nat.le_of_ble_eq_true rfl) (by first | exact rfl | omega | (dsimp only; omega)) hS dX6_add_25 (fun H locs hz9 hP hk9 hS => ?_)
  have hP : zO G H (h) 5 [.int (nI (sg)), .int (nI (nB (ng))), .ref (vl), va_rf (pa), .ref (p9), .ref (p9), va_rf (nx)] := hP
  exact zx_v hx hb hr hlocks (by show 0 ≤ 0; omega) (by show 0 ≤ 0; omega) (⟨rfl, hP⟩) hS dX6_add_28

set_option maxHeartbeats 4000000 in
set_option maxRecDepth 100000 in
theorem c_radd1 (l : Launch) (G : zG) (h p9 sg : Nat) (ng : Bool) (vl : Nat) (pa nx : Option Nat) (lq : Nat) (fst : Option Nat) (fsL : List Value) (hlen : fsL.length = 7) (hne : h ≠ lq) : Met l yX6_add wsX6_add ({ frames := 0, cells := 0, slots := 0, locals := 0 }) (zP G [.ref (h), .ref (p9)] (fun H => zO G H h 5 (rlF sg ng vl pa fst (some lq) nx) ∧ zO G H lq 5 fsL)) (zX (fun q => q = h ∨ q = lq) (fun r9 H => r9 = none ∧ zO G H h 5 (rlF sg ng vl pa fst (some p9) nx) ∧ zO G H lq 5 (fsL.set 6 (.ref p9)))) (0) (0) (fun q => q = h ∨ q = lq) := by
  refine Met.ofW (cc := cX6_add) (maxL := 2) (ret := none) (by decide) rfl ?_
  intro p en s m args below meth c s₁ B hml hv
  obtain ⟨rfl, hP, hK⟩ := hv
  have hx := B.exec
  have hb := B.bytes
  have hr := B.returns
  have hts := atoms_spec (ws := wsX6_add) B.pre
  have hz : ∀ w ∈ zW, w.before _ s = true := fun w h => hts w (List.mem_cons_of_mem _ h)
  have hown : s.vm.findClass RX6 = some m.cls := findClass_of_methodNamed B.named
  have hlocks := B.notSynchronized
  obtain ⟨hV, hL⟩ := id hP
  have hS : va_S (fun q => q = h ∨ q = lq) s.heap s.heap [] := va_S.rf
  have hl := lv_entry ([.ref (h), .ref (p9)]) (n := 2) (Nat.le_of_ble_eq_true rfl)
  rw [lg_entry_eq]
  generalize (lg_sl ([.ref (h), .ref (p9)]) ++ List.replicate (2 - (lg_sl ([.ref (h), .ref (p9)])).length) Slot.unset).toArray = ls at hl ⊢
  have hl : lv_has ls 2 [(0, .ref (h)), (1, .ref (p9))] := hl
  refine lv_aload_n hx hb dX6_add_0 rfl (lv_at hl 0 rfl) ?_
  refine zi_get (C := RX6) (T := TX6) (N := 7) (v := .ref (lq)) hx hb hz wo_X6 hown hK hV rfl 5 (by decide) (hz _ wf_X6_25) (fun _ h9 => h9) rfl dX6_add_1 ?_
  refine lv_ifnonnull (tgt := 15) hx hb dX6_add_4 (by decide) ?_
  refine lv_aload_n hx hb dX6_add_15 rfl (lv_at hl 0 rfl) ?_
  refine zi_get (C := RX6) (T := TX6) (N := 7) (v := .ref (lq)) hx hb hz wo_X6 hown hK hV rfl 5 (by decide) (hz _ wf_X6_25) (fun _ h9 => h9) rfl dX6_add_16 ?_
  refine lv_aload_n hx hb dX6_add_19 rfl (lv_at hl 1 rfl) ?_
  refine zx_put (C := RX6) (T := TX6) (N := 7) (v := .ref (p9)) hx hb hz wo_X6 tyX6 tyX6_ok nmX6 hown hK hL rfl 6 (by decide) (hz _ wf_X6_32) (fun _ h9 => h9) (Or.inl rfl) rfl rfl (by rw [hlen]; decide) (by first | exact rfl | omega | (dsimp only; omega)) hS dX6_add_20 (fun H locs hz9 hL hk9 hS => ?_)
  have hL : zO G H (lq) 5 (fsL.set 6 (.ref (p9))) := hL
  have hV := hV.keep hk9 (by first | exact id | exact rfl | omega | (dsimp only; omega))
  refine lv_aload_n hx hb dX6_add_23 rfl (lv_at hl 0 rfl) ?_
  refine lv_aload_n hx hb dX6_add_24 rfl (lv_at hl 1 rfl) ?_
  refine zx_put (C := RX6) (T := TX6) (N := 7) (v := .ref (p9)) hx hb hz wo_X6 tyX6 tyX6_ok nmX6 hown hK hV rfl 5 (by decide) (hz _ wf_X6_25) (fun _ h9 => h9) (Or.inl rfl) rfl rfl (Nat.le_of_ble_eq_true rfl) (by first | exact rfl | omega | (dsimp only; omega)) hS dX6_add_25 (fun H locs hz9 hV hk9 hS => ?_)
  have hV : zO G H (h) 5 [.int (nI (sg)), .int (nI (nB (ng))), .ref (vl), va_rf (pa), va_rf (fst), .ref (p9), va_rf (nx)] := hV
  have hL := hL.keep hk9 (by first | exact id | exact rfl | omega | (dsimp only; omega))
  exact zx_v hx hb hr hlocks (by show 0 ≤ 0; omega) (by show 0 ≤ 0; omega) (⟨rfl, hV, hL⟩) hS dX6_add_28

theorem c_raddK (l : Launch) (G : zG) {α : Type} (Z : Nat → Prop) (Nd : Heap → Nat → Nat → Nat → α → Option Nat → Prop) (hK9 : rKind G Z α Nd) (h p9 sg : Nat) (ng : Bool) (vl : Nat) (pa nx : Option Nat) (lo hi : Nat) (rs : List Nat) (xs : List α) (hu : h < lo) (hZ : ∀ q, Z q ∨ q < cB G → q < h) : Met l yX6_add wsX6_add ({ frames := 0, cells := 0, slots := 0, locals := 0 }) (zP G [.ref (h), .ref (p9)] (fun H => zO G H h 5 (rlF sg ng vl pa rs.head? rs.getLast? nx) ∧ zR9 Nd H lo hi rs xs)) (zX (fun q => q = h ∨ (lo ≤ q ∧ q < hi)) (fun r9 H => r9 = none ∧ zO G H h 5 (rlF sg ng vl pa (rs ++ [p9]).head? (rs ++ [p9]).getLast? nx) ∧ zT9 Nd H (some p9) lo hi rs xs)) 0 0 (fun q => q = h ∨ (lo ≤ q ∧ q < hi)) := by
  by_cases hvs : rs = []
  · subst hvs
    refine Met.toX (c_radd0 l G h p9 sg ng vl pa nx) (fun H h => h.1) (fun q h => Or.inl h) (fun r H H1 h hz hk hq => ?_)
    obtain ⟨h1, h2⟩ := h
    have e := kidR_nil h2
    subst e
    exact ⟨hq.1, hq.2, h2⟩
  · obtain ⟨lq, hlq⟩ := getLast_some hvs
    by_cases hr : lo ≤ lq ∧ lq < hi
    · have h0 := Met.exX (fun i : {fsL : List Value // fsL.length = 7} => c_radd1 l G h p9 sg ng vl pa nx lq rs.head? i.1 i.2 (by omega))
      refine MetFree.mono h0 (fun a s h9 => ?_) (fun _ _ _ _ _ h9 => h9) (fun a s o t h9 hx => ?_)
      · obtain ⟨e, ⟨h1, h2⟩, hK⟩ := h9
        obtain ⟨fsL, g1, g2, -, -⟩ := zR9.last hK9 h2 hlq
        rw [hlq] at h1
        exact ⟨e, ⟨⟨fsL, g1⟩, h1, g2⟩, hK⟩
      · obtain ⟨⟨i, hpi, r, e, h1, h2⟩, L, hF, hL⟩ := hx
        obtain ⟨-, ⟨q1, q2⟩, -⟩ := h9
        obtain ⟨w1, w2, w3⟩ := h1
        refine ⟨⟨r, e, ⟨w1, ?_, ?_⟩, h2.mono (fun q hq => by omega)⟩, L, hF, fun q hq => (hL q hq).elim (fun z => Or.inl z) (fun z => Or.inr (by have z : q.base = lq := z; rw [z]; exact hr))⟩
        · rw [head_app hvs, last_app]; exact w2
        · exact zR9.add hK9 q2 hlq h2.2 hu hZ hpi.2 w3 i.2
    · refine Met.ofW (cc := cX6_add) (maxL := 2) (ret := none) (by decide) rfl ?_
      intro p en s m args below meth c s₁ B hml hv9
      exact absurd (kidR_lq hK9 hv9.2.1.2 hlq) hr

set_option maxHeartbeats 4000000 in
set_option maxRecDepth 100000 in
theorem c_refuse (l : Launch) (G : zG) (mk fl rt ca c0 : Nat) (pf : Nat → Int32) (S : cS) (f : Nat → Nat) (Z : Nat → Prop) (ev x : Nat) (why : Nat) (hw : why ≠ 0) (h0 : S.1 = 0) (hZm : ∀ q, Z q ∨ q < cB G → q < mk) (hd1 : mk < fl) (hd2 : fl < ca) : Met l yX2_refuse wsX2_refuse ({ frames := 0, cells := 0, slots := 0, locals := 0 }) (zP G [.ref (mk), .int (nI (why)), .ref (ev)] (fun H => MKs G H mk fl rt ca c0 pf S ∧ VNp G H f pf Z ev x)) (zX (fun q => q = mk) (fun r9 H => r9 = none ∧ MKs G H mk fl rt ca c0 pf (sSay S why x))) (0) (0) (fun q => q = mk) := by
  refine Met.ofW (cc := cX2_refuse) (maxL := 3) (ret := none) (by decide) rfl ?_
  intro p en s m args below meth c s₁ B hml hv
  obtain ⟨rfl, hP, hK⟩ := hv
  have hx := B.exec
  have hb := B.bytes
  have hr := B.returns
  have hts := atoms_spec (ws := wsX2_refuse) B.pre
  have hz : ∀ w ∈ zW, w.before _ s = true := fun w h => hts w (List.mem_cons_of_mem _ h)
  have hown : s.vm.findClass RX2 = some m.cls := findClass_of_methodNamed B.named
  have hlocks := B.notSynchronized
  obtain ⟨⟨hMk, hFl, hCa⟩, hVN⟩ := id hP
  have hS : va_S (fun q => q = mk) s.heap s.heap [] := va_S.rf
  have hez := hZm ev (Or.inl hVN.z)
  obtain ⟨hv, nxt, hN, hzz, hkk, hww⟩ := id hVN
  obtain ⟨nm, tx, f1, l1, n1, hO, hSt, hT, hvl⟩ := hN.o
  have hl := lv_entry ([.ref (mk), .int (nI (why)), .ref (ev)]) (n := 3) (Nat.le_of_ble_eq_true rfl)
  rw [lg_entry_eq]
  generalize (lg_sl ([.ref (mk), .int (nI (why)), .ref (ev)]) ++ List.replicate (3 - (lg_sl ([.ref (mk), .int (nI (why)), .ref (ev)])).length) Slot.unset).toArray = ls at hl ⊢
  have hl : lv_has ls 3 [(0, .ref (mk)), (1, .int (nI (why))), (2, .ref (ev))] := hl
  refine lv_aload_n hx hb dX2_refuse_0 rfl (lv_at hl 0 rfl) ?_
  refine lv_iload_n hx hb dX2_refuse_1 rfl (lv_at hl 1 rfl) ?_
  refine zx_put (C := RX2) (T := TX2) (N := 3) (v := .int (nI (why))) hx hb hz wo_X2 tyX2 tyX2_ok nmX2 hown hK hMk rfl 1 (by decide) (hz _ wf_X2_43) (fun _ h9 => h9) (Or.inl rfl) rfl rfl (Nat.le_of_ble_eq_true rfl) (by first | exact rfl | omega | (dsimp only; omega)) hS dX2_refuse_2 (fun H locs hz9 hMk hk9 hS => ?_)
  have hMk : zO G H (mk) 3 [.ref (fl), .int (nI (why)), .int (fpS pf S)] := hMk
  have hFl := hFl.keep hk9 (by first | exact id | exact rfl | omega | (dsimp only; omega))
  have hCa := hCa.keep hk9 (by first | exact id | exact rfl | omega | (dsimp only; omega))
  have hO := hO.keep hk9 (by first | exact id | exact rfl | omega | (dsimp only; omega))
  refine lv_aload_n hx hb dX2_refuse_5 rfl (lv_at hl 0 rfl) ?_
  refine lv_aload_n hx hb dX2_refuse_6 rfl (lv_at hl 2 rfl) ?_
  refine zi_getN (C := RX9) (T := TX9) (N := 9) (v := .int (pf x)) hx hb hz wo_X9 hown hK hO rfl 1 (by decide) wf_X2_134 (fun _ h9 => h9) rfl dX2_refuse_7 ?_
  refine zx_put (C := RX2) (T := TX2) (N := 3) (v := .int (pf x)) hx hb hz wo_X2 tyX2 tyX2_ok nmX2 hown hK hMk rfl 2 (by decide) (hz _ wf_X2_9) (fun _ h9 => h9) (Or.inl rfl) rfl rfl (Nat.le_of_ble_eq_true rfl) (by first | exact rfl | omega | (dsimp only; omega)) hS dX2_refuse_10 (fun H locs hz9 hMk hk9 hS => ?_)
  have hMk : zO G H (mk) 3 [.ref (fl), .int (nI (why)), .int (pf x)] := hMk
  have hFl := hFl.keep hk9 (by first | exact id | exact rfl | omega | (dsimp only; omega))
  have hCa := hCa.keep hk9 (by first | exact id | exact rfl | omega | (dsimp only; omega))
  have hO := hO.keep hk9 (by first | exact id | exact rfl | omega | (dsimp only; omega))
  exact zx_v hx hb hr hlocks (by show 0 ≤ 0; omega) (by show 0 ≤ 0; omega) (⟨rfl, mks_say h0 hw hMk hFl hCa⟩) hS dX2_refuse_13

set_option maxHeartbeats 4000000 in
set_option maxRecDepth 100000 in
theorem c_mayc (l : Launch) (G : zG) (mk fl rt ca c0 : Nat) (pf : Nat → Int32) (S : cS) (f : Nat → Nat) (Z : Nat → Prop) (ev x : Nat) (more : Nat) (hmo : more ≤ 2) (hsi : S.2.2.1 ≤ 100) (h0 : S.1 = 0) (hZm : ∀ q, Z q ∨ q < cB G → q < mk) (hd1 : mk < fl) (hd2 : fl < ca) : Met l yX2_mayCount wsX2_mayCount ({ frames := 1, cells := 0, slots := 0, locals := 22 }) (zP G [.ref (mk), .int (nI (more)), .ref (ev)] (fun H => MKs G H mk fl rt ca c0 pf S ∧ VNp G H f pf Z ev x)) (zX (fun q => q = mk ∨ q = ca) (fun r9 H => r9 = some (.int (nI (nB (decide (S.2.2.1 + more ≤ 100))))) ∧ MKs G H mk fl rt ca c0 pf (sCnt S more x))) (0) (0) (fun q => q = mk ∨ q = ca) := by
  refine Met.ofW (cc := cX2_mayCount) (maxL := 3) (ret := (some .boolean)) (by decide) rfl ?_
  intro p en s m args below meth c s₁ B hml hv
  obtain ⟨rfl, hP, hK⟩ := hv
  have hx := B.exec
  have hb := B.bytes
  have hr := B.returns
  have hts := atoms_spec (ws := wsX2_mayCount) B.pre
  have hz : ∀ w ∈ zW, w.before _ s = true := fun w h => hts w (List.mem_cons_of_mem _ h)
  have hown : s.vm.findClass RX2 = some m.cls := findClass_of_methodNamed B.named
  have hlocks := B.notSynchronized
  obtain ⟨⟨hMk, hFl, hCa⟩, hVN⟩ := id hP
  have hS : va_S (fun q => q = mk ∨ q = ca) s.heap s.heap [] := va_S.rf
  have hcz : ∀ q, Z q ∨ q < cB G → q < mk := hZm
  have hl := lv_entry ([.ref (mk), .int (nI (more)), .ref (ev)]) (n := 3) (Nat.le_of_ble_eq_true rfl)
  rw [lg_entry_eq]
  generalize (lg_sl ([.ref (mk), .int (nI (more)), .ref (ev)]) ++ List.replicate (3 - (lg_sl ([.ref (mk), .int (nI (more)), .ref (ev)])).length) Slot.unset).toArray = ls at hl ⊢
  have hl : lv_has ls 3 [(0, .ref (mk)), (1, .int (nI (more))), (2, .ref (ev))] := hl
  refine lv_aload_n hx hb dX2_mayCount_0 rfl (lv_at hl 0 rfl) ?_
  refine zi_get (C := RX2) (T := TX2) (N := 3) (v := .ref (fl)) hx hb hz wo_X2 hown hK hMk rfl 0 (by decide) (hz _ wf_X2_20) (fun _ h9 => h9) rfl dX2_mayCount_1 ?_
  refine zi_getN (C := RX1) (T := TX1) (N := 2) (v := .ref (ca)) hx hb hz wo_X1 hown hK hFl rfl 1 (by decide) wf_X2_112 (fun _ h9 => h9) rfl dX2_mayCount_4 ?_
  refine lv_iconst (v := nI 1) hx hb dX2_mayCount_7 (by decide) ?_
  refine lv_dup2_11 hx hb dX2_mayCount_8 rfl rfl ?_
  refine zi_ald hx hb hK hCa (by omega) (by decide) dX2_mayCount_9 ?_
  refine lv_iload_n hx hb dX2_mayCount_10 rfl (lv_at hl 1 rfl) ?_
  refine zi_add hx hb dX2_mayCount_11 ?_
  refine zx_ast (i := 1) (x := (cA4 c0 S) 1 + more) hx hb hK hCa (by omega) (by decide)  (by first | exact rfl | omega | (dsimp only; omega)) hS dX2_mayCount_12 (fun H locs hz9 hCa hk9 hS => ?_)
  have hMk := hMk.keep hk9 (by first | exact id | exact rfl | omega | (dsimp only; omega))
  have hFl := hFl.keep hk9 (by first | exact id | exact rfl | omega | (dsimp only; omega))
  have hVN := hVN.keep hk9 (by intro q hq; have hq1 := hZm q hq; first | exact id | omega | (dsimp only; omega))
  refine lv_aload_n hx hb dX2_mayCount_13 rfl (lv_at hl 0 rfl) ?_
  refine zi_get (C := RX2) (T := TX2) (N := 3) (v := .ref (fl)) hx hb hz wo_X2 hown hK hMk rfl 0 (by decide) (hz _ wf_X2_20) (fun _ h9 => h9) rfl dX2_mayCount_14 ?_
  refine zi_getN (C := RX1) (T := TX1) (N := 2) (v := .ref (ca)) hx hb hz wo_X1 hown hK hFl rfl 1 (by decide) wf_X2_112 (fun _ h9 => h9) rfl dX2_mayCount_17 ?_
  refine lv_iconst (v := nI 1) hx hb dX2_mayCount_20 (by decide) ?_
  refine zi_ald hx hb hK hCa (by omega) (by decide) dX2_mayCount_21 ?_
  have hu1 : (upN (cA4 c0 S) 1 (cA4 c0 S 1 + more)) 1 = S.2.2.1 + more := upN_self _ _ _
  have hCa := hCa.ext (g := cA4 c0 (S.1, S.2.1, S.2.2.1 + more, S.2.2.2)) cA4_1
  refine lv_bipush (v := nI 100) hx hb dX2_mayCount_22 (by decide) ?_
  refine zi_icmp_le (tgt := 35) hx hb dX2_mayCount_24 (by decide) (by omega) (by omega) (fun c_24 => ?_) (fun c_24 => ?_)
  · refine lv_iconst (v := nI 1) hx hb dX2_mayCount_35 (by decide) ?_
    exact zx_z hx hb hr hlocks (decide (S.2.2.1 + more ≤ 100)) (by rw [decide_eq_true (by omega)]; rfl) (by show 0 ≤ 0; omega) (by show 0 ≤ 0; omega) (⟨rfl, by rw [sCnt_y (by omega)]; exact ⟨hMk, hFl, hCa⟩⟩) hS dX2_mayCount_36
  · refine lv_aload_n hx hb dX2_mayCount_27 rfl (lv_at hl 0 rfl) ?_
    refine lv_iconst (v := nI 5) hx hb dX2_mayCount_28 (by decide) ?_
    refine lv_aload_n hx hb dX2_mayCount_29 rfl (lv_at hl 2 rfl) ?_
    refine zx_V (As := [.int (nI (5)), .ref (ev)]) (rest := []) ⟨hx, hb, hml, hown, hts⟩ (c_refuse l G mk fl rt ca c0 pf (S.1, S.2.1, S.2.2.1 + more, S.2.2.2) f Z ev x 5 (by decide) h0 hZm hd1 hd2) (cwV 2 hts (zgV wm_X2_68 wv_X2_refuse) rfl rfl rfl (by decide +kernel) ⟨Nat.le_of_ble_eq_true rfl, Nat.le_of_ble_eq_true rfl⟩) hK hMk rfl ⟨⟨hMk, hFl, hCa⟩, hVN⟩ rfl hl.1 rfl (Nat.le_of_ble_eq_true rfl) dX2_mayCount_30 ⟨by show 0 + 0 ≤ 0; omega, by show 0 + 0 ≤ 0; omega⟩ hS (by intro q hq; first | omega | (dsimp only at hq ⊢; omega)) (fun r9 H locs hPo hz9 hk9 hS => ?_)
    have hVN := hVN.keep hk9 (by intro q hq; have hq1 := hZm q hq; first | exact id | omega | (dsimp only; omega))
    obtain ⟨rfl, hMM⟩ := hPo
    refine W.eq (g2 := F0 m 33 ls ([])) rfl ?_
    refine lv_iconst (v := nI 0) hx hb dX2_mayCount_33 (by decide) ?_
    exact zx_z hx hb hr hlocks (decide (S.2.2.1 + more ≤ 100)) (by rw [decide_eq_false (by omega)]; rfl) (by show 0 + 0 ≤ 0; omega) (by show 0 + 0 ≤ 0; omega) (⟨rfl, by rw [sCnt_n (by omega)]; exact hMM⟩) hS dX2_mayCount_34
