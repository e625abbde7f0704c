set_option maxHeartbeats 4000000 in
set_option maxRecDepth 100000 in
theorem c_xinit (l : Launch) (G : zG) (n0 o : Nat) (ho : o < n0) : Met l yX11_init wsX11_init ({ frames := 1, cells := 12, slots := 23092, locals := 21 }) (zP G [.ref (o)] (fun H => zO G H o 10 [.int (nI (0)), .null, .int (nI (0)), .int (nI (0)), .null, .null, .null, .int (nI (0)), .int (nI (0)), .int (nI (0)), .int (nI (0)), .int (nI (0)), .null, .int (nI (0)), .int (nI (0)), .null, .null, .null, .null, .null, .null, .null, .int (nI (0))] ∧ H.size = n0)) (zX (fun q => q = o ∨ n0 ≤ q) (fun r9 H => r9 = none ∧ n0 + 12 ≤ H.size ∧ RS G o (fun i => n0 + kx i) 0 (-1) 0 0 0 0 0 0 0 false X0 H)) (12) (23092) (fun q => q = o ∨ n0 ≤ q) := by
  refine Met.ofW (cc := cX11_init) (maxL := 2) (ret := none) (by decide) rfl ?_
  intro p en s m args below meth c s₁ B hml hv
  obtain ⟨rfl, hP, hK⟩ := hv
  have hx := B.exec
  have hb := B.bytes
  have hr := B.returns
  have hts := atoms_spec (ws := wsX11_init) B.pre
  have hz : ∀ w ∈ zW, w.before _ s = true := fun w h => hts w (List.mem_cons_of_mem _ h)
  have hown : s.vm.findClass RX11 = some m.cls := findClass_of_methodNamed B.named
  have hlocks := B.notSynchronized
  obtain ⟨hO, hn0⟩ := id hP
  have hS : va_S (fun q => q = o ∨ n0 ≤ q) s.heap s.heap [] := va_S.rf
  have hl := lv_entry ([.ref (o)]) (n := 2) (Nat.le_of_ble_eq_true rfl)
  rw [lg_entry_eq]
  generalize (lg_sl ([.ref (o)]) ++ List.replicate (2 - (lg_sl ([.ref (o)])).length) Slot.unset).toArray = ls at hl ⊢
  have hl : lv_has ls 2 [(0, .ref (o))] := hl
  refine lv_aload_n hx hb dX11_init_0 rfl (lv_at hl 0 rfl) ?_
  refine W.objInit hx hb hown (hz _ wm_X11_1) (hz _ wOn) (hz _ wOc) rfl (hl.1.trans hml.symm) rfl dX11_init_1 (by show 1 ≤ _; exact Nat.le_of_ble_eq_true rfl) (by show _ ≤ _; exact Nat.le_of_ble_eq_true rfl) ?_
  refine W.eq (g2 := F0 m 4 ls ([])) rfl ?_
  refine lv_aload_n hx hb dX11_init_4 rfl (lv_at hl 0 rfl) ?_
  refine lv_sipush (v := nI 18000) hx hb dX11_init_5 (by decide) ?_
  refine zx_newA hx hb (hz _ wAi) hK (by omega) (by show 0 + 1 ≤ 12; omega) (by show 0 + 18000 ≤ 23092; omega) hS dX11_init_8 (fun q1 H he_q1 hz9 hA_q1 hk9 hS => ?_)
  replace hO := hO.keep hk9 (by first | exact id | exact rfl | omega | (dsimp only; omega))
  clear hk9
  refine zx_put (C := RX11) (T := TX11) (N := 23) (v := .ref (q1)) hx hb hz wo_X11 tyX11 tyX11_ok nmX11 hown hK hO rfl 1 (by decide) (hz _ wf_X11_7) (fun _ h9 => h9) (Or.inr ⟨rfl, (name_of_methodNamed B.named B.method).1, rfl⟩) rfl rfl (Nat.le_of_ble_eq_true rfl) (by first | exact rfl | omega | (dsimp only; omega)) hS dX11_init_10 (fun H locs hz9 hO hk9 hS => ?_)
  have hO : zO G H (o) 10 [.int (nI (0)), .ref (q1), .int (nI (0)), .int (nI (0)), .null, .null, .null, .int (nI (0)), .int (nI (0)), .int (nI (0)), .int (nI (0)), .int (nI (0)), .null, .int (nI (0)), .int (nI (0)), .null, .null, .null, .null, .null, .null, .null, .int (nI (0))] := hO
  replace hA_q1 := hA_q1.keep hk9 (by first | exact id | exact rfl | omega | (dsimp only; omega))
  clear hk9
  refine lv_aload_n hx hb dX11_init_13 rfl (lv_at hl 0 rfl) ?_
  refine lv_iconst (v := (-1)) hx hb dX11_init_14 (by decide) ?_
  refine zx_put (C := RX11) (T := TX11) (N := 23) (v := .int ((-1))) hx hb hz wo_X11 tyX11 tyX11_ok nmX11 hown hK hO rfl 3 (by decide) (hz _ wf_X11_13) (fun _ h9 => h9) (Or.inl rfl) rfl rfl (Nat.le_of_ble_eq_true rfl) (by first | exact rfl | omega | (dsimp only; omega)) hS dX11_init_15 (fun H locs hz9 hO hk9 hS => ?_)
  have hO : zO G H (o) 10 [.int (nI (0)), .ref (q1), .int (nI (0)), .int ((-1)), .null, .null, .null, .int (nI (0)), .int (nI (0)), .int (nI (0)), .int (nI (0)), .int (nI (0)), .null, .int (nI (0)), .int (nI (0)), .null, .null, .null, .null, .null, .null, .null, .int (nI (0))] := hO
  replace hA_q1 := hA_q1.keep hk9 (by first | exact id | exact rfl | omega | (dsimp only; omega))
  clear hk9
  refine lv_aload_n hx hb dX11_init_18 rfl (lv_at hl 0 rfl) ?_
  refine lv_iconst (v := nI 4) hx hb dX11_init_19 (by decide) ?_
  refine zx_newA hx hb (hz _ wAi) hK (by omega) (by show 0 + 1 + 1 ≤ 12; omega) (by show 0 + 18000 + 4 ≤ 23092; omega) hS dX11_init_20 (fun q4 H he_q4 hz9 hA_q4 hk9 hS => ?_)
  replace hO := hO.keep hk9 (by first | exact id | exact rfl | omega | (dsimp only; omega))
  replace hA_q1 := hA_q1.keep hk9 (by first | exact id | exact rfl | omega | (dsimp only; omega))
  clear hk9
  refine zx_put (C := RX11) (T := TX11) (N := 23) (v := .ref (q4)) hx hb hz wo_X11 tyX11 tyX11_ok nmX11 hown hK hO rfl 4 (by decide) (hz _ wf_X11_17) (fun _ h9 => h9) (Or.inr ⟨rfl, (name_of_methodNamed B.named B.method).1, rfl⟩) rfl rfl (Nat.le_of_ble_eq_true rfl) (by first | exact rfl | omega | (dsimp only; omega)) hS dX11_init_22 (fun H locs hz9 hO hk9 hS => ?_)
  have hO : zO G H (o) 10 [.int (nI (0)), .ref (q1), .int (nI (0)), .int ((-1)), .ref (q4), .null, .null, .int (nI (0)), .int (nI (0)), .int (nI (0)), .int (nI (0)), .int (nI (0)), .null, .int (nI (0)), .int (nI (0)), .null, .null, .null, .null, .null, .null, .null, .int (nI (0))] := hO
  replace hA_q1 := hA_q1.keep hk9 (by first | exact id | exact rfl | omega | (dsimp only; omega))
  replace hA_q4 := hA_q4.keep hk9 (by first | exact id | exact rfl | omega | (dsimp only; omega))
  clear hk9
  refine lv_aload_n hx hb dX11_init_25 rfl (lv_at hl 0 rfl) ?_
  refine lv_iconst (v := nI 4) hx hb dX11_init_26 (by decide) ?_
  refine zx_newA hx hb (hz _ wAi) hK (by omega) (by show 0 + 1 + 1 + 1 ≤ 12; omega) (by show 0 + 18000 + 4 + 4 ≤ 23092; omega) hS dX11_init_27 (fun q5 H he_q5 hz9 hA_q5 hk9 hS => ?_)
  replace hO := hO.keep hk9 (by first | exact id | exact rfl | omega | (dsimp only; omega))
  replace hA_q1 := hA_q1.keep hk9 (by first | exact id | exact rfl | omega | (dsimp only; omega))
  replace hA_q4 := hA_q4.keep hk9 (by first | exact id | exact rfl | omega | (dsimp only; omega))
  clear hk9
  refine zx_put (C := RX11) (T := TX11) (N := 23) (v := .ref (q5)) hx hb hz wo_X11 tyX11 tyX11_ok nmX11 hown hK hO rfl 5 (by decide) (hz _ wf_X11_20) (fun _ h9 => h9) (Or.inr ⟨rfl, (name_of_methodNamed B.named B.method).1, rfl⟩) rfl rfl (Nat.le_of_ble_eq_true rfl) (by first | exact rfl | omega | (dsimp only; omega)) hS dX11_init_29 (fun H locs hz9 hO hk9 hS => ?_)
  have hO : zO G H (o) 10 [.int (nI (0)), .ref (q1), .int (nI (0)), .int ((-1)), .ref (q4), .ref (q5), .null, .int (nI (0)), .int (nI (0)), .int (nI (0)), .int (nI (0)), .int (nI (0)), .null, .int (nI (0)), .int (nI (0)), .null, .null, .null, .null, .null, .null, .null, .int (nI (0))] := hO
  replace hA_q1 := hA_q1.keep hk9 (by first | exact id | exact rfl | omega | (dsimp only; omega))
  replace hA_q4 := hA_q4.keep hk9 (by first | exact id | exact rfl | omega | (dsimp only; omega))
  replace hA_q5 := hA_q5.keep hk9 (by first | exact id | exact rfl | omega | (dsimp only; omega))
  clear hk9
  refine lv_aload_n hx hb dX11_init_32 rfl (lv_at hl 0 rfl) ?_
  refine lv_iconst (v := nI 4) hx hb dX11_init_33 (by decide) ?_
  refine zx_newA hx hb (hz _ wAi) hK (by omega) (by show 0 + 1 + 1 + 1 + 1 ≤ 12; omega) (by show 0 + 18000 + 4 + 4 + 4 ≤ 23092; omega) hS dX11_init_34 (fun q6 H he_q6 hz9 hA_q6 hk9 hS => ?_)
  replace hO := hO.keep hk9 (by first | exact id | exact rfl | omega | (dsimp only; omega))
  replace hA_q1 := hA_q1.keep hk9 (by first | exact id | exact rfl | omega | (dsimp only; omega))
  replace hA_q4 := hA_q4.keep hk9 (by first | exact id | exact rfl | omega | (dsimp only; omega))
  replace hA_q5 := hA_q5.keep hk9 (by first | exact id | exact rfl | omega | (dsimp only; omega))
  clear hk9
  refine zx_put (C := RX11) (T := TX11) (N := 23) (v := .ref (q6)) hx hb hz wo_X11 tyX11 tyX11_ok nmX11 hown hK hO rfl 6 (by decide) (hz _ wf_X11_23) (fun _ h9 => h9) (Or.inr ⟨rfl, (name_of_methodNamed B.named B.method).1, rfl⟩) rfl rfl (Nat.le_of_ble_eq_true rfl) (by first | exact rfl | omega | (dsimp only; omega)) hS dX11_init_36 (fun H locs hz9 hO hk9 hS => ?_)
  have hO : zO G H (o) 10 [.int (nI (0)), .ref (q1), .int (nI (0)), .int ((-1)), .ref (q4), .ref (q5), .ref (q6), .int (nI (0)), .int (nI (0)), .int (nI (0)), .int (nI (0)), .int (nI (0)), .null, .int (nI (0)), .int (nI (0)), .null, .null, .null, .null, .null, .null, .null, .int (nI (0))] := hO
  replace hA_q1 := hA_q1.keep hk9 (by first | exact id | exact rfl | omega | (dsimp only; omega))
  replace hA_q4 := hA_q4.keep hk9 (by first | exact id | exact rfl | omega | (dsimp only; omega))
  replace hA_q5 := hA_q5.keep hk9 (by first | exact id | exact rfl | omega | (dsimp only; omega))
  replace hA_q6 := hA_q6.keep hk9 (by first | exact id | exact rfl | omega | (dsimp only; omega))
  clear hk9
  refine lv_aload_n hx hb dX11_init_39 rfl (lv_at hl 0 rfl) ?_
  refine lv_sipush (v := nI 2000) hx hb dX11_init_40 (by decide) ?_
  refine zx_newA hx hb (hz _ wAi) hK (by omega) (by show 0 + 1 + 1 + 1 + 1 + 1 ≤ 12; omega) (by show 0 + 18000 + 4 + 4 + 4 + 2000 ≤ 23092; omega) hS dX11_init_43 (fun q12 H he_q12 hz9 hA_q12 hk9 hS => ?_)
  replace hO := hO.keep hk9 (by first | exact id | exact rfl | omega | (dsimp only; omega))
  replace hA_q1 := hA_q1.keep hk9 (by first | exact id | exact rfl | omega | (dsimp only; omega))
  replace hA_q4 := hA_q4.keep hk9 (by first | exact id | exact rfl | omega | (dsimp only; omega))
  replace hA_q5 := hA_q5.keep hk9 (by first | exact id | exact rfl | omega | (dsimp only; omega))
  replace hA_q6 := hA_q6.keep hk9 (by first | exact id | exact rfl | omega | (dsimp only; omega))
  clear hk9
  refine zx_put (C := RX11) (T := TX11) (N := 23) (v := .ref (q12)) hx hb hz wo_X11 tyX11 tyX11_ok nmX11 hown hK hO rfl 12 (by decide) (hz _ wf_X11_26) (fun _ h9 => h9) (Or.inr ⟨rfl, (name_of_methodNamed B.named B.method).1, rfl⟩) rfl rfl (Nat.le_of_ble_eq_true rfl) (by first | exact rfl | omega | (dsimp only; omega)) hS dX11_init_45 (fun H locs hz9 hO hk9 hS => ?_)
  have hO : zO G H (o) 10 [.int (nI (0)), .ref (q1), .int (nI (0)), .int ((-1)), .ref (q4), .ref (q5), .ref (q6), .int (nI (0)), .int (nI (0)), .int (nI (0)), .int (nI (0)), .int (nI (0)), .ref (q12), .int (nI (0)), .int (nI (0)), .null, .null, .null, .null, .null, .null, .null, .int (nI (0))] := hO
  replace hA_q1 := hA_q1.keep hk9 (by first | exact id | exact rfl | omega | (dsimp only; omega))
  replace hA_q4 := hA_q4.keep hk9 (by first | exact id | exact rfl | omega | (dsimp only; omega))
  replace hA_q5 := hA_q5.keep hk9 (by first | exact id | exact rfl | omega | (dsimp only; omega))
  replace hA_q6 := hA_q6.keep hk9 (by first | exact id | exact rfl | omega | (dsimp only; omega))
  replace hA_q12 := hA_q12.keep hk9 (by first | exact id | exact rfl | omega | (dsimp only; omega))
  clear hk9
  refine lv_aload_n hx hb dX11_init_48 rfl (lv_at hl 0 rfl) ?_
  refine lv_sipush (v := nI 1000) hx hb dX11_init_49 (by decide) ?_
  refine zx_newA hx hb (hz _ wAi) hK (by omega) (by show 0 + 1 + 1 + 1 + 1 + 1 + 1 ≤ 12; omega) (by show 0 + 18000 + 4 + 4 + 4 + 2000 + 1000 ≤ 23092; omega) hS dX11_init_52 (fun q15 H he_q15 hz9 hA_q15 hk9 hS => ?_)
  replace hO := hO.keep hk9 (by first | exact id | exact rfl | omega | (dsimp only; omega))
  replace hA_q1 := hA_q1.keep hk9 (by first | exact id | exact rfl | omega | (dsimp only; omega))
  replace hA_q4 := hA_q4.keep hk9 (by first | exact id | exact rfl | omega | (dsimp only; omega))
  replace hA_q5 := hA_q5.keep hk9 (by first | exact id | exact rfl | omega | (dsimp only; omega))
  replace hA_q6 := hA_q6.keep hk9 (by first | exact id | exact rfl | omega | (dsimp only; omega))
  replace hA_q12 := hA_q12.keep hk9 (by first | exact id | exact rfl | omega | (dsimp only; omega))
  clear hk9
  refine zx_put (C := RX11) (T := TX11) (N := 23) (v := .ref (q15)) hx hb hz wo_X11 tyX11 tyX11_ok nmX11 hown hK hO rfl 15 (by decide) (hz _ wf_X11_29) (fun _ h9 => h9) (Or.inr ⟨rfl, (name_of_methodNamed B.named B.method).1, rfl⟩) rfl rfl (Nat.le_of_ble_eq_true rfl) (by first | exact rfl | omega | (dsimp only; omega)) hS dX11_init_54 (fun H locs hz9 hO hk9 hS => ?_)
  have hO : zO G H (o) 10 [.int (nI (0)), .ref (q1), .int (nI (0)), .int ((-1)), .ref (q4), .ref (q5), .ref (q6), .int (nI (0)), .int (nI (0)), .int (nI (0)), .int (nI (0)), .int (nI (0)), .ref (q12), .int (nI (0)), .int (nI (0)), .ref (q15), .null, .null, .null, .null, .null, .null, .int (nI (0))] := hO
  replace hA_q1 := hA_q1.keep hk9 (by first | exact id | exact rfl | omega | (dsimp only; omega))
  replace hA_q4 := hA_q4.keep hk9 (by first | exact id | exact rfl | omega | (dsimp only; omega))
  replace hA_q5 := hA_q5.keep hk9 (by first | exact id | exact rfl | omega | (dsimp only; omega))
  replace hA_q6 := hA_q6.keep hk9 (by first | exact id | exact rfl | omega | (dsimp only; omega))
  replace hA_q12 := hA_q12.keep hk9 (by first | exact id | exact rfl | omega | (dsimp only; omega))
  replace hA_q15 := hA_q15.keep hk9 (by first | exact id | exact rfl | omega | (dsimp only; omega))
  clear hk9
  refine lv_aload_n hx hb dX11_init_57 rfl (lv_at hl 0 rfl) ?_
  refine lv_sipush (v := nI 1000) hx hb dX11_init_58 (by decide) ?_
  refine zx_newA hx hb (hz _ wAi) hK (by omega) (by show 0 + 1 + 1 + 1 + 1 + 1 + 1 + 1 ≤ 12; omega) (by show 0 + 18000 + 4 + 4 + 4 + 2000 + 1000 + 1000 ≤ 23092; omega) hS dX11_init_61 (fun q16 H he_q16 hz9 hA_q16 hk9 hS => ?_)
  replace hO := hO.keep hk9 (by first | exact id | exact rfl | omega | (dsimp only; omega))
  replace hA_q1 := hA_q1.keep hk9 (by first | exact id | exact rfl | omega | (dsimp only; omega))
  replace hA_q4 := hA_q4.keep hk9 (by first | exact id | exact rfl | omega | (dsimp only; omega))
  replace hA_q5 := hA_q5.keep hk9 (by first | exact id | exact rfl | omega | (dsimp only; omega))
  replace hA_q6 := hA_q6.keep hk9 (by first | exact id | exact rfl | omega | (dsimp only; omega))
  replace hA_q12 := hA_q12.keep hk9 (by first | exact id | exact rfl | omega | (dsimp only; omega))
  replace hA_q15 := hA_q15.keep hk9 (by first | exact id | exact rfl | omega | (dsimp only; omega))
  clear hk9
  refine zx_put (C := RX11) (T := TX11) (N := 23) (v := .ref (q16)) hx hb hz wo_X11 tyX11 tyX11_ok nmX11 hown hK hO rfl 16 (by decide) (hz _ wf_X11_32) (fun _ h9 => h9) (Or.inr ⟨rfl, (name_of_methodNamed B.named B.method).1, rfl⟩) rfl rfl (Nat.le_of_ble_eq_true rfl) (by first | exact rfl | omega | (dsimp only; omega)) hS dX11_init_63 (fun H locs hz9 hO hk9 hS => ?_)
  have hO : zO G H (o) 10 [.int (nI (0)), .ref (q1), .int (nI (0)), .int ((-1)), .ref (q4), .ref (q5), .ref (q6), .int (nI (0)), .int (nI (0)), .int (nI (0)), .int (nI (0)), .int (nI (0)), .ref (q12), .int (nI (0)), .int (nI (0)), .ref (q15), .ref (q16), .null, .null, .null, .null, .null, .int (nI (0))] := hO
  replace hA_q1 := hA_q1.keep hk9 (by first | exact id | exact rfl | omega | (dsimp only; omega))
  replace hA_q4 := hA_q4.keep hk9 (by first | exact id | exact rfl | omega | (dsimp only; omega))
  replace hA_q5 := hA_q5.keep hk9 (by first | exact id | exact rfl | omega | (dsimp only; omega))
  replace hA_q6 := hA_q6.keep hk9 (by first | exact id | exact rfl | omega | (dsimp only; omega))
  replace hA_q12 := hA_q12.keep hk9 (by first | exact id | exact rfl | omega | (dsimp only; omega))
  replace hA_q15 := hA_q15.keep hk9 (by first | exact id | exact rfl | omega | (dsimp only; omega))
  replace hA_q16 := hA_q16.keep hk9 (by first | exact id | exact rfl | omega | (dsimp only; omega))
  clear hk9
  refine lv_aload_n hx hb dX11_init_66 rfl (lv_at hl 0 rfl) ?_
  refine lv_sipush (v := nI 1000) hx hb dX11_init_67 (by decide) ?_
  refine zx_newA hx hb (hz _ wAi) hK (by omega) (by show 0 + 1 + 1 + 1 + 1 + 1 + 1 + 1 + 1 ≤ 12; omega) (by show 0 + 18000 + 4 + 4 + 4 + 2000 + 1000 + 1000 + 1000 ≤ 23092; omega) hS dX11_init_70 (fun q17 H he_q17 hz9 hA_q17 hk9 hS => ?_)
  replace hO := hO.keep hk9 (by first | exact id | exact rfl | omega | (dsimp only; omega))
  replace hA_q1 := hA_q1.keep hk9 (by first | exact id | exact rfl | omega | (dsimp only; omega))
  replace hA_q4 := hA_q4.keep hk9 (by first | exact id | exact rfl | omega | (dsimp only; omega))
  replace hA_q5 := hA_q5.keep hk9 (by first | exact id | exact rfl | omega | (dsimp only; omega))
  replace hA_q6 := hA_q6.keep hk9 (by first | exact id | exact rfl | omega | (dsimp only; omega))
  replace hA_q12 := hA_q12.keep hk9 (by first | exact id | exact rfl | omega | (dsimp only; omega))
  replace hA_q15 := hA_q15.keep hk9 (by first | exact id | exact rfl | omega | (dsimp only; omega))
  replace hA_q16 := hA_q16.keep hk9 (by first | exact id | exact rfl | omega | (dsimp only; omega))
  clear hk9
  refine zx_put (C := RX11) (T := TX11) (N := 23) (v := .ref (q17)) hx hb hz wo_X11 tyX11 tyX11_ok nmX11 hown hK hO rfl 17 (by decide) (hz _ wf_X11_35) (fun _ h9 => h9) (Or.inr ⟨rfl, (name_of_methodNamed B.named B.method).1, rfl⟩) rfl rfl (Nat.le_of_ble_eq_true rfl) (by first | exact rfl | omega | (dsimp only; omega)) hS dX11_init_72 (fun H locs hz9 hO hk9 hS => ?_)
  have hO : zO G H (o) 10 [.int (nI (0)), .ref (q1), .int (nI (0)), .int ((-1)), .ref (q4), .ref (q5), .ref (q6), .int (nI (0)), .int (nI (0)), .int (nI (0)), .int (nI (0)), .int (nI (0)), .ref (q12), .int (nI (0)), .int (nI (0)), .ref (q15), .ref (q16), .ref (q17), .null, .null, .null, .null, .int (nI (0))] := hO
  replace hA_q1 := hA_q1.keep hk9 (by first | exact id | exact rfl | omega | (dsimp only; omega))
  replace hA_q4 := hA_q4.keep hk9 (by first | exact id | exact rfl | omega | (dsimp only; omega))
  replace hA_q5 := hA_q5.keep hk9 (by first | exact id | exact rfl | omega | (dsimp only; omega))
  replace hA_q6 := hA_q6.keep hk9 (by first | exact id | exact rfl | omega | (dsimp only; omega))
  replace hA_q12 := hA_q12.keep hk9 (by first | exact id | exact rfl | omega | (dsimp only; omega))
  replace hA_q15 := hA_q15.keep hk9 (by first | exact id | exact rfl | omega | (dsimp only; omega))
  replace hA_q16 := hA_q16.keep hk9 (by first | exact id | exact rfl | omega | (dsimp only; omega))
  replace hA_q17 := hA_q17.keep hk9 (by first | exact id | exact rfl | omega | (dsimp only; omega))
  clear hk9
  refine lv_aload_n hx hb dX11_init_75 rfl (lv_at hl 0 rfl) ?_
  refine lv_bipush (v := nI 20) hx hb dX11_init_76 (by decide) ?_
  refine zx_newA hx hb (hz _ wAi) hK (by omega) (by show 0 + 1 + 1 + 1 + 1 + 1 + 1 + 1 + 1 + 1 ≤ 12; omega) (by show 0 + 18000 + 4 + 4 + 4 + 2000 + 1000 + 1000 + 1000 + 20 ≤ 23092; omega) hS dX11_init_78 (fun q18 H he_q18 hz9 hA_q18 hk9 hS => ?_)
  replace hO := hO.keep hk9 (by first | exact id | exact rfl | omega | (dsimp only; omega))
  replace hA_q1 := hA_q1.keep hk9 (by first | exact id | exact rfl | omega | (dsimp only; omega))
  replace hA_q4 := hA_q4.keep hk9 (by first | exact id | exact rfl | omega | (dsimp only; omega))
  replace hA_q5 := hA_q5.keep hk9 (by first | exact id | exact rfl | omega | (dsimp only; omega))
  replace hA_q6 := hA_q6.keep hk9 (by first | exact id | exact rfl | omega | (dsimp only; omega))
  replace hA_q12 := hA_q12.keep hk9 (by first | exact id | exact rfl | omega | (dsimp only; omega))
  replace hA_q15 := hA_q15.keep hk9 (by first | exact id | exact rfl | omega | (dsimp only; omega))
  replace hA_q16 := hA_q16.keep hk9 (by first | exact id | exact rfl | omega | (dsimp only; omega))
  replace hA_q17 := hA_q17.keep hk9 (by first | exact id | exact rfl | omega | (dsimp only; omega))
  clear hk9
  refine zx_put (C := RX11) (T := TX11) (N := 23) (v := .ref (q18)) hx hb hz wo_X11 tyX11 tyX11_ok nmX11 hown hK hO rfl 18 (by decide) (hz _ wf_X11_38) (fun _ h9 => h9) (Or.inr ⟨rfl, (name_of_methodNamed B.named B.method).1, rfl⟩) rfl rfl (Nat.le_of_ble_eq_true rfl) (by first | exact rfl | omega | (dsimp only; omega)) hS dX11_init_80 (fun H locs hz9 hO hk9 hS => ?_)
  have hO : zO G H (o) 10 [.int (nI (0)), .ref (q1), .int (nI (0)), .int ((-1)), .ref (q4), .ref (q5), .ref (q6), .int (nI (0)), .int (nI (0)), .int (nI (0)), .int (nI (0)), .int (nI (0)), .ref (q12), .int (nI (0)), .int (nI (0)), .ref (q15), .ref (q16), .ref (q17), .ref (q18), .null, .null, .null, .int (nI (0))] := hO
  replace hA_q1 := hA_q1.keep hk9 (by first | exact id | exact rfl | omega | (dsimp only; omega))
  replace hA_q4 := hA_q4.keep hk9 (by first | exact id | exact rfl | omega | (dsimp only; omega))
  replace hA_q5 := hA_q5.keep hk9 (by first | exact id | exact rfl | omega | (dsimp only; omega))
  replace hA_q6 := hA_q6.keep hk9 (by first | exact id | exact rfl | omega | (dsimp only; omega))
  replace hA_q12 := hA_q12.keep hk9 (by first | exact id | exact rfl | omega | (dsimp only; omega))
  replace hA_q15 := hA_q15.keep hk9 (by first | exact id | exact rfl | omega | (dsimp only; omega))
  replace hA_q16 := hA_q16.keep hk9 (by first | exact id | exact rfl | omega | (dsimp only; omega))
  replace hA_q17 := hA_q17.keep hk9 (by first | exact id | exact rfl | omega | (dsimp only; omega))
  replace hA_q18 := hA_q18.keep hk9 (by first | exact id | exact rfl | omega | (dsimp only; omega))
  clear hk9
  refine lv_aload_n hx hb dX11_init_83 rfl (lv_at hl 0 rfl) ?_
  refine lv_bipush (v := nI 20) hx hb dX11_init_84 (by decide) ?_
  refine zx_newA hx hb (hz _ wAi) hK (by omega) (by show 0 + 1 + 1 + 1 + 1 + 1 + 1 + 1 + 1 + 1 + 1 ≤ 12; omega) (by show 0 + 18000 + 4 + 4 + 4 + 2000 + 1000 + 1000 + 1000 + 20 + 20 ≤ 23092; omega) hS dX11_init_86 (fun q19 H he_q19 hz9 hA_q19 hk9 hS => ?_)
  replace hO := hO.keep hk9 (by first | exact id | exact rfl | omega | (dsimp only; omega))
  replace hA_q1 := hA_q1.keep hk9 (by first | exact id | exact rfl | omega | (dsimp only; omega))
  replace hA_q4 := hA_q4.keep hk9 (by first | exact id | exact rfl | omega | (dsimp only; omega))
  replace hA_q5 := hA_q5.keep hk9 (by first | exact id | exact rfl | omega | (dsimp only; omega))
  replace hA_q6 := hA_q6.keep hk9 (by first | exact id | exact rfl | omega | (dsimp only; omega))
  replace hA_q12 := hA_q12.keep hk9 (by first | exact id | exact rfl | omega | (dsimp only; omega))
  replace hA_q15 := hA_q15.keep hk9 (by first | exact id | exact rfl | omega | (dsimp only; omega))
  replace hA_q16 := hA_q16.keep hk9 (by first | exact id | exact rfl | omega | (dsimp only; omega))
  replace hA_q17 := hA_q17.keep hk9 (by first | exact id | exact rfl | omega | (dsimp only; omega))
  replace hA_q18 := hA_q18.keep hk9 (by first | exact id | exact rfl | omega | (dsimp only; omega))
  clear hk9
  refine zx_put (C := RX11) (T := TX11) (N := 23) (v := .ref (q19)) hx hb hz wo_X11 tyX11 tyX11_ok nmX11 hown hK hO rfl 19 (by decide) (hz _ wf_X11_41) (fun _ h9 => h9) (Or.inr ⟨rfl, (name_of_methodNamed B.named B.method).1, rfl⟩) rfl rfl (Nat.le_of_ble_eq_true rfl) (by first | exact rfl | omega | (dsimp only; omega)) hS dX11_init_88 (fun H locs hz9 hO hk9 hS => ?_)
  have hO : zO G H (o) 10 [.int (nI (0)), .ref (q1), .int (nI (0)), .int ((-1)), .ref (q4), .ref (q5), .ref (q6), .int (nI (0)), .int (nI (0)), .int (nI (0)), .int (nI (0)), .int (nI (0)), .ref (q12), .int (nI (0)), .int (nI (0)), .ref (q15), .ref (q16), .ref (q17), .ref (q18), .ref (q19), .null, .null, .int (nI (0))] := hO
  replace hA_q1 := hA_q1.keep hk9 (by first | exact id | exact rfl | omega | (dsimp only; omega))
  replace hA_q4 := hA_q4.keep hk9 (by first | exact id | exact rfl | omega | (dsimp only; omega))
  replace hA_q5 := hA_q5.keep hk9 (by first | exact id | exact rfl | omega | (dsimp only; omega))
  replace hA_q6 := hA_q6.keep hk9 (by first | exact id | exact rfl | omega | (dsimp only; omega))
  replace hA_q12 := hA_q12.keep hk9 (by first | exact id | exact rfl | omega | (dsimp only; omega))
  replace hA_q15 := hA_q15.keep hk9 (by first | exact id | exact rfl | omega | (dsimp only; omega))
  replace hA_q16 := hA_q16.keep hk9 (by first | exact id | exact rfl | omega | (dsimp only; omega))
  replace hA_q17 := hA_q17.keep hk9 (by first | exact id | exact rfl | omega | (dsimp only; omega))
  replace hA_q18 := hA_q18.keep hk9 (by first | exact id | exact rfl | omega | (dsimp only; omega))
  replace hA_q19 := hA_q19.keep hk9 (by first | exact id | exact rfl | omega | (dsimp only; omega))
  clear hk9
  refine lv_aload_n hx hb dX11_init_91 rfl (lv_at hl 0 rfl) ?_
  refine lv_bipush (v := nI 20) hx hb dX11_init_92 (by decide) ?_
  refine zx_newA hx hb (hz _ wAi) hK (by omega) (by show 0 + 1 + 1 + 1 + 1 + 1 + 1 + 1 + 1 + 1 + 1 + 1 ≤ 12; omega) (by show 0 + 18000 + 4 + 4 + 4 + 2000 + 1000 + 1000 + 1000 + 20 + 20 + 20 ≤ 23092; omega) hS dX11_init_94 (fun q20 H he_q20 hz9 hA_q20 hk9 hS => ?_)
  replace hO := hO.keep hk9 (by first | exact id | exact rfl | omega | (dsimp only; omega))
  replace hA_q1 := hA_q1.keep hk9 (by first | exact id | exact rfl | omega | (dsimp only; omega))
  replace hA_q4 := hA_q4.keep hk9 (by first | exact id | exact rfl | omega | (dsimp only; omega))
  replace hA_q5 := hA_q5.keep hk9 (by first | exact id | exact rfl | omega | (dsimp only; omega))
  replace hA_q6 := hA_q6.keep hk9 (by first | exact id | exact rfl | omega | (dsimp only; omega))
  replace hA_q12 := hA_q12.keep hk9 (by first | exact id | exact rfl | omega | (dsimp only; omega))
  replace hA_q15 := hA_q15.keep hk9 (by first | exact id | exact rfl | omega | (dsimp only; omega))
  replace hA_q16 := hA_q16.keep hk9 (by first | exact id | exact rfl | omega | (dsimp only; omega))
  replace hA_q17 := hA_q17.keep hk9 (by first | exact id | exact rfl | omega | (dsimp only; omega))
  replace hA_q18 := hA_q18.keep hk9 (by first | exact id | exact rfl | omega | (dsimp only; omega))
  replace hA_q19 := hA_q19.keep hk9 (by first | exact id | exact rfl | omega | (dsimp only; omega))
  clear hk9
  refine zx_put (C := RX11) (T := TX11) (N := 23) (v := .ref (q20)) hx hb hz wo_X11 tyX11 tyX11_ok nmX11 hown hK hO rfl 20 (by decide) (hz _ wf_X11_44) (fun _ h9 => h9) (Or.inr ⟨rfl, (name_of_methodNamed B.named B.method).1, rfl⟩) rfl rfl (Nat.le_of_ble_eq_true rfl) (by first | exact rfl | omega | (dsimp only; omega)) hS dX11_init_96 (fun H locs hz9 hO hk9 hS => ?_)
  have hO : zO G H (o) 10 [.int (nI (0)), .ref (q1), .int (nI (0)), .int ((-1)), .ref (q4), .ref (q5), .ref (q6), .int (nI (0)), .int (nI (0)), .int (nI (0)), .int (nI (0)), .int (nI (0)), .ref (q12), .int (nI (0)), .int (nI (0)), .ref (q15), .ref (q16), .ref (q17), .ref (q18), .ref (q19), .ref (q20), .null, .int (nI (0))] := hO
  replace hA_q1 := hA_q1.keep hk9 (by first | exact id | exact rfl | omega | (dsimp only; omega))
  replace hA_q4 := hA_q4.keep hk9 (by first | exact id | exact rfl | omega | (dsimp only; omega))
  replace hA_q5 := hA_q5.keep hk9 (by first | exact id | exact rfl | omega | (dsimp only; omega))
  replace hA_q6 := hA_q6.keep hk9 (by first | exact id | exact rfl | omega | (dsimp only; omega))
  replace hA_q12 := hA_q12.keep hk9 (by first | exact id | exact rfl | omega | (dsimp only; omega))
  replace hA_q15 := hA_q15.keep hk9 (by first | exact id | exact rfl | omega | (dsimp only; omega))
  replace hA_q16 := hA_q16.keep hk9 (by first | exact id | exact rfl | omega | (dsimp only; omega))
  replace hA_q17 := hA_q17.keep hk9 (by first | exact id | exact rfl | omega | (dsimp only; omega))
  replace hA_q18 := hA_q18.keep hk9 (by first | exact id | exact rfl | omega | (dsimp only; omega))
  replace hA_q19 := hA_q19.keep hk9 (by first | exact id | exact rfl | omega | (dsimp only; omega))
  replace hA_q20 := hA_q20.keep hk9 (by first | exact id | exact rfl | omega | (dsimp only; omega))
  clear hk9
  refine lv_aload_n hx hb dX11_init_99 rfl (lv_at hl 0 rfl) ?_
  refine lv_bipush (v := nI 20) hx hb dX11_init_100 (by decide) ?_
  refine zx_newA hx hb (hz _ wAi) hK (by omega) (by show 0 + 1 + 1 + 1 + 1 + 1 + 1 + 1 + 1 + 1 + 1 + 1 + 1 ≤ 12; omega) (by show 0 + 18000 + 4 + 4 + 4 + 2000 + 1000 + 1000 + 1000 + 20 + 20 + 20 + 20 ≤ 23092; omega) hS dX11_init_102 (fun q21 H he_q21 hz9 hA_q21 hk9 hS => ?_)
  replace hO := hO.keep hk9 (by first | exact id | exact rfl | omega | (dsimp only; omega))
  replace hA_q1 := hA_q1.keep hk9 (by first | exact id | exact rfl | omega | (dsimp only; omega))
  replace hA_q4 := hA_q4.keep hk9 (by first | exact id | exact rfl | omega | (dsimp only; omega))
  replace hA_q5 := hA_q5.keep hk9 (by first | exact id | exact rfl | omega | (dsimp only; omega))
  replace hA_q6 := hA_q6.keep hk9 (by first | exact id | exact rfl | omega | (dsimp only; omega))
  replace hA_q12 := hA_q12.keep hk9 (by first | exact id | exact rfl | omega | (dsimp only; omega))
  replace hA_q15 := hA_q15.keep hk9 (by first | exact id | exact rfl | omega | (dsimp only; omega))
  replace hA_q16 := hA_q16.keep hk9 (by first | exact id | exact rfl | omega | (dsimp only; omega))
  replace hA_q17 := hA_q17.keep hk9 (by first | exact id | exact rfl | omega | (dsimp only; omega))
  replace hA_q18 := hA_q18.keep hk9 (by first | exact id | exact rfl | omega | (dsimp only; omega))
  replace hA_q19 := hA_q19.keep hk9 (by first | exact id | exact rfl | omega | (dsimp only; omega))
  replace hA_q20 := hA_q20.keep hk9 (by first | exact id | exact rfl | omega | (dsimp only; omega))
  clear hk9
  refine zx_put (C := RX11) (T := TX11) (N := 23) (v := .ref (q21)) hx hb hz wo_X11 tyX11 tyX11_ok nmX11 hown hK hO rfl 21 (by decide) (hz _ wf_X11_47) (fun _ h9 => h9) (Or.inr ⟨rfl, (name_of_methodNamed B.named B.method).1, rfl⟩) rfl rfl (Nat.le_of_ble_eq_true rfl) (by first | exact rfl | omega | (dsimp only; omega)) hS dX11_init_104 (fun H locs hz9 hO hk9 hS => ?_)
  have hO : zO G H (o) 10 [.int (nI (0)), .ref (q1), .int (nI (0)), .int ((-1)), .ref (q4), .ref (q5), .ref (q6), .int (nI (0)), .int (nI (0)), .int (nI (0)), .int (nI (0)), .int (nI (0)), .ref (q12), .int (nI (0)), .int (nI (0)), .ref (q15), .ref (q16), .ref (q17), .ref (q18), .ref (q19), .ref (q20), .ref (q21), .int (nI (0))] := hO
  replace hA_q1 := hA_q1.keep hk9 (by first | exact id | exact rfl | omega | (dsimp only; omega))
  replace hA_q4 := hA_q4.keep hk9 (by first | exact id | exact rfl | omega | (dsimp only; omega))
  replace hA_q5 := hA_q5.keep hk9 (by first | exact id | exact rfl | omega | (dsimp only; omega))
  replace hA_q6 := hA_q6.keep hk9 (by first | exact id | exact rfl | omega | (dsimp only; omega))
  replace hA_q12 := hA_q12.keep hk9 (by first | exact id | exact rfl | omega | (dsimp only; omega))
  replace hA_q15 := hA_q15.keep hk9 (by first | exact id | exact rfl | omega | (dsimp only; omega))
  replace hA_q16 := hA_q16.keep hk9 (by first | exact id | exact rfl | omega | (dsimp only; omega))
  replace hA_q17 := hA_q17.keep hk9 (by first | exact id | exact rfl | omega | (dsimp only; omega))
  replace hA_q18 := hA_q18.keep hk9 (by first | exact id | exact rfl | omega | (dsimp only; omega))
  replace hA_q19 := hA_q19.keep hk9 (by first | exact id | exact rfl | omega | (dsimp only; omega))
  replace hA_q20 := hA_q20.keep hk9 (by first | exact id | exact rfl | omega | (dsimp only; omega))
  replace hA_q21 := hA_q21.keep hk9 (by first | exact id | exact rfl | omega | (dsimp only; omega))
  clear hk9
  refine lv_iconst (v := nI 0) hx hb dX11_init_107 (by decide) ?_
  refine lv_istore_n (lv' := [(1, .int (nI (0))), (0, .ref (o))]) hx hb dX11_init_108 rfl hl (by decide) rfl (fun ls hl => ?_)
  refine lv_iload_n hx hb dX11_init_109 rfl (lv_at hl 0 rfl) ?_
  refine lv_bipush (v := nI 8) hx hb dX11_init_110 (by decide) ?_
  refine zi_icmp_ge (tgt := 132) hx hb dX11_init_112 (by decide) (by omega) (by omega) (fun c_112 => absurd c_112 (by decide)) (fun c_112 => ?_)
  refine lv_aload_n hx hb dX11_init_115 rfl (lv_at hl 1 rfl) ?_
  refine zi_get (C := RX11) (T := TX11) (N := 23) (v := .ref (q1)) hx hb hz wo_X11 hown hK hO rfl 1 (by decide) (hz _ wf_X11_7) (fun _ h9 => h9) rfl dX11_init_116 ?_
  refine lv_sipush (v := nI 2000) hx hb dX11_init_119 (by decide) ?_
  refine lv_iload_n hx hb dX11_init_122 rfl (lv_at hl 0 rfl) ?_
  refine lv_imul hx hb dX11_init_123 ?_
  rw [show nI 2000 * nI 0 = nI (2000 * 0) by decide]
  refine W.eq (g2 := F0 m 124 ls ([.int (nI (0)), .ref (q1)])) rfl ?_
  refine lv_iconst (v := nI 5) hx hb dX11_init_124 (by decide) ?_
  refine zx_ast (i := 0) (x := 5) hx hb hK hA_q1 (by omega) (by omega)  (by first | exact rfl | omega | (dsimp only; omega)) hS dX11_init_125 (fun H locs hz9 hA_q1 hk9 hS => ?_)
  replace hO := hO.keep hk9 (by first | exact id | exact rfl | omega | (dsimp only; omega))
  replace hA_q4 := hA_q4.keep hk9 (by first | exact id | exact rfl | omega | (dsimp only; omega))
  replace hA_q5 := hA_q5.keep hk9 (by first | exact id | exact rfl | omega | (dsimp only; omega))
  replace hA_q6 := hA_q6.keep hk9 (by first | exact id | exact rfl | omega | (dsimp only; omega))
  replace hA_q12 := hA_q12.keep hk9 (by first | exact id | exact rfl | omega | (dsimp only; omega))
  replace hA_q15 := hA_q15.keep hk9 (by first | exact id | exact rfl | omega | (dsimp only; omega))
  replace hA_q16 := hA_q16.keep hk9 (by first | exact id | exact rfl | omega | (dsimp only; omega))
  replace hA_q17 := hA_q17.keep hk9 (by first | exact id | exact rfl | omega | (dsimp only; omega))
  replace hA_q18 := hA_q18.keep hk9 (by first | exact id | exact rfl | omega | (dsimp only; omega))
  replace hA_q19 := hA_q19.keep hk9 (by first | exact id | exact rfl | omega | (dsimp only; omega))
  replace hA_q20 := hA_q20.keep hk9 (by first | exact id | exact rfl | omega | (dsimp only; omega))
  replace hA_q21 := hA_q21.keep hk9 (by first | exact id | exact rfl | omega | (dsimp only; omega))
  clear hk9
  refine lv_iinc (v := nI (1)) (lv' := [(1, .int (nI (1))), (0, .ref (o))]) hx hb dX11_init_126 hl (k := 0) rfl (nI_add _ _) (by decide) rfl (fun ls hl => ?_)
  refine lv_goto (tgt := 109) hx hb dX11_init_129 (by decide) ?_
  refine lv_iload_n hx hb dX11_init_109 rfl (lv_at hl 0 rfl) ?_
  refine lv_bipush (v := nI 8) hx hb dX11_init_110 (by decide) ?_
  refine zi_icmp_ge (tgt := 132) hx hb dX11_init_112 (by decide) (by omega) (by omega) (fun c_112 => absurd c_112 (by decide)) (fun c_112 => ?_)
  refine lv_aload_n hx hb dX11_init_115 rfl (lv_at hl 1 rfl) ?_
  refine zi_get (C := RX11) (T := TX11) (N := 23) (v := .ref (q1)) hx hb hz wo_X11 hown hK hO rfl 1 (by decide) (hz _ wf_X11_7) (fun _ h9 => h9) rfl dX11_init_116 ?_
  refine lv_sipush (v := nI 2000) hx hb dX11_init_119 (by decide) ?_
  refine lv_iload_n hx hb dX11_init_122 rfl (lv_at hl 0 rfl) ?_
  refine lv_imul hx hb dX11_init_123 ?_
  rw [show nI 2000 * nI 1 = nI (2000 * 1) by decide]
  refine W.eq (g2 := F0 m 124 ls ([.int (nI (2000)), .ref (q1)])) rfl ?_
  refine lv_iconst (v := nI 5) hx hb dX11_init_124 (by decide) ?_
  refine zx_ast (i := 2000) (x := 5) hx hb hK hA_q1 (by omega) (by omega)  (by first | exact rfl | omega | (dsimp only; omega)) hS dX11_init_125 (fun H locs hz9 hA_q1 hk9 hS => ?_)
  replace hO := hO.keep hk9 (by first | exact id | exact rfl | omega | (dsimp only; omega))
  replace hA_q4 := hA_q4.keep hk9 (by first | exact id | exact rfl | omega | (dsimp only; omega))
  replace hA_q5 := hA_q5.keep hk9 (by first | exact id | exact rfl | omega | (dsimp only; omega))
  replace hA_q6 := hA_q6.keep hk9 (by first | exact id | exact rfl | omega | (dsimp only; omega))
  replace hA_q12 := hA_q12.keep hk9 (by first | exact id | exact rfl | omega | (dsimp only; omega))
  replace hA_q15 := hA_q15.keep hk9 (by first | exact id | exact rfl | omega | (dsimp only; omega))
  replace hA_q16 := hA_q16.keep hk9 (by first | exact id | exact rfl | omega | (dsimp only; omega))
  replace hA_q17 := hA_q17.keep hk9 (by first | exact id | exact rfl | omega | (dsimp only; omega))
  replace hA_q18 := hA_q18.keep hk9 (by first | exact id | exact rfl | omega | (dsimp only; omega))
  replace hA_q19 := hA_q19.keep hk9 (by first | exact id | exact rfl | omega | (dsimp only; omega))
  replace hA_q20 := hA_q20.keep hk9 (by first | exact id | exact rfl | omega | (dsimp only; omega))
  replace hA_q21 := hA_q21.keep hk9 (by first | exact id | exact rfl | omega | (dsimp only; omega))
  clear hk9
  refine lv_iinc (v := nI (2)) (lv' := [(1, .int (nI (2))), (0, .ref (o))]) hx hb dX11_init_126 hl (k := 0) rfl (nI_add _ _) (by decide) rfl (fun ls hl => ?_)
  refine lv_goto (tgt := 109) hx hb dX11_init_129 (by decide) ?_
  refine lv_iload_n hx hb dX11_init_109 rfl (lv_at hl 0 rfl) ?_
  refine lv_bipush (v := nI 8) hx hb dX11_init_110 (by decide) ?_
  refine zi_icmp_ge (tgt := 132) hx hb dX11_init_112 (by decide) (by omega) (by omega) (fun c_112 => absurd c_112 (by decide)) (fun c_112 => ?_)
  refine lv_aload_n hx hb dX11_init_115 rfl (lv_at hl 1 rfl) ?_
  refine zi_get (C := RX11) (T := TX11) (N := 23) (v := .ref (q1)) hx hb hz wo_X11 hown hK hO rfl 1 (by decide) (hz _ wf_X11_7) (fun _ h9 => h9) rfl dX11_init_116 ?_
  refine lv_sipush (v := nI 2000) hx hb dX11_init_119 (by decide) ?_
  refine lv_iload_n hx hb dX11_init_122 rfl (lv_at hl 0 rfl) ?_
  refine lv_imul hx hb dX11_init_123 ?_
  rw [show nI 2000 * nI 2 = nI (2000 * 2) by decide]
  refine W.eq (g2 := F0 m 124 ls ([.int (nI (4000)), .ref (q1)])) rfl ?_
  refine lv_iconst (v := nI 5) hx hb dX11_init_124 (by decide) ?_
  refine zx_ast (i := 4000) (x := 5) hx hb hK hA_q1 (by omega) (by omega)  (by first | exact rfl | omega | (dsimp only; omega)) hS dX11_init_125 (fun H locs hz9 hA_q1 hk9 hS => ?_)
  replace hO := hO.keep hk9 (by first | exact id | exact rfl | omega | (dsimp only; omega))
  replace hA_q4 := hA_q4.keep hk9 (by first | exact id | exact rfl | omega | (dsimp only; omega))
  replace hA_q5 := hA_q5.keep hk9 (by first | exact id | exact rfl | omega | (dsimp only; omega))
  replace hA_q6 := hA_q6.keep hk9 (by first | exact id | exact rfl | omega | (dsimp only; omega))
  replace hA_q12 := hA_q12.keep hk9 (by first | exact id | exact rfl | omega | (dsimp only; omega))
  replace hA_q15 := hA_q15.keep hk9 (by first | exact id | exact rfl | omega | (dsimp only; omega))
  replace hA_q16 := hA_q16.keep hk9 (by first | exact id | exact rfl | omega | (dsimp only; omega))
  replace hA_q17 := hA_q17.keep hk9 (by first | exact id | exact rfl | omega | (dsimp only; omega))
  replace hA_q18 := hA_q18.keep hk9 (by first | exact id | exact rfl | omega | (dsimp only; omega))
  replace hA_q19 := hA_q19.keep hk9 (by first | exact id | exact rfl | omega | (dsimp only; omega))
  replace hA_q20 := hA_q20.keep hk9 (by first | exact id | exact rfl | omega | (dsimp only; omega))
  replace hA_q21 := hA_q21.keep hk9 (by first | exact id | exact rfl | omega | (dsimp only; omega))
  clear hk9
  refine lv_iinc (v := nI (3)) (lv' := [(1, .int (nI (3))), (0, .ref (o))]) hx hb dX11_init_126 hl (k := 0) rfl (nI_add _ _) (by decide) rfl (fun ls hl => ?_)
  refine lv_goto (tgt := 109) hx hb dX11_init_129 (by decide) ?_
  refine lv_iload_n hx hb dX11_init_109 rfl (lv_at hl 0 rfl) ?_
  refine lv_bipush (v := nI 8) hx hb dX11_init_110 (by decide) ?_
  refine zi_icmp_ge (tgt := 132) hx hb dX11_init_112 (by decide) (by omega) (by omega) (fun c_112 => absurd c_112 (by decide)) (fun c_112 => ?_)
  refine lv_aload_n hx hb dX11_init_115 rfl (lv_at hl 1 rfl) ?_
  refine zi_get (C := RX11) (T := TX11) (N := 23) (v := .ref (q1)) hx hb hz wo_X11 hown hK hO rfl 1 (by decide) (hz _ wf_X11_7) (fun _ h9 => h9) rfl dX11_init_116 ?_
  refine lv_sipush (v := nI 2000) hx hb dX11_init_119 (by decide) ?_
  refine lv_iload_n hx hb dX11_init_122 rfl (lv_at hl 0 rfl) ?_
  refine lv_imul hx hb dX11_init_123 ?_
  rw [show nI 2000 * nI 3 = nI (2000 * 3) by decide]
  refine W.eq (g2 := F0 m 124 ls ([.int (nI (6000)), .ref (q1)])) rfl ?_
  refine lv_iconst (v := nI 5) hx hb dX11_init_124 (by decide) ?_
  refine zx_ast (i := 6000) (x := 5) hx hb hK hA_q1 (by omega) (by omega)  (by first | exact rfl | omega | (dsimp only; omega)) hS dX11_init_125 (fun H locs hz9 hA_q1 hk9 hS => ?_)
  replace hO := hO.keep hk9 (by first | exact id | exact rfl | omega | (dsimp only; omega))
  replace hA_q4 := hA_q4.keep hk9 (by first | exact id | exact rfl | omega | (dsimp only; omega))
  replace hA_q5 := hA_q5.keep hk9 (by first | exact id | exact rfl | omega | (dsimp only; omega))
  replace hA_q6 := hA_q6.keep hk9 (by first | exact id | exact rfl | omega | (dsimp only; omega))
  replace hA_q12 := hA_q12.keep hk9 (by first | exact id | exact rfl | omega | (dsimp only; omega))
  replace hA_q15 := hA_q15.keep hk9 (by first | exact id | exact rfl | omega | (dsimp only; omega))
  replace hA_q16 := hA_q16.keep hk9 (by first | exact id | exact rfl | omega | (dsimp only; omega))
  replace hA_q17 := hA_q17.keep hk9 (by first | exact id | exact rfl | omega | (dsimp only; omega))
  replace hA_q18 := hA_q18.keep hk9 (by first | exact id | exact rfl | omega | (dsimp only; omega))
  replace hA_q19 := hA_q19.keep hk9 (by first | exact id | exact rfl | omega | (dsimp only; omega))
  replace hA_q20 := hA_q20.keep hk9 (by first | exact id | exact rfl | omega | (dsimp only; omega))
  replace hA_q21 := hA_q21.keep hk9 (by first | exact id | exact rfl | omega | (dsimp only; omega))
  clear hk9
  refine lv_iinc (v := nI (4)) (lv' := [(1, .int (nI (4))), (0, .ref (o))]) hx hb dX11_init_126 hl (k := 0) rfl (nI_add _ _) (by decide) rfl (fun ls hl => ?_)
  refine lv_goto (tgt := 109) hx hb dX11_init_129 (by decide) ?_
  refine lv_iload_n hx hb dX11_init_109 rfl (lv_at hl 0 rfl) ?_
  refine lv_bipush (v := nI 8) hx hb dX11_init_110 (by decide) ?_
  refine zi_icmp_ge (tgt := 132) hx hb dX11_init_112 (by decide) (by omega) (by omega) (fun c_112 => absurd c_112 (by decide)) (fun c_112 => ?_)
  refine lv_aload_n hx hb dX11_init_115 rfl (lv_at hl 1 rfl) ?_
  refine zi_get (C := RX11) (T := TX11) (N := 23) (v := .ref (q1)) hx hb hz wo_X11 hown hK hO rfl 1 (by decide) (hz _ wf_X11_7) (fun _ h9 => h9) rfl dX11_init_116 ?_
  refine lv_sipush (v := nI 2000) hx hb dX11_init_119 (by decide) ?_
  refine lv_iload_n hx hb dX11_init_122 rfl (lv_at hl 0 rfl) ?_
  refine lv_imul hx hb dX11_init_123 ?_
  rw [show nI 2000 * nI 4 = nI (2000 * 4) by decide]
  refine W.eq (g2 := F0 m 124 ls ([.int (nI (8000)), .ref (q1)])) rfl ?_
  refine lv_iconst (v := nI 5) hx hb dX11_init_124 (by decide) ?_
  refine zx_ast (i := 8000) (x := 5) hx hb hK hA_q1 (by omega) (by omega)  (by first | exact rfl | omega | (dsimp only; omega)) hS dX11_init_125 (fun H locs hz9 hA_q1 hk9 hS => ?_)
  replace hO := hO.keep hk9 (by first | exact id | exact rfl | omega | (dsimp only; omega))
  replace hA_q4 := hA_q4.keep hk9 (by first | exact id | exact rfl | omega | (dsimp only; omega))
  replace hA_q5 := hA_q5.keep hk9 (by first | exact id | exact rfl | omega | (dsimp only; omega))
  replace hA_q6 := hA_q6.keep hk9 (by first | exact id | exact rfl | omega | (dsimp only; omega))
  replace hA_q12 := hA_q12.keep hk9 (by first | exact id | exact rfl | omega | (dsimp only; omega))
  replace hA_q15 := hA_q15.keep hk9 (by first | exact id | exact rfl | omega | (dsimp only; omega))
  replace hA_q16 := hA_q16.keep hk9 (by first | exact id | exact rfl | omega | (dsimp only; omega))
  replace hA_q17 := hA_q17.keep hk9 (by first | exact id | exact rfl | omega | (dsimp only; omega))
  replace hA_q18 := hA_q18.keep hk9 (by first | exact id | exact rfl | omega | (dsimp only; omega))
  replace hA_q19 := hA_q19.keep hk9 (by first | exact id | exact rfl | omega | (dsimp only; omega))
  replace hA_q20 := hA_q20.keep hk9 (by first | exact id | exact rfl | omega | (dsimp only; omega))
  replace hA_q21 := hA_q21.keep hk9 (by first | exact id | exact rfl | omega | (dsimp only; omega))
  clear hk9
  refine lv_iinc (v := nI (5)) (lv' := [(1, .int (nI (5))), (0, .ref (o))]) hx hb dX11_init_126 hl (k := 0) rfl (nI_add _ _) (by decide) rfl (fun ls hl => ?_)
  refine lv_goto (tgt := 109) hx hb dX11_init_129 (by decide) ?_
  refine lv_iload_n hx hb dX11_init_109 rfl (lv_at hl 0 rfl) ?_
  refine lv_bipush (v := nI 8) hx hb dX11_init_110 (by decide) ?_
  refine zi_icmp_ge (tgt := 132) hx hb dX11_init_112 (by decide) (by omega) (by omega) (fun c_112 => absurd c_112 (by decide)) (fun c_112 => ?_)
  refine lv_aload_n hx hb dX11_init_115 rfl (lv_at hl 1 rfl) ?_
  refine zi_get (C := RX11) (T := TX11) (N := 23) (v := .ref (q1)) hx hb hz wo_X11 hown hK hO rfl 1 (by decide) (hz _ wf_X11_7) (fun _ h9 => h9) rfl dX11_init_116 ?_
  refine lv_sipush (v := nI 2000) hx hb dX11_init_119 (by decide) ?_
  refine lv_iload_n hx hb dX11_init_122 rfl (lv_at hl 0 rfl) ?_
  refine lv_imul hx hb dX11_init_123 ?_
  rw [show nI 2000 * nI 5 = nI (2000 * 5) by decide]
  refine W.eq (g2 := F0 m 124 ls ([.int (nI (10000)), .ref (q1)])) rfl ?_
  refine lv_iconst (v := nI 5) hx hb dX11_init_124 (by decide) ?_
  refine zx_ast (i := 10000) (x := 5) hx hb hK hA_q1 (by omega) (by omega)  (by first | exact rfl | omega | (dsimp only; omega)) hS dX11_init_125 (fun H locs hz9 hA_q1 hk9 hS => ?_)
  replace hO := hO.keep hk9 (by first | exact id | exact rfl | omega | (dsimp only; omega))
  replace hA_q4 := hA_q4.keep hk9 (by first | exact id | exact rfl | omega | (dsimp only; omega))
  replace hA_q5 := hA_q5.keep hk9 (by first | exact id | exact rfl | omega | (dsimp only; omega))
  replace hA_q6 := hA_q6.keep hk9 (by first | exact id | exact rfl | omega | (dsimp only; omega))
  replace hA_q12 := hA_q12.keep hk9 (by first | exact id | exact rfl | omega | (dsimp only; omega))
  replace hA_q15 := hA_q15.keep hk9 (by first | exact id | exact rfl | omega | (dsimp only; omega))
  replace hA_q16 := hA_q16.keep hk9 (by first | exact id | exact rfl | omega | (dsimp only; omega))
  replace hA_q17 := hA_q17.keep hk9 (by first | exact id | exact rfl | omega | (dsimp only; omega))
  replace hA_q18 := hA_q18.keep hk9 (by first | exact id | exact rfl | omega | (dsimp only; omega))
  replace hA_q19 := hA_q19.keep hk9 (by first | exact id | exact rfl | omega | (dsimp only; omega))
  replace hA_q20 := hA_q20.keep hk9 (by first | exact id | exact rfl | omega | (dsimp only; omega))
  replace hA_q21 := hA_q21.keep hk9 (by first | exact id | exact rfl | omega | (dsimp only; omega))
  clear hk9
  refine lv_iinc (v := nI (6)) (lv' := [(1, .int (nI (6))), (0, .ref (o))]) hx hb dX11_init_126 hl (k := 0) rfl (nI_add _ _) (by decide) rfl (fun ls hl => ?_)
  refine lv_goto (tgt := 109) hx hb dX11_init_129 (by decide) ?_
  refine lv_iload_n hx hb dX11_init_109 rfl (lv_at hl 0 rfl) ?_
  refine lv_bipush (v := nI 8) hx hb dX11_init_110 (by decide) ?_
  refine zi_icmp_ge (tgt := 132) hx hb dX11_init_112 (by decide) (by omega) (by omega) (fun c_112 => absurd c_112 (by decide)) (fun c_112 => ?_)
  refine lv_aload_n hx hb dX11_init_115 rfl (lv_at hl 1 rfl) ?_
  refine zi_get (C := RX11) (T := TX11) (N := 23) (v := .ref (q1)) hx hb hz wo_X11 hown hK hO rfl 1 (by decide) (hz _ wf_X11_7) (fun _ h9 => h9) rfl dX11_init_116 ?_
  refine lv_sipush (v := nI 2000) hx hb dX11_init_119 (by decide) ?_
  refine lv_iload_n hx hb dX11_init_122 rfl (lv_at hl 0 rfl) ?_
  refine lv_imul hx hb dX11_init_123 ?_
  rw [show nI 2000 * nI 6 = nI (2000 * 6) by decide]
  refine W.eq (g2 := F0 m 124 ls ([.int (nI (12000)), .ref (q1)])) rfl ?_
  refine lv_iconst (v := nI 5) hx hb dX11_init_124 (by decide) ?_
  refine zx_ast (i := 12000) (x := 5) hx hb hK hA_q1 (by omega) (by omega)  (by first | exact rfl | omega | (dsimp only; omega)) hS dX11_init_125 (fun H locs hz9 hA_q1 hk9 hS => ?_)
  replace hO := hO.keep hk9 (by first | exact id | exact rfl | omega | (dsimp only; omega))
  replace hA_q4 := hA_q4.keep hk9 (by first | exact id | exact rfl | omega | (dsimp only; omega))
  replace hA_q5 := hA_q5.keep hk9 (by first | exact id | exact rfl | omega | (dsimp only; omega))
  replace hA_q6 := hA_q6.keep hk9 (by first | exact id | exact rfl | omega | (dsimp only; omega))
  replace hA_q12 := hA_q12.keep hk9 (by first | exact id | exact rfl | omega | (dsimp only; omega))
  replace hA_q15 := hA_q15.keep hk9 (by first | exact id | exact rfl | omega | (dsimp only; omega))
  replace hA_q16 := hA_q16.keep hk9 (by first | exact id | exact rfl | omega | (dsimp only; omega))
  replace hA_q17 := hA_q17.keep hk9 (by first | exact id | exact rfl | omega | (dsimp only; omega))
  replace hA_q18 := hA_q18.keep hk9 (by first | exact id | exact rfl | omega | (dsimp only; omega))
  replace hA_q19 := hA_q19.keep hk9 (by first | exact id | exact rfl | omega | (dsimp only; omega))
  replace hA_q20 := hA_q20.keep hk9 (by first | exact id | exact rfl | omega | (dsimp only; omega))
  replace hA_q21 := hA_q21.keep hk9 (by first | exact id | exact rfl | omega | (dsimp only; omega))
  clear hk9
  refine lv_iinc (v := nI (7)) (lv' := [(1, .int (nI (7))), (0, .ref (o))]) hx hb dX11_init_126 hl (k := 0) rfl (nI_add _ _) (by decide) rfl (fun ls hl => ?_)
  refine lv_goto (tgt := 109) hx hb dX11_init_129 (by decide) ?_
  refine lv_iload_n hx hb dX11_init_109 rfl (lv_at hl 0 rfl) ?_
  refine lv_bipush (v := nI 8) hx hb dX11_init_110 (by decide) ?_
  refine zi_icmp_ge (tgt := 132) hx hb dX11_init_112 (by decide) (by omega) (by omega) (fun c_112 => absurd c_112 (by decide)) (fun c_112 => ?_)
  refine lv_aload_n hx hb dX11_init_115 rfl (lv_at hl 1 rfl) ?_
  refine zi_get (C := RX11) (T := TX11) (N := 23) (v := .ref (q1)) hx hb hz wo_X11 hown hK hO rfl 1 (by decide) (hz _ wf_X11_7) (fun _ h9 => h9) rfl dX11_init_116 ?_
  refine lv_sipush (v := nI 2000) hx hb dX11_init_119 (by decide) ?_
  refine lv_iload_n hx hb dX11_init_122 rfl (lv_at hl 0 rfl) ?_
  refine lv_imul hx hb dX11_init_123 ?_
  rw [show nI 2000 * nI 7 = nI (2000 * 7) by decide]
  refine W.eq (g2 := F0 m 124 ls ([.int (nI (14000)), .ref (q1)])) rfl ?_
  refine lv_iconst (v := nI 5) hx hb dX11_init_124 (by decide) ?_
  refine zx_ast (i := 14000) (x := 5) hx hb hK hA_q1 (by omega) (by omega)  (by first | exact rfl | omega | (dsimp only; omega)) hS dX11_init_125 (fun H locs hz9 hA_q1 hk9 hS => ?_)
  replace hO := hO.keep hk9 (by first | exact id | exact rfl | omega | (dsimp only; omega))
  replace hA_q4 := hA_q4.keep hk9 (by first | exact id | exact rfl | omega | (dsimp only; omega))
  replace hA_q5 := hA_q5.keep hk9 (by first | exact id | exact rfl | omega | (dsimp only; omega))
  replace hA_q6 := hA_q6.keep hk9 (by first | exact id | exact rfl | omega | (dsimp only; omega))
  replace hA_q12 := hA_q12.keep hk9 (by first | exact id | exact rfl | omega | (dsimp only; omega))
  replace hA_q15 := hA_q15.keep hk9 (by first | exact id | exact rfl | omega | (dsimp only; omega))
  replace hA_q16 := hA_q16.keep hk9 (by first | exact id | exact rfl | omega | (dsimp only; omega))
  replace hA_q17 := hA_q17.keep hk9 (by first | exact id | exact rfl | omega | (dsimp only; omega))
  replace hA_q18 := hA_q18.keep hk9 (by first | exact id | exact rfl | omega | (dsimp only; omega))
  replace hA_q19 := hA_q19.keep hk9 (by first | exact id | exact rfl | omega | (dsimp only; omega))
  replace hA_q20 := hA_q20.keep hk9 (by first | exact id | exact rfl | omega | (dsimp only; omega))
  replace hA_q21 := hA_q21.keep hk9 (by first | exact id | exact rfl | omega | (dsimp only; omega))
  clear hk9
  refine lv_iinc (v := nI (8)) (lv' := [(1, .int (nI (8))), (0, .ref (o))]) hx hb dX11_init_126 hl (k := 0) rfl (nI_add _ _) (by decide) rfl (fun ls hl => ?_)
  refine lv_goto (tgt := 109) hx hb dX11_init_129 (by decide) ?_
  refine lv_iload_n hx hb dX11_init_109 rfl (lv_at hl 0 rfl) ?_
  refine lv_bipush (v := nI 8) hx hb dX11_init_110 (by decide) ?_
  refine zi_icmp_ge (tgt := 132) hx hb dX11_init_112 (by decide) (by omega) (by omega) (fun c_112 => ?_) (fun c_112 => absurd c_112 (by decide))
  exact zx_v hx hb hr hlocks (by show 0 + 1 + 1 + 1 + 1 + 1 + 1 + 1 + 1 + 1 + 1 + 1 + 1 ≤ 12; omega) (by show 0 + 18000 + 4 + 4 + 4 + 2000 + 1000 + 1000 + 1000 + 20 + 20 + 20 + 20 ≤ 23092; omega) (⟨rfl, by omega, RS_new2 ho (by omega) (by omega) (by omega) (by omega) (by omega) (by omega) (by omega) (by omega) (by omega) (by omega) (by omega) (by omega) hO (hA_q1.ext st8_up) hA_q4 hA_q5 hA_q6 hA_q12 hA_q15 hA_q16 hA_q17 hA_q18 hA_q19 hA_q20 hA_q21⟩) hS dX11_init_132
