set_option maxHeartbeats 4000000 in
set_option maxRecDepth 100000 in
theorem j_cmpr (l : Launch) (G : zG) (cv bv N : Nat) (t u : Nat → Nat) (h8 : ∀ i, t i < 256) (hN : N < 2 ^ 20) (hne : cv ≠ bv) : Met l yJ2_compress_fe38e wsJ2_compress_fe38e ({ frames := 0, cells := 0, slots := 0, locals := 0 }) (zP G [.ref (cv), .int (nI (0)), .ref (bv), .int (nI (0)), .int (nI (N))] (fun H => zC G H cv N t ∧ zB G H bv N u)) (zX (fun q => q = bv) (fun r9 H => r9 = some (.int (nI N)) ∧ zB G H bv N t)) (0) (0) (fun q => q = bv) := by
  refine Met.ofW (cc := cJ2_compress_fe38e) (maxL := 7) (ret := (some .int)) (by decide) rfl ?_
  intro p en s m args below meth c s₁ B hml hv
  obtain ⟨rfl, hP, hK⟩ := hv
  have hx := B.exec
  have hb := B.bytes
  have hr := B.returns
  have hts := atoms_spec (ws := wsJ2_compress_fe38e) B.pre
  have hz : ∀ w ∈ zW, w.before _ s = true := fun w h => hts w (List.mem_cons_of_mem _ h)
  have hown : s.vm.findClass RJ2 = some m.cls := findClass_of_methodNamed B.named
  have hlocks := B.notSynchronized
  obtain ⟨hC, hB⟩ := id hP
  have hS : va_S (fun q => q = bv) s.heap s.heap [] := va_S.rf
  have hl := lv_entry ([.ref (cv), .int (nI (0)), .ref (bv), .int (nI (0)), .int (nI (N))]) (n := 7) (Nat.le_of_ble_eq_true rfl)
  rw [lg_entry_eq]
  generalize (lg_sl ([.ref (cv), .int (nI (0)), .ref (bv), .int (nI (0)), .int (nI (N))]) ++ List.replicate (7 - (lg_sl ([.ref (cv), .int (nI (0)), .ref (bv), .int (nI (0)), .int (nI (N))])).length) Slot.unset).toArray = ls at hl ⊢
  have hl : lv_has ls 7 [(0, .ref (cv)), (1, .int (nI (0))), (2, .ref (bv)), (3, .int (nI (0))), (4, .int (nI (N)))] := hl
  refine lv_iconst (v := nI 0) hx hb dJ2_compress_fe38e_0 (by decide) ?_
  refine lv_istore (lv' := [(5, .int (nI (0))), (0, .ref (cv)), (1, .int (nI (0))), (2, .ref (bv)), (3, .int (nI (0))), (4, .int (nI (N)))]) hx hb dJ2_compress_fe38e_1 hl (by decide) rfl (fun ls hl => ?_)
  have L3 : ∀ (n_ : Nat) (k : Nat) (u1 : Nat → Nat) (cl sl : Nat), N - k < n_ → (k ≤ N) → (∀ i, i < k → u1 i = t i) → (cl ≤ 0) → (sl ≤ 0) → ∀ (H : Heap) (locs : List Loc), (zC G H cv N t) → (zB G H bv N u1) → va_S (fun q => q = bv) s.heap H locs → ∀ ls : Array Slot, lv_has ls 7 [(0, .ref (cv)), (1, .int (nI (k))), (2, .ref (bv)), (3, .int (nI (k))), (4, .int (nI (N))), (5, .int (nI (k)))] → W p l en (headSpec wsJ2_compress_fe38e ({ frames := 0, cells := 0, slots := 0, locals := 0 })).room s m ([.ref (cv), .int (nI (0)), .ref (bv), .int (nI (0)), .int (nI (N))] : List Value).toArray below meth c H locs cl sl (MQ below (zX (fun q => q = bv) (fun r9 H => r9 = some (.int (nI N)) ∧ zB G H bv N t)) ([.ref (cv), .int (nI (0)), .ref (bv), .int (nI (0)), .int (nI (N))] : List Value).toArray s (0) (0) (fun q => q = bv)) (F0 m 3 ls []) := by
    intro n_
    induction n_ with
    | zero => intro k u1 cl sl hm_; exact absurd hm_ (Nat.not_lt_zero _)
    | succ n_ ih_ =>
      intro k u1 cl sl hm_ hkN hu hcl hsl H locs hC hB hS ls hl
      refine lv_iload hx hb dJ2_compress_fe38e_3 (lv_at hl 5 rfl) ?_
      refine lv_iload hx hb dJ2_compress_fe38e_5 (lv_at hl 4 rfl) ?_
      refine zi_icmp_ge (tgt := 44) hx hb dJ2_compress_fe38e_7 (by decide) (by omega) (by omega) (fun c_7 => ?_) (fun c_7 => ?_)
      · refine lv_iload hx hb dJ2_compress_fe38e_44 (lv_at hl 4 rfl) ?_
        exact zx_i hx hb hr hlocks (by show cl ≤ 0; omega) (by show sl ≤ 0; omega) (⟨rfl, hB.ext (fun i hi => hu i (by omega))⟩) hS dJ2_compress_fe38e_46
      · refine lv_aload_n hx hb dJ2_compress_fe38e_10 rfl (lv_at hl 0 rfl) ?_
        refine lv_iload_n hx hb dJ2_compress_fe38e_11 rfl (lv_at hl 1 rfl) ?_
        refine zx_cald (i := k) hx hb hK hC (by omega) (by omega) dJ2_compress_fe38e_12 ?_
        refine lv_istore (lv' := [(6, .int (nI (t k))), (0, .ref (cv)), (1, .int (nI (k))), (2, .ref (bv)), (3, .int (nI (k))), (4, .int (nI (N))), (5, .int (nI (k)))]) hx hb dJ2_compress_fe38e_13 hl (by decide) rfl (fun ls hl => ?_)
        refine lv_iload hx hb dJ2_compress_fe38e_15 (lv_at hl 0 rfl) ?_
        refine lv_sipush (v := nI 255) hx hb dJ2_compress_fe38e_17 (by decide) ?_
        refine zi_icmp_le (tgt := 26) hx hb dJ2_compress_fe38e_20 (by decide) (Nat.lt_trans (h8 _) (by decide)) (by omega) (fun c_20 => ?_) (fun c_20 => ?_)
        · refine lv_aload_n hx hb dJ2_compress_fe38e_26 rfl (lv_at hl 3 rfl) ?_
          refine lv_iload_n hx hb dJ2_compress_fe38e_27 rfl (lv_at hl 4 rfl) ?_
          refine lv_iload hx hb dJ2_compress_fe38e_28 (lv_at hl 0 rfl) ?_
          refine lv_i2b (v := sb_b (t k)) hx hb dJ2_compress_fe38e_30 (rfl) ?_
          refine zx_bst (i := k) (x := t k) hx hb hK hB (by omega) (by omega) (nar_sb _) (by first | exact rfl | omega | (dsimp only; omega)) hS dJ2_compress_fe38e_31 (fun H locs hz9 hB hk9 hS => ?_)
          have hC := hC.keep hk9 (by first | exact id | exact rfl | omega | (dsimp only; omega))
          refine lv_iinc (v := nI (k + 1)) (lv' := [(1, .int (nI (k + 1))), (6, .int (nI (t k))), (0, .ref (cv)), (2, .ref (bv)), (3, .int (nI (k))), (4, .int (nI (N))), (5, .int (nI (k)))]) hx hb dJ2_compress_fe38e_32 hl (k := 2) rfl (nI_add _ _) (by decide) rfl (fun ls hl => ?_)
          refine lv_iinc (v := nI (k + 1)) (lv' := [(3, .int (nI (k + 1))), (1, .int (nI (k + 1))), (6, .int (nI (t k))), (0, .ref (cv)), (2, .ref (bv)), (4, .int (nI (N))), (5, .int (nI (k)))]) hx hb dJ2_compress_fe38e_35 hl (k := 4) rfl (nI_add _ _) (by decide) rfl (fun ls hl => ?_)
          refine lv_iinc (v := nI (k + 1)) (lv' := [(5, .int (nI (k + 1))), (3, .int (nI (k + 1))), (1, .int (nI (k + 1))), (6, .int (nI (t k))), (0, .ref (cv)), (2, .ref (bv)), (4, .int (nI (N)))]) hx hb dJ2_compress_fe38e_38 hl (k := 6) rfl (nI_add _ _) (by decide) rfl (fun ls hl => ?_)
          refine lv_goto (tgt := 3) hx hb dJ2_compress_fe38e_41 (by decide) ?_
          exact ih_ (k + 1) (upN u1 k (t k)) (cl) (sl) (by omega) (by omega) (upN_below hu) hcl hsl _ _ hC hB hS ls (lv_sub hl [4, 2, 5, 1, 6, 0] rfl)
        · exact absurd (h8 k) (by omega)
  exact L3 ((N - 0) + 1) 0 u (0) (0) (Nat.lt_succ_self _) (Nat.zero_le _) (fun i hi => absurd hi (Nat.not_lt_zero _)) (Nat.le_refl _) (Nat.le_refl _) _ _ hC hB hS ls (lv_sub hl [1, 2, 3, 4, 5, 0] rfl)

set_option maxHeartbeats 4000000 in
set_option maxRecDepth 100000 in
theorem j_cmprN (l : Launch) (G : zG) (n0 cv N : Nat) (t : Nat → Nat) (h8 : ∀ i, t i < 256) (hN : N < 2 ^ 20) : Met l yJ2_compress_dfd3c wsJ2_compress_dfd3c ({ frames := 1, cells := 1, slots := N, locals := 26 }) (zP G [.ref (cv), .int (nI (0)), .int (nI (N))] (fun H => zC G H cv N t ∧ H.size = n0)) (zX (fun q => n0 ≤ q) (fun r9 H => ∃ b : Nat, r9 = some (.ref b) ∧ n0 ≤ b ∧ b < H.size ∧ zB G H b N t)) (1) (N) (fun q => n0 ≤ q) := by
  refine Met.ofW (cc := cJ2_compress_dfd3c) (maxL := 6) (ret := (some (.array .byte))) (by decide) rfl ?_
  intro p en s m args below meth c s₁ B hml hv
  obtain ⟨rfl, hP, hK⟩ := hv
  have hx := B.exec
  have hb := B.bytes
  have hr := B.returns
  have hts := atoms_spec (ws := wsJ2_compress_dfd3c) B.pre
  have hz : ∀ w ∈ zW, w.before _ s = true := fun w h => hts w (List.mem_cons_of_mem _ h)
  have hown : s.vm.findClass RJ2 = some m.cls := findClass_of_methodNamed B.named
  have hlocks := B.notSynchronized
  obtain ⟨hC, hn0⟩ := id hP
  have hS : va_S (fun q => n0 ≤ q) s.heap s.heap [] := va_S.rf
  have hcv := hC.lt
  have hl := lv_entry ([.ref (cv), .int (nI (0)), .int (nI (N))]) (n := 6) (Nat.le_of_ble_eq_true rfl)
  rw [lg_entry_eq]
  generalize (lg_sl ([.ref (cv), .int (nI (0)), .int (nI (N))]) ++ List.replicate (6 - (lg_sl ([.ref (cv), .int (nI (0)), .int (nI (N))])).length) Slot.unset).toArray = ls at hl ⊢
  have hl : lv_has ls 6 [(0, .ref (cv)), (1, .int (nI (0))), (2, .int (nI (N)))] := hl
  refine lv_iload_n hx hb dJ2_compress_dfd3c_0 rfl (lv_at hl 2 rfl) ?_
  refine zx_newB hx hb (hz _ wAb) hK (by omega) (by show 0 + 1 ≤ 1; omega) (by show 0 + N ≤ N; omega) hS dJ2_compress_dfd3c_1 (fun b1 H he_b1 hz9 hA_b1 hk9 hS => ?_)
  have hC := hC.keep hk9 (by first | exact id | exact rfl | omega | (dsimp only; omega))
  refine lv_astore_n (lv' := [(3, .ref (b1)), (0, .ref (cv)), (1, .int (nI (0))), (2, .int (nI (N)))]) hx hb dJ2_compress_dfd3c_3 rfl hl (by decide) rfl (fun ls hl => ?_)
  refine lv_aload_n hx hb dJ2_compress_dfd3c_4 rfl (lv_at hl 1 rfl) ?_
  refine lv_iload_n hx hb dJ2_compress_dfd3c_5 rfl (lv_at hl 2 rfl) ?_
  refine lv_aload_n hx hb dJ2_compress_dfd3c_6 rfl (lv_at hl 0 rfl) ?_
  refine lv_iconst (v := nI 0) hx hb dJ2_compress_dfd3c_7 (by decide) ?_
  refine lv_iload_n hx hb dJ2_compress_dfd3c_8 rfl (lv_at hl 3 rfl) ?_
  refine zx_S (As := [.ref (cv), .int (nI (0)), .ref (b1), .int (nI (0)), .int (nI (N))]) (rest := []) ⟨hx, hb, hml, hown, hts⟩ (j_cmpr l G cv b1 N t (fun _ => 0) h8 hN (by omega)) (cwS 5 hts (zgS wm_J2_115 wu_J2_compress_fe38e) rfl rfl rfl (by decide +kernel) ⟨Nat.le_of_ble_eq_true rfl, Nat.le_of_ble_eq_true rfl⟩) hK ⟨hC, hA_b1⟩ rfl hl.1 rfl (Nat.le_of_ble_eq_true rfl) dJ2_compress_dfd3c_9 ⟨by show 0 + 1 + 0 ≤ 1; omega, by show 0 + N + 0 ≤ N; omega⟩ hS (by intro q hq; first | omega | (dsimp only at hq ⊢; omega)) (fun r9 H locs hPo hz9 hk9 hS => ?_)
  have hC := hC.keep hk9 (by first | exact id | exact rfl | omega | (dsimp only; omega))
  obtain ⟨rfl, hA_b1⟩ := hPo
  refine W.eq (g2 := F0 m 12 ls ([.int (nI (N))])) rfl ?_
  refine lv_istore (lv' := [(4, .int (nI (N))), (3, .ref (b1)), (0, .ref (cv)), (1, .int (nI (0))), (2, .int (nI (N)))]) hx hb dJ2_compress_dfd3c_12 hl (by decide) rfl (fun ls hl => ?_)
  refine lv_iload hx hb dJ2_compress_dfd3c_14 (lv_at hl 0 rfl) ?_
  refine lv_iload_n hx hb dJ2_compress_dfd3c_16 rfl (lv_at hl 4 rfl) ?_
  refine zi_icmp_eq (tgt := 57) hx hb dJ2_compress_dfd3c_17 (by decide) (by omega) (by omega) (fun c_17 => ?_) (fun c_17 => ?_)
  · refine lv_aload_n hx hb dJ2_compress_dfd3c_57 rfl (lv_at hl 1 rfl) ?_
    exact zx_a hx hb hr (by first | exact Or.inl ⟨_, rfl⟩ | exact Or.inr ⟨_, rfl⟩) hlocks (Or.inr ⟨_, rfl⟩) (by show 0 + 1 + 0 ≤ 1; omega) (by show 0 + N + 0 ≤ N; omega) (⟨b1, rfl, by omega, by omega, hA_b1⟩) hS dJ2_compress_dfd3c_58
  · exact absurd rfl c_17

set_option maxHeartbeats 4000000 in
set_option maxRecDepth 100000 in
theorem j_cfal (l : Launch) (G : zG)  (bv N : Nat) (t : Nat → Nat) : Met l yJ2_coderFromArrayLen_85cad wsJ2_coderFromArrayLen_85cad ({ frames := 0, cells := 0, slots := 0, locals := 0 }) (zP G [.ref (bv), .int (nI (N))] (fun H => zB G H bv N t)) (zR (.int (nI 0))) 0 0 (fun _ => False) := by
  refine Met.ofW (cc := cJ2_coderFromArrayLen_85cad) (maxL := 2) (ret := (some .byte)) (by decide) rfl ?_
  intro p en s m args below meth c s₁ B hml hv
  obtain ⟨rfl, hP, hK⟩ := hv
  have hx := B.exec
  have hb := B.bytes
  have hr := B.returns
  have hts := atoms_spec (ws := wsJ2_coderFromArrayLen_85cad) B.pre
  have hz : ∀ w ∈ zW, w.before _ s = true := fun w h => hts w (List.mem_cons_of_mem _ h)
  have hown : s.vm.findClass RJ2 = some m.cls := findClass_of_methodNamed B.named
  have hlocks := B.notSynchronized
  have hl := lv_entry ([.ref (bv), .int (nI (N))]) (n := 2) (Nat.le_of_ble_eq_true rfl)
  rw [lg_entry_eq]
  generalize (lg_sl ([.ref (bv), .int (nI (N))]) ++ List.replicate (2 - (lg_sl ([.ref (bv), .int (nI (N))])).length) Slot.unset).toArray = ls at hl ⊢
  have hl : lv_has ls 2 [(0, .ref (bv)), (1, .int (nI (N)))] := hl
  refine lv_iload_n hx hb dJ2_coderFromArrayLen_85cad_0 rfl (lv_at hl 1 rfl) ?_
  refine lv_aload_n hx hb dJ2_coderFromArrayLen_85cad_1 rfl (lv_at hl 0 rfl) ?_
  refine zi_lenB hx hb hK hP dJ2_coderFromArrayLen_85cad_2 ?_
  refine zi_sub hx hb (by omega) dJ2_coderFromArrayLen_85cad_3 ?_
  refine lv_bipush (v := nI 31) hx hb dJ2_coderFromArrayLen_85cad_4 (by decide) ?_
  refine lv_iushr (v := nI (0)) hx hb dJ2_coderFromArrayLen_85cad_6 (by rw [Nat.sub_self]; decide) ?_
  refine lv_i2b (v := nI (0)) hx hb dJ2_coderFromArrayLen_85cad_7 (by decide) ?_
  exact zr_t hx hb hr hlocks (by decide) (rfl) dJ2_coderFromArrayLen_85cad_8

set_option maxHeartbeats 4000000 in
set_option maxRecDepth 100000 in
theorem j_initV (l : Launch) (G : zG) (n0 th cv N : Nat) (t : Nat → Nat) (h8 : ∀ i, t i < 256) (hN1 : 0 < N) (hN : N < 2 ^ 20) (hne : cv ≠ th) : Met l yJ0_init_bb550 wsJ0_init_bb550 ({ frames := 2, cells := 1, slots := N, locals := 51 }) (zP G [.ref (th), .ref (cv), .int (nI (0)), .int (nI (N)), .null] (fun H => zO G H th 0 [.null, .int (nI 0), .int (nI 0), .int (nI 0)] ∧ zC G H cv N t ∧ CH G H ∧ cB G ≤ th ∧ H.size = n0)) (zX (fun q => q = th ∨ n0 ≤ q) (fun r9 H => r9 = none ∧ ∃ b : Nat, n0 ≤ b ∧ b < H.size ∧ zO G H th 0 [.ref b, .int (nI 0), .int (nI 0), .int (nI 0)] ∧ zB G H b N t)) (1) (N) (fun q => q = th ∨ n0 ≤ q) := by
  refine Met.ofW (cc := cJ0_init_bb550) (maxL := 6) (ret := none) (by decide) rfl ?_
  intro p en s m args below meth c s₁ B hml hv
  obtain ⟨rfl, hP, hK⟩ := hv
  have hx := B.exec
  have hb := B.bytes
  have hr := B.returns
  have hts := atoms_spec (ws := wsJ0_init_bb550) B.pre
  have hz : ∀ w ∈ zW, w.before _ s = true := fun w h => hts w (List.mem_cons_of_mem _ h)
  have hown : s.vm.findClass RJ0 = some m.cls := findClass_of_methodNamed B.named
  have hlocks := B.notSynchronized
  obtain ⟨hO, hC, hCH, hcth, hn0⟩ := id hP
  have hS : va_S (fun q => q = th ∨ n0 ≤ q) s.heap s.heap [] := va_S.rf
  have hcv := hC.lt
  have hth := hO.lt
  have hl := lv_entry ([.ref (th), .ref (cv), .int (nI (0)), .int (nI (N)), .null]) (n := 6) (Nat.le_of_ble_eq_true rfl)
  rw [lg_entry_eq]
  generalize (lg_sl ([.ref (th), .ref (cv), .int (nI (0)), .int (nI (N)), .null]) ++ List.replicate (6 - (lg_sl ([.ref (th), .ref (cv), .int (nI (0)), .int (nI (N)), .null])).length) Slot.unset).toArray = ls at hl ⊢
  have hl : lv_has ls 6 [(0, .ref (th)), (1, .ref (cv)), (2, .int (nI (0))), (3, .int (nI (N))), (4, .null)] := hl
  refine lv_aload_n hx hb dJ0_init_bb550_0 rfl (lv_at hl 0 rfl) ?_
  refine W.objInit hx hb hown (hz _ wm_J0_1) (hz _ wOn) (hz _ wOc) rfl (hl.1.trans hml.symm) rfl dJ0_init_bb550_1 (by show 1 ≤ _; exact Nat.le_of_ble_eq_true rfl) (by show _ ≤ _; exact Nat.le_of_ble_eq_true rfl) ?_
  refine W.eq (g2 := F0 m 4 ls ([])) rfl ?_
  refine lv_iload_n hx hb dJ0_init_bb550_4 rfl (lv_at hl 3 rfl) ?_
  refine zi_if_ne (tgt := 27) hx hb dJ0_init_bb550_5 (by decide) (by omega) (fun c_5 => ?_) (fun c_5 => ?_)
  · refine zi_gets (q := qCS) hx hb hK (by decide) hCH.1 hown (hz _ wf_J0_38) dJ0_init_bb550_27 ?_
    refine zi_if_eq (tgt := 58) hx hb dJ0_init_bb550_30 (by decide) (by omega) (fun c_30 => absurd c_30 (by decide)) (fun c_30 => ?_)
    refine lv_aload_n hx hb dJ0_init_bb550_33 rfl (lv_at hl 1 rfl) ?_
    refine lv_iload_n hx hb dJ0_init_bb550_34 rfl (lv_at hl 2 rfl) ?_
    refine lv_iload_n hx hb dJ0_init_bb550_35 rfl (lv_at hl 3 rfl) ?_
    refine zx_S (As := [.ref (cv), .int (nI (0)), .int (nI (N))]) (rest := []) ⟨hx, hb, hml, hown, hts⟩ (j_cmprN l G n0 cv N t h8 hN) (va_cwS 3 hts (zgX wm_J0_177 wu_J2_compress_dfd3c) rfl rfl rfl (by decide +kernel) ⟨Nat.le_of_ble_eq_true rfl, Nat.le_of_ble_eq_true rfl⟩) hK ⟨hC, hn0⟩ rfl hl.1 rfl (Nat.le_of_ble_eq_true rfl) dJ0_init_bb550_36 ⟨by show 0 + 1 ≤ 1; omega, by show 0 + N ≤ N; omega⟩ hS (by intro q hq; first | omega | (dsimp only at hq ⊢; omega)) (fun r9 H locs hPo hz9 hk9 hS => ?_)
    have hO := hO.keep hk9 (by first | exact id | exact rfl | omega | (dsimp only; omega))
    have hC := hC.keep hk9 (by first | exact id | exact rfl | omega | (dsimp only; omega))
    have hCH := hCH.keep hk9 ⟨by intro q hq; first | exact id | omega | (dsimp only; omega), by omega⟩
    obtain ⟨b, rfl, hb1, hb2, hB⟩ := hPo
    refine W.eq (g2 := F0 m 39 ls ([.ref (b)])) rfl ?_
    refine lv_astore (lv' := [(5, .ref (b)), (0, .ref (th)), (1, .ref (cv)), (2, .int (nI (0))), (3, .int (nI (N))), (4, .null)]) hx hb dJ0_init_bb550_39 hl (by decide) rfl (fun ls hl => ?_)
    refine lv_aload_n hx hb dJ0_init_bb550_41 rfl (lv_at hl 1 rfl) ?_
    refine lv_aload hx hb dJ0_init_bb550_42 (lv_at hl 0 rfl) ?_
    refine lv_iload_n hx hb dJ0_init_bb550_44 rfl (lv_at hl 4 rfl) ?_
    refine zc_S (As := [.ref (b), .int (nI (N))]) (rest := [.ref (th)]) ⟨hx, hb, hml, hown, hts⟩ (j_cfal l G b N t) (va_cwS 2 hts (zgX wm_J0_47 wu_J2_coderFromArrayLen_85cad) rfl rfl rfl (by decide +kernel) ⟨Nat.le_of_ble_eq_true rfl, Nat.le_of_ble_eq_true rfl⟩) hK hB rfl hl.1 rfl (Nat.le_of_ble_eq_true rfl) dJ0_init_bb550_45 ⟨by show 0 + 1 ≤ 1; omega, by show 0 + N ≤ N; omega⟩ ?_
    refine zx_put (C := RJ0) (T := TJ0) (N := 4) (v := .int (nI (0))) hx hb hz wo_J0 tyJ0 tyJ0_ok nmJ0 hown hK hO rfl 1 (by decide) (hz _ wf_J0_15) (fun _ h9 => h9) (Or.inr ⟨rfl, (name_of_methodNamed B.named B.method).1, rfl⟩) rfl rfl (Nat.le_of_ble_eq_true rfl) (by first | exact rfl | omega | (dsimp only; omega)) hS dJ0_init_bb550_48 (fun H locs hz9 hO hk9 hS => ?_)
    have hO : zO G H (th) 0 [.null, .int (nI (0)), .int (nI (0)), .int (nI (0))] := hO
    have hC := hC.keep hk9 (by first | exact id | exact rfl | omega | (dsimp only; omega))
    have hCH := hCH.keep hk9 ⟨by intro q hq; first | exact id | omega | (dsimp only; omega), by omega⟩
    have hB := hB.keep hk9 (by first | exact id | exact rfl | omega | (dsimp only; omega))
    refine lv_aload_n hx hb dJ0_init_bb550_51 rfl (lv_at hl 1 rfl) ?_
    refine lv_aload hx hb dJ0_init_bb550_52 (lv_at hl 0 rfl) ?_
    refine zx_put (C := RJ0) (T := TJ0) (N := 4) (v := .ref (b)) hx hb hz wo_J0 tyJ0 tyJ0_ok nmJ0 hown hK hO rfl 0 (by decide) (hz _ wf_J0_9) (fun _ h9 => h9) (Or.inr ⟨rfl, (name_of_methodNamed B.named B.method).1, rfl⟩) rfl rfl (Nat.le_of_ble_eq_true rfl) (by first | exact rfl | omega | (dsimp only; omega)) hS dJ0_init_bb550_54 (fun H locs hz9 hO hk9 hS => ?_)
    have hO : zO G H (th) 0 [.ref (b), .int (nI (0)), .int (nI (0)), .int (nI (0))] := hO
    have hC := hC.keep hk9 (by first | exact id | exact rfl | omega | (dsimp only; omega))
    have hCH := hCH.keep hk9 ⟨by intro q hq; first | exact id | omega | (dsimp only; omega), by omega⟩
    have hB := hB.keep hk9 (by first | exact id | exact rfl | omega | (dsimp only; omega))
    exact zx_v hx hb hr hlocks (by show 0 + 1 ≤ 1; omega) (by show 0 + N ≤ N; omega) (⟨rfl, b, by omega, by omega, hO, hB⟩) hS dJ0_init_bb550_57
  · exfalso; omega

set_option maxHeartbeats 4000000 in
set_option maxRecDepth 100000 in
theorem j_init (l : Launch) (G : zG) (n0 th cv N : Nat) (t : Nat → Nat) (h8 : ∀ i, t i < 256) (hN1 : 0 < N) (hN : N < 2 ^ 20) (hne : cv ≠ th) : Met l yJ0_init_905df wsJ0_init_905df ({ frames := 3, cells := 1, slots := N, locals := 76 }) (zP G [.ref (th), .ref (cv)] (fun H => zO G H th 0 [.null, .int (nI 0), .int (nI 0), .int (nI 0)] ∧ zC G H cv N t ∧ CH G H ∧ cB G ≤ th ∧ H.size = n0)) (zX (fun q => q = th ∨ n0 ≤ q) (fun r9 H => r9 = none ∧ ∃ b : Nat, n0 ≤ b ∧ b < H.size ∧ zO G H th 0 [.ref b, .int (nI 0), .int (nI 0), .int (nI 0)] ∧ zB G H b N t)) (1) (N) (fun q => q = th ∨ n0 ≤ q) := by
  refine Met.ofW (cc := cJ0_init_905df) (maxL := 2) (ret := none) (by decide) rfl ?_
  intro p en s m args below meth c s₁ B hml hv
  obtain ⟨rfl, hP, hK⟩ := hv
  have hx := B.exec
  have hb := B.bytes
  have hr := B.returns
  have hts := atoms_spec (ws := wsJ0_init_905df) B.pre
  have hz : ∀ w ∈ zW, w.before _ s = true := fun w h => hts w (List.mem_cons_of_mem _ h)
  have hown : s.vm.findClass RJ0 = some m.cls := findClass_of_methodNamed B.named
  have hlocks := B.notSynchronized
  obtain ⟨hO, hC, hCH, hcth, hn0⟩ := id hP
  have hS : va_S (fun q => q = th ∨ n0 ≤ q) s.heap s.heap [] := va_S.rf
  have hcv := hC.lt
  have hth := hO.lt
  have hl := lv_entry ([.ref (th), .ref (cv)]) (n := 2) (Nat.le_of_ble_eq_true rfl)
  rw [lg_entry_eq]
  generalize (lg_sl ([.ref (th), .ref (cv)]) ++ List.replicate (2 - (lg_sl ([.ref (th), .ref (cv)])).length) Slot.unset).toArray = ls at hl ⊢
  have hl : lv_has ls 2 [(0, .ref (th)), (1, .ref (cv))] := hl
  refine lv_aload_n hx hb dJ0_init_905df_0 rfl (lv_at hl 0 rfl) ?_
  refine lv_aload_n hx hb dJ0_init_905df_1 rfl (lv_at hl 1 rfl) ?_
  refine lv_iconst (v := nI 0) hx hb dJ0_init_905df_2 (by decide) ?_
  refine lv_aload_n hx hb dJ0_init_905df_3 rfl (lv_at hl 1 rfl) ?_
  refine zi_lenC hx hb hK hC dJ0_init_905df_4 ?_
  refine lv_null hx hb dJ0_init_905df_5 ?_
  refine zx_I (As := [.ref (cv), .int (nI (0)), .int (nI (N)), .null]) (rest := []) (b := th) ⟨hx, hb, hml, hown, hts⟩ (j_initV l G n0 th cv N t h8 hN1 hN hne) (cwI 4 hts (zgN wc_J0_init_bb550) rfl rfl rfl (hz _ wi_J0) (hz _ wm_J0_27) (hz _ wn_J0_init_bb550) rfl (by decide +kernel) ⟨Nat.le_of_ble_eq_true rfl, Nat.le_of_ble_eq_true rfl⟩) hK hP rfl hl.1 rfl (Nat.le_of_ble_eq_true rfl) dJ0_init_905df_6 ⟨by show 0 + 1 ≤ 1; omega, by show 0 + N ≤ N; omega⟩ hS (by intro q hq; first | omega | (dsimp only at hq ⊢; omega)) (fun r9 H locs hPo hz9 hk9 hS => ?_)
  obtain ⟨rfl, b, hb1, hb2, hO, hB⟩ := hPo
  refine W.eq (g2 := F0 m 9 ls ([])) rfl ?_
  exact zx_v hx hb hr hlocks (by show 0 + 1 ≤ 1; omega) (by show 0 + N ≤ N; omega) (⟨rfl, b, by omega, by omega, hO, hB⟩) hS dJ0_init_905df_9

set_option maxHeartbeats 4000000 in
set_option maxRecDepth 100000 in
theorem c_textOf (l : Launch) (G : zG) (n0 rd tp qb cn : Nat) (at9 : Value) (f : Nat → Nat) (a e9 : Nat) (he2 : e9 ≤ 2000) (ha2 : a ≤ 3000) : Met l yX0_textOf wsX0_textOf ({ frames := 4, cells := 3, slots := 2 * (e9 - a) + 4, locals := 97 }) (zP G [.ref (rd), .int (nI (a)), .int (nI (e9))] (fun H => zO G H rd 1 [.ref tp, at9] ∧ TP G tp qb cn f H ∧ CH G H ∧ H.size = n0)) (zX (fun q => n0 ≤ q) (fun r9 H => ∃ a1 : Nat, r9 = some (.ref a1) ∧ StrZ G H (zRg G n0 H.size) a1 (sg f a (e9 - a)))) (3) (2 * (e9 - a) + 4) (fun q => n0 ≤ q) := by
  refine Met.ofW (cc := cX0_textOf) (maxL := 5) (ret := (some (.object "java/lang/String"))) (by decide) rfl ?_
  intro p en s m args below meth c s₁ B hml hv
  obtain ⟨rfl, hP, hK⟩ := hv
  have hx := B.exec
  have hb := B.bytes
  have hr := B.returns
  have hts := atoms_spec (ws := wsX0_textOf) B.pre
  have hz : ∀ w ∈ zW, w.before _ s = true := fun w h => hts w (List.mem_cons_of_mem _ h)
  have hown : s.vm.findClass RX0 = some m.cls := findClass_of_methodNamed B.named
  have hlocks := B.notSynchronized
  obtain ⟨hRd, hT, hCH, hn0⟩ := id hP
  have hS : va_S (fun q => n0 ≤ q) s.heap s.heap [] := va_S.rf
  have hcb := hCH.2.2.2.2.2
  have htp := hT.1.lt
  have hqb := hT.2.1.lt
  have hrd := hRd.lt
  have h8 := hT.2.2
  have hl := lv_entry ([.ref (rd), .int (nI (a)), .int (nI (e9))]) (n := 5) (Nat.le_of_ble_eq_true rfl)
  rw [lg_entry_eq]
  generalize (lg_sl ([.ref (rd), .int (nI (a)), .int (nI (e9))]) ++ List.replicate (5 - (lg_sl ([.ref (rd), .int (nI (a)), .int (nI (e9))])).length) Slot.unset).toArray = ls at hl ⊢
  have hl : lv_has ls 5 [(0, .ref (rd)), (1, .int (nI (a))), (2, .int (nI (e9)))] := hl
  refine lv_iload_n hx hb dX0_textOf_0 rfl (lv_at hl 1 rfl) ?_
  refine lv_iload_n hx hb dX0_textOf_1 rfl (lv_at hl 2 rfl) ?_
  refine zi_icmp_lt (tgt := 8) hx hb dX0_textOf_2 (by decide) (by omega) (by omega) (fun c_2 => ?_) (fun c_2 => ?_)
  · refine lv_iload_n hx hb dX0_textOf_8 rfl (lv_at hl 2 rfl) ?_
    refine lv_iload_n hx hb dX0_textOf_9 rfl (lv_at hl 1 rfl) ?_
    refine zi_sub hx hb (by omega) dX0_textOf_10 ?_
    refine zx_newC hx hb (hz _ wAc) hK (by omega) (by show 0 + 1 ≤ 3; omega) (by show 0 + (e9 - a) ≤ 2 * (e9 - a) + 4; omega) hS dX0_textOf_11 (fun cv H he_cv hz9 hA_cv hk9 hS => ?_)
    have hRd := hRd.keep hk9 (by first | exact id | exact rfl | omega | (dsimp only; omega))
    have hT := hT.keep hk9 ⟨by first | exact id | exact rfl | omega | (dsimp only; omega), by first | exact id | exact rfl | omega | (dsimp only; omega)⟩
    have hCH := hCH.keep hk9 ⟨by intro q hq; first | exact id | omega | (dsimp only; omega), by omega⟩
    refine lv_astore_n (lv' := [(3, .ref (cv)), (0, .ref (rd)), (1, .int (nI (a))), (2, .int (nI (e9)))]) hx hb dX0_textOf_13 rfl hl (by decide) rfl (fun ls hl => ?_)
    refine lv_iconst (v := nI 0) hx hb dX0_textOf_14 (by decide) ?_
    refine lv_istore (lv' := [(4, .int (nI (0))), (3, .ref (cv)), (0, .ref (rd)), (1, .int (nI (a))), (2, .int (nI (e9)))]) hx hb dX0_textOf_15 hl (by decide) rfl (fun ls hl => ?_)
    have L17 : ∀ (n_ : Nat) (k : Nat) (u : Nat → Nat) (cl sl : Nat), e9 - a - k < n_ → (k ≤ e9 - a) → (∀ i, i < k → u i = f (a + i)) → (cl ≤ 1) → (sl ≤ e9 - a) → ∀ (H : Heap) (locs : List Loc), (zO G H rd 1 [.ref tp, at9]) → (TP G tp qb cn f H) → (CH G H) → (zC G H cv (e9 - a) u) → (H.size = n0 + 1) → va_S (fun q => n0 ≤ q) s.heap H locs → ∀ ls : Array Slot, lv_has ls 5 [(0, .ref (rd)), (1, .int (nI (a))), (2, .int (nI (e9))), (3, .ref (cv)), (4, .int (nI (k)))] → W p l en (headSpec wsX0_textOf ({ frames := 4, cells := 3, slots := 2 * (e9 - a) + 4, locals := 97 })).room s m ([.ref (rd), .int (nI (a)), .int (nI (e9))] : List Value).toArray below meth c H locs cl sl (MQ below (zX (fun q => n0 ≤ q) (fun r9 H => ∃ a1 : Nat, r9 = some (.ref a1) ∧ StrZ G H (zRg G n0 H.size) a1 (sg f a (e9 - a)))) ([.ref (rd), .int (nI (a)), .int (nI (e9))] : List Value).toArray s (3) (2 * (e9 - a) + 4) (fun q => n0 ≤ q)) (F0 m 17 ls []) := by
      intro n_
      induction n_ with
      | zero => intro k u cl sl hm_; exact absurd hm_ (Nat.not_lt_zero _)
      | succ n_ ih_ =>
        intro k u cl sl hm_ hkN hu hcl hsl H locs hRd hT hCH hA_cv hsz hS ls hl
        refine lv_iload hx hb dX0_textOf_17 (lv_at hl 4 rfl) ?_
        refine lv_aload_n hx hb dX0_textOf_19 rfl (lv_at hl 3 rfl) ?_
        refine zi_lenC hx hb hK hA_cv dX0_textOf_20 ?_
        refine zi_icmp_ge (tgt := 46) hx hb dX0_textOf_21 (by decide) (by omega) (by omega) (fun c_21 => ?_) (fun c_21 => ?_)
        · refine zx_new (C := RJ0) (T := TJ0) (N := 4) (ci := 0) (fs := [.null, .int (nI (0)), .int (nI (0)), .int (nI (0))]) hx hb hz wo_J0 tyJ0 tyJ0_ok hown (hz _ wl_X0_105) (hz _ wa_J0) (hz _ wi_J0) hK rfl df_J0 (by show cl + 1 ≤ 3; omega) (by show sl + 4 ≤ 2 * (e9 - a) + 4; omega) hS dX0_textOf_46 (fun sa H he_sa hz9 hO_sa hk9 hS => ?_)
          have hRd := hRd.keep hk9 (by first | exact id | exact rfl | omega | (dsimp only; omega))
          have hT := hT.keep hk9 ⟨by first | exact id | exact rfl | omega | (dsimp only; omega), by first | exact id | exact rfl | omega | (dsimp only; omega)⟩
          have hCH := hCH.keep hk9 ⟨by intro q hq; first | exact id | omega | (dsimp only; omega), by omega⟩
          have hA_cv := hA_cv.keep hk9 (by first | exact id | exact rfl | omega | (dsimp only; omega))
          refine lv_dup hx hb dX0_textOf_49 rfl ?_
          refine lv_aload_n hx hb dX0_textOf_50 rfl (lv_at hl 3 rfl) ?_
          refine zx_I (As := [.ref (cv)]) (rest := [.ref (sa)]) (b := sa) ⟨hx, hb, hml, hown, hts⟩ (j_init l G (n0 + 2) sa cv (e9 - a) (fun i => f (a + i)) (fun i => h8 _) (by omega) (by omega) (by omega)) (cwI 1 hts (zgN wc_J0_init_905df) rfl rfl rfl (hz _ wi_J0) (hz _ wm_X0_114) (hz _ wn_J0_init_905df) rfl (by decide +kernel) ⟨Nat.le_of_ble_eq_true rfl, Nat.le_of_ble_eq_true rfl⟩) hK ⟨hO_sa, hA_cv.ext (fun i hi => hu i (by omega)), hCH, by omega, by omega⟩ rfl hl.1 rfl (Nat.le_of_ble_eq_true rfl) dX0_textOf_51 ⟨by show cl + 1 + 1 ≤ 3; omega, by show sl + 4 + (e9 - a) ≤ 2 * (e9 - a) + 4; omega⟩ hS (by intro q hq; first | omega | (dsimp only at hq ⊢; omega)) (fun r9 H locs hPo hz9 hk9 hS => ?_)
          have hRd := hRd.keep hk9 (by first | exact id | exact rfl | omega | (dsimp only; omega))
          have hT := hT.keep hk9 ⟨by first | exact id | exact rfl | omega | (dsimp only; omega), by first | exact id | exact rfl | omega | (dsimp only; omega)⟩
          have hCH := hCH.keep hk9 ⟨by intro q hq; first | exact id | omega | (dsimp only; omega), by omega⟩
          have hA_cv := hA_cv.keep hk9 (by first | exact id | exact rfl | omega | (dsimp only; omega))
          obtain ⟨rfl, b, hb1, hb2, hO_sa, hB⟩ := hPo
          refine W.eq (g2 := F0 m 54 ls ([.ref (sa)])) rfl ?_
          exact zx_a hx hb hr (by first | exact Or.inl ⟨_, rfl⟩ | exact Or.inr ⟨_, rfl⟩) hlocks (Or.inr ⟨_, rfl⟩) (by show cl + 1 + 1 ≤ 3; omega) (by show sl + 4 + (e9 - a) ≤ 2 * (e9 - a) + 4; omega) (⟨sa, rfl, mkStr hO_sa hB (fun i hi => rfl) h8 (by omega) (Or.inl ⟨by omega, by omega⟩) (Or.inl ⟨by omega, by omega⟩)⟩) hS dX0_textOf_54
        · refine lv_aload_n hx hb dX0_textOf_24 rfl (lv_at hl 3 rfl) ?_
          refine lv_iload hx hb dX0_textOf_25 (lv_at hl 4 rfl) ?_
          refine lv_aload_n hx hb dX0_textOf_27 rfl (lv_at hl 0 rfl) ?_
          refine zi_get (C := RX0) (T := TX0) (N := 2) (v := .ref (tp)) hx hb hz wo_X0 hown hK hRd rfl 0 (by decide) (hz _ wf_X0_9) (fun _ h9 => h9) rfl dX0_textOf_28 ?_
          refine lv_iload_n hx hb dX0_textOf_31 rfl (lv_at hl 1 rfl) ?_
          refine lv_iload hx hb dX0_textOf_32 (lv_at hl 4 rfl) ?_
          refine zi_add hx hb dX0_textOf_34 ?_
          refine zc_VN (As := [.int (nI (a + k))]) (rest := [.int (nI (k)), .ref (cv)]) ⟨hx, hb, hml, hown, hts⟩ (c_byteAt l G tp qb cn f (a + k) (by omega)) ⟨va_cnB 1 hts (zgN wc_X8_byteAt) rfl rfl rfl (hK.2.1 _ wm_X0_48) (hz _ wi_X8) (by decide +kernel) ⟨Nat.le_of_ble_eq_true rfl, Nat.le_of_ble_eq_true rfl⟩, hz _ wn_X8_byteAt, hz _ we_X8_byteAt⟩ hK hT.1 rfl hT rfl hl.1 rfl (Nat.le_of_ble_eq_true rfl) dX0_textOf_35 ⟨by show cl ≤ 3; omega, by show sl ≤ 2 * (e9 - a) + 4; omega⟩ ?_
          refine lv_i2c (v := nI (f (a + k))) hx hb dX0_textOf_38 (by rw [bA, if_pos (by omega)]; exact z_i2c (h8 _)) ?_
          refine zx_cst (i := k) (x := f (a + k)) hx hb hK hA_cv (by omega) (by omega) (z_chr (h8 _)) (by first | exact rfl | omega | (dsimp only; omega)) hS dX0_textOf_39 (fun H locs hz9 hA_cv hk9 hS => ?_)
          have hRd := hRd.keep hk9 (by first | exact id | exact rfl | omega | (dsimp only; omega))
          have hT := hT.keep hk9 ⟨by first | exact id | exact rfl | omega | (dsimp only; omega), by first | exact id | exact rfl | omega | (dsimp only; omega)⟩
          have hCH := hCH.keep hk9 ⟨by intro q hq; first | exact id | omega | (dsimp only; omega), by omega⟩
          refine lv_iinc (v := nI (k + 1)) (lv' := [(4, .int (nI (k + 1))), (0, .ref (rd)), (1, .int (nI (a))), (2, .int (nI (e9))), (3, .ref (cv))]) hx hb dX0_textOf_40 hl (k := 4) rfl (nI_add _ _) (by decide) rfl (fun ls hl => ?_)
          refine lv_goto (tgt := 17) hx hb dX0_textOf_43 (by decide) ?_
          exact ih_ (k + 1) (upN u k (f (a + k))) (cl) (sl) (by omega) (by omega) (upN_below (t := fun i => f (a + i)) hu) hcl hsl _ _ hRd hT hCH hA_cv (by omega) hS ls (lv_sub hl [1, 2, 3, 4, 0] rfl)
    exact L17 ((e9 - a - 0) + 1) 0 (fun _ => 0) (0 + 1) (0 + (e9 - a)) (Nat.lt_succ_self _) (Nat.zero_le _) (fun i hi => absurd hi (Nat.not_lt_zero _)) (by omega) (by omega) _ _ hRd hT hCH hA_cv (by omega) hS ls (lv_sub hl [2, 3, 4, 1, 0] rfl)
  · refine va_ldcS hx hb hown (hK.2.2.1 ("FilterReader$DocumentReader", 23, "") (by decide)) dX0_textOf_5 ?_
    exact zx_a hx hb hr (by first | exact Or.inl ⟨_, rfl⟩ | exact Or.inr ⟨_, rfl⟩) hlocks (Or.inr ⟨_, rfl⟩) (by show 0 ≤ 3; omega) (by show 0 ≤ 2 * (e9 - a) + 4; omega) (⟨_, rfl, by rw [show e9 - a = 0 by omega]; exact (hCH.2.2.1 ("FilterReader$DocumentReader", 23, "") (by decide)).mono (fun q hq => Or.inr hq)⟩) hS dX0_textOf_7
