set_option maxHeartbeats 4000000 in
set_option maxRecDepth 100000 in
theorem j_cmpr (l : Launch) (G : zG) (cv bv N : Nat) (t u : Nat → Nat) (h8 : ∀ i, t i < 256) (hN : N < 2 ^ 20) (hne : cv ≠ bv) : Met l yJ2_compress_fe38e wsJ2_compress_fe38e ({ frames := 0, cells := 0, slots := 0, locals := 0 }) (zP G [.ref (cv), .int (nI (0)), .ref (bv), .int (nI (0)), .int (nI (N))] (fun H => zC G H cv N t ∧ zB G H bv N u)) (zX (fun q => q = bv) (fun r9 H => r9 = some (.int (nI N)) ∧ zB G H bv N t)) (0) (0) (fun q => q = bv) := by
  refine Met.ofW (cc := cJ2_compress_fe38e) (maxL := 7) (ret := (some .int)) (by decide) rfl ?_
  intro p en s m args below meth c s₁ B hml hv
  obtain ⟨rfl, hP, hK⟩ := hv
  have hx := B.exec
  have hb := B.bytes
  have hr := B.returns
  have hts := atoms_spec (ws := wsJ2_compress_fe38e) B.pre
  have hz : ∀ w ∈ zW, w.before _ s = true := fun w h => hts w (List.mem_cons_of_mem _ h)
  have hown : s.vm.findClass RJ2 = some m.cls := findClass_of_methodNamed B.named
  have hlocks := B.notSynchronized
  obtain ⟨hC, hB⟩ := id hP
  have hS : va_S (fun q => q = bv) s.heap s.heap [] := va_S.rf
  have hl := lv_entry ([.ref (cv), .int (nI (0)), .ref (bv), .int (nI (0)), .int (nI (N))]) (n := 7) (Nat.le_of_ble_eq_true rfl)
  rw [lg_entry_eq]
  generalize (lg_sl ([.ref (cv), .int (nI (0)), .ref (bv), .int (nI (0)), .int (nI (N))]) ++ List.replicate (7 - (lg_sl ([.ref (cv), .int (nI (0)), .ref (bv), .int (nI (0)), .int (nI (N))])).length) Slot.unset).toArray = ls at hl ⊢
  have hl : lv_has ls 7 [(0, .ref (cv)), (1, .int (nI (0))), (2, .ref (bv)), (3, .int (nI (0))), (4, .int (nI (N)))] := hl
  refine lv_iconst (v := nI 0) hx hb dJ2_compress_fe38e_0 (by decide) ?_
  refine lv_istore (lv' := [(5, .int (nI (0))), (0, .ref (cv)), (1, .int (nI (0))), (2, .ref (bv)), (3, .int (nI (0))), (4, .int (nI (N)))]) hx hb dJ2_compress_fe38e_1 hl (by decide) rfl (fun ls hl => ?_)
  have L3 : ∀ (n_ : Nat) (k : Nat) (u1 : Nat → Nat) (cl sl : Nat), N - k < n_ → (k ≤ N) → (∀ i, i < k → u1 i = t i) → (cl ≤ 0) → (sl ≤ 0) → ∀ (H : Heap) (locs : List Loc), (zC G H cv N t) → (zB G H bv N u1) → va_S (fun q => q = bv) s.heap H locs → ∀ ls : Array Slot, lv_has ls 7 [(0, .ref (cv)), (1, .int (nI (k))), (2, .ref (bv)), (3, .int (nI (k))), (4, .int (nI (N))), (5, .int (nI (k)))] → W p l en (headSpec wsJ2_compress_fe38e ({ frames := 0, cells := 0, slots := 0, locals := 0 })).room s m ([.ref (cv), .int (nI (0)), .ref (bv), .int (nI (0)), .int (nI (N))] : List Value).toArray below meth c H locs cl sl (MQ below (zX (fun q => q = bv) (fun r9 H => r9 = some (.int (nI N)) ∧ zB G H bv N t)) ([.ref (cv), .int (nI (0)), .ref (bv), .int (nI (0)), .int (nI (N))] : List Value).toArray s (0) (0) (fun q => q = bv)) (F0 m 3 ls []) := by
    intro n_
    induction n_ with
    | zero => intro k u1 cl sl hm_; exact absurd hm_ (Nat.not_lt_zero _)
    | succ n_ ih_ =>
      intro k u1 cl sl hm_ hkN hu hcl hsl H locs hC hB hS ls hl
      refine lv_iload hx hb dJ2_compress_fe38e_3 (lv_at hl 5 rfl) ?_
      refine lv_iload hx hb dJ2_compress_fe38e_5 (lv_at hl 4 rfl) ?_
      refine zi_icmp_ge (tgt := 44) hx hb dJ2_compress_fe38e_7 (by decide) (by omega) (by omega) (fun c_7 => ?_) (fun c_7 => ?_)
      · refine lv_iload hx hb dJ2_compress_fe38e_44 (lv_at hl 4 rfl) ?_
        exact zx_i hx hb hr hlocks (by show cl ≤ 0; omega) (by show sl ≤ 0; omega) (⟨rfl, hB.ext (fun i hi => hu i (by omega))⟩) hS dJ2_compress_fe38e_46
      · refine lv_aload_n hx hb dJ2_compress_fe38e_10 rfl (lv_at hl 0 rfl) ?_
        refine lv_iload_n hx hb dJ2_compress_fe38e_11 rfl (lv_at hl 1 rfl) ?_
        refine zx_cald (i := k) hx hb hK hC (by omega) (by omega) dJ2_compress_fe38e_12 ?_
        refine lv_istore (lv' := [(6, .int (nI (t k))), (0, .ref (cv)), (1, .int (nI (k))), (2, .ref (bv)), (3, .int (nI (k))), (4, .int (nI (N))), (5, .int (nI (k)))]) hx hb dJ2_compress_fe38e_13 hl (by decide) rfl (fun ls hl => ?_)
        refine lv_iload hx hb dJ2_compress_fe38e_15 (lv_at hl 0 rfl) ?_
        refine lv_sipush (v := nI 255) hx hb dJ2_compress_fe38e_17 (by decide) ?_
        refine zi_icmp_le (tgt := 26) hx hb dJ2_compress_fe38e_20 (by decide) (Nat.lt_trans (h8 _) (by decide)) (by omega) (fun c_20 => ?_) (fun c_20 => ?_)
        · refine lv_aload_n hx hb dJ2_compress_fe38e_26 rfl (lv_at hl 3 rfl) ?_
          refine lv_iload_n hx hb dJ2_compress_fe38e_27 rfl (lv_at hl 4 rfl) ?_
          refine lv_iload hx hb dJ2_compress_fe38e_28 (lv_at hl 0 rfl) ?_
          refine lv_i2b (v := sb_b (t k)) hx hb dJ2_compress_fe38e_30 (rfl) ?_
          refine zx_bst (i := k) (x := t k) hx hb hK hB (by omega) (by omega) (nar_sb _) (by first | exact rfl | omega | (dsimp only; omega)) hS dJ2_compress_fe38e_31 (fun H locs hz9 hB hk9 hS => ?_)
          have hC := hC.keep hk9 (by first | exact id | exact rfl | omega | (dsimp only; omega))
          refine lv_iinc (v := nI (k + 1)) (lv' := [(1, .int (nI (k + 1))), (6, .int (nI (t k))), (0, .ref (cv)), (2, .ref (bv)), (3, .int (nI (k))), (4, .int (nI (N))), (5, .int (nI (k)))]) hx hb dJ2_compress_fe38e_32 hl (k := 2) rfl (nI_add _ _) (by decide) rfl (fun ls hl => ?_)
          refine lv_iinc (v := nI (k + 1)) (lv' := [(3, .int (nI (k + 1))), (1, .int (nI (k + 1))), (6, .int (nI (t k))), (0, .ref (cv)), (2, .ref (bv)), (4, .int (nI (N))), (5, .int (nI (k)))]) hx hb dJ2_compress_fe38e_35 hl (k := 4) rfl (nI_add _ _) (by decide) rfl (fun ls hl => ?_)
          refine lv_iinc (v := nI (k + 1)) (lv' := [(5, .int (nI (k + 1))), (3, .int (nI (k + 1))), (1, .int (nI (k + 1))), (6, .int (nI (t k))), (0, .ref (cv)), (2, .ref (bv)), (4, .int (nI (N)))]) hx hb dJ2_compress_fe38e_38 hl (k := 6) rfl (nI_add _ _) (by decide) rfl (fun ls hl => ?_)
          refine lv_goto (tgt := 3) hx hb dJ2_compress_fe38e_41 (by decide) ?_
          exact ih_ (k + 1) (upN u1 k (t k)) (cl) (sl) (by omega) (by omega) (upN_below hu) hcl hsl _ _ hC hB hS ls (lv_sub hl [4, 2, 5, 1, 6, 0] rfl)
        · exact absurd (h8 k) (by omega)
  exact L3 ((N - 0) + 1) 0 u (0) (0) (Nat.lt_succ_self _) (Nat.zero_le _) (fun i hi => absurd hi (Nat.not_lt_zero _)) (Nat.le_refl _) (Nat.le_refl _) _ _ hC hB hS ls (lv_sub hl [1, 2, 3, 4, 5, 0] rfl)

set_option maxHeartbeats 4000000 in
set_option maxRecDepth 100000 in
theorem j_cmprN (l : Launch) (G : zG) (n0 cv N : Nat) (t : Nat → Nat) (h8 : ∀ i, t i < 256) (hN : N < 2 ^ 20) : Met l yJ2_compress_dfd3c wsJ2_compress_dfd3c ({ frames := 1, cells := 1, slots := N, locals := 26 }) (zP G [.ref (cv), .int (nI (0)), .int (nI (N))] (fun H => zC G H cv N t ∧ H.size = n0)) (zX (fun q => n0 ≤ q) (fun r9 H => ∃ b : Nat, r9 = some (.ref b) ∧ n0 ≤ b ∧ b < H.size ∧ zB G H b N t)) (1) (N) (fun q => n0 ≤ q) := by
  refine Met.ofW (cc := cJ2_compress_dfd3c) (maxL := 6) (ret := (some (.array .byte))) (by decide) rfl ?_
  intro p en s m args below meth c s₁ B hml hv
  obtain ⟨rfl, hP, hK⟩ := hv
  have hx := B.exec
  have hb := B.bytes
  have hr := B.returns
  have hts := atoms_spec (ws := wsJ2_compress_dfd3c) B.pre
  have hz : ∀ w ∈ zW, w.before _ s = true := fun w h => hts w (List.mem_cons_of_mem _ h)
  have hown : s.vm.findClass RJ2 = some m.cls := findClass_of_methodNamed B.named
  have hlocks := B.notSynchronized
  obtain ⟨hC, hn0⟩ := id hP
  have hS : va_S (fun q => n0 ≤ q) s.heap s.heap [] := va_S.rf
  have hcv := hC.lt
  have hl := lv_entry ([.ref (cv), .int (nI (0)), .int (nI (N))]) (n := 6) (Nat.le_of_ble_eq_true rfl)
  rw [lg_entry_eq]
  generalize (lg_sl ([.ref (cv), .int (nI (0)), .int (nI (N))]) ++ List.replicate (6 - (lg_sl ([.ref (cv), .int (nI (0)), .int (nI (N))])).length) Slot.unset).toArray = ls at hl ⊢
  have hl : lv_has ls 6 [(0, .ref (cv)), (1, .int (nI (0))), (2, .int (nI (N)))] := hl
  refine lv_iload_n hx hb dJ2_compress_dfd3c_0 rfl (lv_at hl 2 rfl) ?_
  refine zx_newB hx hb (hz _ wAb) hK (by omega) (by show 0 + 1 ≤ 1; omega) (by show 0 + N ≤ N; omega) hS dJ2_compress_dfd3c_1 (fun b1 H he_b1 hz9 hA_b1 hk9 hS => ?_)
  have hC := hC.keep hk9 (by first | exact id | exact rfl | omega | (dsimp only; omega))
  refine lv_astore_n (lv' := [(3, .ref (b1)), (0, .ref (cv)), (1, .int (nI (0))), (2, .int (nI (N)))]) hx hb dJ2_compress_dfd3c_3 rfl hl (by decide) rfl (fun ls hl => ?_)
  refine lv_aload_n hx hb dJ2_compress_dfd3c_4 rfl (lv_at hl 1 rfl) ?_
  refine lv_iload_n hx hb dJ2_compress_dfd3c_5 rfl (lv_at hl 2 rfl) ?_
  refine lv_aload_n hx hb dJ2_compress_dfd3c_6 rfl (lv_at hl 0 rfl) ?_
  refine lv_iconst (v := nI 0) hx hb dJ2_compress_dfd3c_7 (by decide) ?_
  refine lv_iload_n hx hb dJ2_compress_dfd3c_8 rfl (lv_at hl 3 rfl) ?_
  refine zx_S (As := [.ref (cv), .int (nI (0)), .ref (b1), .int (nI (0)), .int (nI (N))]) (rest := []) ⟨hx, hb, hml, hown, hts⟩ (j_cmpr l G cv b1 N t (fun _ => 0) h8 hN (by omega)) (cwS 5 hts (zgS wm_J2_115 wu_J2_compress_fe38e) rfl rfl rfl (by decide +kernel) ⟨Nat.le_of_ble_eq_true rfl, Nat.le_of_ble_eq_true rfl⟩) hK ⟨hC, hA_b1⟩ rfl hl.1 rfl (Nat.le_of_ble_eq_true rfl) dJ2_compress_dfd3c_9 ⟨by show 0 + 1 + 0 ≤ 1; omega, by show 0 + N + 0 ≤ N; omega⟩ hS (by intro q hq; first | omega | (dsimp only at hq ⊢; omega)) (fun r9 H locs hPo hz9 hk9 hS => ?_)
  have hC := hC.keep hk9 (by first | exact id | exact rfl | omega | (dsimp only; omega))
  obtain ⟨rfl, hA_b1⟩ := hPo
  refine W.eq (g2 := F0 m 12 ls ([.int (nI (N))])) rfl ?_
  refine lv_istore (lv' := [(4, .int (nI (N))), (3, .ref (b1)), (0, .ref (cv)), (1, .int (nI (0))), (2, .int (nI (N)))]) hx hb dJ2_compress_dfd3c_12 hl (by decide) rfl (fun ls hl => ?_)
  refine lv_iload hx hb dJ2_compress_dfd3c_14 (lv_at hl 0 rfl) ?_
  refine lv_iload_n hx hb dJ2_compress_dfd3c_16 rfl (lv_at hl 4 rfl) ?_
  refine zi_icmp_eq (tgt := 57) hx hb dJ2_compress_dfd3c_17 (by decide) (by omega) (by omega) (fun c_17 => ?_) (fun c_17 => ?_)
  · refine lv_aload_n hx hb dJ2_compress_dfd3c_57 rfl (lv_at hl 1 rfl) ?_
    exact zx_a hx hb hr (by first | exact Or.inl ⟨_, rfl⟩ | exact Or.inr ⟨_, rfl⟩) hlocks (Or.inr ⟨_, rfl⟩) (by show 0 + 1 + 0 ≤ 1; omega) (by show 0 + N + 0 ≤ N; omega) (⟨b1, rfl, by omega, by omega, hA_b1⟩) hS dJ2_compress_dfd3c_58
  · exact absurd rfl c_17
