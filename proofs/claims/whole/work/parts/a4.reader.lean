set_option maxHeartbeats 4000000 in
set_option maxRecDepth 100000 in
theorem c_put (l : Launch) (G : zG) (tp qb cn : Nat) (f : Nat → Nat) (v : Int32) (hc : cn + 4 ≤ 2000) (hne : tp ≠ qb) (h8 : ∀ i, f i < 256) : Met l yX8_put wsX8_put ({ frames := 0, cells := 0, slots := 0, locals := 0 }) (zP G [.ref (tp), .int (v)] (fun H => TP G tp qb cn f H)) (zX (fun q => q = tp ∨ q = qb) (fun r9 H => r9 = none ∧ TP G tp qb (cn + 4) (put4 f cn v) H)) (0) (0) (fun q => q = tp ∨ q = qb) := by
  refine Met.ofW (cc := cX8_put) (maxL := 3) (ret := none) (by decide) rfl ?_
  intro p en s m args below meth c s₁ B hml hv
  obtain ⟨rfl, hP, hK⟩ := hv
  have hx := B.exec
  have hb := B.bytes
  have hr := B.returns
  have hts := atoms_spec (ws := wsX8_put) B.pre
  have hz : ∀ w ∈ zW, w.before _ s = true := fun w h => hts w (List.mem_cons_of_mem _ h)
  have hown : s.vm.findClass RX8 = some m.cls := findClass_of_methodNamed B.named
  have hlocks := B.notSynchronized
  obtain ⟨hT, hA, -⟩ := id hP
  have hS : va_S (fun q => q = tp ∨ q = qb) s.heap s.heap [] := va_S.rf
  have hl := lv_entry ([.ref (tp), .int (v)]) (n := 3) (Nat.le_of_ble_eq_true rfl)
  rw [lg_entry_eq]
  generalize (lg_sl ([.ref (tp), .int (v)]) ++ List.replicate (3 - (lg_sl ([.ref (tp), .int (v)])).length) Slot.unset).toArray = ls at hl ⊢
  have hl : lv_has ls 3 [(0, .ref (tp)), (1, .int (v))] := hl
  refine lv_bipush (v := nI 24) hx hb dX8_put_0 (by decide) ?_
  refine lv_istore_n (lv' := [(2, .int (nI (24))), (0, .ref (tp)), (1, .int (v))]) hx hb dX8_put_2 rfl hl (by decide) rfl (fun ls hl => ?_)
  refine lv_iload_n hx hb dX8_put_3 rfl (lv_at hl 0 rfl) ?_
  refine zi_if_lt (tgt := 58) hx hb dX8_put_4 (by decide) (by omega) ?_
  refine lv_aload_n hx hb dX8_put_7 rfl (lv_at hl 1 rfl) ?_
  refine zi_get (C := RX8) (T := TX8) (N := 2) (v := .int (nI (cn))) hx hb hz wo_X8 hown hK hT rfl 1 (by decide) (hz _ wf_X8_15) (fun _ h9 => h9) rfl dX8_put_8 ?_
  refine zi_if_lt (tgt := 52) hx hb dX8_put_11 (by decide) (by omega) ?_
  refine lv_aload_n hx hb dX8_put_14 rfl (lv_at hl 1 rfl) ?_
  refine zi_get (C := RX8) (T := TX8) (N := 2) (v := .int (nI (cn))) hx hb hz wo_X8 hown hK hT rfl 1 (by decide) (hz _ wf_X8_15) (fun _ h9 => h9) rfl dX8_put_15 ?_
  refine lv_aload_n hx hb dX8_put_18 rfl (lv_at hl 1 rfl) ?_
  refine zi_get (C := RX8) (T := TX8) (N := 2) (v := .ref (qb)) hx hb hz wo_X8 hown hK hT rfl 0 (by decide) (hz _ wf_X8_9) (fun _ h9 => h9) rfl dX8_put_19 ?_
  refine zi_len hx hb hK hA dX8_put_22 ?_
  refine zi_icmp_ge (tgt := 52) hx hb dX8_put_23 (by decide) (by omega) (by omega) (fun c_23 => ?_) (fun c_23 => ?_)
  · exfalso; omega
  · refine lv_aload_n hx hb dX8_put_26 rfl (lv_at hl 1 rfl) ?_
    refine zi_get (C := RX8) (T := TX8) (N := 2) (v := .ref (qb)) hx hb hz wo_X8 hown hK hT rfl 0 (by decide) (hz _ wf_X8_9) (fun _ h9 => h9) rfl dX8_put_27 ?_
    refine lv_aload_n hx hb dX8_put_30 rfl (lv_at hl 1 rfl) ?_
    refine zi_get (C := RX8) (T := TX8) (N := 2) (v := .int (nI (cn))) hx hb hz wo_X8 hown hK hT rfl 1 (by decide) (hz _ wf_X8_15) (fun _ h9 => h9) rfl dX8_put_31 ?_
    refine lv_iload_n hx hb dX8_put_34 rfl (lv_at hl 2 rfl) ?_
    refine lv_iload_n hx hb dX8_put_35 rfl (lv_at hl 0 rfl) ?_
    refine lv_iushr (v := ((v).toUInt32 >>> ((nI 24).toUInt32 &&& Int32.toUInt32 31)).toInt32) hx hb dX8_put_36 (rfl) ?_
    refine lv_sipush (v := nI 255) hx hb dX8_put_37 (by decide) ?_
    refine lv_iand hx hb dX8_put_40 ?_
    rw [show (((v).toUInt32 >>> ((nI 24).toUInt32 &&& Int32.toUInt32 31)).toInt32) &&& nI 255 = nI (byB v 24) from byB_u v 24 (by decide)]
    refine W.eq (g2 := F0 m 41 ls ([.int (nI (byB v 24)), .int (nI (cn)), .ref (qb)])) rfl ?_
    refine zx_ast (i := cn) (x := byB v 24) hx hb hK hA (by omega) (by decide)  (by first | exact rfl | omega | (dsimp only; omega)) hS dX8_put_41 (fun H locs hz9 hA hk9 hS => ?_)
    have hT := hT.keep hk9 (by first | exact id | exact rfl | omega | (dsimp only; omega))
    refine lv_aload_n hx hb dX8_put_42 rfl (lv_at hl 1 rfl) ?_
    refine lv_dup hx hb dX8_put_43 rfl ?_
    refine zi_get (C := RX8) (T := TX8) (N := 2) (v := .int (nI (cn))) hx hb hz wo_X8 hown hK hT rfl 1 (by decide) (hz _ wf_X8_15) (fun _ h9 => h9) rfl dX8_put_44 ?_
    refine lv_iconst (v := nI 1) hx hb dX8_put_47 (by decide) ?_
    refine zi_add hx hb dX8_put_48 ?_
    refine zx_put (C := RX8) (T := TX8) (N := 2) (v := .int (nI (cn + 1))) hx hb hz wo_X8 tyX8 tyX8_ok nmX8 hown hK hT rfl 1 (by decide) (hz _ wf_X8_15) (fun _ h9 => h9) (Or.inl rfl) rfl rfl (Nat.le_of_ble_eq_true rfl) (by first | exact rfl | omega | (dsimp only; omega)) hS dX8_put_49 (fun H locs hz9 hT hk9 hS => ?_)
    have hT : zO G H (tp) 7 [.ref (qb), .int (nI (cn + 1))] := hT
    have hA := hA.keep hk9 (by first | exact id | exact rfl | omega | (dsimp only; omega))
    refine lv_iinc (v := nI (16)) (lv' := [(2, .int (nI (16))), (0, .ref (tp)), (1, .int (v))]) hx hb dX8_put_52 hl (k := 0) rfl (by decide) (by decide) rfl (fun ls hl => ?_)
    refine lv_goto (tgt := 3) hx hb dX8_put_55 (by decide) ?_
    refine lv_iload_n hx hb dX8_put_3 rfl (lv_at hl 0 rfl) ?_
    refine zi_if_lt (tgt := 58) hx hb dX8_put_4 (by decide) (by omega) ?_
    refine lv_aload_n hx hb dX8_put_7 rfl (lv_at hl 1 rfl) ?_
    refine zi_get (C := RX8) (T := TX8) (N := 2) (v := .int (nI (cn + 1))) hx hb hz wo_X8 hown hK hT rfl 1 (by decide) (hz _ wf_X8_15) (fun _ h9 => h9) rfl dX8_put_8 ?_
    refine zi_if_lt (tgt := 52) hx hb dX8_put_11 (by decide) (by omega) ?_
    refine lv_aload_n hx hb dX8_put_14 rfl (lv_at hl 1 rfl) ?_
    refine zi_get (C := RX8) (T := TX8) (N := 2) (v := .int (nI (cn + 1))) hx hb hz wo_X8 hown hK hT rfl 1 (by decide) (hz _ wf_X8_15) (fun _ h9 => h9) rfl dX8_put_15 ?_
    refine lv_aload_n hx hb dX8_put_18 rfl (lv_at hl 1 rfl) ?_
    refine zi_get (C := RX8) (T := TX8) (N := 2) (v := .ref (qb)) hx hb hz wo_X8 hown hK hT rfl 0 (by decide) (hz _ wf_X8_9) (fun _ h9 => h9) rfl dX8_put_19 ?_
    refine zi_len hx hb hK hA dX8_put_22 ?_
    refine zi_icmp_ge (tgt := 52) hx hb dX8_put_23 (by decide) (by omega) (by omega) (fun c_23 => ?_) (fun c_23 => ?_)
    · exfalso; omega
    · refine lv_aload_n hx hb dX8_put_26 rfl (lv_at hl 1 rfl) ?_
      refine zi_get (C := RX8) (T := TX8) (N := 2) (v := .ref (qb)) hx hb hz wo_X8 hown hK hT rfl 0 (by decide) (hz _ wf_X8_9) (fun _ h9 => h9) rfl dX8_put_27 ?_
      refine lv_aload_n hx hb dX8_put_30 rfl (lv_at hl 1 rfl) ?_
      refine zi_get (C := RX8) (T := TX8) (N := 2) (v := .int (nI (cn + 1))) hx hb hz wo_X8 hown hK hT rfl 1 (by decide) (hz _ wf_X8_15) (fun _ h9 => h9) rfl dX8_put_31 ?_
      refine lv_iload_n hx hb dX8_put_34 rfl (lv_at hl 2 rfl) ?_
      refine lv_iload_n hx hb dX8_put_35 rfl (lv_at hl 0 rfl) ?_
      refine lv_iushr (v := ((v).toUInt32 >>> ((nI 16).toUInt32 &&& Int32.toUInt32 31)).toInt32) hx hb dX8_put_36 (rfl) ?_
      refine lv_sipush (v := nI 255) hx hb dX8_put_37 (by decide) ?_
      refine lv_iand hx hb dX8_put_40 ?_
      rw [show (((v).toUInt32 >>> ((nI 16).toUInt32 &&& Int32.toUInt32 31)).toInt32) &&& nI 255 = nI (byB v 16) from byB_u v 16 (by decide)]
      refine W.eq (g2 := F0 m 41 ls ([.int (nI (byB v 16)), .int (nI (cn + 1)), .ref (qb)])) rfl ?_
      refine zx_ast (i := cn + 1) (x := byB v 16) hx hb hK hA (by omega) (by decide)  (by first | exact rfl | omega | (dsimp only; omega)) hS dX8_put_41 (fun H locs hz9 hA hk9 hS => ?_)
      have hT := hT.keep hk9 (by first | exact id | exact rfl | omega | (dsimp only; omega))
      refine lv_aload_n hx hb dX8_put_42 rfl (lv_at hl 1 rfl) ?_
      refine lv_dup hx hb dX8_put_43 rfl ?_
      refine zi_get (C := RX8) (T := TX8) (N := 2) (v := .int (nI (cn + 1))) hx hb hz wo_X8 hown hK hT rfl 1 (by decide) (hz _ wf_X8_15) (fun _ h9 => h9) rfl dX8_put_44 ?_
      refine lv_iconst (v := nI 1) hx hb dX8_put_47 (by decide) ?_
      refine zi_add hx hb dX8_put_48 ?_
      refine zx_put (C := RX8) (T := TX8) (N := 2) (v := .int (nI (cn + 1 + 1))) hx hb hz wo_X8 tyX8 tyX8_ok nmX8 hown hK hT rfl 1 (by decide) (hz _ wf_X8_15) (fun _ h9 => h9) (Or.inl rfl) rfl rfl (Nat.le_of_ble_eq_true rfl) (by first | exact rfl | omega | (dsimp only; omega)) hS dX8_put_49 (fun H locs hz9 hT hk9 hS => ?_)
      have hT : zO G H (tp) 7 [.ref (qb), .int (nI (cn + 1 + 1))] := hT
      have hA := hA.keep hk9 (by first | exact id | exact rfl | omega | (dsimp only; omega))
      refine lv_iinc (v := nI (8)) (lv' := [(2, .int (nI (8))), (0, .ref (tp)), (1, .int (v))]) hx hb dX8_put_52 hl (k := 0) rfl (by decide) (by decide) rfl (fun ls hl => ?_)
      refine lv_goto (tgt := 3) hx hb dX8_put_55 (by decide) ?_
      refine lv_iload_n hx hb dX8_put_3 rfl (lv_at hl 0 rfl) ?_
      refine zi_if_lt (tgt := 58) hx hb dX8_put_4 (by decide) (by omega) ?_
      refine lv_aload_n hx hb dX8_put_7 rfl (lv_at hl 1 rfl) ?_
      refine zi_get (C := RX8) (T := TX8) (N := 2) (v := .int (nI (cn + 1 + 1))) hx hb hz wo_X8 hown hK hT rfl 1 (by decide) (hz _ wf_X8_15) (fun _ h9 => h9) rfl dX8_put_8 ?_
      refine zi_if_lt (tgt := 52) hx hb dX8_put_11 (by decide) (by omega) ?_
      refine lv_aload_n hx hb dX8_put_14 rfl (lv_at hl 1 rfl) ?_
      refine zi_get (C := RX8) (T := TX8) (N := 2) (v := .int (nI (cn + 1 + 1))) hx hb hz wo_X8 hown hK hT rfl 1 (by decide) (hz _ wf_X8_15) (fun _ h9 => h9) rfl dX8_put_15 ?_
      refine lv_aload_n hx hb dX8_put_18 rfl (lv_at hl 1 rfl) ?_
      refine zi_get (C := RX8) (T := TX8) (N := 2) (v := .ref (qb)) hx hb hz wo_X8 hown hK hT rfl 0 (by decide) (hz _ wf_X8_9) (fun _ h9 => h9) rfl dX8_put_19 ?_
      refine zi_len hx hb hK hA dX8_put_22 ?_
      refine zi_icmp_ge (tgt := 52) hx hb dX8_put_23 (by decide) (by omega) (by omega) (fun c_23 => ?_) (fun c_23 => ?_)
      · exfalso; omega
      · refine lv_aload_n hx hb dX8_put_26 rfl (lv_at hl 1 rfl) ?_
        refine zi_get (C := RX8) (T := TX8) (N := 2) (v := .ref (qb)) hx hb hz wo_X8 hown hK hT rfl 0 (by decide) (hz _ wf_X8_9) (fun _ h9 => h9) rfl dX8_put_27 ?_
        refine lv_aload_n hx hb dX8_put_30 rfl (lv_at hl 1 rfl) ?_
        refine zi_get (C := RX8) (T := TX8) (N := 2) (v := .int (nI (cn + 1 + 1))) hx hb hz wo_X8 hown hK hT rfl 1 (by decide) (hz _ wf_X8_15) (fun _ h9 => h9) rfl dX8_put_31 ?_
        refine lv_iload_n hx hb dX8_put_34 rfl (lv_at hl 2 rfl) ?_
        refine lv_iload_n hx hb dX8_put_35 rfl (lv_at hl 0 rfl) ?_
        refine lv_iushr (v := ((v).toUInt32 >>> ((nI 8).toUInt32 &&& Int32.toUInt32 31)).toInt32) hx hb dX8_put_36 (rfl) ?_
        refine lv_sipush (v := nI 255) hx hb dX8_put_37 (by decide) ?_
        refine lv_iand hx hb dX8_put_40 ?_
        rw [show (((v).toUInt32 >>> ((nI 8).toUInt32 &&& Int32.toUInt32 31)).toInt32) &&& nI 255 = nI (byB v 8) from byB_u v 8 (by decide)]
        refine W.eq (g2 := F0 m 41 ls ([.int (nI (byB v 8)), .int (nI (cn + 1 + 1)), .ref (qb)])) rfl ?_
        refine zx_ast (i := cn + 1 + 1) (x := byB v 8) hx hb hK hA (by omega) (by decide)  (by first | exact rfl | omega | (dsimp only; omega)) hS dX8_put_41 (fun H locs hz9 hA hk9 hS => ?_)
        have hT := hT.keep hk9 (by first | exact id | exact rfl | omega | (dsimp only; omega))
        refine lv_aload_n hx hb dX8_put_42 rfl (lv_at hl 1 rfl) ?_
        refine lv_dup hx hb dX8_put_43 rfl ?_
        refine zi_get (C := RX8) (T := TX8) (N := 2) (v := .int (nI (cn + 1 + 1))) hx hb hz wo_X8 hown hK hT rfl 1 (by decide) (hz _ wf_X8_15) (fun _ h9 => h9) rfl dX8_put_44 ?_
        refine lv_iconst (v := nI 1) hx hb dX8_put_47 (by decide) ?_
        refine zi_add hx hb dX8_put_48 ?_
        refine zx_put (C := RX8) (T := TX8) (N := 2) (v := .int (nI (cn + 1 + 1 + 1))) hx hb hz wo_X8 tyX8 tyX8_ok nmX8 hown hK hT rfl 1 (by decide) (hz _ wf_X8_15) (fun _ h9 => h9) (Or.inl rfl) rfl rfl (Nat.le_of_ble_eq_true rfl) (by first | exact rfl | omega | (dsimp only; omega)) hS dX8_put_49 (fun H locs hz9 hT hk9 hS => ?_)
        have hT : zO G H (tp) 7 [.ref (qb), .int (nI (cn + 1 + 1 + 1))] := hT
        have hA := hA.keep hk9 (by first | exact id | exact rfl | omega | (dsimp only; omega))
        refine lv_iinc (v := nI (0)) (lv' := [(2, .int (nI (0))), (0, .ref (tp)), (1, .int (v))]) hx hb dX8_put_52 hl (k := 0) rfl (by decide) (by decide) rfl (fun ls hl => ?_)
        refine lv_goto (tgt := 3) hx hb dX8_put_55 (by decide) ?_
        refine lv_iload_n hx hb dX8_put_3 rfl (lv_at hl 0 rfl) ?_
        refine zi_if_lt (tgt := 58) hx hb dX8_put_4 (by decide) (by omega) ?_
        refine lv_aload_n hx hb dX8_put_7 rfl (lv_at hl 1 rfl) ?_
        refine zi_get (C := RX8) (T := TX8) (N := 2) (v := .int (nI (cn + 1 + 1 + 1))) hx hb hz wo_X8 hown hK hT rfl 1 (by decide) (hz _ wf_X8_15) (fun _ h9 => h9) rfl dX8_put_8 ?_
        refine zi_if_lt (tgt := 52) hx hb dX8_put_11 (by decide) (by omega) ?_
        refine lv_aload_n hx hb dX8_put_14 rfl (lv_at hl 1 rfl) ?_
        refine zi_get (C := RX8) (T := TX8) (N := 2) (v := .int (nI (cn + 1 + 1 + 1))) hx hb hz wo_X8 hown hK hT rfl 1 (by decide) (hz _ wf_X8_15) (fun _ h9 => h9) rfl dX8_put_15 ?_
        refine lv_aload_n hx hb dX8_put_18 rfl (lv_at hl 1 rfl) ?_
        refine zi_get (C := RX8) (T := TX8) (N := 2) (v := .ref (qb)) hx hb hz wo_X8 hown hK hT rfl 0 (by decide) (hz _ wf_X8_9) (fun _ h9 => h9) rfl dX8_put_19 ?_
        refine zi_len hx hb hK hA dX8_put_22 ?_
        refine zi_icmp_ge (tgt := 52) hx hb dX8_put_23 (by decide) (by omega) (by omega) (fun c_23 => ?_) (fun c_23 => ?_)
        · exfalso; omega
        · refine lv_aload_n hx hb dX8_put_26 rfl (lv_at hl 1 rfl) ?_
          refine zi_get (C := RX8) (T := TX8) (N := 2) (v := .ref (qb)) hx hb hz wo_X8 hown hK hT rfl 0 (by decide) (hz _ wf_X8_9) (fun _ h9 => h9) rfl dX8_put_27 ?_
          refine lv_aload_n hx hb dX8_put_30 rfl (lv_at hl 1 rfl) ?_
          refine zi_get (C := RX8) (T := TX8) (N := 2) (v := .int (nI (cn + 1 + 1 + 1))) hx hb hz wo_X8 hown hK hT rfl 1 (by decide) (hz _ wf_X8_15) (fun _ h9 => h9) rfl dX8_put_31 ?_
          refine lv_iload_n hx hb dX8_put_34 rfl (lv_at hl 2 rfl) ?_
          refine lv_iload_n hx hb dX8_put_35 rfl (lv_at hl 0 rfl) ?_
          refine lv_iushr (v := ((v).toUInt32 >>> ((nI 0).toUInt32 &&& Int32.toUInt32 31)).toInt32) hx hb dX8_put_36 (rfl) ?_
          refine lv_sipush (v := nI 255) hx hb dX8_put_37 (by decide) ?_
          refine lv_iand hx hb dX8_put_40 ?_
          rw [show (((v).toUInt32 >>> ((nI 0).toUInt32 &&& Int32.toUInt32 31)).toInt32) &&& nI 255 = nI (byB v 0) from byB_u v 0 (by decide)]
          refine W.eq (g2 := F0 m 41 ls ([.int (nI (byB v 0)), .int (nI (cn + 1 + 1 + 1)), .ref (qb)])) rfl ?_
          refine zx_ast (i := cn + 1 + 1 + 1) (x := byB v 0) hx hb hK hA (by omega) (by decide)  (by first | exact rfl | omega | (dsimp only; omega)) hS dX8_put_41 (fun H locs hz9 hA hk9 hS => ?_)
          have hT := hT.keep hk9 (by first | exact id | exact rfl | omega | (dsimp only; omega))
          refine lv_aload_n hx hb dX8_put_42 rfl (lv_at hl 1 rfl) ?_
          refine lv_dup hx hb dX8_put_43 rfl ?_
          refine zi_get (C := RX8) (T := TX8) (N := 2) (v := .int (nI (cn + 1 + 1 + 1))) hx hb hz wo_X8 hown hK hT rfl 1 (by decide) (hz _ wf_X8_15) (fun _ h9 => h9) rfl dX8_put_44 ?_
          refine lv_iconst (v := nI 1) hx hb dX8_put_47 (by decide) ?_
          refine zi_add hx hb dX8_put_48 ?_
          refine zx_put (C := RX8) (T := TX8) (N := 2) (v := .int (nI (cn + 1 + 1 + 1 + 1))) hx hb hz wo_X8 tyX8 tyX8_ok nmX8 hown hK hT rfl 1 (by decide) (hz _ wf_X8_15) (fun _ h9 => h9) (Or.inl rfl) rfl rfl (Nat.le_of_ble_eq_true rfl) (by first | exact rfl | omega | (dsimp only; omega)) hS dX8_put_49 (fun H locs hz9 hT hk9 hS => ?_)
          have hT : zO G H (tp) 7 [.ref (qb), .int (nI (cn + 1 + 1 + 1 + 1))] := hT
          have hA := hA.keep hk9 (by first | exact id | exact rfl | omega | (dsimp only; omega))
          refine lv_iinc (v := (-8)) (lv' := [(2, .int ((-8))), (0, .ref (tp)), (1, .int (v))]) hx hb dX8_put_52 hl (k := 0) rfl (by decide) (by decide) rfl (fun ls hl => ?_)
          refine lv_goto (tgt := 3) hx hb dX8_put_55 (by decide) ?_
          refine lv_iload_n hx hb dX8_put_3 rfl (lv_at hl 0 rfl) ?_
          refine lv_if_lt (tgt := 58) hx hb dX8_put_4 (by decide) (fun c_4 => ?_) (fun c_4 => absurd c_4 (by decide))
          exact zx_v hx hb hr hlocks (by show 0 ≤ 0; omega) (by show 0 ≤ 0; omega) (⟨rfl, hT, hA, upN_b (upN_b (upN_b (upN_b h8 (byB_lt v 24)) (byB_lt v 16)) (byB_lt v 8)) (byB_lt v 0)⟩) hS dX8_put_58

set_option maxHeartbeats 4000000 in
set_option maxRecDepth 100000 in
theorem c_clear (l : Launch) (G : zG) (tp qb cn : Nat) (f : Nat → Nat) (hne : tp ≠ qb) : Met l yX8_clear wsX8_clear ({ frames := 0, cells := 0, slots := 0, locals := 0 }) (zP G [.ref (tp)] (fun H => TP G tp qb cn f H)) (zX (fun q => q = tp) (fun r9 H => r9 = none ∧ TP G tp qb 0 f H)) (0) (0) (fun q => q = tp) := by
  refine Met.ofW (cc := cX8_clear) (maxL := 1) (ret := none) (by decide) rfl ?_
  intro p en s m args below meth c s₁ B hml hv
  obtain ⟨rfl, hP, hK⟩ := hv
  have hx := B.exec
  have hb := B.bytes
  have hr := B.returns
  have hts := atoms_spec (ws := wsX8_clear) B.pre
  have hz : ∀ w ∈ zW, w.before _ s = true := fun w h => hts w (List.mem_cons_of_mem _ h)
  have hown : s.vm.findClass RX8 = some m.cls := findClass_of_methodNamed B.named
  have hlocks := B.notSynchronized
  obtain ⟨hT, hA, h8⟩ := id hP
  have hS : va_S (fun q => q = tp) s.heap s.heap [] := va_S.rf
  have hl := lv_entry ([.ref (tp)]) (n := 1) (Nat.le_of_ble_eq_true rfl)
  rw [lg_entry_eq]
  generalize (lg_sl ([.ref (tp)]) ++ List.replicate (1 - (lg_sl ([.ref (tp)])).length) Slot.unset).toArray = ls at hl ⊢
  have hl : lv_has ls 1 [(0, .ref (tp))] := hl
  refine lv_aload_n hx hb dX8_clear_0 rfl (lv_at hl 0 rfl) ?_
  refine lv_iconst (v := nI 0) hx hb dX8_clear_1 (by decide) ?_
  refine zx_put (C := RX8) (T := TX8) (N := 2) (v := .int (nI (0))) hx hb hz wo_X8 tyX8 tyX8_ok nmX8 hown hK hT rfl 1 (by decide) (hz _ wf_X8_15) (fun _ h9 => h9) (Or.inl rfl) rfl rfl (Nat.le_of_ble_eq_true rfl) (by first | exact rfl | omega | (dsimp only; omega)) hS dX8_clear_2 (fun H locs hz9 hT hk9 hS => ?_)
  have hT : zO G H (tp) 7 [.ref (qb), .int (nI (0))] := hT
  have hA := hA.keep hk9 (by first | exact id | exact rfl | omega | (dsimp only; omega))
  exact zx_v hx hb hr hlocks (by show 0 ≤ 0; omega) (by show 0 ≤ 0; omega) (⟨rfl, hT, hA, h8⟩) hS dX8_clear_5

set_option maxHeartbeats 4000000 in
set_option maxRecDepth 100000 in
theorem c_tinit (l : Launch) (G : zG) (n0 th : Nat) (hth : th < n0) : Met l yX8_init wsX8_init ({ frames := 1, cells := 1, slots := 2000, locals := 21 }) (zP G [.ref (th)] (fun H => zO G H th 7 [.null, .int (nI 0)] ∧ H.size = n0)) (zX (fun q => q = th ∨ n0 ≤ q) (fun r9 H => r9 = none ∧ ∃ qb : Nat, n0 ≤ qb ∧ qb < H.size ∧ TP G th qb 0 (fun _ => 0) H)) (1) (2000) (fun q => q = th ∨ n0 ≤ q) := by
  refine Met.ofW (cc := cX8_init) (maxL := 1) (ret := none) (by decide) rfl ?_
  intro p en s m args below meth c s₁ B hml hv
  obtain ⟨rfl, hP, hK⟩ := hv
  have hx := B.exec
  have hb := B.bytes
  have hr := B.returns
  have hts := atoms_spec (ws := wsX8_init) B.pre
  have hz : ∀ w ∈ zW, w.before _ s = true := fun w h => hts w (List.mem_cons_of_mem _ h)
  have hown : s.vm.findClass RX8 = some m.cls := findClass_of_methodNamed B.named
  have hlocks := B.notSynchronized
  obtain ⟨hT, hn0⟩ := id hP
  have hS : va_S (fun q => q = th ∨ n0 ≤ q) s.heap s.heap [] := va_S.rf
  have hl := lv_entry ([.ref (th)]) (n := 1) (Nat.le_of_ble_eq_true rfl)
  rw [lg_entry_eq]
  generalize (lg_sl ([.ref (th)]) ++ List.replicate (1 - (lg_sl ([.ref (th)])).length) Slot.unset).toArray = ls at hl ⊢
  have hl : lv_has ls 1 [(0, .ref (th))] := hl
  refine lv_aload_n hx hb dX8_init_0 rfl (lv_at hl 0 rfl) ?_
  refine W.objInit hx hb hown (hz _ wm_X8_3) (hz _ wOn) (hz _ wOc) rfl (hl.1.trans hml.symm) rfl dX8_init_1 (by show 1 ≤ _; exact Nat.le_of_ble_eq_true rfl) (by show _ ≤ _; exact Nat.le_of_ble_eq_true rfl) ?_
  refine W.eq (g2 := F0 m 4 ls ([])) rfl ?_
  refine lv_aload_n hx hb dX8_init_4 rfl (lv_at hl 0 rfl) ?_
  refine lv_sipush (v := nI 2000) hx hb dX8_init_5 (by decide) ?_
  refine zx_newA hx hb (hz _ wAi) hK (by omega) (by show 0 + 1 ≤ 1; omega) (by show 0 + 2000 ≤ 2000; omega) hS dX8_init_8 (fun qb H he_qb hz9 hA_qb hk9 hS => ?_)
  have hT := hT.keep hk9 (by first | exact id | exact rfl | omega | (dsimp only; omega))
  refine zx_put (C := RX8) (T := TX8) (N := 2) (v := .ref (qb)) hx hb hz wo_X8 tyX8 tyX8_ok nmX8 hown hK hT rfl 0 (by decide) (hz _ wf_X8_9) (fun _ h9 => h9) (Or.inr ⟨rfl, (name_of_methodNamed B.named B.method).1, rfl⟩) rfl rfl (Nat.le_of_ble_eq_true rfl) (by first | exact rfl | omega | (dsimp only; omega)) hS dX8_init_10 (fun H locs hz9 hT hk9 hS => ?_)
  have hT : zO G H (th) 7 [.ref (qb), .int (nI (0))] := hT
  have hA_qb := hA_qb.keep hk9 (by first | exact id | exact rfl | omega | (dsimp only; omega))
  exact zx_v hx hb hr hlocks (by show 0 + 1 ≤ 1; omega) (by show 0 + 2000 ≤ 2000; omega) (⟨rfl, qb, by omega, by omega, hT, hA_qb, fun _ => by show 0 < 256; decide⟩) hS dX8_init_13

set_option maxHeartbeats 4000000 in
set_option maxRecDepth 100000 in
theorem c_minit (l : Launch) (G : zG) (n0 th : Nat) (hth : th < n0) : Met l yX4_init wsX4_init ({ frames := 2, cells := 1, slots := 9, locals := 44 }) (zP G [.ref (th)] (fun H => zO G H th 4 [.null] ∧ H.size = n0)) (zX (fun q => q = th ∨ n0 ≤ q) (fun r9 H => r9 = none ∧ ∃ ms : Nat, n0 ≤ ms ∧ ms < H.size ∧ zO G H th 4 [.ref ms] ∧ zO G H ms 8 (vF 0 (-1) (G.2.2 "") (G.2.2 "") 0 none none none 0))) (1) (9) (fun q => q = th ∨ n0 ≤ q) := by
  refine Met.ofW (cc := cX4_init) (maxL := 1) (ret := none) (by decide) rfl ?_
  intro p en s m args below meth c s₁ B hml hv
  obtain ⟨rfl, hP, hK⟩ := hv
  have hx := B.exec
  have hb := B.bytes
  have hr := B.returns
  have hts := atoms_spec (ws := wsX4_init) B.pre
  have hz : ∀ w ∈ zW, w.before _ s = true := fun w h => hts w (List.mem_cons_of_mem _ h)
  have hown : s.vm.findClass RX4 = some m.cls := findClass_of_methodNamed B.named
  have hlocks := B.notSynchronized
  obtain ⟨hT, hn0⟩ := id hP
  have hS : va_S (fun q => q = th ∨ n0 ≤ q) s.heap s.heap [] := va_S.rf
  have hl := lv_entry ([.ref (th)]) (n := 1) (Nat.le_of_ble_eq_true rfl)
  rw [lg_entry_eq]
  generalize (lg_sl ([.ref (th)]) ++ List.replicate (1 - (lg_sl ([.ref (th)])).length) Slot.unset).toArray = ls at hl ⊢
  have hl : lv_has ls 1 [(0, .ref (th))] := hl
  refine lv_aload_n hx hb dX4_init_0 rfl (lv_at hl 0 rfl) ?_
  refine W.objInit hx hb hown (hz _ wm_X4_3) (hz _ wOn) (hz _ wOc) rfl (hl.1.trans hml.symm) rfl dX4_init_1 (by show 1 ≤ _; exact Nat.le_of_ble_eq_true rfl) (by show _ ≤ _; exact Nat.le_of_ble_eq_true rfl) ?_
  refine W.eq (g2 := F0 m 4 ls ([])) rfl ?_
  refine lv_aload_n hx hb dX4_init_4 rfl (lv_at hl 0 rfl) ?_
  refine zx_new (C := RX9) (T := TX9) (N := 9) (ci := 8) (fs := [.int (nI (0)), .int (nI (0)), .null, .null, .long (0), .null, .null, .null, .int (nI (0))]) hx hb hz wo_X9 tyX9 tyX9_ok hown (hz _ wl_X4_9) (hz _ wa_X9) (hz _ wi_X9) hK rfl df_X9 (by show 0 + 1 ≤ 1; omega) (by show 0 + 9 ≤ 9; omega) hS dX4_init_5 (fun ms H he_ms hz9 hO_ms hk9 hS => ?_)
  have hT := hT.keep hk9 (by first | exact id | exact rfl | omega | (dsimp only; omega))
  refine lv_dup hx hb dX4_init_8 rfl ?_
  refine lv_iconst (v := nI 0) hx hb dX4_init_9 (by decide) ?_
  refine lv_iconst (v := (-1)) hx hb dX4_init_10 (by decide) ?_
  refine va_ldcS hx hb hown (hK.2.2.1 ("FilterReader$Matcher", 13, "") (by decide)) dX4_init_11 ?_
  refine zx_IN (As := [.int (nI (0)), .int ((-1)), .ref (G.2.2 "")]) (rest := [.ref (ms), .ref (th)]) (b := ms) ⟨hx, hb, hml, hown, hts⟩ (c_vinit l G ms 0 (G.2.2 "") (-1)) ⟨va_cnB 3 hts (zgN wc_X9_init) rfl rfl rfl (hK.2.1 _ wm_X4_15) (hz _ wi_X9) (by decide +kernel) ⟨Nat.le_of_ble_eq_true rfl, Nat.le_of_ble_eq_true rfl⟩, rfl, hz _ wn_X9_init⟩ hK hO_ms rfl hl.1 rfl (Nat.le_of_ble_eq_true rfl) dX4_init_13 ⟨by show 0 + 1 + 0 ≤ 1; omega, by show 0 + 9 + 0 ≤ 9; omega⟩ hS (by intro q hq; first | omega | (dsimp only at hq ⊢; omega)) (fun r9 H locs hPo hz9 hk9 hS => ?_)
  have hT := hT.keep hk9 (by first | exact id | exact rfl | omega | (dsimp only; omega))
  obtain ⟨rfl, hO_ms⟩ := hPo
  refine W.eq (g2 := F0 m 16 ls ([.ref (ms), .ref (th)])) rfl ?_
  refine zx_put (C := RX4) (T := TX4) (N := 1) (v := .ref (ms)) hx hb hz wo_X4 tyX4 tyX4_ok nmX4 hown hK hT rfl 0 (by decide) (hz _ wf_X4_18) (fun _ h9 => h9) (Or.inr ⟨rfl, (name_of_methodNamed B.named B.method).1, rfl⟩) rfl rfl (Nat.le_of_ble_eq_true rfl) (by first | exact rfl | omega | (dsimp only; omega)) hS dX4_init_16 (fun H locs hz9 hT hk9 hS => ?_)
  have hT : zO G H (th) 4 [.ref (ms)] := hT
  have hO_ms := hO_ms.keep hk9 (by first | exact id | exact rfl | omega | (dsimp only; omega))
  exact zx_v hx hb hr hlocks (by show 0 + 1 + 0 ≤ 1; omega) (by show 0 + 9 + 0 ≤ 9; omega) (⟨rfl, ms, by omega, by omega, hT, hO_ms⟩) hS dX4_init_19

set_option maxHeartbeats 4000000 in
set_option maxRecDepth 100000 in
theorem c_slot_y (l : Launch) (G : zG) (x tp mt sl fa : Nat) (pl : Int32) (sv : Nat → Option Nat) (i : Nat) (hi : i < 4) : Met l yX10_slotAt wsX10_slotAt ({ frames := 0, cells := 0, slots := 0, locals := 0 }) (zP G [.ref (x), .int (nI (i))] (fun H => zO G H x 9 [.ref tp, .ref mt, .ref sl, .ref fa, .int pl] ∧ zE G 3 H sl 4 sv)) (zR (va_rf (sv i))) 0 0 (fun _ => False) := by
  refine Met.ofW (cc := cX10_slotAt) (maxL := 2) (ret := (some (.object "FilterReader$Value"))) (by decide) rfl ?_
  intro p en s m args below meth c s₁ B hml hv
  obtain ⟨rfl, hP, hK⟩ := hv
  have hx := B.exec
  have hb := B.bytes
  have hr := B.returns
  have hts := atoms_spec (ws := wsX10_slotAt) B.pre
  have hz : ∀ w ∈ zW, w.before _ s = true := fun w h => hts w (List.mem_cons_of_mem _ h)
  have hown : s.vm.findClass RX10 = some m.cls := findClass_of_methodNamed B.named
  have hlocks := B.notSynchronized
  obtain ⟨hX, hE⟩ := id hP
  have hl := lv_entry ([.ref (x), .int (nI (i))]) (n := 2) (Nat.le_of_ble_eq_true rfl)
  rw [lg_entry_eq]
  generalize (lg_sl ([.ref (x), .int (nI (i))]) ++ List.replicate (2 - (lg_sl ([.ref (x), .int (nI (i))])).length) Slot.unset).toArray = ls at hl ⊢
  have hl : lv_has ls 2 [(0, .ref (x)), (1, .int (nI (i)))] := hl
  refine lv_iload_n hx hb dX10_slotAt_0 rfl (lv_at hl 1 rfl) ?_
  refine zi_if_lt (tgt := 22) hx hb dX10_slotAt_1 (by decide) (by omega) ?_
  refine lv_iload_n hx hb dX10_slotAt_4 rfl (lv_at hl 1 rfl) ?_
  refine lv_aload_n hx hb dX10_slotAt_5 rfl (lv_at hl 0 rfl) ?_
  refine zi_get (C := RX10) (T := TX10) (N := 5) (v := .ref (sl)) hx hb hz wo_X10 hown hK hX rfl 2 (by decide) (hz _ wf_X10_25) (fun _ h9 => h9) rfl dX10_slotAt_6 ?_
  refine zi_lenE hx hb hK (Or.inl rfl) hE dX10_slotAt_9 ?_
  refine zi_icmp_ge (tgt := 22) hx hb dX10_slotAt_10 (by decide) (by omega) (by decide) (fun c_10 => ?_) (fun c_10 => ?_)
  · exfalso; omega
  · refine lv_aload_n hx hb dX10_slotAt_13 rfl (lv_at hl 0 rfl) ?_
    refine zi_get (C := RX10) (T := TX10) (N := 5) (v := .ref (sl)) hx hb hz wo_X10 hown hK hX rfl 2 (by decide) (hz _ wf_X10_25) (fun _ h9 => h9) rfl dX10_slotAt_14 ?_
    refine lv_iload_n hx hb dX10_slotAt_17 rfl (lv_at hl 1 rfl) ?_
    refine zi_aldE (i := i) hx hb hK (Or.inl rfl) hE (by omega) (by decide) dX10_slotAt_18 ?_
    refine lv_goto (tgt := 23) hx hb dX10_slotAt_19 (by decide) ?_
    exact zr_a hx hb hr hlocks (va_rf_or _) (rfl) dX10_slotAt_23

set_option maxHeartbeats 4000000 in
set_option maxRecDepth 100000 in
theorem c_slot_n (l : Launch) (G : zG) (x tp mt sl fa : Nat) (pl : Int32) (sv : Nat → Option Nat) (y : Int32) (hy : is4i y = false) : Met l yX10_slotAt wsX10_slotAt ({ frames := 0, cells := 0, slots := 0, locals := 0 }) (zP G [.ref (x), .int (y)] (fun H => zO G H x 9 [.ref tp, .ref mt, .ref sl, .ref fa, .int pl] ∧ zE G 3 H sl 4 sv)) (zR (.null)) 0 0 (fun _ => False) := by
  refine Met.ofW (cc := cX10_slotAt) (maxL := 2) (ret := (some (.object "FilterReader$Value"))) (by decide) rfl ?_
  intro p en s m args below meth c s₁ B hml hv
  obtain ⟨rfl, hP, hK⟩ := hv
  have hx := B.exec
  have hb := B.bytes
  have hr := B.returns
  have hts := atoms_spec (ws := wsX10_slotAt) B.pre
  have hz : ∀ w ∈ zW, w.before _ s = true := fun w h => hts w (List.mem_cons_of_mem _ h)
  have hown : s.vm.findClass RX10 = some m.cls := findClass_of_methodNamed B.named
  have hlocks := B.notSynchronized
  obtain ⟨hX, hE⟩ := id hP
  have hl := lv_entry ([.ref (x), .int (y)]) (n := 2) (Nat.le_of_ble_eq_true rfl)
  rw [lg_entry_eq]
  generalize (lg_sl ([.ref (x), .int (y)]) ++ List.replicate (2 - (lg_sl ([.ref (x), .int (y)])).length) Slot.unset).toArray = ls at hl ⊢
  have hl : lv_has ls 2 [(0, .ref (x)), (1, .int (y))] := hl
  refine lv_iload_n hx hb dX10_slotAt_0 rfl (lv_at hl 1 rfl) ?_
  refine lv_if_lt (tgt := 22) hx hb dX10_slotAt_1 (by decide) (fun c_1 => ?_) (fun c_1 => ?_)
  · refine lv_null hx hb dX10_slotAt_22 ?_
    exact zr_a hx hb hr hlocks (Or.inl rfl) (rfl) dX10_slotAt_23
  · refine lv_iload_n hx hb dX10_slotAt_4 rfl (lv_at hl 1 rfl) ?_
    refine lv_aload_n hx hb dX10_slotAt_5 rfl (lv_at hl 0 rfl) ?_
    refine zi_get (C := RX10) (T := TX10) (N := 5) (v := .ref (sl)) hx hb hz wo_X10 hown hK hX rfl 2 (by decide) (hz _ wf_X10_25) (fun _ h9 => h9) rfl dX10_slotAt_6 ?_
    refine zi_lenE hx hb hK (Or.inl rfl) hE dX10_slotAt_9 ?_
    refine lv_icmp_ge (tgt := 22) hx hb dX10_slotAt_10 (by decide) (fun c_10 => ?_) (fun c_10 => ?_)
    · refine lv_null hx hb dX10_slotAt_22 ?_
      exact zr_a hx hb hr hlocks (Or.inl rfl) (rfl) dX10_slotAt_23
    · exact absurd hy (by rw [is4i, decide_eq_true]; decide; first | exact ⟨c_1, c_10⟩ | exact ⟨c_1, Int32.not_le.mp c_10⟩ | exact ⟨Int32.not_lt.mpr c_1, c_10⟩)

set_option maxHeartbeats 4000000 in
set_option maxRecDepth 100000 in
theorem c_filt_y (l : Launch) (G : zG) (x tp mt sl fa : Nat) (pl : Int32) (sv : Nat → Option Nat) (i : Nat) (hi : i < 4) : Met l yX10_filterAt wsX10_filterAt ({ frames := 0, cells := 0, slots := 0, locals := 0 }) (zP G [.ref (x), .int (nI (i))] (fun H => zO G H x 9 [.ref tp, .ref mt, .ref sl, .ref fa, .int pl] ∧ zE G 4 H fa 4 sv)) (zR (va_rf (sv i))) 0 0 (fun _ => False) := by
  refine Met.ofW (cc := cX10_filterAt) (maxL := 2) (ret := (some (.object "FilterReader$Filter"))) (by decide) rfl ?_
  intro p en s m args below meth c s₁ B hml hv
  obtain ⟨rfl, hP, hK⟩ := hv
  have hx := B.exec
  have hb := B.bytes
  have hr := B.returns
  have hts := atoms_spec (ws := wsX10_filterAt) B.pre
  have hz : ∀ w ∈ zW, w.before _ s = true := fun w h => hts w (List.mem_cons_of_mem _ h)
  have hown : s.vm.findClass RX10 = some m.cls := findClass_of_methodNamed B.named
  have hlocks := B.notSynchronized
  obtain ⟨hX, hE⟩ := id hP
  have hl := lv_entry ([.ref (x), .int (nI (i))]) (n := 2) (Nat.le_of_ble_eq_true rfl)
  rw [lg_entry_eq]
  generalize (lg_sl ([.ref (x), .int (nI (i))]) ++ List.replicate (2 - (lg_sl ([.ref (x), .int (nI (i))])).length) Slot.unset).toArray = ls at hl ⊢
  have hl : lv_has ls 2 [(0, .ref (x)), (1, .int (nI (i)))] := hl
  refine lv_iload_n hx hb dX10_filterAt_0 rfl (lv_at hl 1 rfl) ?_
  refine zi_if_lt (tgt := 22) hx hb dX10_filterAt_1 (by decide) (by omega) ?_
  refine lv_iload_n hx hb dX10_filterAt_4 rfl (lv_at hl 1 rfl) ?_
  refine lv_aload_n hx hb dX10_filterAt_5 rfl (lv_at hl 0 rfl) ?_
  refine zi_get (C := RX10) (T := TX10) (N := 5) (v := .ref (fa)) hx hb hz wo_X10 hown hK hX rfl 3 (by decide) (hz _ wf_X10_38) (fun _ h9 => h9) rfl dX10_filterAt_6 ?_
  refine zi_lenE hx hb hK (Or.inr rfl) hE dX10_filterAt_9 ?_
  refine zi_icmp_ge (tgt := 22) hx hb dX10_filterAt_10 (by decide) (by omega) (by decide) (fun c_10 => ?_) (fun c_10 => ?_)
  · exfalso; omega
  · refine lv_aload_n hx hb dX10_filterAt_13 rfl (lv_at hl 0 rfl) ?_
    refine zi_get (C := RX10) (T := TX10) (N := 5) (v := .ref (fa)) hx hb hz wo_X10 hown hK hX rfl 3 (by decide) (hz _ wf_X10_38) (fun _ h9 => h9) rfl dX10_filterAt_14 ?_
    refine lv_iload_n hx hb dX10_filterAt_17 rfl (lv_at hl 1 rfl) ?_
    refine zi_aldE (i := i) hx hb hK (Or.inr rfl) hE (by omega) (by decide) dX10_filterAt_18 ?_
    refine lv_goto (tgt := 23) hx hb dX10_filterAt_19 (by decide) ?_
    exact zr_a hx hb hr hlocks (va_rf_or _) (rfl) dX10_filterAt_23

set_option maxHeartbeats 4000000 in
set_option maxRecDepth 100000 in
theorem c_filt_n (l : Launch) (G : zG) (x tp mt sl fa : Nat) (pl : Int32) (sv : Nat → Option Nat) (y : Int32) (hy : is4i y = false) : Met l yX10_filterAt wsX10_filterAt ({ frames := 0, cells := 0, slots := 0, locals := 0 }) (zP G [.ref (x), .int (y)] (fun H => zO G H x 9 [.ref tp, .ref mt, .ref sl, .ref fa, .int pl] ∧ zE G 4 H fa 4 sv)) (zR (.null)) 0 0 (fun _ => False) := by
  refine Met.ofW (cc := cX10_filterAt) (maxL := 2) (ret := (some (.object "FilterReader$Filter"))) (by decide) rfl ?_
  intro p en s m args below meth c s₁ B hml hv
  obtain ⟨rfl, hP, hK⟩ := hv
  have hx := B.exec
  have hb := B.bytes
  have hr := B.returns
  have hts := atoms_spec (ws := wsX10_filterAt) B.pre
  have hz : ∀ w ∈ zW, w.before _ s = true := fun w h => hts w (List.mem_cons_of_mem _ h)
  have hown : s.vm.findClass RX10 = some m.cls := findClass_of_methodNamed B.named
  have hlocks := B.notSynchronized
  obtain ⟨hX, hE⟩ := id hP
  have hl := lv_entry ([.ref (x), .int (y)]) (n := 2) (Nat.le_of_ble_eq_true rfl)
  rw [lg_entry_eq]
  generalize (lg_sl ([.ref (x), .int (y)]) ++ List.replicate (2 - (lg_sl ([.ref (x), .int (y)])).length) Slot.unset).toArray = ls at hl ⊢
  have hl : lv_has ls 2 [(0, .ref (x)), (1, .int (y))] := hl
  refine lv_iload_n hx hb dX10_filterAt_0 rfl (lv_at hl 1 rfl) ?_
  refine lv_if_lt (tgt := 22) hx hb dX10_filterAt_1 (by decide) (fun c_1 => ?_) (fun c_1 => ?_)
  · refine lv_null hx hb dX10_filterAt_22 ?_
    exact zr_a hx hb hr hlocks (Or.inl rfl) (rfl) dX10_filterAt_23
  · refine lv_iload_n hx hb dX10_filterAt_4 rfl (lv_at hl 1 rfl) ?_
    refine lv_aload_n hx hb dX10_filterAt_5 rfl (lv_at hl 0 rfl) ?_
    refine zi_get (C := RX10) (T := TX10) (N := 5) (v := .ref (fa)) hx hb hz wo_X10 hown hK hX rfl 3 (by decide) (hz _ wf_X10_38) (fun _ h9 => h9) rfl dX10_filterAt_6 ?_
    refine zi_lenE hx hb hK (Or.inr rfl) hE dX10_filterAt_9 ?_
    refine lv_icmp_ge (tgt := 22) hx hb dX10_filterAt_10 (by decide) (fun c_10 => ?_) (fun c_10 => ?_)
    · refine lv_null hx hb dX10_filterAt_22 ?_
      exact zr_a hx hb hr hlocks (Or.inl rfl) (rfl) dX10_filterAt_23
    · exact absurd hy (by rw [is4i, decide_eq_true]; decide; first | exact ⟨c_1, c_10⟩ | exact ⟨c_1, Int32.not_le.mp c_10⟩ | exact ⟨Int32.not_lt.mpr c_1, c_10⟩)

set_option maxHeartbeats 4000000 in
set_option maxRecDepth 100000 in
theorem c_place (l : Launch) (G : zG) (x tp mt sl fa : Nat) (pl : Int32) : Met l yX10_place wsX10_place ({ frames := 0, cells := 0, slots := 0, locals := 0 }) (zP G [.ref (x)] (fun H => zO G H x 9 [.ref tp, .ref mt, .ref sl, .ref fa, .int pl])) (zR (.int pl)) 0 0 (fun _ => False) := by
  refine Met.ofW (cc := cX10_place) (maxL := 1) (ret := (some .int)) (by decide) rfl ?_
  intro p en s m args below meth c s₁ B hml hv
  obtain ⟨rfl, hP, hK⟩ := hv
  have hx := B.exec
  have hb := B.bytes
  have hr := B.returns
  have hts := atoms_spec (ws := wsX10_place) B.pre
  have hz : ∀ w ∈ zW, w.before _ s = true := fun w h => hts w (List.mem_cons_of_mem _ h)
  have hown : s.vm.findClass RX10 = some m.cls := findClass_of_methodNamed B.named
  have hlocks := B.notSynchronized
  obtain hX := id hP
  have hl := lv_entry ([.ref (x)]) (n := 1) (Nat.le_of_ble_eq_true rfl)
  rw [lg_entry_eq]
  generalize (lg_sl ([.ref (x)]) ++ List.replicate (1 - (lg_sl ([.ref (x)])).length) Slot.unset).toArray = ls at hl ⊢
  have hl : lv_has ls 1 [(0, .ref (x))] := hl
  refine lv_aload_n hx hb dX10_place_0 rfl (lv_at hl 0 rfl) ?_
  refine zi_get (C := RX10) (T := TX10) (N := 5) (v := .int (pl)) hx hb hz wo_X10 hown hK hX rfl 4 (by decide) (hz _ wf_X10_45) (fun _ h9 => h9) rfl dX10_place_1 ?_
  exact zr_i hx hb hr hlocks (rfl) dX10_place_4

set_option maxHeartbeats 4000000 in
set_option maxRecDepth 100000 in
theorem c_take (l : Launch) (G : zG) (x tp mt sl fa : Nat) (pl : Int32) (n0 qb cn nn : Nat) (f : Nat → Nat) (hnn : nn ≤ 2000) (hxn : x < n0) (htn : tp < n0) (hqn : qb < n0) (hne : tp ≠ qb) (hxt : x ≠ tp) (hct : cB G ≤ tp) : Met l yX10_takeDocument wsX10_takeDocument ({ frames := 58, cells := 4 * nn + 2, slots := 10 * nn + 11, locals := 1530 }) (zP G [.ref (x), .int (nI (nn))] (fun H => zO G H x 9 [.ref tp, .ref mt, .ref sl, .ref fa, .int pl] ∧ TP G tp qb cn f H ∧ CH G H ∧ H.size = n0)) (zX (fun q => q = tp ∨ n0 ≤ q) (fun r9 H => ∃ o8 : Option Nat, r9 = some (va_rf o8) ∧ TP G tp qb 0 f H ∧ (o8 = none → dcB f 0 nn = false) ∧ ∀ v, o8 = some v → dcB f 0 nn = true ∧ n0 ≤ v ∧ ∃ hv, hv ≤ H.size ∧ Nod G H f nI 16 v hv 3 0 [] (-1) none)) (4 * nn + 2) (10 * nn + 11) (fun q => q = tp ∨ n0 ≤ q) := by
  refine Met.ofW (cc := cX10_takeDocument) (maxL := 3) (ret := (some (.object "FilterReader$Value"))) (by decide) rfl ?_
  intro p en s m args below meth c s₁ B hml hv
  obtain ⟨rfl, hP, hK⟩ := hv
  have hx := B.exec
  have hb := B.bytes
  have hr := B.returns
  have hts := atoms_spec (ws := wsX10_takeDocument) B.pre
  have hz : ∀ w ∈ zW, w.before _ s = true := fun w h => hts w (List.mem_cons_of_mem _ h)
  have hown : s.vm.findClass RX10 = some m.cls := findClass_of_methodNamed B.named
  have hlocks := B.notSynchronized
  obtain ⟨hX, hT, hCH, hn0⟩ := id hP
  have hS : va_S (fun q => q = tp ∨ n0 ≤ q) s.heap s.heap [] := va_S.rf
  have hcb := hCH.2.2.2.2.2
  have hl := lv_entry ([.ref (x), .int (nI (nn))]) (n := 3) (Nat.le_of_ble_eq_true rfl)
  rw [lg_entry_eq]
  generalize (lg_sl ([.ref (x), .int (nI (nn))]) ++ List.replicate (3 - (lg_sl ([.ref (x), .int (nI (nn))])).length) Slot.unset).toArray = ls at hl ⊢
  have hl : lv_has ls 3 [(0, .ref (x)), (1, .int (nI (nn)))] := hl
  refine zx_new (C := RX0) (T := TX0) (N := 2) (ci := 1) (fs := [.null, .int (nI (0))]) hx hb hz wo_X0 tyX0 tyX0_ok hown (hz _ wl_X10_105) (hz _ wa_X0) (hz _ wi_X0) hK rfl df_X0 (by show 0 + 1 ≤ 4 * nn + 2; omega) (by show 0 + 2 ≤ 10 * nn + 11; omega) hS dX10_takeDocument_0 (fun rd H he_rd hz9 hO_rd hk9 hS => ?_)
  have hX := hX.keep hk9 (by first | exact id | exact rfl | omega | (dsimp only; omega))
  have hT := hT.keep hk9 ⟨by first | exact id | exact rfl | omega | (dsimp only; omega), by first | exact id | exact rfl | omega | (dsimp only; omega)⟩
  have hCH := hCH.keep hk9 ⟨by intro q hq; first | exact id | omega | (dsimp only; omega), by omega⟩
  refine lv_dup hx hb dX10_takeDocument_3 rfl ?_
  refine lv_aload_n hx hb dX10_takeDocument_4 rfl (lv_at hl 0 rfl) ?_
  refine zi_get (C := RX10) (T := TX10) (N := 5) (v := .ref (tp)) hx hb hz wo_X10 hown hK hX rfl 0 (by decide) (hz _ wf_X10_10) (fun _ h9 => h9) rfl dX10_takeDocument_5 ?_
  refine zx_IN (As := [.ref (tp)]) (rest := [.ref (rd)]) (b := rd) ⟨hx, hb, hml, hown, hts⟩ (c_rinit l G rd tp) ⟨va_cnB 1 hts (zgN wc_X0_init) rfl rfl rfl (hK.2.1 _ wm_X10_107) (hz _ wi_X0) (by decide +kernel) ⟨Nat.le_of_ble_eq_true rfl, Nat.le_of_ble_eq_true rfl⟩, rfl, hz _ wn_X0_init⟩ hK hO_rd rfl hl.1 rfl (Nat.le_of_ble_eq_true rfl) dX10_takeDocument_8 ⟨by show 0 + 1 + 0 ≤ 4 * nn + 2; omega, by show 0 + 2 + 0 ≤ 10 * nn + 11; omega⟩ hS (by intro q hq; first | omega | (dsimp only at hq ⊢; omega)) (fun r9 H locs hPo hz9 hk9 hS => ?_)
  have hX := hX.keep hk9 (by first | exact id | exact rfl | omega | (dsimp only; omega))
  have hT := hT.keep hk9 ⟨by first | exact id | exact rfl | omega | (dsimp only; omega), by first | exact id | exact rfl | omega | (dsimp only; omega)⟩
  have hCH := hCH.keep hk9 ⟨by intro q hq; first | exact id | omega | (dsimp only; omega), by omega⟩
  obtain ⟨rfl, hO_rd⟩ := hPo
  refine W.eq (g2 := F0 m 11 ls ([.ref (rd)])) rfl ?_
  refine lv_iload_n hx hb dX10_takeDocument_11 rfl (lv_at hl 1 rfl) ?_
  refine zx_VN (As := [.int (nI (nn))]) (rest := []) ⟨hx, hb, hml, hown, hts⟩ (c_rwhole l G tp qb cn f H.size rd nn (nI 0) (by omega) (by omega) hnn) ⟨va_cnB 1 hts (zgN wc_X0_readWhole) rfl rfl rfl (hK.2.1 _ wm_X10_110) (hz _ wi_X0) (by decide +kernel) ⟨Nat.le_of_ble_eq_true rfl, Nat.le_of_ble_eq_true rfl⟩, hz _ wn_X0_readWhole, hz _ we_X0_readWhole⟩ hK hO_rd rfl ⟨hO_rd, hT, hCH, rfl, by omega⟩ rfl hl.1 rfl (Nat.le_of_ble_eq_true rfl) dX10_takeDocument_12 ⟨by show 0 + 1 + 0 + (4 * nn + 1) ≤ 4 * nn + 2; omega, by show 0 + 2 + 0 + (10 * nn + 9) ≤ 10 * nn + 11; omega⟩ hS (by intro q hq; first | omega | (dsimp only at hq ⊢; omega)) (fun r9 H locs hPo hz9 hk9 hS => ?_)
  have hX := hX.keep hk9 (by first | exact id | exact rfl | omega | (dsimp only; omega))
  have hT := hT.keep hk9 ⟨by first | exact id | exact rfl | omega | (dsimp only; omega), by first | exact id | exact rfl | omega | (dsimp only; omega)⟩
  have hCH := hCH.keep hk9 ⟨by intro q hq; first | exact id | omega | (dsimp only; omega), by omega⟩
  obtain ⟨o8, rfl, hno, hyes⟩ := hPo
  obtain ⟨hv, hhv⟩ : ∃ z, H.size = z := ⟨_, rfl⟩
  have hyes : ∀ v, o8 = some v → dcB f 0 nn = true ∧ n0 ≤ v ∧ Nod G H f nI 16 v hv 3 0 [] (-1) none := fun v hov => ⟨(hyes v hov).1, by have := (hyes v hov).2.1; omega, by rw [← hhv]; exact (hyes v hov).2.2⟩
  refine W.eq (g2 := F0 m 15 ls ([va_rf (o8)])) rfl ?_
  refine zo_astore_n (lv' := [(2, va_rf (o8)), (0, .ref (x)), (1, .int (nI (nn)))]) hx hb dX10_takeDocument_15 rfl hl (by decide) rfl (fun ls hl => ?_)
  refine lv_aload_n hx hb dX10_takeDocument_16 rfl (lv_at hl 1 rfl) ?_
  refine zi_get (C := RX10) (T := TX10) (N := 5) (v := .ref (tp)) hx hb hz wo_X10 hown hK hX rfl 0 (by decide) (hz _ wf_X10_10) (fun _ h9 => h9) rfl dX10_takeDocument_17 ?_
  refine zx_VN (As := []) (rest := []) ⟨hx, hb, hml, hown, hts⟩ (c_clear l G tp qb cn f hne) ⟨va_cnB 0 hts (zgN wc_X8_clear) rfl rfl rfl (hK.2.1 _ wm_X10_113) (hz _ wi_X8) (by decide +kernel) ⟨Nat.le_of_ble_eq_true rfl, Nat.le_of_ble_eq_true rfl⟩, hz _ wn_X8_clear, hz _ we_X8_clear⟩ hK hT.1 rfl hT rfl hl.1 rfl (Nat.le_of_ble_eq_true rfl) dX10_takeDocument_20 ⟨by show 0 + 1 + 0 + (4 * nn + 1) + 0 ≤ 4 * nn + 2; omega, by show 0 + 2 + 0 + (10 * nn + 9) + 0 ≤ 10 * nn + 11; omega⟩ hS (by intro q hq; first | omega | (dsimp only at hq ⊢; omega)) (fun r9 H locs hPo hz9 hk9 hS => ?_)
  have hX := hX.keep hk9 (by first | exact id | exact rfl | omega | (dsimp only; omega))
  have hCH := hCH.keep hk9 ⟨by intro q hq; first | exact id | omega | (dsimp only; omega), by omega⟩
  have hyes : ∀ v, o8 = some v → dcB f 0 nn = true ∧ n0 ≤ v ∧ Nod G H f nI 16 v hv 3 0 [] (-1) none := fun v hov => ⟨(hyes v hov).1, (hyes v hov).2.1, (hyes v hov).2.2.keep hk9 (fun q hq => by have h1 := (hyes v hov).2.1; have h2 := hCH.2.2.2.2.2; first | omega | (dsimp only; omega))⟩
  obtain ⟨rfl, hT⟩ := hPo
  refine W.eq (g2 := F0 m 23 ls ([])) rfl ?_
  refine zo_aload_n hx hb dX10_takeDocument_23 rfl (lv_at hl 0 rfl) ?_
  exact zx_a hx hb hr (by first | exact Or.inl ⟨_, rfl⟩ | exact Or.inr ⟨_, rfl⟩) hlocks (va_rf_or _) (by show 0 + 1 + 0 + (4 * nn + 1) + 0 ≤ 4 * nn + 2; omega) (by show 0 + 2 + 0 + (10 * nn + 9) + 0 ≤ 10 * nn + 11; omega) (⟨o8, rfl, hT, hno, fun v hov => ⟨(hyes v hov).1, (hyes v hov).2.1, hv, by omega, (hyes v hov).2.2⟩⟩) hS dX10_takeDocument_24
