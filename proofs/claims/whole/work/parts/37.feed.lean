set_option maxHeartbeats 4000000 in
set_option maxRecDepth 100000 in
theorem m_put (l : Launch) (G : zG) (o qs : Nat) (w : Nat → Value) (f : Nat → Nat) (tp : Nat) (v : Int32) (ht : tp + 4 ≤ 2000) : Met l yX11_put wsX11_put ({ frames := 0, cells := 0, slots := 0, locals := 0 }) (zP G [.ref (o), .int (v)] (fun H => MT G o qs w f tp H)) (zQ (fun x => x = o ∨ x = qs) none (fun H => MT G o qs w (put4 f (16000 + tp) v) (tp + 4) H)) 0 0 (fun x => x = o ∨ x = qs) := by
  refine Met.ofW (cc := cX11_put) (maxL := 3) (ret := none) (by decide) rfl ?_
  intro p en s m args below meth c s₁ B hml hv
  obtain ⟨rfl, hP, hK⟩ := hv
  have hx := B.exec
  have hb := B.bytes
  have hr := B.returns
  have hts := atoms_spec (ws := wsX11_put) B.pre
  have hz : ∀ w ∈ zW, w.before _ s = true := fun w h => hts w (List.mem_cons_of_mem _ h)
  have hown : s.vm.findClass RX11 = some m.cls := findClass_of_methodNamed B.named
  have hlocks := B.notSynchronized
  obtain ⟨hO, hA, hne9⟩ := id hP
  have hS : va_S (fun x => x = o ∨ x = qs) s.heap s.heap [] := va_S.rf
  have hl := lv_entry ([.ref (o), .int (v)]) (n := 3) (Nat.le_of_ble_eq_true rfl)
  rw [lg_entry_eq]
  generalize (lg_sl ([.ref (o), .int (v)]) ++ List.replicate (3 - (lg_sl ([.ref (o), .int (v)])).length) Slot.unset).toArray = ls at hl ⊢
  have hl : lv_has ls 3 [(0, .ref (o)), (1, .int (v))] := hl
  refine lv_bipush (v := nI 24) hx hb dX11_put_0 (by decide) ?_
  refine lv_istore_n (lv' := [(2, .int (nI (24))), (0, .ref (o)), (1, .int (v))]) hx hb dX11_put_2 rfl hl (by decide) rfl (fun ls hl => ?_)
  refine lv_iload_n hx hb dX11_put_3 rfl (lv_at hl 0 rfl) ?_
  refine zi_if_lt (tgt := 43) hx hb dX11_put_4 (by decide) (by omega) ?_
  refine lv_aload_n hx hb dX11_put_7 rfl (lv_at hl 1 rfl) ?_
  refine zi_get (C := RX11) (T := TX11) (N := 23) (v := .ref (qs)) hx hb hz wo_X11 hown hK hO rfl 1 (by decide) (hz _ wf_X11_7) (fun _ h9 => h9) rfl dX11_put_8 ?_
  refine lv_sipush (v := nI 16000) hx hb dX11_put_11 (by decide) ?_
  refine lv_aload_n hx hb dX11_put_14 rfl (lv_at hl 1 rfl) ?_
  refine zi_get (C := RX11) (T := TX11) (N := 23) (v := .int (nI (tp))) hx hb hz wo_X11 hown hK hO rfl 2 (by decide) (hz _ wf_X11_53) (fun _ h9 => h9) rfl dX11_put_15 ?_
  refine zi_add hx hb dX11_put_18 ?_
  refine lv_iload_n hx hb dX11_put_19 rfl (lv_at hl 2 rfl) ?_
  refine lv_iload_n hx hb dX11_put_20 rfl (lv_at hl 0 rfl) ?_
  refine lv_ishr hx hb dX11_put_21 ?_
  rw [show v >>> (nI 24 &&& 31) = v >>> (nI 24 &&& 31) from rfl]
  refine W.eq (g2 := F0 m 22 ls ([.int (v >>> (nI 24 &&& 31)), .int (nI (16000 + tp)), .ref (qs)])) rfl ?_
  refine lv_sipush (v := nI 255) hx hb dX11_put_22 (by decide) ?_
  refine lv_iand hx hb dX11_put_25 ?_
  rw [show (v >>> (nI 24 &&& 31)) &&& nI 255 = nI (byB v 24) from byB_s v 24 (by decide)]
  refine W.eq (g2 := F0 m 26 ls ([.int (nI (byB v 24)), .int (nI (16000 + tp)), .ref (qs)])) rfl ?_
  refine zi_ast hx hb hK hA (by omega) (by decide) (A := (fun x => x = o ∨ x = qs)) (Or.inr rfl) hS dX11_put_26 (fun H locs _ hk9 hA9 hS => ?_)
  have hP : MT G o qs w (upN f (16000 + tp) (byB v 24)) tp H := ⟨hO.kept (hk9 _ hne9.symm), hA9, hne9⟩
  obtain ⟨hO, hA, hne9⟩ := id hP
  refine lv_aload_n hx hb dX11_put_27 rfl (lv_at hl 1 rfl) ?_
  refine lv_dup hx hb dX11_put_28 rfl ?_
  refine zi_get (C := RX11) (T := TX11) (N := 23) (v := .int (nI (tp))) hx hb hz wo_X11 hown hK hO rfl 2 (by decide) (hz _ wf_X11_53) (fun _ h9 => h9) rfl dX11_put_29 ?_
  refine lv_iconst (v := nI 1) hx hb dX11_put_32 (by decide) ?_
  refine zi_add hx hb dX11_put_33 ?_
  refine zi_put (C := RX11) (T := TX11) (N := 23) (ty := .int) (v := .int (nI (tp + 1))) hx hb hz wo_X11 tyX11 tyX11_ok nmX11 hown hK hO rfl 2 (by decide) (hz _ wf_X11_53) (fun _ h9 => h9) rfl (by decide +kernel) rfl rfl (by show 2 < 23; decide) (A := (fun x => x = o ∨ x = qs)) (Or.inl rfl) hS dX11_put_34 (fun H locs _ hk9 hO9 hS => ?_)
  have hP : MT G o qs w (upN f (16000 + tp) (byB v 24)) (tp + 1) H := ⟨hO9, hA.kept (hk9 _ hne9), hne9⟩
  obtain ⟨hO, hA, hne9⟩ := id hP
  refine lv_iinc (v := nI (16)) (lv' := [(2, .int (nI (16))), (0, .ref (o)), (1, .int (v))]) hx hb dX11_put_37 hl (k := 0) rfl (by decide) (by decide) rfl (fun ls hl => ?_)
  refine lv_goto (tgt := 3) hx hb dX11_put_40 (by decide) ?_
  refine lv_iload_n hx hb dX11_put_3 rfl (lv_at hl 0 rfl) ?_
  refine zi_if_lt (tgt := 43) hx hb dX11_put_4 (by decide) (by omega) ?_
  refine lv_aload_n hx hb dX11_put_7 rfl (lv_at hl 1 rfl) ?_
  refine zi_get (C := RX11) (T := TX11) (N := 23) (v := .ref (qs)) hx hb hz wo_X11 hown hK hO rfl 1 (by decide) (hz _ wf_X11_7) (fun _ h9 => h9) rfl dX11_put_8 ?_
  refine lv_sipush (v := nI 16000) hx hb dX11_put_11 (by decide) ?_
  refine lv_aload_n hx hb dX11_put_14 rfl (lv_at hl 1 rfl) ?_
  refine zi_get (C := RX11) (T := TX11) (N := 23) (v := .int (nI (tp + 1))) hx hb hz wo_X11 hown hK hO rfl 2 (by decide) (hz _ wf_X11_53) (fun _ h9 => h9) rfl dX11_put_15 ?_
  refine zi_add hx hb dX11_put_18 ?_
  refine lv_iload_n hx hb dX11_put_19 rfl (lv_at hl 2 rfl) ?_
  refine lv_iload_n hx hb dX11_put_20 rfl (lv_at hl 0 rfl) ?_
  refine lv_ishr hx hb dX11_put_21 ?_
  rw [show v >>> (nI 16 &&& 31) = v >>> (nI 16 &&& 31) from rfl]
  refine W.eq (g2 := F0 m 22 ls ([.int (v >>> (nI 16 &&& 31)), .int (nI (16000 + (tp + 1))), .ref (qs)])) rfl ?_
  refine lv_sipush (v := nI 255) hx hb dX11_put_22 (by decide) ?_
  refine lv_iand hx hb dX11_put_25 ?_
  rw [show (v >>> (nI 16 &&& 31)) &&& nI 255 = nI (byB v 16) from byB_s v 16 (by decide)]
  refine W.eq (g2 := F0 m 26 ls ([.int (nI (byB v 16)), .int (nI (16000 + (tp + 1))), .ref (qs)])) rfl ?_
  refine zi_ast hx hb hK hA (by omega) (by decide) (A := (fun x => x = o ∨ x = qs)) (Or.inr rfl) hS dX11_put_26 (fun H locs _ hk9 hA9 hS => ?_)
  have hP : MT G o qs w (upN (upN f (16000 + tp) (byB v 24)) (16000 + (tp + 1)) (byB v 16)) (tp + 1) H := ⟨hO.kept (hk9 _ hne9.symm), hA9, hne9⟩
  obtain ⟨hO, hA, hne9⟩ := id hP
  refine lv_aload_n hx hb dX11_put_27 rfl (lv_at hl 1 rfl) ?_
  refine lv_dup hx hb dX11_put_28 rfl ?_
  refine zi_get (C := RX11) (T := TX11) (N := 23) (v := .int (nI (tp + 1))) hx hb hz wo_X11 hown hK hO rfl 2 (by decide) (hz _ wf_X11_53) (fun _ h9 => h9) rfl dX11_put_29 ?_
  refine lv_iconst (v := nI 1) hx hb dX11_put_32 (by decide) ?_
  refine zi_add hx hb dX11_put_33 ?_
  refine zi_put (C := RX11) (T := TX11) (N := 23) (ty := .int) (v := .int (nI (tp + 1 + 1))) hx hb hz wo_X11 tyX11 tyX11_ok nmX11 hown hK hO rfl 2 (by decide) (hz _ wf_X11_53) (fun _ h9 => h9) rfl (by decide +kernel) rfl rfl (by show 2 < 23; decide) (A := (fun x => x = o ∨ x = qs)) (Or.inl rfl) hS dX11_put_34 (fun H locs _ hk9 hO9 hS => ?_)
  have hP : MT G o qs w (upN (upN f (16000 + tp) (byB v 24)) (16000 + (tp + 1)) (byB v 16)) (tp + 1 + 1) H := ⟨hO9, hA.kept (hk9 _ hne9), hne9⟩
  obtain ⟨hO, hA, hne9⟩ := id hP
  refine lv_iinc (v := nI (8)) (lv' := [(2, .int (nI (8))), (0, .ref (o)), (1, .int (v))]) hx hb dX11_put_37 hl (k := 0) rfl (by decide) (by decide) rfl (fun ls hl => ?_)
  refine lv_goto (tgt := 3) hx hb dX11_put_40 (by decide) ?_
  refine lv_iload_n hx hb dX11_put_3 rfl (lv_at hl 0 rfl) ?_
  refine zi_if_lt (tgt := 43) hx hb dX11_put_4 (by decide) (by omega) ?_
  refine lv_aload_n hx hb dX11_put_7 rfl (lv_at hl 1 rfl) ?_
  refine zi_get (C := RX11) (T := TX11) (N := 23) (v := .ref (qs)) hx hb hz wo_X11 hown hK hO rfl 1 (by decide) (hz _ wf_X11_7) (fun _ h9 => h9) rfl dX11_put_8 ?_
  refine lv_sipush (v := nI 16000) hx hb dX11_put_11 (by decide) ?_
  refine lv_aload_n hx hb dX11_put_14 rfl (lv_at hl 1 rfl) ?_
  refine zi_get (C := RX11) (T := TX11) (N := 23) (v := .int (nI (tp + 1 + 1))) hx hb hz wo_X11 hown hK hO rfl 2 (by decide) (hz _ wf_X11_53) (fun _ h9 => h9) rfl dX11_put_15 ?_
  refine zi_add hx hb dX11_put_18 ?_
  refine lv_iload_n hx hb dX11_put_19 rfl (lv_at hl 2 rfl) ?_
  refine lv_iload_n hx hb dX11_put_20 rfl (lv_at hl 0 rfl) ?_
  refine lv_ishr hx hb dX11_put_21 ?_
  rw [show v >>> (nI 8 &&& 31) = v >>> (nI 8 &&& 31) from rfl]
  refine W.eq (g2 := F0 m 22 ls ([.int (v >>> (nI 8 &&& 31)), .int (nI (16000 + (tp + 1 + 1))), .ref (qs)])) rfl ?_
  refine lv_sipush (v := nI 255) hx hb dX11_put_22 (by decide) ?_
  refine lv_iand hx hb dX11_put_25 ?_
  rw [show (v >>> (nI 8 &&& 31)) &&& nI 255 = nI (byB v 8) from byB_s v 8 (by decide)]
  refine W.eq (g2 := F0 m 26 ls ([.int (nI (byB v 8)), .int (nI (16000 + (tp + 1 + 1))), .ref (qs)])) rfl ?_
  refine zi_ast hx hb hK hA (by omega) (by decide) (A := (fun x => x = o ∨ x = qs)) (Or.inr rfl) hS dX11_put_26 (fun H locs _ hk9 hA9 hS => ?_)
  have hP : MT G o qs w (upN (upN (upN f (16000 + tp) (byB v 24)) (16000 + (tp + 1)) (byB v 16)) (16000 + (tp + 1 + 1)) (byB v 8)) (tp + 1 + 1) H := ⟨hO.kept (hk9 _ hne9.symm), hA9, hne9⟩
  obtain ⟨hO, hA, hne9⟩ := id hP
  refine lv_aload_n hx hb dX11_put_27 rfl (lv_at hl 1 rfl) ?_
  refine lv_dup hx hb dX11_put_28 rfl ?_
  refine zi_get (C := RX11) (T := TX11) (N := 23) (v := .int (nI (tp + 1 + 1))) hx hb hz wo_X11 hown hK hO rfl 2 (by decide) (hz _ wf_X11_53) (fun _ h9 => h9) rfl dX11_put_29 ?_
  refine lv_iconst (v := nI 1) hx hb dX11_put_32 (by decide) ?_
  refine zi_add hx hb dX11_put_33 ?_
  refine zi_put (C := RX11) (T := TX11) (N := 23) (ty := .int) (v := .int (nI (tp + 1 + 1 + 1))) hx hb hz wo_X11 tyX11 tyX11_ok nmX11 hown hK hO rfl 2 (by decide) (hz _ wf_X11_53) (fun _ h9 => h9) rfl (by decide +kernel) rfl rfl (by show 2 < 23; decide) (A := (fun x => x = o ∨ x = qs)) (Or.inl rfl) hS dX11_put_34 (fun H locs _ hk9 hO9 hS => ?_)
  have hP : MT G o qs w (upN (upN (upN f (16000 + tp) (byB v 24)) (16000 + (tp + 1)) (byB v 16)) (16000 + (tp + 1 + 1)) (byB v 8)) (tp + 1 + 1 + 1) H := ⟨hO9, hA.kept (hk9 _ hne9), hne9⟩
  obtain ⟨hO, hA, hne9⟩ := id hP
  refine lv_iinc (v := nI (0)) (lv' := [(2, .int (nI (0))), (0, .ref (o)), (1, .int (v))]) hx hb dX11_put_37 hl (k := 0) rfl (by decide) (by decide) rfl (fun ls hl => ?_)
  refine lv_goto (tgt := 3) hx hb dX11_put_40 (by decide) ?_
  refine lv_iload_n hx hb dX11_put_3 rfl (lv_at hl 0 rfl) ?_
  refine zi_if_lt (tgt := 43) hx hb dX11_put_4 (by decide) (by omega) ?_
  refine lv_aload_n hx hb dX11_put_7 rfl (lv_at hl 1 rfl) ?_
  refine zi_get (C := RX11) (T := TX11) (N := 23) (v := .ref (qs)) hx hb hz wo_X11 hown hK hO rfl 1 (by decide) (hz _ wf_X11_7) (fun _ h9 => h9) rfl dX11_put_8 ?_
  refine lv_sipush (v := nI 16000) hx hb dX11_put_11 (by decide) ?_
  refine lv_aload_n hx hb dX11_put_14 rfl (lv_at hl 1 rfl) ?_
  refine zi_get (C := RX11) (T := TX11) (N := 23) (v := .int (nI (tp + 1 + 1 + 1))) hx hb hz wo_X11 hown hK hO rfl 2 (by decide) (hz _ wf_X11_53) (fun _ h9 => h9) rfl dX11_put_15 ?_
  refine zi_add hx hb dX11_put_18 ?_
  refine lv_iload_n hx hb dX11_put_19 rfl (lv_at hl 2 rfl) ?_
  refine lv_iload_n hx hb dX11_put_20 rfl (lv_at hl 0 rfl) ?_
  refine lv_ishr hx hb dX11_put_21 ?_
  rw [show v >>> (nI 0 &&& 31) = v >>> (nI 0 &&& 31) from rfl]
  refine W.eq (g2 := F0 m 22 ls ([.int (v >>> (nI 0 &&& 31)), .int (nI (16000 + (tp + 1 + 1 + 1))), .ref (qs)])) rfl ?_
  refine lv_sipush (v := nI 255) hx hb dX11_put_22 (by decide) ?_
  refine lv_iand hx hb dX11_put_25 ?_
  rw [show (v >>> (nI 0 &&& 31)) &&& nI 255 = nI (byB v 0) from byB_s v 0 (by decide)]
  refine W.eq (g2 := F0 m 26 ls ([.int (nI (byB v 0)), .int (nI (16000 + (tp + 1 + 1 + 1))), .ref (qs)])) rfl ?_
  refine zi_ast hx hb hK hA (by omega) (by decide) (A := (fun x => x = o ∨ x = qs)) (Or.inr rfl) hS dX11_put_26 (fun H locs _ hk9 hA9 hS => ?_)
  have hP : MT G o qs w (upN (upN (upN (upN f (16000 + tp) (byB v 24)) (16000 + (tp + 1)) (byB v 16)) (16000 + (tp + 1 + 1)) (byB v 8)) (16000 + (tp + 1 + 1 + 1)) (byB v 0)) (tp + 1 + 1 + 1) H := ⟨hO.kept (hk9 _ hne9.symm), hA9, hne9⟩
  obtain ⟨hO, hA, hne9⟩ := id hP
  refine lv_aload_n hx hb dX11_put_27 rfl (lv_at hl 1 rfl) ?_
  refine lv_dup hx hb dX11_put_28 rfl ?_
  refine zi_get (C := RX11) (T := TX11) (N := 23) (v := .int (nI (tp + 1 + 1 + 1))) hx hb hz wo_X11 hown hK hO rfl 2 (by decide) (hz _ wf_X11_53) (fun _ h9 => h9) rfl dX11_put_29 ?_
  refine lv_iconst (v := nI 1) hx hb dX11_put_32 (by decide) ?_
  refine zi_add hx hb dX11_put_33 ?_
  refine zi_put (C := RX11) (T := TX11) (N := 23) (ty := .int) (v := .int (nI (tp + 1 + 1 + 1 + 1))) hx hb hz wo_X11 tyX11 tyX11_ok nmX11 hown hK hO rfl 2 (by decide) (hz _ wf_X11_53) (fun _ h9 => h9) rfl (by decide +kernel) rfl rfl (by show 2 < 23; decide) (A := (fun x => x = o ∨ x = qs)) (Or.inl rfl) hS dX11_put_34 (fun H locs _ hk9 hO9 hS => ?_)
  have hP : MT G o qs w (upN (upN (upN (upN f (16000 + tp) (byB v 24)) (16000 + (tp + 1)) (byB v 16)) (16000 + (tp + 1 + 1)) (byB v 8)) (16000 + (tp + 1 + 1 + 1)) (byB v 0)) (tp + 1 + 1 + 1 + 1) H := ⟨hO9, hA.kept (hk9 _ hne9), hne9⟩
  obtain ⟨hO, hA, hne9⟩ := id hP
  refine lv_iinc (v := (-8)) (lv' := [(2, .int ((-8))), (0, .ref (o)), (1, .int (v))]) hx hb dX11_put_37 hl (k := 0) rfl (by decide) (by decide) rfl (fun ls hl => ?_)
  refine lv_goto (tgt := 3) hx hb dX11_put_40 (by decide) ?_
  refine lv_iload_n hx hb dX11_put_3 rfl (lv_at hl 0 rfl) ?_
  refine lv_if_lt (tgt := 43) hx hb dX11_put_4 (by decide) (fun c_4 => ?_) (fun c_4 => absurd c_4 (by decide))
  exact zr_v hx hb hr hlocks (hP) hS dX11_put_43

set_option maxHeartbeats 4000000 in
set_option maxRecDepth 100000 in
theorem m_feed (l : Launch) (G : zG) (o qs : Nat) (w : Nat → Value) (f : Nat → Nat) (tp : Nat) (v1 v2 v3 v4 v5 : Int32) (ht : tp + 20 ≤ 2000) : Met l yX11_feed wsX11_feed ({ frames := 1, cells := 0, slots := 0, locals := 22 }) (zP G [.ref (o), .int (v1), .int (v2), .int (v3), .int (v4), .int (v5)] (fun H => MT G o qs w f tp H)) (zQ (fun x => x = o ∨ x = qs) (some (.int (nI (tp + 20)))) (fun H => MT G o qs w (put4 (put4 (put4 (put4 (put4 f (16000 + tp) v1) (16000 + (tp + 4)) v2) (16000 + (tp + 4 + 4)) v3) (16000 + (tp + 4 + 4 + 4)) v4) (16000 + (tp + 4 + 4 + 4 + 4)) v5) (tp + 4 + 4 + 4 + 4 + 4) H)) 0 0 (fun x => x = o ∨ x = qs) := by
  refine Met.ofW (cc := cX11_feed) (maxL := 6) (ret := (some .int)) (by decide) rfl ?_
  intro p en s m args below meth c s₁ B hml hv
  obtain ⟨rfl, hP, hK⟩ := hv
  have hx := B.exec
  have hb := B.bytes
  have hr := B.returns
  have hts := atoms_spec (ws := wsX11_feed) B.pre
  have hz : ∀ w ∈ zW, w.before _ s = true := fun w h => hts w (List.mem_cons_of_mem _ h)
  have hown : s.vm.findClass RX11 = some m.cls := findClass_of_methodNamed B.named
  have hlocks := B.notSynchronized
  obtain ⟨hO, hA, hne9⟩ := id hP
  have hS : va_S (fun x => x = o ∨ x = qs) s.heap s.heap [] := va_S.rf
  have hl := lv_entry ([.ref (o), .int (v1), .int (v2), .int (v3), .int (v4), .int (v5)]) (n := 6) (Nat.le_of_ble_eq_true rfl)
  rw [lg_entry_eq]
  generalize (lg_sl ([.ref (o), .int (v1), .int (v2), .int (v3), .int (v4), .int (v5)]) ++ List.replicate (6 - (lg_sl ([.ref (o), .int (v1), .int (v2), .int (v3), .int (v4), .int (v5)])).length) Slot.unset).toArray = ls at hl ⊢
  have hl : lv_has ls 6 [(0, .ref (o)), (1, .int (v1)), (2, .int (v2)), (3, .int (v3)), (4, .int (v4)), (5, .int (v5))] := hl
  refine lv_aload_n hx hb dX11_feed_0 rfl (lv_at hl 0 rfl) ?_
  refine zi_get (C := RX11) (T := TX11) (N := 23) (v := .int (nI (tp))) hx hb hz wo_X11 hown hK hO rfl 2 (by decide) (hz _ wf_X11_53) (fun _ h9 => h9) rfl dX11_feed_1 ?_
  refine lv_bipush (v := nI 20) hx hb dX11_feed_4 (by decide) ?_
  refine zi_add hx hb dX11_feed_6 ?_
  refine lv_sipush (v := nI 2000) hx hb dX11_feed_7 (by decide) ?_
  refine zi_icmp_le (tgt := 15) hx hb dX11_feed_10 (by decide) (by omega) (by omega) (fun c_10 => ?_) (fun c_10 => ?_)
  · refine lv_aload_n hx hb dX11_feed_15 rfl (lv_at hl 0 rfl) ?_
    refine lv_iload_n hx hb dX11_feed_16 rfl (lv_at hl 1 rfl) ?_
    refine zc_VE (As := [.int (v1)]) (rest := []) ⟨hx, hb, hml, hown, hts⟩ (m_put l G o qs w f tp v1 (by omega)) (cwV 1 hts (zgV wm_X11_56 wv_X11_put) rfl rfl rfl (by decide +kernel) ⟨Nat.le_of_ble_eq_true rfl, Nat.le_of_ble_eq_true rfl⟩) hK hO rfl hP rfl hl.1 rfl (Nat.le_of_ble_eq_true rfl) dX11_feed_17 ⟨Nat.zero_le _, Nat.zero_le _⟩ hS (fun _ h9 => h9) (fun H locs hP hz9 hk9 hS => ?_)
    obtain ⟨hO, hA, hne9⟩ := id hP
    refine W.eq (g2 := F0 m 20 ls ([])) rfl ?_
    refine lv_aload_n hx hb dX11_feed_20 rfl (lv_at hl 0 rfl) ?_
    refine lv_iload_n hx hb dX11_feed_21 rfl (lv_at hl 2 rfl) ?_
    refine zc_VE (As := [.int (v2)]) (rest := []) ⟨hx, hb, hml, hown, hts⟩ (m_put l G o qs w (put4 f (16000 + tp) v1) (tp + 4) v2 (by omega)) (cwV 1 hts (zgV wm_X11_56 wv_X11_put) rfl rfl rfl (by decide +kernel) ⟨Nat.le_of_ble_eq_true rfl, Nat.le_of_ble_eq_true rfl⟩) hK hO rfl hP rfl hl.1 rfl (Nat.le_of_ble_eq_true rfl) dX11_feed_22 ⟨Nat.zero_le _, Nat.zero_le _⟩ hS (fun _ h9 => h9) (fun H locs hP hz9 hk9 hS => ?_)
    obtain ⟨hO, hA, hne9⟩ := id hP
    refine W.eq (g2 := F0 m 25 ls ([])) rfl ?_
    refine lv_aload_n hx hb dX11_feed_25 rfl (lv_at hl 0 rfl) ?_
    refine lv_iload_n hx hb dX11_feed_26 rfl (lv_at hl 3 rfl) ?_
    refine zc_VE (As := [.int (v3)]) (rest := []) ⟨hx, hb, hml, hown, hts⟩ (m_put l G o qs w (put4 (put4 f (16000 + tp) v1) (16000 + (tp + 4)) v2) ((tp + 4) + 4) v3 (by omega)) (cwV 1 hts (zgV wm_X11_56 wv_X11_put) rfl rfl rfl (by decide +kernel) ⟨Nat.le_of_ble_eq_true rfl, Nat.le_of_ble_eq_true rfl⟩) hK hO rfl hP rfl hl.1 rfl (Nat.le_of_ble_eq_true rfl) dX11_feed_27 ⟨Nat.zero_le _, Nat.zero_le _⟩ hS (fun _ h9 => h9) (fun H locs hP hz9 hk9 hS => ?_)
    obtain ⟨hO, hA, hne9⟩ := id hP
    refine W.eq (g2 := F0 m 30 ls ([])) rfl ?_
    refine lv_aload_n hx hb dX11_feed_30 rfl (lv_at hl 0 rfl) ?_
    refine lv_iload hx hb dX11_feed_31 (lv_at hl 4 rfl) ?_
    refine zc_VE (As := [.int (v4)]) (rest := []) ⟨hx, hb, hml, hown, hts⟩ (m_put l G o qs w (put4 (put4 (put4 f (16000 + tp) v1) (16000 + (tp + 4)) v2) (16000 + ((tp + 4) + 4)) v3) (((tp + 4) + 4) + 4) v4 (by omega)) (cwV 1 hts (zgV wm_X11_56 wv_X11_put) rfl rfl rfl (by decide +kernel) ⟨Nat.le_of_ble_eq_true rfl, Nat.le_of_ble_eq_true rfl⟩) hK hO rfl hP rfl hl.1 rfl (Nat.le_of_ble_eq_true rfl) dX11_feed_33 ⟨Nat.zero_le _, Nat.zero_le _⟩ hS (fun _ h9 => h9) (fun H locs hP hz9 hk9 hS => ?_)
    obtain ⟨hO, hA, hne9⟩ := id hP
    refine W.eq (g2 := F0 m 36 ls ([])) rfl ?_
    refine lv_aload_n hx hb dX11_feed_36 rfl (lv_at hl 0 rfl) ?_
    refine lv_iload hx hb dX11_feed_37 (lv_at hl 5 rfl) ?_
    refine zc_VE (As := [.int (v5)]) (rest := []) ⟨hx, hb, hml, hown, hts⟩ (m_put l G o qs w (put4 (put4 (put4 (put4 f (16000 + tp) v1) (16000 + (tp + 4)) v2) (16000 + ((tp + 4) + 4)) v3) (16000 + (((tp + 4) + 4) + 4)) v4) ((((tp + 4) + 4) + 4) + 4) v5 (by omega)) (cwV 1 hts (zgV wm_X11_56 wv_X11_put) rfl rfl rfl (by decide +kernel) ⟨Nat.le_of_ble_eq_true rfl, Nat.le_of_ble_eq_true rfl⟩) hK hO rfl hP rfl hl.1 rfl (Nat.le_of_ble_eq_true rfl) dX11_feed_39 ⟨Nat.zero_le _, Nat.zero_le _⟩ hS (fun _ h9 => h9) (fun H locs hP hz9 hk9 hS => ?_)
    obtain ⟨hO, hA, hne9⟩ := id hP
    refine W.eq (g2 := F0 m 42 ls ([])) rfl ?_
    refine lv_aload_n hx hb dX11_feed_42 rfl (lv_at hl 0 rfl) ?_
    refine zi_get (C := RX11) (T := TX11) (N := 23) (v := .int (nI (((((tp + 4) + 4) + 4) + 4) + 4))) hx hb hz wo_X11 hown hK hO rfl 2 (by decide) (hz _ wf_X11_53) (fun _ h9 => h9) rfl dX11_feed_43 ?_
    exact zr_ie hx hb hr hlocks (by rw [show tp + 20 = tp + 4 + 4 + 4 + 4 + 4 by omega]) (hP) hS dX11_feed_46
  · exfalso; omega

set_option maxHeartbeats 4000000 in
set_option maxRecDepth 100000 in
theorem m_feed_full (l : Launch) (G : zG) (o qs : Nat) (w : Nat → Value) (f : Nat → Nat) (tp : Nat) (v1 v2 v3 v4 v5 : Int32) (ht : 2000 < tp + 20) (htl : tp ≤ 2000) : Met l yX11_feed wsX11_feed ({ frames := 0, cells := 0, slots := 0, locals := 0 }) (zP G [.ref (o), .int (v1), .int (v2), .int (v3), .int (v4), .int (v5)] (fun H => MT G o qs w f tp H)) (zQ (fun x => x = o ∨ x = qs) (some (.int (-1))) (fun H => MT G o qs w f tp H)) 0 0 (fun x => x = o ∨ x = qs) := by
  refine Met.ofW (cc := cX11_feed) (maxL := 6) (ret := (some .int)) (by decide) rfl ?_
  intro p en s m args below meth c s₁ B hml hv
  obtain ⟨rfl, hP, hK⟩ := hv
  have hx := B.exec
  have hb := B.bytes
  have hr := B.returns
  have hts := atoms_spec (ws := wsX11_feed) B.pre
  have hz : ∀ w ∈ zW, w.before _ s = true := fun w h => hts w (List.mem_cons_of_mem _ h)
  have hown : s.vm.findClass RX11 = some m.cls := findClass_of_methodNamed B.named
  have hlocks := B.notSynchronized
  obtain ⟨hO, hA, hne9⟩ := id hP
  have hS : va_S (fun x => x = o ∨ x = qs) s.heap s.heap [] := va_S.rf
  have hl := lv_entry ([.ref (o), .int (v1), .int (v2), .int (v3), .int (v4), .int (v5)]) (n := 6) (Nat.le_of_ble_eq_true rfl)
  rw [lg_entry_eq]
  generalize (lg_sl ([.ref (o), .int (v1), .int (v2), .int (v3), .int (v4), .int (v5)]) ++ List.replicate (6 - (lg_sl ([.ref (o), .int (v1), .int (v2), .int (v3), .int (v4), .int (v5)])).length) Slot.unset).toArray = ls at hl ⊢
  have hl : lv_has ls 6 [(0, .ref (o)), (1, .int (v1)), (2, .int (v2)), (3, .int (v3)), (4, .int (v4)), (5, .int (v5))] := hl
  refine lv_aload_n hx hb dX11_feed_0 rfl (lv_at hl 0 rfl) ?_
  refine zi_get (C := RX11) (T := TX11) (N := 23) (v := .int (nI (tp))) hx hb hz wo_X11 hown hK hO rfl 2 (by decide) (hz _ wf_X11_53) (fun _ h9 => h9) rfl dX11_feed_1 ?_
  refine lv_bipush (v := nI 20) hx hb dX11_feed_4 (by decide) ?_
  refine zi_add hx hb dX11_feed_6 ?_
  refine lv_sipush (v := nI 2000) hx hb dX11_feed_7 (by decide) ?_
  refine zi_icmp_le (tgt := 15) hx hb dX11_feed_10 (by decide) (by omega) (by omega) (fun c_10 => ?_) (fun c_10 => ?_)
  · exfalso; omega
  · refine lv_iconst (v := (-1)) hx hb dX11_feed_13 (by decide) ?_
    exact zr_ie hx hb hr hlocks (rfl) (hP) hS dX11_feed_14

set_option maxHeartbeats 4000000 in
set_option maxRecDepth 100000 in
theorem m_place (l : Launch) (G : zG)  (o : Nat) (fs : List Value) (pl : Int32) (h3 : fs[3]? = some (.int pl)) : Met l yX11_place wsX11_place ({ frames := 0, cells := 0, slots := 0, locals := 0 }) (zP G [.ref (o)] (fun H => zO G H o 10 fs)) (zR (.int pl)) 0 0 (fun _ => False) := by
  refine Met.ofW (cc := cX11_place) (maxL := 1) (ret := (some .int)) (by decide) rfl ?_
  intro p en s m args below meth c s₁ B hml hv
  obtain ⟨rfl, hP, hK⟩ := hv
  have hx := B.exec
  have hb := B.bytes
  have hr := B.returns
  have hts := atoms_spec (ws := wsX11_place) B.pre
  have hz : ∀ w ∈ zW, w.before _ s = true := fun w h => hts w (List.mem_cons_of_mem _ h)
  have hown : s.vm.findClass RX11 = some m.cls := findClass_of_methodNamed B.named
  have hlocks := B.notSynchronized
  have hl := lv_entry ([.ref (o)]) (n := 1) (Nat.le_of_ble_eq_true rfl)
  rw [lg_entry_eq]
  generalize (lg_sl ([.ref (o)]) ++ List.replicate (1 - (lg_sl ([.ref (o)])).length) Slot.unset).toArray = ls at hl ⊢
  have hl : lv_has ls 1 [(0, .ref (o))] := hl
  refine lv_aload_n hx hb dX11_place_0 rfl (lv_at hl 0 rfl) ?_
  refine zi_get (C := RX11) (T := TX11) (N := 23) (v := .int (pl)) hx hb hz wo_X11 hown hK hP rfl 3 (by decide) (hz _ wf_X11_13) (fun _ h9 => h9) h3 dX11_place_1 ?_
  exact zr_i hx hb hr hlocks (rfl) dX11_place_4
