theorem m_some_all (l : Launch) (G : zG) (o qs : Nat) (fs : List Value) (f : Nat → Nat) (d c9 e9 : Nat) (hal : C_all l G o qs fs f d) (hfh : C_fh l G o qs fs f d) (hlf : okLf f d c9 e9) : ∀ t, t ≤ 16 → C_some l G o qs fs f d c9 e9 t
  | 0, ht => fun q k a u hq hk => m_some_ l G o qs fs f d c9 e9 hal hfh hlf 0 ht (fun t' z => by omega) q k a u hq hk
  | t + 1, ht => fun q k a u hq hk => m_some_ l G o qs fs f d c9 e9 hal hfh hlf (t + 1) ht (fun t' z => by
      have z2 : t' = t := by omega
      subst z2
      exact m_some_all l G o qs fs f d c9 e9 hal hfh hlf t' (by omega)) q k a u hq hk

set_option maxHeartbeats 4000000 in
set_option maxRecDepth 100000 in
theorem m_any (l : Launch) (G : zG) (o qs : Nat) (fs : List Value) (f : Nat → Nat) (d c9 e9 : Nat) (hal : C_all l G o qs fs f d) (hfh : C_fh l G o qs fs f d) (hlf : okLf f d c9 e9) (q k a : Nat) (u : Bool) (hq : okPa f q) (hk : okV f 16 k a) : Met l yX11_any wsX11_any (rAN d) (zP G [.ref (o), .int (nI (c9)), .int (nI (e9)), .int (nI (q)), .int (nI (k)), .int (nI (a))] (fun H => MM G o qs fs f u H)) (zQ (fun x => x = o) (some (.int (nI (nB (AN f (evF f d).1 (evF f d).2 c9 e9 q k a))))) (fun H => MM G o qs fs f (u) H)) 0 0 (fun x => x = o) := by
  refine Met.ofW (cc := cX11_any) (maxL := 8) (ret := (some .boolean)) (by decide) rfl ?_
  intro p en s m args below meth c s₁ B hml hv
  obtain ⟨rfl, hP, hK⟩ := hv
  have hx := B.exec
  have hb := B.bytes
  have hr := B.returns
  have hts := atoms_spec (ws := wsX11_any) B.pre
  have hz : ∀ w ∈ zW, w.before _ s = true := fun w h => hts w (List.mem_cons_of_mem _ h)
  have hown : s.vm.findClass RX11 = some m.cls := findClass_of_methodNamed B.named
  have hlocks := B.notSynchronized
  obtain ⟨hO, hA, hS1, h8, hln, hne9⟩ := id hP
  have hS : va_S (fun x => x = o) s.heap s.heap [] := va_S.rf
  have hl := lv_entry ([.ref (o), .int (nI (c9)), .int (nI (e9)), .int (nI (q)), .int (nI (k)), .int (nI (a))]) (n := 8) (Nat.le_of_ble_eq_true rfl)
  rw [lg_entry_eq]
  generalize (lg_sl ([.ref (o), .int (nI (c9)), .int (nI (e9)), .int (nI (q)), .int (nI (k)), .int (nI (a))]) ++ List.replicate (8 - (lg_sl ([.ref (o), .int (nI (c9)), .int (nI (e9)), .int (nI (q)), .int (nI (k)), .int (nI (a))])).length) Slot.unset).toArray = ls at hl ⊢
  have hl : lv_has ls 8 [(0, .ref (o)), (1, .int (nI (c9))), (2, .int (nI (e9))), (3, .int (nI (q))), (4, .int (nI (k))), (5, .int (nI (a)))] := hl
  refine lv_aload_n hx hb dX11_any_0 rfl (lv_at hl 0 rfl) ?_
  refine zi_get (C := RX11) (T := TX11) (N := 23) (v := .int (nI (nB (u)))) hx hb hz wo_X11 hown hK hO rfl 22 (by decide) (hz _ wf_X11_283) (fun _ h9 => h9) (MM.mt hln) dX11_any_1 ?_
  refine lv_istore (lv' := [(6, .int (nI (nB (u)))), (0, .ref (o)), (1, .int (nI (c9))), (2, .int (nI (e9))), (3, .int (nI (q))), (4, .int (nI (k))), (5, .int (nI (a)))]) hx hb dX11_any_4 hl (by decide) rfl (fun ls hl => ?_)
  refine lv_aload_n hx hb dX11_any_6 rfl (lv_at hl 1 rfl) ?_
  refine lv_iconst (v := nI 0) hx hb dX11_any_7 (by decide) ?_
  refine zi_put (C := RX11) (T := TX11) (N := 23) (ty := .boolean) (v := .int (nI (nB (false)))) hx hb hz wo_X11 tyX11 tyX11_ok nmX11 hown hK hO rfl 22 (by decide) (hz _ wf_X11_283) (fun _ h9 => h9) rfl (by decide +kernel) (znar_b (false)) (zfit_b (false)) (by simp [zM]; omega) (A := (fun x => x = o)) rfl hS dX11_any_8 (fun H locs _ hk9 hO9 hS => ?_)
  have hP := hP.put (v := false) hk9 hO9
  obtain ⟨hO, hA, hS1, h8, hln, hne9⟩ := id hP
  refine lv_aload_n hx hb dX11_any_11 rfl (lv_at hl 1 rfl) ?_
  refine lv_iload_n hx hb dX11_any_12 rfl (lv_at hl 2 rfl) ?_
  refine lv_iload_n hx hb dX11_any_13 rfl (lv_at hl 3 rfl) ?_
  refine lv_iload_n hx hb dX11_any_14 rfl (lv_at hl 4 rfl) ?_
  refine lv_iload hx hb dX11_any_15 (lv_at hl 5 rfl) ?_
  refine lv_iload hx hb dX11_any_17 (lv_at hl 6 rfl) ?_
  refine zc_VE (As := [.int (nI (c9)), .int (nI (e9)), .int (nI (q)), .int (nI (k)), .int (nI (a))]) (rest := []) ⟨hx, hb, hml, hown, hts⟩ (m_some_all l G o qs fs f d c9 e9 hal hfh hlf 16 (Nat.le_refl _) q k a (false) hq hk) (cwV 5 hts (zgV wm_X11_290 wv_X11_some) rfl rfl rfl (by decide +kernel) ⟨show 30 * d + 51 + (16 + 1) + 1 ≤ 30 * d + 69 by omega, show 8 + (8 + 11) + (900 * d + 1290 + 27 * (16 + 1)) ≤ 900 * d + 1776 by omega⟩) hK hO rfl hP rfl hl.1 rfl (Nat.le_of_ble_eq_true rfl) dX11_any_19 ⟨Nat.zero_le _, Nat.zero_le _⟩ hS (fun _ h9 => h9) (fun H locs hP hz9 hk9 hS => ?_)
  obtain ⟨hO, hA, hS1, h8, hln, hne9⟩ := id hP
  refine W.eq (g2 := F0 m 22 ls ([.int (nI (nB (decide (TL f (LFd f d c9 e9) 16 q k a = 2))))])) rfl ?_
  refine lv_istore (lv' := [(7, .int (nI (nB (decide (TL f (LFd f d c9 e9) 16 q k a = 2))))), (6, .int (nI (nB (u)))), (0, .ref (o)), (1, .int (nI (c9))), (2, .int (nI (e9))), (3, .int (nI (q))), (4, .int (nI (k))), (5, .int (nI (a)))]) hx hb dX11_any_22 hl (by decide) rfl (fun ls hl => ?_)
  refine lv_iload hx hb dX11_any_24 (lv_at hl 0 rfl) ?_
  refine zb_if_ne (tgt := 47) hx hb dX11_any_26 (by decide) (fun c_26 => ?_) (fun c_26 => ?_)
  · refine lv_aload_n hx hb dX11_any_47 rfl (lv_at hl 2 rfl) ?_
    refine lv_iload hx hb dX11_any_48 (lv_at hl 1 rfl) ?_
    refine zi_put (C := RX11) (T := TX11) (N := 23) (ty := .boolean) (v := .int (nI (nB (u)))) hx hb hz wo_X11 tyX11 tyX11_ok nmX11 hown hK hO rfl 22 (by decide) (hz _ wf_X11_283) (fun _ h9 => h9) rfl (by decide +kernel) (znar_b (u)) (zfit_b (u)) (by simp [zM]; omega) (A := (fun x => x = o)) rfl hS dX11_any_50 (fun H locs _ hk9 hO9 hS => ?_)
    have hP := hP.put (v := u) hk9 hO9
    obtain ⟨hO, hA, hS1, h8, hln, hne9⟩ := id hP
    refine lv_iload hx hb dX11_any_53 (lv_at hl 0 rfl) ?_
    exact zr_ze hx hb hr hlocks (by unfold AN; rw [if_neg (show TL f (LFd f d c9 e9) 16 q k a ≠ 0 by have := of_decide_eq_true c_26; omega)]) (hP) hS dX11_any_55
  · refine lv_aload_n hx hb dX11_any_29 rfl (lv_at hl 2 rfl) ?_
    refine zi_get (C := RX11) (T := TX11) (N := 23) (v := .int (nI (nB ((false) || decide (TL f (LFd f d c9 e9) 16 q k a ≠ 0))))) hx hb hz wo_X11 hown hK hO rfl 22 (by decide) (hz _ wf_X11_283) (fun _ h9 => h9) (MM.mt hln) dX11_any_30 ?_
    refine zb_if_ne (tgt := 47) hx hb dX11_any_33 (by decide) (fun c_33 => ?_) (fun c_33 => ?_)
    · refine lv_aload_n hx hb dX11_any_47 rfl (lv_at hl 2 rfl) ?_
      refine lv_iload hx hb dX11_any_48 (lv_at hl 1 rfl) ?_
      refine zi_put (C := RX11) (T := TX11) (N := 23) (ty := .boolean) (v := .int (nI (nB (u)))) hx hb hz wo_X11 tyX11 tyX11_ok nmX11 hown hK hO rfl 22 (by decide) (hz _ wf_X11_283) (fun _ h9 => h9) rfl (by decide +kernel) (znar_b (u)) (zfit_b (u)) (by simp [zM]; omega) (A := (fun x => x = o)) rfl hS dX11_any_50 (fun H locs _ hk9 hO9 hS => ?_)
      have hP := hP.put (v := u) hk9 hO9
      obtain ⟨hO, hA, hS1, h8, hln, hne9⟩ := id hP
      refine lv_iload hx hb dX11_any_53 (lv_at hl 0 rfl) ?_
      exact zr_ze hx hb hr hlocks (by unfold AN; rw [if_neg (show TL f (LFd f d c9 e9) 16 q k a ≠ 0 from of_decide_eq_true c_33)]) (hP) hS dX11_any_55
    · refine lv_aload_n hx hb dX11_any_36 rfl (lv_at hl 2 rfl) ?_
      refine lv_iload_n hx hb dX11_any_37 rfl (lv_at hl 3 rfl) ?_
      refine lv_iload_n hx hb dX11_any_38 rfl (lv_at hl 4 rfl) ?_
      refine lv_iconst (v := nI 0) hx hb dX11_any_39 (by decide) ?_
      refine lv_iconst (v := nI 0) hx hb dX11_any_40 (by decide) ?_
      refine lv_iconst (v := nI 0) hx hb dX11_any_41 (by decide) ?_
      refine zc_VE (As := [.int (nI (c9)), .int (nI (e9)), .int (nI (0)), .int (nI (0)), .int (nI (0))]) (rest := []) ⟨hx, hb, hml, hown, hts⟩ (m_leaf l G o qs fs f d c9 e9 hal hfh hlf 0 0 ((false) || decide (TL f (LFd f d c9 e9) 16 q k a ≠ 0)) (okV_0 f 16)) (cwV 5 hts (zgV wm_X11_290 wv_X11_some) rfl rfl rfl (by decide +kernel) ⟨show 30 * d + 51 + 0 + 1 ≤ 30 * d + 69 by omega, show 8 + (8 + 11) + (900 * d + 1290 + 27 * 0) ≤ 900 * d + 1776 by omega⟩) hK hO rfl hP rfl hl.1 rfl (Nat.le_of_ble_eq_true rfl) dX11_any_42 ⟨Nat.zero_le _, Nat.zero_le _⟩ hS (fun _ h9 => h9) (fun H locs hP hz9 hk9 hS => ?_)
      obtain ⟨hO, hA, hS1, h8, hln, hne9⟩ := id hP
      refine W.eq (g2 := F0 m 45 ls ([.int (nI (nB (LFd f d c9 e9 0 0)))])) rfl ?_
      refine lv_istore (lv' := [(7, .int (nI (nB (LFd f d c9 e9 0 0)))), (6, .int (nI (nB (u)))), (0, .ref (o)), (1, .int (nI (c9))), (2, .int (nI (e9))), (3, .int (nI (q))), (4, .int (nI (k))), (5, .int (nI (a)))]) hx hb dX11_any_45 hl (by decide) rfl (fun ls hl => ?_)
      refine lv_aload_n hx hb dX11_any_47 rfl (lv_at hl 2 rfl) ?_
      refine lv_iload hx hb dX11_any_48 (lv_at hl 1 rfl) ?_
      refine zi_put (C := RX11) (T := TX11) (N := 23) (ty := .boolean) (v := .int (nI (nB (u)))) hx hb hz wo_X11 tyX11 tyX11_ok nmX11 hown hK hO rfl 22 (by decide) (hz _ wf_X11_283) (fun _ h9 => h9) rfl (by decide +kernel) (znar_b (u)) (zfit_b (u)) (by simp [zM]; omega) (A := (fun x => x = o)) rfl hS dX11_any_50 (fun H locs _ hk9 hO9 hS => ?_)
      have hP := hP.put (v := u) hk9 hO9
      obtain ⟨hO, hA, hS1, h8, hln, hne9⟩ := id hP
      refine lv_iload hx hb dX11_any_53 (lv_at hl 0 rfl) ?_
      exact zr_ze hx hb hr hlocks (by unfold AN; rw [if_pos (show TL f (LFd f d c9 e9) 16 q k a = 0 from Classical.not_not.mp (of_decide_eq_false c_33))]) (hP) hS dX11_any_55

set_option maxHeartbeats 4000000 in
set_option maxRecDepth 100000 in
theorem m_holdsOne (l : Launch) (G : zG) (o qs : Nat) (fs : List Value) (f : Nat → Nat) (d c9 : Nat) (hal : C_all l G o qs fs f d) (hfh : C_fh l G o qs fs f d) (hc0 : 0 < c9) (hok : okE 18000 f c9) (hcv : okV f 16 (f c9) (vo f c9)) (hco : okCo f (okFl f d).1 (okFl f d).2 c9) (q k a : Nat) (u : Bool) (hq : okPa f q) (hk : okV f 16 k a) : Met l yX11_holdsOne wsX11_holdsOne (rHO d) (zP G [.ref (o), .int (nI (c9)), .int (nI (q)), .int (nI (k)), .int (nI (a))] (fun H => MM G o qs fs f u H)) (zQ (fun x => x = o) (some (.int (nI (nB (HO f (evF f d).1 (evF f d).2 c9 q k a))))) (fun H => MM G o qs fs f (u) H)) 0 0 (fun x => x = o) := by
  refine Met.ofW (cc := cX11_holdsOne) (maxL := 6) (ret := (some .boolean)) (by decide) rfl ?_
  intro p en s m args below meth c s₁ B hml hv
  obtain ⟨rfl, hP, hK⟩ := hv
  have hx := B.exec
  have hb := B.bytes
  have hr := B.returns
  have hts := atoms_spec (ws := wsX11_holdsOne) B.pre
  have hz : ∀ w ∈ zW, w.before _ s = true := fun w h => hts w (List.mem_cons_of_mem _ h)
  have hown : s.vm.findClass RX11 = some m.cls := findClass_of_methodNamed B.named
  have hlocks := B.notSynchronized
  obtain ⟨hO, hA, hS1, h8, hln, hne9⟩ := id hP
  have hS : va_S (fun x => x = o) s.heap s.heap [] := va_S.rf
  have hc13 := coN_lt f c9
  have hcl := hok.lt
  have hlf : coN f c9 ≠ 12 → okLf f d c9 0 := fun z => ⟨hcl, by decide, fun _ => ⟨hok, hcv, hco, z, fun y => (okV_box hcv rfl (Or.inl (isR_11 hco.2.1 y))).1⟩, fun y => by omega⟩
  have hl := lv_entry ([.ref (o), .int (nI (c9)), .int (nI (q)), .int (nI (k)), .int (nI (a))]) (n := 6) (Nat.le_of_ble_eq_true rfl)
  rw [lg_entry_eq]
  generalize (lg_sl ([.ref (o), .int (nI (c9)), .int (nI (q)), .int (nI (k)), .int (nI (a))]) ++ List.replicate (6 - (lg_sl ([.ref (o), .int (nI (c9)), .int (nI (q)), .int (nI (k)), .int (nI (a))])).length) Slot.unset).toArray = ls at hl ⊢
  have hl : lv_has ls 6 [(0, .ref (o)), (1, .int (nI (c9))), (2, .int (nI (q))), (3, .int (nI (k))), (4, .int (nI (a)))] := hl
  refine lv_aload_n hx hb dX11_holdsOne_0 rfl (lv_at hl 0 rfl) ?_
  refine lv_iload_n hx hb dX11_holdsOne_1 rfl (lv_at hl 1 rfl) ?_
  refine zc_V (As := [.int (nI (c9))]) (rest := []) ⟨hx, hb, hml, hown, hts⟩ (m_condition l G o qs (zM fs (u)) f c9 hok.1) (cwV 1 hts (zgV wm_X11_234 wv_X11_condition) rfl rfl rfl (by decide +kernel) ⟨show 1 + 1 ≤ 30 * d + 70 by omega, show 8 + (2 + 11) + (26) ≤ 900 * d + 1803 by omega⟩) hK hO rfl hP.mv rfl hl.1 rfl (Nat.le_of_ble_eq_true rfl) dX11_holdsOne_2 ⟨Nat.zero_le _, Nat.zero_le _⟩ ?_
  refine lv_istore (lv' := [(5, .int (nI (coN f c9))), (0, .ref (o)), (1, .int (nI (c9))), (2, .int (nI (q))), (3, .int (nI (k))), (4, .int (nI (a)))]) hx hb dX11_holdsOne_5 hl (by decide) rfl (fun ls hl => ?_)
  refine lv_iload hx hb dX11_holdsOne_7 (lv_at hl 0 rfl) ?_
  refine lv_bipush (v := nI 12) hx hb dX11_holdsOne_9 (by decide) ?_
  refine zi_icmp_ne (tgt := 36) hx hb dX11_holdsOne_11 (by decide) (by omega) (by omega) (fun c_11 => ?_) (fun c_11 => ?_)
  · refine lv_iload hx hb dX11_holdsOne_36 (lv_at hl 0 rfl) ?_
    refine lv_bipush (v := nI 9) hx hb dX11_holdsOne_38 (by decide) ?_
    refine zi_icmp_ne (tgt := 81) hx hb dX11_holdsOne_40 (by decide) (by omega) (by omega) (fun c_40 => ?_) (fun c_40 => ?_)
    · refine lv_aload_n hx hb dX11_holdsOne_81 rfl (lv_at hl 1 rfl) ?_
      refine lv_iload_n hx hb dX11_holdsOne_82 rfl (lv_at hl 2 rfl) ?_
      refine lv_iconst (v := nI 0) hx hb dX11_holdsOne_83 (by decide) ?_
      refine lv_iload_n hx hb dX11_holdsOne_84 rfl (lv_at hl 3 rfl) ?_
      refine lv_iload_n hx hb dX11_holdsOne_85 rfl (lv_at hl 4 rfl) ?_
      refine lv_iload hx hb dX11_holdsOne_86 (lv_at hl 5 rfl) ?_
      refine zc_VE (As := [.int (nI (c9)), .int (nI (0)), .int (nI (q)), .int (nI (k)), .int (nI (a))]) (rest := []) ⟨hx, hb, hml, hown, hts⟩ (m_any l G o qs fs f d c9 0 hal hfh (hlf c_11) q k a (u) hq hk) (cwV 5 hts (zgV wm_X11_299 wv_X11_any) rfl rfl rfl (by decide +kernel) ⟨show 30 * d + 69 + 1 ≤ 30 * d + 70 by omega, show 8 + (8 + 11) + (900 * d + 1776) ≤ 900 * d + 1803 by omega⟩) hK hO rfl hP rfl hl.1 rfl (Nat.le_of_ble_eq_true rfl) dX11_holdsOne_88 ⟨Nat.zero_le _, Nat.zero_le _⟩ hS (fun _ h9 => h9) (fun H locs hP hz9 hk9 hS => ?_)
      obtain ⟨hO, hA, hS1, h8, hln, hne9⟩ := id hP
      refine W.eq (g2 := F0 m 91 ls ([.int (nI (nB (AN f (evF f d).1 (evF f d).2 c9 0 q k a)))])) rfl ?_
      refine lv_iload hx hb dX11_holdsOne_91 (lv_at hl 0 rfl) ?_
      refine lv_iconst (v := nI 2) hx hb dX11_holdsOne_93 (by decide) ?_
      refine zi_icmp_eq (tgt := 103) hx hb dX11_holdsOne_94 (by decide) (by omega) (by omega) (fun c_94 => ?_) (fun c_94 => ?_)
      · refine lv_iconst (v := nI 1) hx hb dX11_holdsOne_103 (by decide) ?_
        refine lv_goto (tgt := 108) hx hb dX11_holdsOne_104 (by decide) ?_
        refine zi_icmp_eq (tgt := 115) hx hb dX11_holdsOne_108 (by decide) (Nat.lt_trans (nB_lt _) (by decide)) (by omega) (fun c_108 => ?_) (fun c_108 => ?_)
        · refine lv_iconst (v := nI 0) hx hb dX11_holdsOne_115 (by decide) ?_
          exact zr_ze hx hb hr hlocks (by rw [HO, if_neg c_11, if_neg c_40, decide_eq_true (Or.inl c_94)]; revert c_108; cases AN f (evF f d).1 (evF f d).2 c9 0 q k a <;> intro c_108 <;> first | rfl | exact absurd c_108 (by decide) | exact absurd rfl c_108) (hP) hS dX11_holdsOne_116
        · refine lv_iconst (v := nI 1) hx hb dX11_holdsOne_111 (by decide) ?_
          refine lv_goto (tgt := 116) hx hb dX11_holdsOne_112 (by decide) ?_
          exact zr_ze hx hb hr hlocks (by rw [HO, if_neg c_11, if_neg c_40, decide_eq_true (Or.inl c_94)]; revert c_108; cases AN f (evF f d).1 (evF f d).2 c9 0 q k a <;> intro c_108 <;> first | rfl | exact absurd c_108 (by decide) | exact absurd rfl c_108) (hP) hS dX11_holdsOne_116
      · refine lv_iload hx hb dX11_holdsOne_97 (lv_at hl 0 rfl) ?_
        refine lv_iconst (v := nI 4) hx hb dX11_holdsOne_99 (by decide) ?_
        refine zi_icmp_ne (tgt := 107) hx hb dX11_holdsOne_100 (by decide) (by omega) (by omega) (fun c_100 => ?_) (fun c_100 => ?_)
        · refine lv_iconst (v := nI 0) hx hb dX11_holdsOne_107 (by decide) ?_
          refine zi_icmp_eq (tgt := 115) hx hb dX11_holdsOne_108 (by decide) (Nat.lt_trans (nB_lt _) (by decide)) (by omega) (fun c_108 => ?_) (fun c_108 => ?_)
          · refine lv_iconst (v := nI 0) hx hb dX11_holdsOne_115 (by decide) ?_
            exact zr_ze hx hb hr hlocks (by rw [HO, if_neg c_11, if_neg c_40, decide_eq_false (not_or.mpr ⟨c_94, c_100⟩)]; revert c_108; cases AN f (evF f d).1 (evF f d).2 c9 0 q k a <;> intro c_108 <;> first | rfl | exact absurd c_108 (by decide) | exact absurd rfl c_108) (hP) hS dX11_holdsOne_116
          · refine lv_iconst (v := nI 1) hx hb dX11_holdsOne_111 (by decide) ?_
            refine lv_goto (tgt := 116) hx hb dX11_holdsOne_112 (by decide) ?_
            exact zr_ze hx hb hr hlocks (by rw [HO, if_neg c_11, if_neg c_40, decide_eq_false (not_or.mpr ⟨c_94, c_100⟩)]; revert c_108; cases AN f (evF f d).1 (evF f d).2 c9 0 q k a <;> intro c_108 <;> first | rfl | exact absurd c_108 (by decide) | exact absurd rfl c_108) (hP) hS dX11_holdsOne_116
        · refine lv_iconst (v := nI 1) hx hb dX11_holdsOne_103 (by decide) ?_
          refine lv_goto (tgt := 108) hx hb dX11_holdsOne_104 (by decide) ?_
          refine zi_icmp_eq (tgt := 115) hx hb dX11_holdsOne_108 (by decide) (Nat.lt_trans (nB_lt _) (by decide)) (by omega) (fun c_108 => ?_) (fun c_108 => ?_)
          · refine lv_iconst (v := nI 0) hx hb dX11_holdsOne_115 (by decide) ?_
            exact zr_ze hx hb hr hlocks (by rw [HO, if_neg c_11, if_neg c_40, decide_eq_true (Or.inr c_100)]; revert c_108; cases AN f (evF f d).1 (evF f d).2 c9 0 q k a <;> intro c_108 <;> first | rfl | exact absurd c_108 (by decide) | exact absurd rfl c_108) (hP) hS dX11_holdsOne_116
          · refine lv_iconst (v := nI 1) hx hb dX11_holdsOne_111 (by decide) ?_
            refine lv_goto (tgt := 116) hx hb dX11_holdsOne_112 (by decide) ?_
            exact zr_ze hx hb hr hlocks (by rw [HO, if_neg c_11, if_neg c_40, decide_eq_true (Or.inr c_100)]; revert c_108; cases AN f (evF f d).1 (evF f d).2 c9 0 q k a <;> intro c_108 <;> first | rfl | exact absurd c_108 (by decide) | exact absurd rfl c_108) (hP) hS dX11_holdsOne_116
    · refine lv_aload_n hx hb dX11_holdsOne_43 rfl (lv_at hl 1 rfl) ?_
      refine lv_iload_n hx hb dX11_holdsOne_44 rfl (lv_at hl 2 rfl) ?_
      refine lv_iconst (v := nI 0) hx hb dX11_holdsOne_45 (by decide) ?_
      refine lv_iload_n hx hb dX11_holdsOne_46 rfl (lv_at hl 3 rfl) ?_
      refine lv_iload_n hx hb dX11_holdsOne_47 rfl (lv_at hl 4 rfl) ?_
      refine lv_iload hx hb dX11_holdsOne_48 (lv_at hl 5 rfl) ?_
      refine zc_VE (As := [.int (nI (c9)), .int (nI (0)), .int (nI (q)), .int (nI (k)), .int (nI (a))]) (rest := []) ⟨hx, hb, hml, hown, hts⟩ (m_any l G o qs fs f d c9 0 hal hfh (hlf c_11) q k a (u) hq hk) (cwV 5 hts (zgV wm_X11_299 wv_X11_any) rfl rfl rfl (by decide +kernel) ⟨show 30 * d + 69 + 1 ≤ 30 * d + 70 by omega, show 8 + (8 + 11) + (900 * d + 1776) ≤ 900 * d + 1803 by omega⟩) hK hO rfl hP rfl hl.1 rfl (Nat.le_of_ble_eq_true rfl) dX11_holdsOne_50 ⟨Nat.zero_le _, Nat.zero_le _⟩ hS (fun _ h9 => h9) (fun H locs hP hz9 hk9 hS => ?_)
      obtain ⟨hO, hA, hS1, h8, hln, hne9⟩ := id hP
      refine W.eq (g2 := F0 m 53 ls ([.int (nI (nB (AN f (evF f d).1 (evF f d).2 c9 0 q k a)))])) rfl ?_
      refine lv_aload_n hx hb dX11_holdsOne_53 rfl (lv_at hl 1 rfl) ?_
      refine zi_get (C := RX11) (T := TX11) (N := 23) (v := .ref (qs)) hx hb hz wo_X11 hown hK hO rfl 1 (by decide) (hz _ wf_X11_7) (fun _ h9 => h9) (MM.s1 hS1) dX11_holdsOne_54 ?_
      refine lv_aload_n hx hb dX11_holdsOne_57 rfl (lv_at hl 1 rfl) ?_
      refine lv_iload_n hx hb dX11_holdsOne_58 rfl (lv_at hl 2 rfl) ?_
      refine zc_V (As := [.int (nI (c9))]) (rest := [.ref (qs), .int (nI (nB (AN f (evF f d).1 (evF f d).2 c9 0 q k a)))]) ⟨hx, hb, hml, hown, hts⟩ (m_valueOf l G o qs (zM fs ((u))) f c9 hok.1) (cwV 1 hts (zgV wm_X11_131 wv_X11_valueOf) rfl rfl rfl (by decide +kernel) ⟨show 1 + 1 ≤ 30 * d + 70 by omega, show 8 + (2 + 11) + (22) ≤ 900 * d + 1803 by omega⟩) hK hO rfl hP.mv rfl hl.1 rfl (Nat.le_of_ble_eq_true rfl) dX11_holdsOne_59 ⟨Nat.zero_le _, Nat.zero_le _⟩ ?_
      refine zi_ald hx hb hK hA (hcv.b.2.1 (isR_9 hco.2.1 c_40)) (by decide) dX11_holdsOne_62 ?_
      refine lv_iconst (v := nI 1) hx hb dX11_holdsOne_63 (by decide) ?_
      refine zi_icmp_ne (tgt := 71) hx hb dX11_holdsOne_64 (by decide) (Nat.lt_trans (h8 _) (by decide)) (by omega) (fun c_64 => ?_) (fun c_64 => ?_)
      · refine lv_iconst (v := nI 0) hx hb dX11_holdsOne_71 (by decide) ?_
        refine zi_icmp_ne (tgt := 79) hx hb dX11_holdsOne_72 (by decide) (Nat.lt_trans (nB_lt _) (by decide)) (by omega) (fun c_72 => ?_) (fun c_72 => ?_)
        · refine lv_iconst (v := nI 0) hx hb dX11_holdsOne_79 (by decide) ?_
          exact zr_ze hx hb hr hlocks (by rw [HO, if_neg c_11, if_pos c_40, decide_eq_false c_64]; revert c_72; cases AN f (evF f d).1 (evF f d).2 c9 0 q k a <;> intro c_72 <;> first | rfl | exact absurd c_72 (by decide) | exact absurd rfl c_72) (hP) hS dX11_holdsOne_80
        · refine lv_iconst (v := nI 1) hx hb dX11_holdsOne_75 (by decide) ?_
          refine lv_goto (tgt := 80) hx hb dX11_holdsOne_76 (by decide) ?_
          exact zr_ze hx hb hr hlocks (by rw [HO, if_neg c_11, if_pos c_40, decide_eq_false c_64]; revert c_72; cases AN f (evF f d).1 (evF f d).2 c9 0 q k a <;> intro c_72 <;> first | rfl | exact absurd c_72 (by decide) | exact absurd rfl c_72) (hP) hS dX11_holdsOne_80
      · refine lv_iconst (v := nI 1) hx hb dX11_holdsOne_67 (by decide) ?_
        refine lv_goto (tgt := 72) hx hb dX11_holdsOne_68 (by decide) ?_
        refine zi_icmp_ne (tgt := 79) hx hb dX11_holdsOne_72 (by decide) (Nat.lt_trans (nB_lt _) (by decide)) (by omega) (fun c_72 => ?_) (fun c_72 => ?_)
        · refine lv_iconst (v := nI 0) hx hb dX11_holdsOne_79 (by decide) ?_
          exact zr_ze hx hb hr hlocks (by rw [HO, if_neg c_11, if_pos c_40, decide_eq_true c_64]; revert c_72; cases AN f (evF f d).1 (evF f d).2 c9 0 q k a <;> intro c_72 <;> first | rfl | exact absurd c_72 (by decide) | exact absurd rfl c_72) (hP) hS dX11_holdsOne_80
        · refine lv_iconst (v := nI 1) hx hb dX11_holdsOne_75 (by decide) ?_
          refine lv_goto (tgt := 80) hx hb dX11_holdsOne_76 (by decide) ?_
          exact zr_ze hx hb hr hlocks (by rw [HO, if_neg c_11, if_pos c_40, decide_eq_true c_64]; revert c_72; cases AN f (evF f d).1 (evF f d).2 c9 0 q k a <;> intro c_72 <;> first | rfl | exact absurd c_72 (by decide) | exact absurd rfl c_72) (hP) hS dX11_holdsOne_80
  · refine lv_aload_n hx hb dX11_holdsOne_14 rfl (lv_at hl 1 rfl) ?_
    refine lv_aload_n hx hb dX11_holdsOne_15 rfl (lv_at hl 1 rfl) ?_
    refine lv_iload_n hx hb dX11_holdsOne_16 rfl (lv_at hl 2 rfl) ?_
    refine zc_V (As := [.int (nI (c9))]) (rest := [.ref (o)]) ⟨hx, hb, hml, hown, hts⟩ (m_valueOf l G o qs (zM fs (u)) f c9 hok.1) (cwV 1 hts (zgV wm_X11_131 wv_X11_valueOf) rfl rfl rfl (by decide +kernel) ⟨show 1 + 1 ≤ 30 * d + 70 by omega, show 8 + (2 + 11) + (22) ≤ 900 * d + 1803 by omega⟩) hK hO rfl hP.mv rfl hl.1 rfl (Nat.le_of_ble_eq_true rfl) dX11_holdsOne_17 ⟨Nat.zero_le _, Nat.zero_le _⟩ ?_
    refine lv_iload_n hx hb dX11_holdsOne_20 rfl (lv_at hl 3 rfl) ?_
    refine lv_iload_n hx hb dX11_holdsOne_21 rfl (lv_at hl 4 rfl) ?_
    refine lv_iload hx hb dX11_holdsOne_22 (lv_at hl 5 rfl) ?_
    refine zc_VE (As := [.int (nI (vo f c9)), .int (nI (q)), .int (nI (k)), .int (nI (a))]) (rest := []) ⟨hx, hb, hml, hown, hts⟩ (hal (vo f c9) q k a (u) (hco.2.2.1 c_11) hq hk) (cwV 4 hts (zgV wm_X11_264 wv_X11_all) rfl rfl rfl (by decide +kernel) ⟨show 30 * d + 48 + 1 ≤ 30 * d + 70 by omega, show 8 + (6 + 11) + (900 * d + 1200) ≤ 900 * d + 1803 by omega⟩) hK hO rfl hP rfl hl.1 rfl (Nat.le_of_ble_eq_true rfl) dX11_holdsOne_24 ⟨Nat.zero_le _, Nat.zero_le _⟩ hS (fun _ h9 => h9) (fun H locs hP hz9 hk9 hS => ?_)
    obtain ⟨hO, hA, hS1, h8, hln, hne9⟩ := id hP
    refine W.eq (g2 := F0 m 27 ls ([.int (nI (nB ((evF f d).1 (vo f c9) q k a)))])) rfl ?_
    refine zb_if_ne (tgt := 34) hx hb dX11_holdsOne_27 (by decide) (fun c_27 => ?_) (fun c_27 => ?_)
    · refine lv_iconst (v := nI 0) hx hb dX11_holdsOne_34 (by decide) ?_
      exact zr_ze hx hb hr hlocks (by rw [HO, if_pos c_11, c_27]; rfl) (hP) hS dX11_holdsOne_35
    · refine lv_iconst (v := nI 1) hx hb dX11_holdsOne_30 (by decide) ?_
      refine lv_goto (tgt := 35) hx hb dX11_holdsOne_31 (by decide) ?_
      exact zr_ze hx hb hr hlocks (by rw [HO, if_pos c_11, c_27]; rfl) (hP) hS dX11_holdsOne_35

set_option maxHeartbeats 4000000 in
set_option maxRecDepth 100000 in
theorem m_elementHolds (l : Launch) (G : zG) (o qs : Nat) (fs : List Value) (f : Nat → Nat) (d e9 : Nat) (hal : C_all l G o qs fs f d) (hfh : C_fh l G o qs fs f d) (he0 : 0 < e9) (hok : okE 18000 f e9) (hcv : okV f 16 (f e9) (vo f e9)) (hel : okEl f (okFl f d).1 (okFl f d).2 e9) (a : Nat) (u : Bool) (hk : okV f 16 3 a) : Met l yX11_elementHolds wsX11_elementHolds (rHO d) (zP G [.ref (o), .int (nI (e9)), .int (nI (a))] (fun H => MM G o qs fs f u H)) (zQ (fun x => x = o) (some (.int (nI (nB (EH f (evF f d).1 (evF f d).2 e9 a))))) (fun H => MM G o qs fs f (u) H)) 0 0 (fun x => x = o) := by
  refine Met.ofW (cc := cX11_elementHolds) (maxL := 5) (ret := (some .boolean)) (by decide) rfl ?_
  intro p en s m args below meth c s₁ B hml hv
  obtain ⟨rfl, hP, hK⟩ := hv
  have hx := B.exec
  have hb := B.bytes
  have hr := B.returns
  have hts := atoms_spec (ws := wsX11_elementHolds) B.pre
  have hz : ∀ w ∈ zW, w.before _ s = true := fun w h => hts w (List.mem_cons_of_mem _ h)
  have hown : s.vm.findClass RX11 = some m.cls := findClass_of_methodNamed B.named
  have hlocks := B.notSynchronized
  obtain ⟨hO, hA, hS1, h8, hln, hne9⟩ := id hP
  have hS : va_S (fun x => x = o) s.heap s.heap [] := va_S.rf
  have hcl := hok.lt
  have hcl1 : e9 + 1 < 18000 := Nat.lt_of_le_of_lt (ne_gt f e9) hok.1.2
  have hl := lv_entry ([.ref (o), .int (nI (e9)), .int (nI (a))]) (n := 5) (Nat.le_of_ble_eq_true rfl)
  rw [lg_entry_eq]
  generalize (lg_sl ([.ref (o), .int (nI (e9)), .int (nI (a))]) ++ List.replicate (5 - (lg_sl ([.ref (o), .int (nI (e9)), .int (nI (a))])).length) Slot.unset).toArray = ls at hl ⊢
  have hl : lv_has ls 5 [(0, .ref (o)), (1, .int (nI (e9))), (2, .int (nI (a)))] := hl
  refine lv_aload_n hx hb dX11_elementHolds_0 rfl (lv_at hl 0 rfl) ?_
  refine lv_iload_n hx hb dX11_elementHolds_1 rfl (lv_at hl 1 rfl) ?_
  refine zc_V (As := [.int (nI (e9))]) (rest := []) ⟨hx, hb, hml, hown, hts⟩ (m_isDollar l G o qs (zM fs (u)) f e9 hcl1) (cwV 1 hts (zgV wm_X11_145 wv_X11_isDollar) rfl rfl rfl (by decide +kernel) ⟨show 0 + 1 ≤ 30 * d + 70 by omega, show 8 + (2 + 11) + (0) ≤ 900 * d + 1803 by omega⟩) hK hO rfl hP.mv rfl hl.1 rfl (Nat.le_of_ble_eq_true rfl) dX11_elementHolds_2 ⟨Nat.zero_le _, Nat.zero_le _⟩ ?_
  refine zb_if_eq (tgt := 84) hx hb dX11_elementHolds_5 (by decide) (fun c_5 => ?_) (fun c_5 => ?_)
  · refine lv_aload_n hx hb dX11_elementHolds_84 rfl (lv_at hl 0 rfl) ?_
    refine lv_aload_n hx hb dX11_elementHolds_85 rfl (lv_at hl 0 rfl) ?_
    refine zi_get (C := RX11) (T := TX11) (N := 23) (v := .ref (qs)) hx hb hz wo_X11 hown hK hO rfl 1 (by decide) (hz _ wf_X11_7) (fun _ h9 => h9) (MM.s1 hS1) dX11_elementHolds_86 ?_
    refine lv_iload_n hx hb dX11_elementHolds_89 rfl (lv_at hl 1 rfl) ?_
    refine zi_ald hx hb hK hA hcl (by decide) dX11_elementHolds_90 ?_
    refine lv_aload_n hx hb dX11_elementHolds_91 rfl (lv_at hl 0 rfl) ?_
    refine lv_iload_n hx hb dX11_elementHolds_92 rfl (lv_at hl 1 rfl) ?_
    refine zc_V (As := [.int (nI (e9))]) (rest := [.int (nI (f e9)), .ref (o)]) ⟨hx, hb, hml, hown, hts⟩ (m_valueOf l G o qs (zM fs (u)) f e9 hok.1) (cwV 1 hts (zgV wm_X11_131 wv_X11_valueOf) rfl rfl rfl (by decide +kernel) ⟨show 1 + 1 ≤ 30 * d + 70 by omega, show 8 + (2 + 11) + (22) ≤ 900 * d + 1803 by omega⟩) hK hO rfl hP.mv rfl hl.1 rfl (Nat.le_of_ble_eq_true rfl) dX11_elementHolds_93 ⟨Nat.zero_le _, Nat.zero_le _⟩ ?_
    refine zc_V (As := [.int (nI (f e9)), .int (nI (vo f e9))]) (rest := []) ⟨hx, hb, hml, hown, hts⟩ (m_isConditions l G o qs (zM fs (u)) f (f e9) (vo f e9) (Nat.lt_trans (h8 _) (by decide)) (fun z => hcv.b.2.2.2.2.2 z)) (cwV 2 hts (zgV wm_X11_227 wv_X11_isConditions) rfl rfl rfl (by decide +kernel) ⟨show 1 + 1 ≤ 30 * d + 70 by omega, show 8 + (3 + 11) + (21) ≤ 900 * d + 1803 by omega⟩) hK hO rfl hP.mv rfl hl.1 rfl (Nat.le_of_ble_eq_true rfl) dX11_elementHolds_96 ⟨Nat.zero_le _, Nat.zero_le _⟩ ?_
    refine zb_if_eq (tgt := 117) hx hb dX11_elementHolds_99 (by decide) (fun c_99 => ?_) (fun c_99 => ?_)
    · refine lv_aload_n hx hb dX11_elementHolds_117 rfl (lv_at hl 0 rfl) ?_
      refine lv_iconst (v := nI 0) hx hb dX11_elementHolds_118 (by decide) ?_
      refine lv_iload_n hx hb dX11_elementHolds_119 rfl (lv_at hl 1 rfl) ?_
      refine lv_iload_n hx hb dX11_elementHolds_120 rfl (lv_at hl 1 rfl) ?_
      refine lv_iconst (v := nI 1) hx hb dX11_elementHolds_121 (by decide) ?_
      refine zi_add hx hb dX11_elementHolds_122 ?_
      refine lv_iconst (v := nI 3) hx hb dX11_elementHolds_123 (by decide) ?_
      refine lv_iload_n hx hb dX11_elementHolds_124 rfl (lv_at hl 2 rfl) ?_
      refine zc_VE (As := [.int (nI (0)), .int (nI (e9)), .int (nI (e9 + 1)), .int (nI (3)), .int (nI (a))]) (rest := []) ⟨hx, hb, hml, hown, hts⟩ (m_any l G o qs fs f d 0 e9 hal hfh ⟨by decide, hcl, fun z => absurd z (by decide), fun _ => ⟨hok, hcv⟩⟩ (e9 + 1) 3 a (u) ⟨9, (hel.2 (of_decide_eq_false c_5)).1⟩ hk) (cwV 5 hts (zgV wm_X11_299 wv_X11_any) rfl rfl rfl (by decide +kernel) ⟨show 30 * d + 69 + 1 ≤ 30 * d + 70 by omega, show 8 + (8 + 11) + (900 * d + 1776) ≤ 900 * d + 1803 by omega⟩) hK hO rfl hP rfl hl.1 rfl (Nat.le_of_ble_eq_true rfl) dX11_elementHolds_125 ⟨Nat.zero_le _, Nat.zero_le _⟩ hS (fun _ h9 => h9) (fun H locs hP hz9 hk9 hS => ?_)
      obtain ⟨hO, hA, hS1, h8, hln, hne9⟩ := id hP
      refine W.eq (g2 := F0 m 128 ls ([.int (nI (nB (AN f (evF f d).1 (evF f d).2 0 e9 (e9 + 1) 3 a)))])) rfl ?_
      exact zr_ze hx hb hr hlocks (by rw [EH, if_neg (of_decide_eq_false c_5), if_neg (by rw [c_99]; decide)]) (hP) hS dX11_elementHolds_128
    · refine lv_aload_n hx hb dX11_elementHolds_102 rfl (lv_at hl 0 rfl) ?_
      refine lv_aload_n hx hb dX11_elementHolds_103 rfl (lv_at hl 0 rfl) ?_
      refine lv_iload_n hx hb dX11_elementHolds_104 rfl (lv_at hl 1 rfl) ?_
      refine zc_V (As := [.int (nI (e9))]) (rest := [.ref (o)]) ⟨hx, hb, hml, hown, hts⟩ (m_valueOf l G o qs (zM fs (u)) f e9 hok.1) (cwV 1 hts (zgV wm_X11_131 wv_X11_valueOf) rfl rfl rfl (by decide +kernel) ⟨show 1 + 1 ≤ 30 * d + 70 by omega, show 8 + (2 + 11) + (22) ≤ 900 * d + 1803 by omega⟩) hK hO rfl hP.mv rfl hl.1 rfl (Nat.le_of_ble_eq_true rfl) dX11_elementHolds_105 ⟨Nat.zero_le _, Nat.zero_le _⟩ ?_
      refine lv_iload_n hx hb dX11_elementHolds_108 rfl (lv_at hl 1 rfl) ?_
      refine lv_iconst (v := nI 1) hx hb dX11_elementHolds_109 (by decide) ?_
      refine zi_add hx hb dX11_elementHolds_110 ?_
      refine lv_iconst (v := nI 3) hx hb dX11_elementHolds_111 (by decide) ?_
      refine lv_iload_n hx hb dX11_elementHolds_112 rfl (lv_at hl 2 rfl) ?_
      refine zc_VE (As := [.int (nI (vo f e9)), .int (nI (e9 + 1)), .int (nI (3)), .int (nI (a))]) (rest := []) ⟨hx, hb, hml, hown, hts⟩ (hal (vo f e9) (e9 + 1) 3 a (u) ((hel.2 (of_decide_eq_false c_5)).2 c_99) ⟨9, (hel.2 (of_decide_eq_false c_5)).1⟩ hk) (cwV 4 hts (zgV wm_X11_264 wv_X11_all) rfl rfl rfl (by decide +kernel) ⟨show 30 * d + 48 + 1 ≤ 30 * d + 70 by omega, show 8 + (6 + 11) + (900 * d + 1200) ≤ 900 * d + 1803 by omega⟩) hK hO rfl hP rfl hl.1 rfl (Nat.le_of_ble_eq_true rfl) dX11_elementHolds_113 ⟨Nat.zero_le _, Nat.zero_le _⟩ hS (fun _ h9 => h9) (fun H locs hP hz9 hk9 hS => ?_)
      obtain ⟨hO, hA, hS1, h8, hln, hne9⟩ := id hP
      refine W.eq (g2 := F0 m 116 ls ([.int (nI (nB ((evF f d).1 (vo f e9) (e9 + 1) 3 a)))])) rfl ?_
      exact zr_ze hx hb hr hlocks (by rw [EH, if_neg (of_decide_eq_false c_5), if_pos c_99]) (hP) hS dX11_elementHolds_116
  · refine lv_aload_n hx hb dX11_elementHolds_8 rfl (lv_at hl 0 rfl) ?_
    refine lv_iload_n hx hb dX11_elementHolds_9 rfl (lv_at hl 1 rfl) ?_
    refine zc_V (As := [.int (nI (e9))]) (rest := []) ⟨hx, hb, hml, hown, hts⟩ (m_isAnd l G o qs (zM fs (u)) f e9 hok.1) (cwV 1 hts (zgV wm_X11_158 wv_X11_isAnd) rfl rfl rfl (by decide +kernel) ⟨show 1 + 1 ≤ 30 * d + 70 by omega, show 8 + (2 + 11) + (26) ≤ 900 * d + 1803 by omega⟩) hK hO rfl hP.mv rfl hl.1 rfl (Nat.le_of_ble_eq_true rfl) dX11_elementHolds_10 ⟨Nat.zero_le _, Nat.zero_le _⟩ ?_
    refine zb_if_ne (tgt := 20) hx hb dX11_elementHolds_13 (by decide) (fun c_13 => ?_) (fun c_13 => ?_)
    · refine lv_iconst (v := nI 0) hx hb dX11_elementHolds_20 (by decide) ?_
      refine lv_istore_n (lv' := [(3, .int (nI (0))), (0, .ref (o)), (1, .int (nI (e9))), (2, .int (nI (a)))]) hx hb dX11_elementHolds_21 rfl hl (by decide) rfl (fun ls hl => ?_)
      have hj := hel.1 (of_decide_eq_true c_5)
      have hk4 := okV_items hcv hj.2.1
      have hf1 := hk4.1.2.lt (by decide)
      have hs0 : EH f (evF f d).1 (evF f d).2 e9 a = (if (els f (vo f e9)).any (fun i => decide ((evF f d).2 (vo f i) a = !isA f e9 wAnd)) = true then isA f e9 wOr else !isA f e9 wOr) := by rw [EH, if_pos (of_decide_eq_true c_5)]
      refine lv_aload_n hx hb dX11_elementHolds_22 rfl (lv_at hl 1 rfl) ?_
      refine lv_aload_n hx hb dX11_elementHolds_23 rfl (lv_at hl 1 rfl) ?_
      refine lv_iload_n hx hb dX11_elementHolds_24 rfl (lv_at hl 2 rfl) ?_
      refine zc_V (As := [.int (nI (e9))]) (rest := [.ref (o)]) ⟨hx, hb, hml, hown, hts⟩ (m_valueOf l G o qs (zM fs (u)) f e9 hok.1) (cwV 1 hts (zgV wm_X11_131 wv_X11_valueOf) rfl rfl rfl (by decide +kernel) ⟨show 1 + 1 ≤ 30 * d + 70 by omega, show 8 + (2 + 11) + (22) ≤ 900 * d + 1803 by omega⟩) hK hO rfl hP.mv rfl hl.1 rfl (Nat.le_of_ble_eq_true rfl) dX11_elementHolds_25 ⟨Nat.zero_le _, Nat.zero_le _⟩ ?_
      refine zc_V (As := [.int (nI (vo f e9))]) (rest := []) ⟨hx, hb, hml, hown, hts⟩ (m_firstOf l G o qs (zM fs (u)) f (vo f e9) hk4.1.1) (cwV 1 hts (zgV wm_X11_137 wv_X11_firstOf) rfl rfl rfl (by decide +kernel) ⟨show 0 + 1 ≤ 30 * d + 70 by omega, show 8 + (2 + 11) + (0) ≤ 900 * d + 1803 by omega⟩) hK hO rfl hP.mv rfl hl.1 rfl (Nat.le_of_ble_eq_true rfl) dX11_elementHolds_28 ⟨Nat.zero_le _, Nat.zero_le _⟩ ?_
      refine lv_istore (lv' := [(4, .int (nI (fi f (vo f e9)))), (3, .int (nI (0))), (0, .ref (o)), (1, .int (nI (e9))), (2, .int (nI (a)))]) hx hb dX11_elementHolds_31 hl (by decide) rfl (fun ls hl => ?_)
      have L33 : ∀ (n_ : Nat) (x : Nat) (X : List Nat), X.length < n_ → (Ch 18000 f x X) → (x < 18000) → (∀ z ∈ X, z ∈ els f (vo f e9)) → (EH f (evF f d).1 (evF f d).2 e9 a = (if X.any (fun i => decide ((evF f d).2 (vo f i) a = !isA f e9 wAnd)) = true then isA f e9 wOr else !isA f e9 wOr)) → ∀ (H : Heap) (locs : List Loc), MM G o qs fs f (u) H → va_S (fun x => x = o) s.heap H locs → ∀ ls : Array Slot, lv_has ls 5 [(0, .ref (o)), (1, .int (nI (e9))), (2, .int (nI (a))), (3, .int (nI (0))), (4, .int (nI (x)))] → W p l en (headSpec wsX11_elementHolds (rHO d)).room s m ([.ref (o), .int (nI (e9)), .int (nI (a))] : List Value).toArray below meth c H locs 0 0 (MQ below (zQ (fun x => x = o) (some (.int (nI (nB (EH f (evF f d).1 (evF f d).2 e9 a))))) (fun H => MM G o qs fs f (u) H)) ([.ref (o), .int (nI (e9)), .int (nI (a))] : List Value).toArray s 0 0 (fun x => x = o)) (F0 m 33 ls []) := by
        intro n_
        induction n_ with
        | zero => intro x X hm_; exact absurd hm_ (Nat.not_lt_zero _)
        | succ n_ ih_ =>
          intro x X hm_ hc hxl hXi hs H locs hP hS ls hl
          obtain ⟨hO, hA, hS1, h8, hln, hne9⟩ := id hP
          refine lv_iload hx hb dX11_elementHolds_33 (lv_at hl 4 rfl) ?_
          refine zi_if_le (tgt := 70) hx hb dX11_elementHolds_35 (by decide) (by omega) (fun c_35 => ?_) (fun c_35 => ?_)
          · have hX0 := hc.nil c_35
            subst hX0
            refine lv_aload_n hx hb dX11_elementHolds_70 rfl (lv_at hl 0 rfl) ?_
            refine lv_iload_n hx hb dX11_elementHolds_71 rfl (lv_at hl 1 rfl) ?_
            refine zc_V (As := [.int (nI (e9))]) (rest := []) ⟨hx, hb, hml, hown, hts⟩ (m_isOr l G o qs (zM fs (u)) f e9 hok.1) (cwV 1 hts (zgV wm_X11_161 wv_X11_isOr) rfl rfl rfl (by decide +kernel) ⟨show 1 + 1 ≤ 30 * d + 70 by omega, show 8 + (2 + 11) + (26) ≤ 900 * d + 1803 by omega⟩) hK hO rfl hP.mv rfl hl.1 rfl (Nat.le_of_ble_eq_true rfl) dX11_elementHolds_72 ⟨Nat.zero_le _, Nat.zero_le _⟩ ?_
            refine zb_if_ne (tgt := 82) hx hb dX11_elementHolds_75 (by decide) (fun c_75 => ?_) (fun c_75 => ?_)
            · refine lv_iconst (v := nI 0) hx hb dX11_elementHolds_82 (by decide) ?_
              exact zr_ze hx hb hr hlocks (by rw [hs, if_neg (by simp), c_75]; rfl) (hP) hS dX11_elementHolds_83
            · refine lv_iconst (v := nI 1) hx hb dX11_elementHolds_78 (by decide) ?_
              refine lv_goto (tgt := 83) hx hb dX11_elementHolds_79 (by decide) ?_
              exact zr_ze hx hb hr hlocks (by rw [hs, if_neg (by simp), c_75]; rfl) (hP) hS dX11_elementHolds_83
          · obtain ⟨X', rfl, hok2, hc'⟩ := hc.cons c_35
            have hx9 := hXi x List.mem_cons_self
            refine lv_aload_n hx hb dX11_elementHolds_38 rfl (lv_at hl 0 rfl) ?_
            refine lv_aload_n hx hb dX11_elementHolds_39 rfl (lv_at hl 0 rfl) ?_
            refine lv_iload hx hb dX11_elementHolds_40 (lv_at hl 4 rfl) ?_
            refine zc_V (As := [.int (nI (x))]) (rest := [.ref (o)]) ⟨hx, hb, hml, hown, hts⟩ (m_valueOf l G o qs (zM fs (u)) f x hok2.1) (cwV 1 hts (zgV wm_X11_131 wv_X11_valueOf) rfl rfl rfl (by decide +kernel) ⟨show 1 + 1 ≤ 30 * d + 70 by omega, show 8 + (2 + 11) + (22) ≤ 900 * d + 1803 by omega⟩) hK hO rfl hP.mv rfl hl.1 rfl (Nat.le_of_ble_eq_true rfl) dX11_elementHolds_42 ⟨Nat.zero_le _, Nat.zero_le _⟩ ?_
            refine lv_iload_n hx hb dX11_elementHolds_45 rfl (lv_at hl 2 rfl) ?_
            refine zc_VE (As := [.int (nI (vo f x)), .int (nI (a))]) (rest := []) ⟨hx, hb, hml, hown, hts⟩ (hfh (vo f x) a (u) (hj.2.2 x hx9).2 hk) (cwV 2 hts (zgV wm_X11_268 wv_X11_filterHolds) rfl rfl rfl (by decide +kernel) ⟨show 30 * d + 48 + 1 ≤ 30 * d + 70 by omega, show 8 + (4 + 11) + (900 * d + 1200) ≤ 900 * d + 1803 by omega⟩) hK hO rfl hP rfl hl.1 rfl (Nat.le_of_ble_eq_true rfl) dX11_elementHolds_46 ⟨Nat.zero_le _, Nat.zero_le _⟩ hS (fun _ h9 => h9) (fun H locs hP hz9 hk9 hS => ?_)
            obtain ⟨hO, hA, hS1, h8, hln, hne9⟩ := id hP
            refine W.eq (g2 := F0 m 49 ls ([.int (nI (nB ((evF f d).2 (vo f x) a)))])) rfl ?_
            refine lv_iload_n hx hb dX11_elementHolds_49 rfl (lv_at hl 3 rfl) ?_
            refine zi_icmp_ne (tgt := 59) hx hb dX11_elementHolds_50 (by decide) (Nat.lt_trans (nB_lt _) (by decide)) (by omega) (fun c_50 => ?_) (fun c_50 => ?_)
            · have hd9 : (fun i => decide ((evF f d).2 (vo f i) a = !isA f e9 wAnd)) x = false := by
                show decide ((evF f d).2 (vo f x) a = !isA f e9 wAnd) = _
                rw [c_13]
                revert c_50
                cases (evF f d).2 (vo f x) a <;> intro c_50 <;> first | rfl | exact absurd c_50 (by decide) | exact absurd rfl c_50
              refine lv_aload_n hx hb dX11_elementHolds_59 rfl (lv_at hl 0 rfl) ?_
              refine lv_iload hx hb dX11_elementHolds_60 (lv_at hl 4 rfl) ?_
              refine zc_V (As := [.int (nI (x))]) (rest := []) ⟨hx, hb, hml, hown, hts⟩ (m_nextOf l G o qs (zM fs ((u))) f x hok2) (cwV 1 hts (zgV wm_X11_140 wv_X11_nextOf) rfl rfl rfl (by decide +kernel) ⟨show 2 + 1 ≤ 30 * d + 70 by omega, show 8 + (4 + 11) + (43) ≤ 900 * d + 1803 by omega⟩) hK hO rfl hP.mv rfl hl.1 rfl (Nat.le_of_ble_eq_true rfl) dX11_elementHolds_62 ⟨Nat.zero_le _, Nat.zero_le _⟩ ?_
              refine lv_istore (lv' := [(4, .int (nI (nx f x))), (0, .ref (o)), (1, .int (nI (e9))), (2, .int (nI (a))), (3, .int (nI (0)))]) hx hb dX11_elementHolds_65 hl (by decide) rfl (fun ls hl => ?_)
              refine lv_goto (tgt := 33) hx hb dX11_elementHolds_67 (by decide) ?_
              exact ih_ (nx f x) (X') (by simp at hm_; omega) hc' (Ch.lt (by decide) hc') (fun z hz => hXi z (List.mem_cons_of_mem _ hz)) (by rw [hs, any_f hd9]) _ _ hP hS ls (lv_sub hl [1, 2, 3, 4, 0] rfl)
            · have hd9 : (fun i => decide ((evF f d).2 (vo f i) a = !isA f e9 wAnd)) x = true := by
                show decide ((evF f d).2 (vo f x) a = !isA f e9 wAnd) = _
                rw [c_13]
                revert c_50
                cases (evF f d).2 (vo f x) a <;> intro c_50 <;> first | rfl | exact absurd c_50 (by decide) | exact absurd rfl c_50
              refine lv_aload_n hx hb dX11_elementHolds_53 rfl (lv_at hl 0 rfl) ?_
              refine lv_iload_n hx hb dX11_elementHolds_54 rfl (lv_at hl 1 rfl) ?_
              refine zc_V (As := [.int (nI (e9))]) (rest := []) ⟨hx, hb, hml, hown, hts⟩ (m_isOr l G o qs (zM fs ((u))) f e9 hok.1) (cwV 1 hts (zgV wm_X11_161 wv_X11_isOr) rfl rfl rfl (by decide +kernel) ⟨show 1 + 1 ≤ 30 * d + 70 by omega, show 8 + (2 + 11) + (26) ≤ 900 * d + 1803 by omega⟩) hK hO rfl hP.mv rfl hl.1 rfl (Nat.le_of_ble_eq_true rfl) dX11_elementHolds_55 ⟨Nat.zero_le _, Nat.zero_le _⟩ ?_
              exact zr_ze hx hb hr hlocks (by rw [hs, any_t hd9, if_pos rfl]) (hP) hS dX11_elementHolds_58
      exact L33 (((els f (vo f e9)).length) + 1) (fi f (vo f e9)) (els f (vo f e9)) (Nat.lt_succ_self _) hk4.1.2 hf1 (fun _ z => z) hs0 _ _ hP hS ls (lv_sub hl [2, 3, 4, 1, 0] rfl)
    · refine lv_iconst (v := nI 1) hx hb dX11_elementHolds_16 (by decide) ?_
      refine lv_goto (tgt := 21) hx hb dX11_elementHolds_17 (by decide) ?_
      refine lv_istore_n (lv' := [(3, .int (nI (1))), (0, .ref (o)), (1, .int (nI (e9))), (2, .int (nI (a)))]) hx hb dX11_elementHolds_21 rfl hl (by decide) rfl (fun ls hl => ?_)
      have hj := hel.1 (of_decide_eq_true c_5)
      have hk4 := okV_items hcv hj.2.1
      have hf1 := hk4.1.2.lt (by decide)
      have hs0 : EH f (evF f d).1 (evF f d).2 e9 a = (if (els f (vo f e9)).any (fun i => decide ((evF f d).2 (vo f i) a = !isA f e9 wAnd)) = true then isA f e9 wOr else !isA f e9 wOr) := by rw [EH, if_pos (of_decide_eq_true c_5)]
      refine lv_aload_n hx hb dX11_elementHolds_22 rfl (lv_at hl 1 rfl) ?_
      refine lv_aload_n hx hb dX11_elementHolds_23 rfl (lv_at hl 1 rfl) ?_
      refine lv_iload_n hx hb dX11_elementHolds_24 rfl (lv_at hl 2 rfl) ?_
      refine zc_V (As := [.int (nI (e9))]) (rest := [.ref (o)]) ⟨hx, hb, hml, hown, hts⟩ (m_valueOf l G o qs (zM fs (u)) f e9 hok.1) (cwV 1 hts (zgV wm_X11_131 wv_X11_valueOf) rfl rfl rfl (by decide +kernel) ⟨show 1 + 1 ≤ 30 * d + 70 by omega, show 8 + (2 + 11) + (22) ≤ 900 * d + 1803 by omega⟩) hK hO rfl hP.mv rfl hl.1 rfl (Nat.le_of_ble_eq_true rfl) dX11_elementHolds_25 ⟨Nat.zero_le _, Nat.zero_le _⟩ ?_
      refine zc_V (As := [.int (nI (vo f e9))]) (rest := []) ⟨hx, hb, hml, hown, hts⟩ (m_firstOf l G o qs (zM fs (u)) f (vo f e9) hk4.1.1) (cwV 1 hts (zgV wm_X11_137 wv_X11_firstOf) rfl rfl rfl (by decide +kernel) ⟨show 0 + 1 ≤ 30 * d + 70 by omega, show 8 + (2 + 11) + (0) ≤ 900 * d + 1803 by omega⟩) hK hO rfl hP.mv rfl hl.1 rfl (Nat.le_of_ble_eq_true rfl) dX11_elementHolds_28 ⟨Nat.zero_le _, Nat.zero_le _⟩ ?_
      refine lv_istore (lv' := [(4, .int (nI (fi f (vo f e9)))), (3, .int (nI (1))), (0, .ref (o)), (1, .int (nI (e9))), (2, .int (nI (a)))]) hx hb dX11_elementHolds_31 hl (by decide) rfl (fun ls hl => ?_)
      have L33 : ∀ (n_ : Nat) (x : Nat) (X : List Nat), X.length < n_ → (Ch 18000 f x X) → (x < 18000) → (∀ z ∈ X, z ∈ els f (vo f e9)) → (EH f (evF f d).1 (evF f d).2 e9 a = (if X.any (fun i => decide ((evF f d).2 (vo f i) a = !isA f e9 wAnd)) = true then isA f e9 wOr else !isA f e9 wOr)) → ∀ (H : Heap) (locs : List Loc), MM G o qs fs f (u) H → va_S (fun x => x = o) s.heap H locs → ∀ ls : Array Slot, lv_has ls 5 [(0, .ref (o)), (1, .int (nI (e9))), (2, .int (nI (a))), (3, .int (nI (1))), (4, .int (nI (x)))] → W p l en (headSpec wsX11_elementHolds (rHO d)).room s m ([.ref (o), .int (nI (e9)), .int (nI (a))] : List Value).toArray below meth c H locs 0 0 (MQ below (zQ (fun x => x = o) (some (.int (nI (nB (EH f (evF f d).1 (evF f d).2 e9 a))))) (fun H => MM G o qs fs f (u) H)) ([.ref (o), .int (nI (e9)), .int (nI (a))] : List Value).toArray s 0 0 (fun x => x = o)) (F0 m 33 ls []) := by
        intro n_
        induction n_ with
        | zero => intro x X hm_; exact absurd hm_ (Nat.not_lt_zero _)
        | succ n_ ih_ =>
          intro x X hm_ hc hxl hXi hs H locs hP hS ls hl
          obtain ⟨hO, hA, hS1, h8, hln, hne9⟩ := id hP
          refine lv_iload hx hb dX11_elementHolds_33 (lv_at hl 4 rfl) ?_
          refine zi_if_le (tgt := 70) hx hb dX11_elementHolds_35 (by decide) (by omega) (fun c_35 => ?_) (fun c_35 => ?_)
          · have hX0 := hc.nil c_35
            subst hX0
            refine lv_aload_n hx hb dX11_elementHolds_70 rfl (lv_at hl 0 rfl) ?_
            refine lv_iload_n hx hb dX11_elementHolds_71 rfl (lv_at hl 1 rfl) ?_
            refine zc_V (As := [.int (nI (e9))]) (rest := []) ⟨hx, hb, hml, hown, hts⟩ (m_isOr l G o qs (zM fs (u)) f e9 hok.1) (cwV 1 hts (zgV wm_X11_161 wv_X11_isOr) rfl rfl rfl (by decide +kernel) ⟨show 1 + 1 ≤ 30 * d + 70 by omega, show 8 + (2 + 11) + (26) ≤ 900 * d + 1803 by omega⟩) hK hO rfl hP.mv rfl hl.1 rfl (Nat.le_of_ble_eq_true rfl) dX11_elementHolds_72 ⟨Nat.zero_le _, Nat.zero_le _⟩ ?_
            refine zb_if_ne (tgt := 82) hx hb dX11_elementHolds_75 (by decide) (fun c_75 => ?_) (fun c_75 => ?_)
            · refine lv_iconst (v := nI 0) hx hb dX11_elementHolds_82 (by decide) ?_
              exact zr_ze hx hb hr hlocks (by rw [hs, if_neg (by simp), c_75]; rfl) (hP) hS dX11_elementHolds_83
            · refine lv_iconst (v := nI 1) hx hb dX11_elementHolds_78 (by decide) ?_
              refine lv_goto (tgt := 83) hx hb dX11_elementHolds_79 (by decide) ?_
              exact zr_ze hx hb hr hlocks (by rw [hs, if_neg (by simp), c_75]; rfl) (hP) hS dX11_elementHolds_83
          · obtain ⟨X', rfl, hok2, hc'⟩ := hc.cons c_35
            have hx9 := hXi x List.mem_cons_self
            refine lv_aload_n hx hb dX11_elementHolds_38 rfl (lv_at hl 0 rfl) ?_
            refine lv_aload_n hx hb dX11_elementHolds_39 rfl (lv_at hl 0 rfl) ?_
            refine lv_iload hx hb dX11_elementHolds_40 (lv_at hl 4 rfl) ?_
            refine zc_V (As := [.int (nI (x))]) (rest := [.ref (o)]) ⟨hx, hb, hml, hown, hts⟩ (m_valueOf l G o qs (zM fs (u)) f x hok2.1) (cwV 1 hts (zgV wm_X11_131 wv_X11_valueOf) rfl rfl rfl (by decide +kernel) ⟨show 1 + 1 ≤ 30 * d + 70 by omega, show 8 + (2 + 11) + (22) ≤ 900 * d + 1803 by omega⟩) hK hO rfl hP.mv rfl hl.1 rfl (Nat.le_of_ble_eq_true rfl) dX11_elementHolds_42 ⟨Nat.zero_le _, Nat.zero_le _⟩ ?_
            refine lv_iload_n hx hb dX11_elementHolds_45 rfl (lv_at hl 2 rfl) ?_
            refine zc_VE (As := [.int (nI (vo f x)), .int (nI (a))]) (rest := []) ⟨hx, hb, hml, hown, hts⟩ (hfh (vo f x) a (u) (hj.2.2 x hx9).2 hk) (cwV 2 hts (zgV wm_X11_268 wv_X11_filterHolds) rfl rfl rfl (by decide +kernel) ⟨show 30 * d + 48 + 1 ≤ 30 * d + 70 by omega, show 8 + (4 + 11) + (900 * d + 1200) ≤ 900 * d + 1803 by omega⟩) hK hO rfl hP rfl hl.1 rfl (Nat.le_of_ble_eq_true rfl) dX11_elementHolds_46 ⟨Nat.zero_le _, Nat.zero_le _⟩ hS (fun _ h9 => h9) (fun H locs hP hz9 hk9 hS => ?_)
            obtain ⟨hO, hA, hS1, h8, hln, hne9⟩ := id hP
            refine W.eq (g2 := F0 m 49 ls ([.int (nI (nB ((evF f d).2 (vo f x) a)))])) rfl ?_
            refine lv_iload_n hx hb dX11_elementHolds_49 rfl (lv_at hl 3 rfl) ?_
            refine zi_icmp_ne (tgt := 59) hx hb dX11_elementHolds_50 (by decide) (Nat.lt_trans (nB_lt _) (by decide)) (by omega) (fun c_50 => ?_) (fun c_50 => ?_)
            · have hd9 : (fun i => decide ((evF f d).2 (vo f i) a = !isA f e9 wAnd)) x = false := by
                show decide ((evF f d).2 (vo f x) a = !isA f e9 wAnd) = _
                rw [c_13]
                revert c_50
                cases (evF f d).2 (vo f x) a <;> intro c_50 <;> first | rfl | exact absurd c_50 (by decide) | exact absurd rfl c_50
              refine lv_aload_n hx hb dX11_elementHolds_59 rfl (lv_at hl 0 rfl) ?_
              refine lv_iload hx hb dX11_elementHolds_60 (lv_at hl 4 rfl) ?_
              refine zc_V (As := [.int (nI (x))]) (rest := []) ⟨hx, hb, hml, hown, hts⟩ (m_nextOf l G o qs (zM fs ((u))) f x hok2) (cwV 1 hts (zgV wm_X11_140 wv_X11_nextOf) rfl rfl rfl (by decide +kernel) ⟨show 2 + 1 ≤ 30 * d + 70 by omega, show 8 + (4 + 11) + (43) ≤ 900 * d + 1803 by omega⟩) hK hO rfl hP.mv rfl hl.1 rfl (Nat.le_of_ble_eq_true rfl) dX11_elementHolds_62 ⟨Nat.zero_le _, Nat.zero_le _⟩ ?_
              refine lv_istore (lv' := [(4, .int (nI (nx f x))), (0, .ref (o)), (1, .int (nI (e9))), (2, .int (nI (a))), (3, .int (nI (1)))]) hx hb dX11_elementHolds_65 hl (by decide) rfl (fun ls hl => ?_)
              refine lv_goto (tgt := 33) hx hb dX11_elementHolds_67 (by decide) ?_
              exact ih_ (nx f x) (X') (by simp at hm_; omega) hc' (Ch.lt (by decide) hc') (fun z hz => hXi z (List.mem_cons_of_mem _ hz)) (by rw [hs, any_f hd9]) _ _ hP hS ls (lv_sub hl [1, 2, 3, 4, 0] rfl)
            · have hd9 : (fun i => decide ((evF f d).2 (vo f i) a = !isA f e9 wAnd)) x = true := by
                show decide ((evF f d).2 (vo f x) a = !isA f e9 wAnd) = _
                rw [c_13]
                revert c_50
                cases (evF f d).2 (vo f x) a <;> intro c_50 <;> first | rfl | exact absurd c_50 (by decide) | exact absurd rfl c_50
              refine lv_aload_n hx hb dX11_elementHolds_53 rfl (lv_at hl 0 rfl) ?_
              refine lv_iload_n hx hb dX11_elementHolds_54 rfl (lv_at hl 1 rfl) ?_
              refine zc_V (As := [.int (nI (e9))]) (rest := []) ⟨hx, hb, hml, hown, hts⟩ (m_isOr l G o qs (zM fs ((u))) f e9 hok.1) (cwV 1 hts (zgV wm_X11_161 wv_X11_isOr) rfl rfl rfl (by decide +kernel) ⟨show 1 + 1 ≤ 30 * d + 70 by omega, show 8 + (2 + 11) + (26) ≤ 900 * d + 1803 by omega⟩) hK hO rfl hP.mv rfl hl.1 rfl (Nat.le_of_ble_eq_true rfl) dX11_elementHolds_55 ⟨Nat.zero_le _, Nat.zero_le _⟩ ?_
              exact zr_ze hx hb hr hlocks (by rw [hs, any_t hd9, if_pos rfl]) (hP) hS dX11_elementHolds_58
      exact L33 (((els f (vo f e9)).length) + 1) (fi f (vo f e9)) (els f (vo f e9)) (Nat.lt_succ_self _) hk4.1.2 hf1 (fun _ z => z) hs0 _ _ hP hS ls (lv_sub hl [2, 3, 4, 1, 0] rfl)

set_option maxHeartbeats 4000000 in
set_option maxRecDepth 100000 in
theorem m_all_S (l : Launch) (G : zG) (o qs : Nat) (fs : List Value) (f : Nat → Nat) (d : Nat) (hal : C_all l G o qs fs f d) (hfh : C_fh l G o qs fs f d) (v q k a : Nat) (u : Bool) (hv : (okFl f (d + 1)).1 v) (hq : okPa f q) (hk : okV f 16 k a) : Met l yX11_all wsX11_all (rAF (d + 1)) (zP G [.ref (o), .int (nI (v)), .int (nI (q)), .int (nI (k)), .int (nI (a))] (fun H => MM G o qs fs f u H)) (zQ (fun x => x = o) (some (.int (nI (nB ((evF f (d + 1)).1 v q k a))))) (fun H => MM G o qs fs f (u) H)) 0 0 (fun x => x = o) := by
  refine Met.ofW (cc := cX11_all) (maxL := 6) (ret := (some .boolean)) (by decide) rfl ?_
  intro p en s m args below meth c s₁ B hml hv
  obtain ⟨rfl, hP, hK⟩ := hv
  have hx := B.exec
  have hb := B.bytes
  have hr := B.returns
  have hts := atoms_spec (ws := wsX11_all) B.pre
  have hz : ∀ w ∈ zW, w.before _ s = true := fun w h => hts w (List.mem_cons_of_mem _ h)
  have hown : s.vm.findClass RX11 = some m.cls := findClass_of_methodNamed B.named
  have hlocks := B.notSynchronized
  obtain ⟨hO, hA, hS1, h8, hln, hne9⟩ := id hP
  have hS : va_S (fun x => x = o) s.heap s.heap [] := va_S.rf
  have hf1 := hv.1.2.lt (by decide)
  have hl := lv_entry ([.ref (o), .int (nI (v)), .int (nI (q)), .int (nI (k)), .int (nI (a))]) (n := 6) (Nat.le_of_ble_eq_true rfl)
  rw [lg_entry_eq]
  generalize (lg_sl ([.ref (o), .int (nI (v)), .int (nI (q)), .int (nI (k)), .int (nI (a))]) ++ List.replicate (6 - (lg_sl ([.ref (o), .int (nI (v)), .int (nI (q)), .int (nI (k)), .int (nI (a))])).length) Slot.unset).toArray = ls at hl ⊢
  have hl : lv_has ls 6 [(0, .ref (o)), (1, .int (nI (v))), (2, .int (nI (q))), (3, .int (nI (k))), (4, .int (nI (a)))] := hl
  refine lv_aload_n hx hb dX11_all_0 rfl (lv_at hl 0 rfl) ?_
  refine lv_iload_n hx hb dX11_all_1 rfl (lv_at hl 1 rfl) ?_
  refine zc_V (As := [.int (nI (v))]) (rest := []) ⟨hx, hb, hml, hown, hts⟩ (m_firstOf l G o qs (zM fs (u)) f v hv.1.1) (cwV 1 hts (zgV wm_X11_137 wv_X11_firstOf) rfl rfl rfl (by decide +kernel) ⟨show 0 + 1 ≤ 30 * (d + 1) + 48 by omega, show 8 + (2 + 11) + (0) ≤ 900 * (d + 1) + 1200 by omega⟩) hK hO rfl hP.mv rfl hl.1 rfl (Nat.le_of_ble_eq_true rfl) dX11_all_2 ⟨Nat.zero_le _, Nat.zero_le _⟩ ?_
  refine lv_istore (lv' := [(5, .int (nI (fi f v))), (0, .ref (o)), (1, .int (nI (v))), (2, .int (nI (q))), (3, .int (nI (k))), (4, .int (nI (a)))]) hx hb dX11_all_5 hl (by decide) rfl (fun ls hl => ?_)
  have L7 : ∀ (n_ : Nat) (x : Nat) (X : List Nat), X.length < n_ → (Ch 18000 f x X) → (x < 18000) → (∀ z ∈ X, z ∈ els f v) → ((evF f (d + 1)).1 v q k a = X.all (fun c => HO f (evF f d).1 (evF f d).2 c q k a)) → ∀ (H : Heap) (locs : List Loc), MM G o qs fs f (u) H → va_S (fun x => x = o) s.heap H locs → ∀ ls : Array Slot, lv_has ls 6 [(0, .ref (o)), (1, .int (nI (v))), (2, .int (nI (q))), (3, .int (nI (k))), (4, .int (nI (a))), (5, .int (nI (x)))] → W p l en (headSpec wsX11_all (rAF (d + 1))).room s m ([.ref (o), .int (nI (v)), .int (nI (q)), .int (nI (k)), .int (nI (a))] : List Value).toArray below meth c H locs 0 0 (MQ below (zQ (fun x => x = o) (some (.int (nI (nB ((evF f (d + 1)).1 v q k a))))) (fun H => MM G o qs fs f (u) H)) ([.ref (o), .int (nI (v)), .int (nI (q)), .int (nI (k)), .int (nI (a))] : List Value).toArray s 0 0 (fun x => x = o)) (F0 m 7 ls []) := by
    intro n_
    induction n_ with
    | zero => intro x X hm_; exact absurd hm_ (Nat.not_lt_zero _)
    | succ n_ ih_ =>
      intro x X hm_ hc hxl hXi hs H locs hP hS ls hl
      obtain ⟨hO, hA, hS1, h8, hln, hne9⟩ := id hP
      refine lv_iload hx hb dX11_all_7 (lv_at hl 5 rfl) ?_
      refine zi_if_le (tgt := 38) hx hb dX11_all_9 (by decide) (by omega) (fun c_9 => ?_) (fun c_9 => ?_)
      · have hX0 := hc.nil c_9
        subst hX0
        refine lv_iconst (v := nI 1) hx hb dX11_all_38 (by decide) ?_
        exact zr_ze hx hb hr hlocks (by rw [hs]; rfl) (hP) hS dX11_all_39
      · obtain ⟨X', rfl, hok, hc'⟩ := hc.cons c_9
        have hx9 := hXi x List.mem_cons_self
        have hx0 := (ch_ok hv.1.2 hx9).2
        refine lv_aload_n hx hb dX11_all_12 rfl (lv_at hl 0 rfl) ?_
        refine lv_iload hx hb dX11_all_13 (lv_at hl 5 rfl) ?_
        refine lv_iload_n hx hb dX11_all_15 rfl (lv_at hl 2 rfl) ?_
        refine lv_iload_n hx hb dX11_all_16 rfl (lv_at hl 3 rfl) ?_
        refine lv_iload hx hb dX11_all_17 (lv_at hl 4 rfl) ?_
        refine zc_VE (As := [.int (nI (x)), .int (nI (q)), .int (nI (k)), .int (nI (a))]) (rest := []) ⟨hx, hb, hml, hown, hts⟩ (m_holdsOne l G o qs fs f d x hal hfh hx0 hok (hv.2 x hx9).1 (hv.2 x hx9).2 q k a (u) hq hk) (cwV 4 hts (zgV wm_X11_302 wv_X11_holdsOne) rfl rfl rfl (by decide +kernel) ⟨show 30 * d + 70 + 1 ≤ 30 * (d + 1) + 48 by omega, show 8 + (6 + 11) + (900 * d + 1803) ≤ 900 * (d + 1) + 1200 by omega⟩) hK hO rfl hP rfl hl.1 rfl (Nat.le_of_ble_eq_true rfl) dX11_all_19 ⟨Nat.zero_le _, Nat.zero_le _⟩ hS (fun _ h9 => h9) (fun H locs hP hz9 hk9 hS => ?_)
        obtain ⟨hO, hA, hS1, h8, hln, hne9⟩ := id hP
        refine W.eq (g2 := F0 m 22 ls ([.int (nI (nB (HO f (evF f d).1 (evF f d).2 x q k a)))])) rfl ?_
        refine zb_if_ne (tgt := 27) hx hb dX11_all_22 (by decide) (fun c_22 => ?_) (fun c_22 => ?_)
        · refine lv_aload_n hx hb dX11_all_27 rfl (lv_at hl 0 rfl) ?_
          refine lv_iload hx hb dX11_all_28 (lv_at hl 5 rfl) ?_
          refine zc_V (As := [.int (nI (x))]) (rest := []) ⟨hx, hb, hml, hown, hts⟩ (m_nextOf l G o qs (zM fs ((u))) f x hok) (cwV 1 hts (zgV wm_X11_140 wv_X11_nextOf) rfl rfl rfl (by decide +kernel) ⟨show 2 + 1 ≤ 30 * (d + 1) + 48 by omega, show 8 + (4 + 11) + (43) ≤ 900 * (d + 1) + 1200 by omega⟩) hK hO rfl hP.mv rfl hl.1 rfl (Nat.le_of_ble_eq_true rfl) dX11_all_30 ⟨Nat.zero_le _, Nat.zero_le _⟩ ?_
          refine lv_istore (lv' := [(5, .int (nI (nx f x))), (0, .ref (o)), (1, .int (nI (v))), (2, .int (nI (q))), (3, .int (nI (k))), (4, .int (nI (a)))]) hx hb dX11_all_33 hl (by decide) rfl (fun ls hl => ?_)
          refine lv_goto (tgt := 7) hx hb dX11_all_35 (by decide) ?_
          exact ih_ (nx f x) (X') (by simp at hm_; omega) hc' (Ch.lt (by decide) hc') (fun z hz => hXi z (List.mem_cons_of_mem _ hz)) (hs.trans (all_t c_22)) _ _ hP hS ls (lv_sub hl [1, 2, 3, 4, 5, 0] rfl)
        · refine lv_iconst (v := nI 0) hx hb dX11_all_25 (by decide) ?_
          exact zr_ze hx hb hr hlocks (by rw [hs, all_f (P := (fun c => HO f (evF f d).1 (evF f d).2 c q k a)) c_22]; rfl) (hP) hS dX11_all_26
  exact L7 (((els f v).length) + 1) (fi f v) (els f v) (Nat.lt_succ_self _) hv.1.2 hf1 (fun _ z => z) rfl _ _ hP hS ls (lv_sub hl [1, 2, 3, 4, 5, 0] rfl)

set_option maxHeartbeats 4000000 in
set_option maxRecDepth 100000 in
theorem m_fh_S (l : Launch) (G : zG) (o qs : Nat) (fs : List Value) (f : Nat → Nat) (d : Nat) (hal : C_all l G o qs fs f d) (hfh : C_fh l G o qs fs f d) (v a : Nat) (u : Bool) (hv : (okFl f (d + 1)).2 v) (hk : okV f 16 3 a) : Met l yX11_filterHolds wsX11_filterHolds (rAF (d + 1)) (zP G [.ref (o), .int (nI (v)), .int (nI (a))] (fun H => MM G o qs fs f u H)) (zQ (fun x => x = o) (some (.int (nI (nB ((evF f (d + 1)).2 v a))))) (fun H => MM G o qs fs f (u) H)) 0 0 (fun x => x = o) := by
  refine Met.ofW (cc := cX11_filterHolds) (maxL := 4) (ret := (some .boolean)) (by decide) rfl ?_
  intro p en s m args below meth c s₁ B hml hv
  obtain ⟨rfl, hP, hK⟩ := hv
  have hx := B.exec
  have hb := B.bytes
  have hr := B.returns
  have hts := atoms_spec (ws := wsX11_filterHolds) B.pre
  have hz : ∀ w ∈ zW, w.before _ s = true := fun w h => hts w (List.mem_cons_of_mem _ h)
  have hown : s.vm.findClass RX11 = some m.cls := findClass_of_methodNamed B.named
  have hlocks := B.notSynchronized
  obtain ⟨hO, hA, hS1, h8, hln, hne9⟩ := id hP
  have hS : va_S (fun x => x = o) s.heap s.heap [] := va_S.rf
  have hf1 := hv.1.2.lt (by decide)
  have hl := lv_entry ([.ref (o), .int (nI (v)), .int (nI (a))]) (n := 4) (Nat.le_of_ble_eq_true rfl)
  rw [lg_entry_eq]
  generalize (lg_sl ([.ref (o), .int (nI (v)), .int (nI (a))]) ++ List.replicate (4 - (lg_sl ([.ref (o), .int (nI (v)), .int (nI (a))])).length) Slot.unset).toArray = ls at hl ⊢
  have hl : lv_has ls 4 [(0, .ref (o)), (1, .int (nI (v))), (2, .int (nI (a)))] := hl
  refine lv_aload_n hx hb dX11_filterHolds_0 rfl (lv_at hl 0 rfl) ?_
  refine lv_iload_n hx hb dX11_filterHolds_1 rfl (lv_at hl 1 rfl) ?_
  refine zc_V (As := [.int (nI (v))]) (rest := []) ⟨hx, hb, hml, hown, hts⟩ (m_firstOf l G o qs (zM fs (u)) f v hv.1.1) (cwV 1 hts (zgV wm_X11_137 wv_X11_firstOf) rfl rfl rfl (by decide +kernel) ⟨show 0 + 1 ≤ 30 * (d + 1) + 48 by omega, show 8 + (2 + 11) + (0) ≤ 900 * (d + 1) + 1200 by omega⟩) hK hO rfl hP.mv rfl hl.1 rfl (Nat.le_of_ble_eq_true rfl) dX11_filterHolds_2 ⟨Nat.zero_le _, Nat.zero_le _⟩ ?_
  refine lv_istore_n (lv' := [(3, .int (nI (fi f v))), (0, .ref (o)), (1, .int (nI (v))), (2, .int (nI (a)))]) hx hb dX11_filterHolds_5 rfl hl (by decide) rfl (fun ls hl => ?_)
  have L6 : ∀ (n_ : Nat) (x : Nat) (X : List Nat), X.length < n_ → (Ch 18000 f x X) → (x < 18000) → (∀ z ∈ X, z ∈ els f v) → ((evF f (d + 1)).2 v a = X.all (fun e => EH f (evF f d).1 (evF f d).2 e a)) → ∀ (H : Heap) (locs : List Loc), MM G o qs fs f (u) H → va_S (fun x => x = o) s.heap H locs → ∀ ls : Array Slot, lv_has ls 4 [(0, .ref (o)), (1, .int (nI (v))), (2, .int (nI (a))), (3, .int (nI (x)))] → W p l en (headSpec wsX11_filterHolds (rAF (d + 1))).room s m ([.ref (o), .int (nI (v)), .int (nI (a))] : List Value).toArray below meth c H locs 0 0 (MQ below (zQ (fun x => x = o) (some (.int (nI (nB ((evF f (d + 1)).2 v a))))) (fun H => MM G o qs fs f (u) H)) ([.ref (o), .int (nI (v)), .int (nI (a))] : List Value).toArray s 0 0 (fun x => x = o)) (F0 m 6 ls []) := by
    intro n_
    induction n_ with
    | zero => intro x X hm_; exact absurd hm_ (Nat.not_lt_zero _)
    | succ n_ ih_ =>
      intro x X hm_ hc hxl hXi hs H locs hP hS ls hl
      obtain ⟨hO, hA, hS1, h8, hln, hne9⟩ := id hP
      refine lv_iload_n hx hb dX11_filterHolds_6 rfl (lv_at hl 3 rfl) ?_
      refine zi_if_le (tgt := 30) hx hb dX11_filterHolds_7 (by decide) (by omega) (fun c_7 => ?_) (fun c_7 => ?_)
      · have hX0 := hc.nil c_7
        subst hX0
        refine lv_iconst (v := nI 1) hx hb dX11_filterHolds_30 (by decide) ?_
        exact zr_ze hx hb hr hlocks (by rw [hs]; rfl) (hP) hS dX11_filterHolds_31
      · obtain ⟨X', rfl, hok, hc'⟩ := hc.cons c_7
        have hx9 := hXi x List.mem_cons_self
        have hx0 := (ch_ok hv.1.2 hx9).2
        refine lv_aload_n hx hb dX11_filterHolds_10 rfl (lv_at hl 0 rfl) ?_
        refine lv_iload_n hx hb dX11_filterHolds_11 rfl (lv_at hl 3 rfl) ?_
        refine lv_iload_n hx hb dX11_filterHolds_12 rfl (lv_at hl 2 rfl) ?_
        refine zc_VE (As := [.int (nI (x)), .int (nI (a))]) (rest := []) ⟨hx, hb, hml, hown, hts⟩ (m_elementHolds l G o qs fs f d x hal hfh hx0 hok (hv.2 x hx9).1 (hv.2 x hx9).2 a (u) hk) (cwV 2 hts (zgV wm_X11_305 wv_X11_elementHolds) rfl rfl rfl (by decide +kernel) ⟨show 30 * d + 70 + 1 ≤ 30 * (d + 1) + 48 by omega, show 8 + (5 + 11) + (900 * d + 1803) ≤ 900 * (d + 1) + 1200 by omega⟩) hK hO rfl hP rfl hl.1 rfl (Nat.le_of_ble_eq_true rfl) dX11_filterHolds_13 ⟨Nat.zero_le _, Nat.zero_le _⟩ hS (fun _ h9 => h9) (fun H locs hP hz9 hk9 hS => ?_)
        obtain ⟨hO, hA, hS1, h8, hln, hne9⟩ := id hP
        refine W.eq (g2 := F0 m 16 ls ([.int (nI (nB (EH f (evF f d).1 (evF f d).2 x a)))])) rfl ?_
        refine zb_if_ne (tgt := 21) hx hb dX11_filterHolds_16 (by decide) (fun c_16 => ?_) (fun c_16 => ?_)
        · refine lv_aload_n hx hb dX11_filterHolds_21 rfl (lv_at hl 0 rfl) ?_
          refine lv_iload_n hx hb dX11_filterHolds_22 rfl (lv_at hl 3 rfl) ?_
          refine zc_V (As := [.int (nI (x))]) (rest := []) ⟨hx, hb, hml, hown, hts⟩ (m_nextOf l G o qs (zM fs ((u))) f x hok) (cwV 1 hts (zgV wm_X11_140 wv_X11_nextOf) rfl rfl rfl (by decide +kernel) ⟨show 2 + 1 ≤ 30 * (d + 1) + 48 by omega, show 8 + (4 + 11) + (43) ≤ 900 * (d + 1) + 1200 by omega⟩) hK hO rfl hP.mv rfl hl.1 rfl (Nat.le_of_ble_eq_true rfl) dX11_filterHolds_23 ⟨Nat.zero_le _, Nat.zero_le _⟩ ?_
          refine lv_istore_n (lv' := [(3, .int (nI (nx f x))), (0, .ref (o)), (1, .int (nI (v))), (2, .int (nI (a)))]) hx hb dX11_filterHolds_26 rfl hl (by decide) rfl (fun ls hl => ?_)
          refine lv_goto (tgt := 6) hx hb dX11_filterHolds_27 (by decide) ?_
          exact ih_ (nx f x) (X') (by simp at hm_; omega) hc' (Ch.lt (by decide) hc') (fun z hz => hXi z (List.mem_cons_of_mem _ hz)) (hs.trans (all_t c_16)) _ _ hP hS ls (lv_sub hl [1, 2, 3, 0] rfl)
        · refine lv_iconst (v := nI 0) hx hb dX11_filterHolds_19 (by decide) ?_
          exact zr_ze hx hb hr hlocks (by rw [hs, all_f (P := (fun e => EH f (evF f d).1 (evF f d).2 e a)) c_16]; rfl) (hP) hS dX11_filterHolds_20
  exact L6 (((els f v).length) + 1) (fi f v) (els f v) (Nat.lt_succ_self _) hv.1.2 hf1 (fun _ z => z) rfl _ _ hP hS ls (lv_sub hl [1, 2, 3, 0] rfl)

theorem m_match_all (l : Launch) (G : zG) (o qs : Nat) (fs : List Value) (f : Nat → Nat) : ∀ d, C_all l G o qs fs f d ∧ C_fh l G o qs fs f d
  | 0 => ⟨fun v q k a u h => h.elim, fun v a u h => h.elim⟩
  | d + 1 =>
    have h := m_match_all l G o qs fs f d
    ⟨fun v q k a u hv hq hk => m_all_S l G o qs fs f d h.1 h.2 v q k a u hv hq hk, fun v a u hv hk => m_fh_S l G o qs fs f d h.1 h.2 v a u hv hk⟩
