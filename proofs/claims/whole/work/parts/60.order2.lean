set_option maxHeartbeats 4000000 in
set_option maxRecDepth 100000 in
theorem c_cel_ (l : Launch) (G : zG) (f : Nat → Nat) (d : Nat) (IH : C_cmp l G f d) (pf pf2 : Nat → Int32) (v hi x : Nat) (pl : Int32) (nxt : Option Nat) (v2 hi2 y : Nat) (pl2 : Int32) (nxt2 : Option Nat) (dep : Nat) (hdep : dep + 1 + d ≤ 17) (hk : okV f d (f x) (vo f x)) (hk2 : okV f d (f y) (vo f y)) (hw1 : okW f d (f x) (vo f x)) (hw2 : okW f d (f y) (vo f y)) : Met l yX5_compareElements wsX5_compareElements (rCe d) (zP G [.ref (v), .ref (v2), .int (nI (dep))] (fun H => Nod G H f pf d v hi (f x) (vo f x) (nL f x) pl nxt ∧ Nod G H f pf2 d v2 hi2 (f y) (vo f y) (nL f y) pl2 nxt2 ∧ CH G H)) (zR (.int (oI (cEl f (fun x y => ord f d (f x) (vo f x) (f y) (vo f y)) true x y)))) 0 0 (fun _ => False) := by
  refine Met.ofW (cc := cX5_compareElements) (maxL := 5) (ret := (some .int)) (by decide) rfl ?_
  intro p en s m args below meth c s₁ B hml hv
  obtain ⟨rfl, hP, hK⟩ := hv
  have hx := B.exec
  have hb := B.bytes
  have hr := B.returns
  have hts := atoms_spec (ws := wsX5_compareElements) B.pre
  have hz : ∀ w ∈ zW, w.before _ s = true := fun w h => hts w (List.mem_cons_of_mem _ h)
  have hown : s.vm.findClass RX5 = some m.cls := findClass_of_methodNamed B.named
  have hlocks := B.notSynchronized
  obtain ⟨hN, hN2, hCH⟩ := id hP
  obtain ⟨nm, tx, f1, l1, n1, hO, hS, hT, hvl⟩ := hN.o
  obtain ⟨nm2, tx2, f2, l2, n2, hO2, hS2, hT2, hvl2⟩ := hN2.o
  have hl := lv_entry ([.ref (v), .ref (v2), .int (nI (dep))]) (n := 5) (Nat.le_of_ble_eq_true rfl)
  rw [lg_entry_eq]
  generalize (lg_sl ([.ref (v), .ref (v2), .int (nI (dep))]) ++ List.replicate (5 - (lg_sl ([.ref (v), .ref (v2), .int (nI (dep))])).length) Slot.unset).toArray = ls at hl ⊢
  have hl : lv_has ls 5 [(0, .ref (v)), (1, .ref (v2)), (2, .int (nI (dep)))] := hl
  refine lv_aload_n hx hb dX5_compareElements_0 rfl (lv_at hl 0 rfl) ?_
  refine zi_getN (C := RX9) (T := TX9) (N := 9) (v := .int (nI (f x))) hx hb hz wo_X9 hown hK hO rfl 0 (by decide) wf_X5_9 (fun _ h9 => h9) rfl dX5_compareElements_1 ?_
  refine zc_SN (As := [.int (nI (f x))]) (rest := []) ⟨hx, hb, hml, hown, hts⟩ (c_classOf l G (f x) hk.b.lt) ⟨va_cnB 1 hts (zgN wc_X3_classOf) rfl rfl rfl (hK.2.1 _ wm_X5_15) (hz _ wi_X3) (by decide +kernel) ⟨show 0 + 1 ≤ 3 * d + 6 by omega, show 8 + (1 + 11) + (0) ≤ 90 * d + 150 by omega⟩, hz _ wt_X3_classOf, trivial⟩ hK trivial rfl hl.1 rfl (Nat.le_of_ble_eq_true rfl) dX5_compareElements_4 ⟨Nat.zero_le _, Nat.zero_le _⟩ ?_
  refine lv_aload_n hx hb dX5_compareElements_7 rfl (lv_at hl 1 rfl) ?_
  refine zi_getN (C := RX9) (T := TX9) (N := 9) (v := .int (nI (f y))) hx hb hz wo_X9 hown hK hO2 rfl 0 (by decide) wf_X5_9 (fun _ h9 => h9) rfl dX5_compareElements_8 ?_
  refine zc_SN (As := [.int (nI (f y))]) (rest := [.int (nI (clO (f x)))]) ⟨hx, hb, hml, hown, hts⟩ (c_classOf l G (f y) hk2.b.lt) ⟨va_cnB 1 hts (zgN wc_X3_classOf) rfl rfl rfl (hK.2.1 _ wm_X5_15) (hz _ wi_X3) (by decide +kernel) ⟨show 0 + 1 ≤ 3 * d + 6 by omega, show 8 + (1 + 11) + (0) ≤ 90 * d + 150 by omega⟩, hz _ wt_X3_classOf, trivial⟩ hK trivial rfl hl.1 rfl (Nat.le_of_ble_eq_true rfl) dX5_compareElements_11 ⟨Nat.zero_le _, Nat.zero_le _⟩ ?_
  refine zc_S (As := [.int (nI (clO (f x))), .int (nI (clO (f y)))]) (rest := []) ⟨hx, hb, hml, hown, hts⟩ (j_icmp l G (clO (f x)) (clO (f y)) (Nat.lt_trans (clO_lt _) (by decide)) (Nat.lt_trans (clO_lt _) (by decide))) (va_cwS 2 hts (zgX wm_X5_21 wu_J6_compare_7cf53) rfl rfl rfl (by decide +kernel) ⟨show 0 + 1 ≤ 3 * d + 6 by omega, show 8 + (2 + 11) + (0) ≤ 90 * d + 150 by omega⟩) hK trivial rfl hl.1 rfl (Nat.le_of_ble_eq_true rfl) dX5_compareElements_14 ⟨Nat.zero_le _, Nat.zero_le _⟩ ?_
  refine lv_istore_n (lv' := [(3, .int (oI (cNa (clO (f x)) (clO (f y))))), (0, .ref (v)), (1, .ref (v2)), (2, .int (nI (dep)))]) hx hb dX5_compareElements_17 rfl hl (by decide) rfl (fun ls hl => ?_)
  refine lv_iload_n hx hb dX5_compareElements_18 rfl (lv_at hl 0 rfl) ?_
  refine lv_if_eq (tgt := 24) hx hb dX5_compareElements_19 (by decide) (fun c_19 => ?_) (fun c_19 => ?_)
  · refine lv_aload_n hx hb dX5_compareElements_24 rfl (lv_at hl 1 rfl) ?_
    refine zi_getN (C := RX9) (T := TX9) (N := 9) (v := .ref (nm)) hx hb hz wo_X9 hown hK hO rfl 2 (by decide) wf_X5_60 (fun _ h9 => h9) rfl dX5_compareElements_25 ?_
    refine lv_aload_n hx hb dX5_compareElements_28 rfl (lv_at hl 2 rfl) ?_
    refine zi_getN (C := RX9) (T := TX9) (N := 9) (v := .ref (nm2)) hx hb hz wo_X9 hown hK hO2 rfl 2 (by decide) wf_X5_60 (fun _ h9 => h9) rfl dX5_compareElements_29 ?_
    refine zc_S (As := [.ref (nm), .ref (nm2)]) (rest := []) ⟨hx, hb, hml, hown, hts⟩ (c_compareTexts l G nm nm2 (nL f x) (nL f y) (Zr G v hi) (Zr G v2 hi2)) (cwS 2 hts (zgS wm_X5_40 wu_X5_compareTexts) rfl rfl rfl (by decide +kernel) ⟨show 4 + 1 ≤ 3 * d + 6 by omega, show 8 + (4 + 11) + (85) ≤ 90 * d + 150 by omega⟩) hK ⟨hS, hS2, hCH⟩ rfl hl.1 rfl (Nat.le_of_ble_eq_true rfl) dX5_compareElements_32 ⟨Nat.zero_le _, Nat.zero_le _⟩ ?_
    refine lv_istore (lv' := [(4, .int (oI (lx (nL f x) (nL f y)))), (3, .int (oI (cNa (clO (f x)) (clO (f y))))), (0, .ref (v)), (1, .ref (v2)), (2, .int (nI (dep)))]) hx hb dX5_compareElements_35 hl (by decide) rfl (fun ls hl => ?_)
    refine lv_iload hx hb dX5_compareElements_37 (lv_at hl 0 rfl) ?_
    refine lv_if_eq (tgt := 47) hx hb dX5_compareElements_39 (by decide) (fun c_39 => ?_) (fun c_39 => ?_)
    · refine lv_aload_n hx hb dX5_compareElements_47 rfl (lv_at hl 2 rfl) ?_
      refine lv_aload_n hx hb dX5_compareElements_48 rfl (lv_at hl 3 rfl) ?_
      refine lv_iload_n hx hb dX5_compareElements_49 rfl (lv_at hl 4 rfl) ?_
      refine lv_iconst (v := nI 1) hx hb dX5_compareElements_50 (by decide) ?_
      refine zi_add hx hb dX5_compareElements_51 ?_
      refine zc_S (As := [.ref (v), .ref (v2), .int (nI (dep + 1))]) (rest := []) ⟨hx, hb, hml, hown, hts⟩ (IH pf pf2 v hi (f x) (vo f x) (nL f x) pl nxt v2 hi2 (f y) (vo f y) (nL f y) pl2 nxt2 (dep + 1) hdep hk hk2 hw1 hw2) (cwS 3 hts (zgS wm_X5_63 wu_X5_compare) rfl rfl rfl (by decide +kernel) ⟨show 3 * d + 5 + 1 ≤ 3 * d + 6 by omega, show 8 + (5 + 11) + (90 * d + 125) ≤ 90 * d + 150 by omega⟩) hK ⟨hN, hN2, hCH⟩ rfl hl.1 rfl (Nat.le_of_ble_eq_true rfl) dX5_compareElements_52 ⟨Nat.zero_le _, Nat.zero_le _⟩ ?_
      exact zr_i hx hb hr hlocks (by rw [cEl_v (fun _ => ⟨cNa_eq.mp ((oI_eq _).mp c_19), (oI_eq _).mp c_39⟩)]) dX5_compareElements_55
    · refine lv_iload hx hb dX5_compareElements_42 (lv_at hl 0 rfl) ?_
      refine lv_goto (tgt := 55) hx hb dX5_compareElements_44 (by decide) ?_
      exact zr_i hx hb hr hlocks (by rw [cEl_nm rfl (cNa_eq.mp ((oI_eq _).mp c_19)) (oI_ne0 c_39)]) dX5_compareElements_55
  · refine lv_iload_n hx hb dX5_compareElements_22 rfl (lv_at hl 0 rfl) ?_
    exact zr_i hx hb hr hlocks (by rw [cEl_n (oI_ne0 c_19)]) dX5_compareElements_23

set_option maxHeartbeats 4000000 in
set_option maxRecDepth 100000 in
theorem c_prt_ (l : Launch) (G : zG) (f : Nat → Nat) (d : Nat) (IH : C_cel l G f d) (pf pf2 : Nat → Int32) (v hi k a : Nat) (w : List Nat) (pl : Int32) (nxt : Option Nat) (v2 hi2 k2 b : Nat) (w2 : List Nat) (pl2 : Int32) (nxt2 : Option Nat) (dep : Nat) (hdep : dep + 1 + d ≤ 17) (hk3 : k = 3 ∨ k = 4) (hk23 : k2 = 3 ∨ k2 = 4) (hok1 : ∀ x ∈ els f a, okV f d (f x) (vo f x) ∧ okW f d (f x) (vo f x)) (hok2 : ∀ x ∈ els f b, okV f d (f x) (vo f x) ∧ okW f d (f x) (vo f x)) : Met l yX5_compareParts wsX5_compareParts (rCp d) (zP G [.ref (v), .ref (v2), .int (nI (dep))] (fun H => Nod G H f pf (d + 1) v hi k a w pl nxt ∧ Nod G H f pf2 (d + 1) v2 hi2 k2 b w2 pl2 nxt2 ∧ CH G H)) (zR (.int (oI (obx (cEl f (fun x y => ord f d (f x) (vo f x) (f y) (vo f y)) true) (els f a) (els f b))))) 0 0 (fun _ => False) := by
  refine Met.ofW (cc := cX5_compareParts) (maxL := 6) (ret := (some .int)) (by decide) rfl ?_
  intro p en s m args below meth c s₁ B hml hv
  obtain ⟨rfl, hP, hK⟩ := hv
  have hx := B.exec
  have hb := B.bytes
  have hr := B.returns
  have hts := atoms_spec (ws := wsX5_compareParts) B.pre
  have hz : ∀ w ∈ zW, w.before _ s = true := fun w h => hts w (List.mem_cons_of_mem _ h)
  have hown : s.vm.findClass RX5 = some m.cls := findClass_of_methodNamed B.named
  have hlocks := B.notSynchronized
  obtain ⟨hN, hN2, hCH⟩ := id hP
  obtain ⟨nm, tx, vs, hO, hS, hT, hvl, hkd0⟩ := hN
  obtain ⟨nm2, tx2, us, hO2, hS2, hT2, hvl2, hkd02⟩ := hN2
  rw [if_pos hk3] at hkd0
  rw [if_pos hk23] at hkd02
  have hl := lv_entry ([.ref (v), .ref (v2), .int (nI (dep))]) (n := 6) (Nat.le_of_ble_eq_true rfl)
  rw [lg_entry_eq]
  generalize (lg_sl ([.ref (v), .ref (v2), .int (nI (dep))]) ++ List.replicate (6 - (lg_sl ([.ref (v), .ref (v2), .int (nI (dep))])).length) Slot.unset).toArray = ls at hl ⊢
  have hl : lv_has ls 6 [(0, .ref (v)), (1, .ref (v2)), (2, .int (nI (dep)))] := hl
  refine lv_iload_n hx hb dX5_compareParts_0 rfl (lv_at hl 2 rfl) ?_
  refine lv_bipush (v := nI 16) hx hb dX5_compareParts_1 (by decide) ?_
  refine zi_icmp_le (tgt := 8) hx hb dX5_compareParts_3 (by decide) (by omega) (by omega) (fun c_3 => ?_) (fun c_3 => ?_)
  · refine lv_aload_n hx hb dX5_compareParts_8 rfl (lv_at hl 1 rfl) ?_
    refine zi_getN (C := RX9) (T := TX9) (N := 9) (v := va_rf (us.head?)) hx hb hz wo_X9 hown hK hO2 rfl 5 (by decide) wf_X5_50 (fun _ h9 => h9) rfl dX5_compareParts_9 ?_
    refine zo_astore_n (lv' := [(3, va_rf (us.head?)), (0, .ref (v)), (1, .ref (v2)), (2, .int (nI (dep)))]) hx hb dX5_compareParts_12 rfl hl (by decide) rfl (fun ls hl => ?_)
    refine lv_aload_n hx hb dX5_compareParts_13 rfl (lv_at hl 1 rfl) ?_
    refine zi_getN (C := RX9) (T := TX9) (N := 9) (v := va_rf (vs.head?)) hx hb hz wo_X9 hown hK hO rfl 5 (by decide) wf_X5_50 (fun _ h9 => h9) rfl dX5_compareParts_14 ?_
    refine zo_astore (lv' := [(4, va_rf (vs.head?)), (3, va_rf (us.head?)), (0, .ref (v)), (1, .ref (v2)), (2, .int (nI (dep)))]) hx hb dX5_compareParts_17 hl (by decide) (by simp [List.filter, zo_cat]) (fun ls hl => ?_)
    have L19 : ∀ (n_ : Nat) (ws : List Nat) (xs : List Nat) (lo : Nat) (zs : List Nat) (ys : List Nat) (lo2 : Nat), ws.length < n_ → (kidL (fun v1 mid x n1 => Nod G s.heap f pf d v1 mid (f x) (vo f x) (nL f x) (pf x) n1) lo hi ws xs) → (kidL (fun v1 mid x n1 => Nod G s.heap f pf2 d v1 mid (f x) (vo f x) (nL f x) (pf2 x) n1) lo2 hi2 zs ys) → (∀ z ∈ xs, z ∈ els f a) → (∀ z ∈ ys, z ∈ els f b) → (obx (cEl f (fun x y => ord f d (f x) (vo f x) (f y) (vo f y)) true) (els f a) (els f b) = obx (cEl f (fun x y => ord f d (f x) (vo f x) (f y) (vo f y)) true) xs ys) → ∀ ls : Array Slot, lv_has ls 6 [(0, .ref (v)), (1, .ref (v2)), (2, .int (nI (dep))), (3, va_rf (zs.head?)), (4, va_rf (ws.head?))] → W p l en (headSpec wsX5_compareParts (rCp d)).room s m ([.ref (v), .ref (v2), .int (nI (dep))] : List Value).toArray below meth c s.heap [] 0 0 (MQ below (zR (.int (oI (obx (cEl f (fun x y => ord f d (f x) (vo f x) (f y) (vo f y)) true) (els f a) (els f b))))) ([.ref (v), .ref (v2), .int (nI (dep))] : List Value).toArray s 0 0 (fun _ => False)) (F0 m 19 ls []) := by
      intro n_
      induction n_ with
      | zero => intro ws xs lo zs ys lo2 hm_; exact absurd hm_ (Nat.not_lt_zero _)
      | succ n_ ih_ =>
        intro ws xs lo zs ys lo2 hm_ hkd hkd2 hXi hYi hs9 ls hl
        refine zo_aload hx hb dX5_compareParts_19 (lv_at hl 4 rfl) ?_
        rcases ws with _ | ⟨v1, vs1⟩
        · have hl : lv_has ls 6 [(0, .ref (v)), (1, .ref (v2)), (2, .int (nI (dep))), (3, va_rf (zs.head?)), (4, .null)] := hl
          have hxs_ws := kidL_nil hkd
          subst hxs_ws
          refine W.eq (g2 := F0 m 21 ls ([.null])) rfl ?_
          refine lv_ifnullN (tgt := 62) hx hb dX5_compareParts_21 (by decide) ?_
          refine zo_aload_n hx hb dX5_compareParts_62 rfl (lv_at hl 3 rfl) ?_
          rcases zs with _ | ⟨v3, vs3⟩
          · have hl : lv_has ls 6 [(0, .ref (v)), (1, .ref (v2)), (2, .int (nI (dep))), (3, .null), (4, .null)] := hl
            have hxs_zs := kidL_nil hkd2
            subst hxs_zs
            refine W.eq (g2 := F0 m 63 ls ([.null])) rfl ?_
            refine lv_ifnonnullN hx hb dX5_compareParts_63 ?_
            refine lv_iconst (v := nI 0) hx hb dX5_compareParts_66 (by decide) ?_
            refine lv_goto (tgt := 71) hx hb dX5_compareParts_67 (by decide) ?_
            exact zr_i hx hb hr hlocks (by rw [hs9]; show nI 0 = oI .eq; decide) dX5_compareParts_71
          · have hl : lv_has ls 6 [(0, .ref (v)), (1, .ref (v2)), (2, .int (nI (dep))), (3, .ref (v3)), (4, .null)] := hl
            obtain ⟨x3, xs3, rfl, hlo3, mid3, hmi3, hN3, hkd3⟩ := kidL_cons hkd2
            obtain ⟨nm3, tx3, f3, l3, n3, hO3, hS3, hT3, hv3⟩ := hN3.o
            obtain ⟨sv3, sh3, sz3, -, -, hSS3⟩ := id hS3
            refine W.eq (g2 := F0 m 63 ls ([.ref (v3)])) rfl ?_
            refine lv_ifnonnull (tgt := 70) hx hb dX5_compareParts_63 (by decide) ?_
            refine lv_iconst (v := (-1)) hx hb dX5_compareParts_70 (by decide) ?_
            exact zr_i hx hb hr hlocks (by rw [hs9]; rfl) dX5_compareParts_71
        · have hl : lv_has ls 6 [(0, .ref (v)), (1, .ref (v2)), (2, .int (nI (dep))), (3, va_rf (zs.head?)), (4, .ref (v1))] := hl
          obtain ⟨x1, xs1, rfl, hlo1, mid1, hmi1, hN1, hkd1⟩ := kidL_cons hkd
          obtain ⟨nm1, tx1, f1, l1, n1, hO1, hS1, hT1, hv1⟩ := hN1.o
          obtain ⟨sv1, sh1, sz1, -, -, hSS1⟩ := id hS1
          refine W.eq (g2 := F0 m 21 ls ([.ref (v1)])) rfl ?_
          refine lv_ifnull hx hb dX5_compareParts_21 ?_
          refine zo_aload_n hx hb dX5_compareParts_24 rfl (lv_at hl 3 rfl) ?_
          rcases zs with _ | ⟨v3, vs3⟩
          · have hl : lv_has ls 6 [(0, .ref (v)), (1, .ref (v2)), (2, .int (nI (dep))), (3, .null), (4, .ref (v1))] := hl
            have hxs_zs := kidL_nil hkd2
            subst hxs_zs
            refine W.eq (g2 := F0 m 25 ls ([.null])) rfl ?_
            refine lv_ifnonnullN hx hb dX5_compareParts_25 ?_
            refine lv_iconst (v := nI 1) hx hb dX5_compareParts_28 (by decide) ?_
            exact zr_i hx hb hr hlocks (by rw [hs9]; show nI 1 = oI .gt; decide) dX5_compareParts_29
          · have hl : lv_has ls 6 [(0, .ref (v)), (1, .ref (v2)), (2, .int (nI (dep))), (3, .ref (v3)), (4, .ref (v1))] := hl
            obtain ⟨x3, xs3, rfl, hlo3, mid3, hmi3, hN3, hkd3⟩ := kidL_cons hkd2
            obtain ⟨nm3, tx3, f3, l3, n3, hO3, hS3, hT3, hv3⟩ := hN3.o
            obtain ⟨sv3, sh3, sz3, -, -, hSS3⟩ := id hS3
            refine W.eq (g2 := F0 m 25 ls ([.ref (v3)])) rfl ?_
            refine lv_ifnonnull (tgt := 30) hx hb dX5_compareParts_25 (by decide) ?_
            refine lv_aload hx hb dX5_compareParts_30 (lv_at hl 4 rfl) ?_
            refine lv_aload_n hx hb dX5_compareParts_32 rfl (lv_at hl 3 rfl) ?_
            refine lv_iload_n hx hb dX5_compareParts_33 rfl (lv_at hl 2 rfl) ?_
            refine zc_S (As := [.ref (v1), .ref (v3), .int (nI (dep))]) (rest := []) ⟨hx, hb, hml, hown, hts⟩ (IH pf pf2 v1 mid1 x1 (pf x1) vs1.head? v3 mid3 x3 (pf2 x3) vs3.head? dep hdep (hok1 x1 (hXi x1 List.mem_cons_self)).1 (hok2 x3 (hYi x3 List.mem_cons_self)).1 (hok1 x1 (hXi x1 List.mem_cons_self)).2 (hok2 x3 (hYi x3 List.mem_cons_self)).2) (cwS 3 hts (zgS wm_X5_54 wu_X5_compareElements) rfl rfl rfl (by decide +kernel) ⟨show 3 * d + 6 + 1 ≤ 3 * d + 7 by omega, show 8 + (5 + 11) + (90 * d + 150) ≤ 90 * d + 175 by omega⟩) hK ⟨hN1, hN3, hCH⟩ rfl hl.1 rfl (Nat.le_of_ble_eq_true rfl) dX5_compareParts_34 ⟨Nat.zero_le _, Nat.zero_le _⟩ ?_
            refine lv_istore (lv' := [(5, .int (oI (cEl f (fun x y => ord f d (f x) (vo f x) (f y) (vo f y)) true x1 x3))), (0, .ref (v)), (1, .ref (v2)), (2, .int (nI (dep))), (3, .ref (v3)), (4, .ref (v1))]) hx hb dX5_compareParts_37 hl (by decide) rfl (fun ls hl => ?_)
            refine lv_iload hx hb dX5_compareParts_39 (lv_at hl 0 rfl) ?_
            refine lv_if_eq (tgt := 47) hx hb dX5_compareParts_41 (by decide) (fun c_41 => ?_) (fun c_41 => ?_)
            · refine lv_aload_n hx hb dX5_compareParts_47 rfl (lv_at hl 4 rfl) ?_
              refine zi_getN (C := RX9) (T := TX9) (N := 9) (v := va_rf (vs3.head?)) hx hb hz wo_X9 hown hK hO3 rfl 7 (by decide) wf_X5_57 (fun _ h9 => h9) rfl dX5_compareParts_48 ?_
              refine zo_astore_n (lv' := [(3, va_rf (vs3.head?)), (5, .int (oI (cEl f (fun x y => ord f d (f x) (vo f x) (f y) (vo f y)) true x1 x3))), (0, .ref (v)), (1, .ref (v2)), (2, .int (nI (dep))), (4, .ref (v1))]) hx hb dX5_compareParts_51 rfl hl (by decide) rfl (fun ls hl => ?_)
              refine lv_aload hx hb dX5_compareParts_52 (lv_at hl 5 rfl) ?_
              refine zi_getN (C := RX9) (T := TX9) (N := 9) (v := va_rf (vs1.head?)) hx hb hz wo_X9 hown hK hO1 rfl 7 (by decide) wf_X5_57 (fun _ h9 => h9) rfl dX5_compareParts_54 ?_
              refine zo_astore (lv' := [(4, va_rf (vs1.head?)), (3, va_rf (vs3.head?)), (5, .int (oI (cEl f (fun x y => ord f d (f x) (vo f x) (f y) (vo f y)) true x1 x3))), (0, .ref (v)), (1, .ref (v2)), (2, .int (nI (dep)))]) hx hb dX5_compareParts_57 hl (by decide) (by simp [List.filter, zo_cat]) (fun ls hl => ?_)
              refine lv_goto (tgt := 19) hx hb dX5_compareParts_59 (by decide) ?_
              exact ih_ vs1 xs1 mid1 vs3 xs3 mid3 (by simp only [List.length_cons] at hm_; omega) hkd1 hkd3 (fun z hz => hXi z (List.mem_cons_of_mem _ hz)) (fun z hz => hYi z (List.mem_cons_of_mem _ hz)) (hs9.trans (obx_eq ((oI_eq _).mp c_41))) ls (lv_sub hl [3, 4, 5, 1, 0] rfl)
            · refine lv_iload hx hb dX5_compareParts_44 (lv_at hl 0 rfl) ?_
              exact zr_i hx hb hr hlocks (by rw [hs9, obx_ne (oI_ne0 c_41)]) dX5_compareParts_46
    exact L19 ((vs.length) + 1) vs (els f a) (v + 1) us (els f b) (v2 + 1) (Nat.lt_succ_self _) hkd0 hkd02 (fun _ z => z) (fun _ z => z) rfl ls (lv_sub hl [2, 3, 4, 1, 0] rfl)
  · exfalso; omega

set_option maxHeartbeats 4000000 in
set_option maxRecDepth 100000 in
theorem c_cmp_ (l : Launch) (G : zG) (f : Nat → Nat) (d : Nat) (hB : ∀ d', d = d' + 1 → C_prt l G f d') (pf pf2 : Nat → Int32) (v hi k a : Nat) (w : List Nat) (pl : Int32) (nxt : Option Nat) (v2 hi2 k2 b : Nat) (w2 : List Nat) (pl2 : Int32) (nxt2 : Option Nat) (dep : Nat) (hdep : dep + d ≤ 17) (hk : okV f d k a) (hk2 : okV f d k2 b) (hw1 : okW f d k a) (hw2 : okW f d k2 b) : Met l yX5_compare wsX5_compare (rCm d) (zP G [.ref (v), .ref (v2), .int (nI (dep))] (fun H => Nod G H f pf d v hi k a w pl nxt ∧ Nod G H f pf2 d v2 hi2 k2 b w2 pl2 nxt2 ∧ CH G H)) (zR (.int (oI (ord f d k a k2 b)))) 0 0 (fun _ => False) := by
  refine Met.ofW (cc := cX5_compare) (maxL := 5) (ret := (some .int)) (by decide) rfl ?_
  intro p en s m args below meth c s₁ B hml hv
  obtain ⟨rfl, hP, hK⟩ := hv
  have hx := B.exec
  have hb := B.bytes
  have hr := B.returns
  have hts := atoms_spec (ws := wsX5_compare) B.pre
  have hz : ∀ w ∈ zW, w.before _ s = true := fun w h => hts w (List.mem_cons_of_mem _ h)
  have hown : s.vm.findClass RX5 = some m.cls := findClass_of_methodNamed B.named
  have hlocks := B.notSynchronized
  obtain ⟨hN, hN2, hCH⟩ := id hP
  obtain ⟨nm, tx, f1, l1, n1, hO, hS, hT, hvl⟩ := hN.o
  obtain ⟨nm2, tx2, f2, l2, n2, hO2, hS2, hT2, hvl2⟩ := hN2.o
  have hl := lv_entry ([.ref (v), .ref (v2), .int (nI (dep))]) (n := 5) (Nat.le_of_ble_eq_true rfl)
  rw [lg_entry_eq]
  generalize (lg_sl ([.ref (v), .ref (v2), .int (nI (dep))]) ++ List.replicate (5 - (lg_sl ([.ref (v), .ref (v2), .int (nI (dep))])).length) Slot.unset).toArray = ls at hl ⊢
  have hl : lv_has ls 5 [(0, .ref (v)), (1, .ref (v2)), (2, .int (nI (dep)))] := hl
  refine lv_aload_n hx hb dX5_compare_0 rfl (lv_at hl 0 rfl) ?_
  refine zi_getN (C := RX9) (T := TX9) (N := 9) (v := .int (nI (k))) hx hb hz wo_X9 hown hK hO rfl 0 (by decide) wf_X5_9 (fun _ h9 => h9) rfl dX5_compare_1 ?_
  refine zc_SN (As := [.int (nI (k))]) (rest := []) ⟨hx, hb, hml, hown, hts⟩ (c_classOf l G (k) hk.b.lt) ⟨va_cnB 1 hts (zgN wc_X3_classOf) rfl rfl rfl (hK.2.1 _ wm_X5_15) (hz _ wi_X3) (by decide +kernel) ⟨show 0 + 1 ≤ 3 * d + 5 by omega, show 8 + (1 + 11) + (0) ≤ 90 * d + 125 by omega⟩, hz _ wt_X3_classOf, trivial⟩ hK trivial rfl hl.1 rfl (Nat.le_of_ble_eq_true rfl) dX5_compare_4 ⟨Nat.zero_le _, Nat.zero_le _⟩ ?_
  refine lv_istore_n (lv' := [(3, .int (nI (clO (k)))), (0, .ref (v)), (1, .ref (v2)), (2, .int (nI (dep)))]) hx hb dX5_compare_7 rfl hl (by decide) rfl (fun ls hl => ?_)
  refine lv_iload_n hx hb dX5_compare_8 rfl (lv_at hl 0 rfl) ?_
  refine lv_aload_n hx hb dX5_compare_9 rfl (lv_at hl 2 rfl) ?_
  refine zi_getN (C := RX9) (T := TX9) (N := 9) (v := .int (nI (k2))) hx hb hz wo_X9 hown hK hO2 rfl 0 (by decide) wf_X5_9 (fun _ h9 => h9) rfl dX5_compare_10 ?_
  refine zc_SN (As := [.int (nI (k2))]) (rest := [.int (nI (clO (k)))]) ⟨hx, hb, hml, hown, hts⟩ (c_classOf l G (k2) hk2.b.lt) ⟨va_cnB 1 hts (zgN wc_X3_classOf) rfl rfl rfl (hK.2.1 _ wm_X5_15) (hz _ wi_X3) (by decide +kernel) ⟨show 0 + 1 ≤ 3 * d + 5 by omega, show 8 + (1 + 11) + (0) ≤ 90 * d + 125 by omega⟩, hz _ wt_X3_classOf, trivial⟩ hK trivial rfl hl.1 rfl (Nat.le_of_ble_eq_true rfl) dX5_compare_13 ⟨Nat.zero_le _, Nat.zero_le _⟩ ?_
  refine zc_S (As := [.int (nI (clO (k))), .int (nI (clO (k2)))]) (rest := []) ⟨hx, hb, hml, hown, hts⟩ (j_icmp l G (clO (k)) (clO (k2)) (Nat.lt_trans (clO_lt _) (by decide)) (Nat.lt_trans (clO_lt _) (by decide))) (va_cwS 2 hts (zgX wm_X5_21 wu_J6_compare_7cf53) rfl rfl rfl (by decide +kernel) ⟨show 0 + 1 ≤ 3 * d + 5 by omega, show 8 + (2 + 11) + (0) ≤ 90 * d + 125 by omega⟩) hK trivial rfl hl.1 rfl (Nat.le_of_ble_eq_true rfl) dX5_compare_16 ⟨Nat.zero_le _, Nat.zero_le _⟩ ?_
  refine lv_istore (lv' := [(4, .int (oI (cNa (clO (k)) (clO (k2))))), (3, .int (nI (clO (k)))), (0, .ref (v)), (1, .ref (v2)), (2, .int (nI (dep)))]) hx hb dX5_compare_19 hl (by decide) rfl (fun ls hl => ?_)
  refine lv_iload hx hb dX5_compare_21 (lv_at hl 0 rfl) ?_
  refine lv_if_eq (tgt := 29) hx hb dX5_compare_23 (by decide) (fun c_23 => ?_) (fun c_23 => ?_)
  · refine lv_iload_n hx hb dX5_compare_29 rfl (lv_at hl 1 rfl) ?_
    by_cases c_30_2 : clO (k) = 2
    · refine zi_tab hx hb dX5_compare_30 (Nat.lt_trans (clO_lt _) (by decide)) 64 (by rw [c_30_2]; decide) ?_
      have hcc : clO k = clO k2 := cNa_eq.mp ((oI_eq _).mp c_23)
      refine lv_aload_n hx hb dX5_compare_64 rfl (lv_at hl 2 rfl) ?_
      refine zi_getN (C := RX9) (T := TX9) (N := 9) (v := .long (numv f k a)) hx hb hz wo_X9 hown hK hO rfl 4 (by decide) wf_X5_27 (fun _ h9 => h9) rfl dX5_compare_65 ?_
      refine lv_aload_n hx hb dX5_compare_68 rfl (lv_at hl 3 rfl) ?_
      refine zi_getN (C := RX9) (T := TX9) (N := 9) (v := .long (numv f k2 b)) hx hb hz wo_X9 hown hK hO2 rfl 4 (by decide) wf_X5_27 (fun _ h9 => h9) rfl dX5_compare_69 ?_
      refine zc_S (As := [.long (numv f k a), .long (numv f k2 b)]) (rest := []) ⟨hx, hb, hml, hown, hts⟩ (j_lcmp l G (numv f k a) (numv f k2 b)) (va_cwS 2 hts (zgX wm_X5_31 wu_J13_compare_74951) rfl rfl rfl (by decide +kernel) ⟨show 0 + 1 ≤ 3 * d + 5 by omega, show 8 + (4 + 11) + (0) ≤ 90 * d + 125 by omega⟩) hK trivial rfl hl.1 rfl (Nat.le_of_ble_eq_true rfl) dX5_compare_72 ⟨Nat.zero_le _, Nat.zero_le _⟩ ?_
      exact zr_i hx hb hr hlocks (by rw [ord_num hcc (by omega), numv_n (by omega), numv_n (by omega)]) dX5_compare_75
    by_cases c_30_3 : clO (k) = 3
    · refine zi_tab hx hb dX5_compare_30 (Nat.lt_trans (clO_lt _) (by decide)) 76 (by rw [c_30_3]; decide) ?_
      have hcc : clO k = clO k2 := cNa_eq.mp ((oI_eq _).mp c_23)
      refine lv_aload_n hx hb dX5_compare_76 rfl (lv_at hl 2 rfl) ?_
      refine zi_getN (C := RX9) (T := TX9) (N := 9) (v := .ref (tx)) hx hb hz wo_X9 hown hK hO rfl 3 (by decide) wf_X5_36 (fun _ h9 => h9) rfl dX5_compare_77 ?_
      refine lv_aload_n hx hb dX5_compare_80 rfl (lv_at hl 3 rfl) ?_
      refine zi_getN (C := RX9) (T := TX9) (N := 9) (v := .ref (tx2)) hx hb hz wo_X9 hown hK hO2 rfl 3 (by decide) wf_X5_36 (fun _ h9 => h9) rfl dX5_compare_81 ?_
      refine zc_S (As := [.ref (tx), .ref (tx2)]) (rest := []) ⟨hx, hb, hml, hown, hts⟩ (c_compareTexts l G tx tx2 (txL f k a) (txL f k2 b) (Zr G v hi) (Zr G v2 hi2)) (cwS 2 hts (zgS wm_X5_40 wu_X5_compareTexts) rfl rfl rfl (by decide +kernel) ⟨show 4 + 1 ≤ 3 * d + 5 by omega, show 8 + (4 + 11) + (85) ≤ 90 * d + 125 by omega⟩) hK ⟨hT, hT2, hCH⟩ rfl hl.1 rfl (Nat.le_of_ble_eq_true rfl) dX5_compare_84 ⟨Nat.zero_le _, Nat.zero_le _⟩ ?_
      exact zr_i hx hb hr hlocks (by rw [ord_txt hcc c_30_3, txL_t c_30_3, txL_t (hcc.symm.trans c_30_3)]) dX5_compare_87
    by_cases c_30_4 : clO (k) = 4
    · refine zi_tab hx hb dX5_compare_30 (Nat.lt_trans (clO_lt _) (by decide)) 88 (by rw [c_30_4]; decide) ?_
      have hcc : clO k = clO k2 := cNa_eq.mp ((oI_eq _).mp c_23)
      have hkk : k = 3 ∨ k = 4 := by
        first | exact Or.inl (clO_4 c_30_4) | exact Or.inr (clO_5 c_30_5)
      have hkk2 : k2 = 3 ∨ k2 = 4 := by
        first | exact Or.inl (clO_4 (hcc.symm.trans c_30_4)) | exact Or.inr (clO_5 (hcc.symm.trans c_30_5))
      obtain ⟨d, rfl⟩ := hk.s hkk
      refine lv_aload_n hx hb dX5_compare_88 rfl (lv_at hl 2 rfl) ?_
      refine lv_aload_n hx hb dX5_compare_89 rfl (lv_at hl 3 rfl) ?_
      refine lv_iload_n hx hb dX5_compare_90 rfl (lv_at hl 4 rfl) ?_
      refine zc_S (As := [.ref (v), .ref (v2), .int (nI (dep))]) (rest := []) ⟨hx, hb, hml, hown, hts⟩ (hB d rfl pf pf2 v hi k a w pl nxt v2 hi2 k2 b w2 pl2 nxt2 dep (by omega) hkk hkk2 (okW.items hw1 hk hkk) (okW.items hw2 hk2 hkk2)) (cwS 3 hts (zgS wm_X5_46 wu_X5_compareParts) rfl rfl rfl (by decide +kernel) ⟨show 3 * d + 7 + 1 ≤ 3 * (d + 1) + 5 by omega, show 8 + (6 + 11) + (90 * d + 175) ≤ 90 * (d + 1) + 125 by omega⟩) hK ⟨hN, hN2, hCH⟩ rfl hl.1 rfl (Nat.le_of_ble_eq_true rfl) dX5_compare_91 ⟨Nat.zero_le _, Nat.zero_le _⟩ ?_
      exact zr_i hx hb hr hlocks (by rw [ord_bx hcc hkk hkk2 hw1 hw2]) dX5_compare_94
    by_cases c_30_5 : clO (k) = 5
    · refine zi_tab hx hb dX5_compare_30 (Nat.lt_trans (clO_lt _) (by decide)) 88 (by rw [c_30_5]; decide) ?_
      have hcc : clO k = clO k2 := cNa_eq.mp ((oI_eq _).mp c_23)
      have hkk : k = 3 ∨ k = 4 := by
        first | exact Or.inl (clO_4 c_30_4) | exact Or.inr (clO_5 c_30_5)
      have hkk2 : k2 = 3 ∨ k2 = 4 := by
        first | exact Or.inl (clO_4 (hcc.symm.trans c_30_4)) | exact Or.inr (clO_5 (hcc.symm.trans c_30_5))
      obtain ⟨d, rfl⟩ := hk.s hkk
      refine lv_aload_n hx hb dX5_compare_88 rfl (lv_at hl 2 rfl) ?_
      refine lv_aload_n hx hb dX5_compare_89 rfl (lv_at hl 3 rfl) ?_
      refine lv_iload_n hx hb dX5_compare_90 rfl (lv_at hl 4 rfl) ?_
      refine zc_S (As := [.ref (v), .ref (v2), .int (nI (dep))]) (rest := []) ⟨hx, hb, hml, hown, hts⟩ (hB d rfl pf pf2 v hi k a w pl nxt v2 hi2 k2 b w2 pl2 nxt2 dep (by omega) hkk hkk2 (okW.items hw1 hk hkk) (okW.items hw2 hk2 hkk2)) (cwS 3 hts (zgS wm_X5_46 wu_X5_compareParts) rfl rfl rfl (by decide +kernel) ⟨show 3 * d + 7 + 1 ≤ 3 * (d + 1) + 5 by omega, show 8 + (6 + 11) + (90 * d + 175) ≤ 90 * (d + 1) + 125 by omega⟩) hK ⟨hN, hN2, hCH⟩ rfl hl.1 rfl (Nat.le_of_ble_eq_true rfl) dX5_compare_91 ⟨Nat.zero_le _, Nat.zero_le _⟩ ?_
      exact zr_i hx hb hr hlocks (by rw [ord_bx hcc hkk hkk2 hw1 hw2]) dX5_compare_94
    by_cases c_30_6 : clO (k) = 6
    · refine zi_tab hx hb dX5_compare_30 (Nat.lt_trans (clO_lt _) (by decide)) 64 (by rw [c_30_6]; decide) ?_
      have hcc : clO k = clO k2 := cNa_eq.mp ((oI_eq _).mp c_23)
      refine lv_aload_n hx hb dX5_compare_64 rfl (lv_at hl 2 rfl) ?_
      refine zi_getN (C := RX9) (T := TX9) (N := 9) (v := .long (numv f k a)) hx hb hz wo_X9 hown hK hO rfl 4 (by decide) wf_X5_27 (fun _ h9 => h9) rfl dX5_compare_65 ?_
      refine lv_aload_n hx hb dX5_compare_68 rfl (lv_at hl 3 rfl) ?_
      refine zi_getN (C := RX9) (T := TX9) (N := 9) (v := .long (numv f k2 b)) hx hb hz wo_X9 hown hK hO2 rfl 4 (by decide) wf_X5_27 (fun _ h9 => h9) rfl dX5_compare_69 ?_
      refine zc_S (As := [.long (numv f k a), .long (numv f k2 b)]) (rest := []) ⟨hx, hb, hml, hown, hts⟩ (j_lcmp l G (numv f k a) (numv f k2 b)) (va_cwS 2 hts (zgX wm_X5_31 wu_J13_compare_74951) rfl rfl rfl (by decide +kernel) ⟨show 0 + 1 ≤ 3 * d + 5 by omega, show 8 + (4 + 11) + (0) ≤ 90 * d + 125 by omega⟩) hK trivial rfl hl.1 rfl (Nat.le_of_ble_eq_true rfl) dX5_compare_72 ⟨Nat.zero_le _, Nat.zero_le _⟩ ?_
      exact zr_i hx hb hr hlocks (by rw [ord_num hcc (by omega), numv_n (by omega), numv_n (by omega)]) dX5_compare_75
    refine zi_tab hx hb dX5_compare_30 (Nat.lt_trans (clO_lt _) (by decide)) 95 ((zTab_d [2, 3, 4, 5, 6] (by decide +kernel) (by simp only [List.mem_cons, List.not_mem_nil, or_false, not_or]; exact ⟨c_30_2, c_30_3, c_30_4, c_30_5, c_30_6⟩)).trans (by decide)) ?_
    have hcc : clO k = clO k2 := cNa_eq.mp ((oI_eq _).mp c_23)
    refine lv_iconst (v := nI 0) hx hb dX5_compare_95 (by decide) ?_
    exact zr_i hx hb hr hlocks (by rw [ord_eq hcc ⟨c_30_2, c_30_6, c_30_3, c_30_4, c_30_5⟩]; decide) dX5_compare_96
  · refine lv_iload hx hb dX5_compare_26 (lv_at hl 0 rfl) ?_
    exact zr_i hx hb hr hlocks (by rw [ord_n (oI_ne0 c_23)]) dX5_compare_28

theorem c_cmp_all (l : Launch) (G : zG) (f : Nat → Nat) : ∀ d, C_cmp l G f d
  | 0 => fun pf pf2 v hi k a w pl nxt v2 hi2 k2 b w2 pl2 nxt2 dep h1 h2 h3 h4 h5 => c_cmp_ l G f 0 (fun d' q => by omega) pf pf2 v hi k a w pl nxt v2 hi2 k2 b w2 pl2 nxt2 dep h1 h2 h3 h4 h5
  | d + 1 => fun pf pf2 v hi k a w pl nxt v2 hi2 k2 b w2 pl2 nxt2 dep h1 h2 h3 h4 h5 => c_cmp_ l G f (d + 1) (fun d' q => by
      have q2 : d' = d := by omega
      subst q2
      exact fun pf pf2 v hi k a w pl nxt v2 hi2 k2 b w2 pl2 nxt2 dep g1 g2 g3 g4 g5 => c_prt_ l G f d' (fun pf pf2 v hi x pl nxt v2 hi2 y pl2 nxt2 dep e1 e2 e3 e4 e5 => c_cel_ l G f d' (c_cmp_all l G f d') pf pf2 v hi x pl nxt v2 hi2 y pl2 nxt2 dep e1 e2 e3 e4 e5) pf pf2 v hi k a w pl nxt v2 hi2 k2 b w2 pl2 nxt2 dep g1 g2 g3 g4 g5) pf pf2 v hi k a w pl nxt v2 hi2 k2 b w2 pl2 nxt2 dep h1 h2 h3 h4 h5
