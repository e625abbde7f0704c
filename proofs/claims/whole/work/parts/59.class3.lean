set_option maxHeartbeats 4000000 in
set_option maxRecDepth 100000 in
theorem c_named (l : Launch) (G : zG) (f : Nat → Nat) (pf : Nat → Int32) (d v hi k a : Nat) (w : List Nat) (pl : Int32) (nxt : Option Nat) (nm tx : Nat) (vs : List Nat) (b : Nat) (u : List Nat) (Z2 : Nat → Prop) : Met l yX9_named wsX9_named ({ frames := 2, cells := 0, slots := 0, locals := 44 }) (zP G [.ref (v), .ref (b)] (fun H => NodX G H f pf d v hi k a w pl nxt nm tx vs ∧ StrZ G H Z2 b u ∧ CH G H)) (zR (va_rf (fnV f u vs (if k = 3 ∨ k = 4 then els f a else [])))) 0 0 (fun _ => False) := by
  refine Met.ofW (cc := cX9_named) (maxL := 3) (ret := (some (.object "FilterReader$Value"))) (by decide) rfl ?_
  intro p en s m args below meth c s₁ B hml hv
  obtain ⟨rfl, hP, hK⟩ := hv
  have hx := B.exec
  have hb := B.bytes
  have hr := B.returns
  have hts := atoms_spec (ws := wsX9_named) B.pre
  have hz : ∀ w ∈ zW, w.before _ s = true := fun w h => hts w (List.mem_cons_of_mem _ h)
  have hown : s.vm.findClass RX9 = some m.cls := findClass_of_methodNamed B.named
  have hlocks := B.notSynchronized
  obtain ⟨⟨hO, hS, hT, hvh, hkd0⟩, hSb, hCH⟩ := id hP
  have hl := lv_entry ([.ref (v), .ref (b)]) (n := 3) (Nat.le_of_ble_eq_true rfl)
  rw [lg_entry_eq]
  generalize (lg_sl ([.ref (v), .ref (b)]) ++ List.replicate (3 - (lg_sl ([.ref (v), .ref (b)])).length) Slot.unset).toArray = ls at hl ⊢
  have hl : lv_has ls 3 [(0, .ref (v)), (1, .ref (b))] := hl
  refine lv_aload_n hx hb dX9_named_0 rfl (lv_at hl 0 rfl) ?_
  refine zi_get (C := RX9) (T := TX9) (N := 9) (v := va_rf (vs.head?)) hx hb hz wo_X9 hown hK hO rfl 5 (by decide) (hz _ wf_X9_29) (fun _ h9 => h9) rfl dX9_named_1 ?_
  refine zo_astore_n (lv' := [(2, va_rf (vs.head?)), (0, .ref (v)), (1, .ref (b))]) hx hb dX9_named_4 rfl hl (by decide) rfl (fun ls hl => ?_)
  have L5 : ∀ (n_ : Nat) (ws : List Nat) (xs : List Nat) (lo : Nat), ws.length < n_ → (kidL (fun v1 mid x n1 => Nod G s.heap f pf d v1 mid (f x) (vo f x) (nL f x) (pf x) n1) lo hi ws xs) → (fnV f u vs (if k = 3 ∨ k = 4 then els f a else []) = fnV f u ws xs) → ∀ ls : Array Slot, lv_has ls 3 [(0, .ref (v)), (1, .ref (b)), (2, va_rf (ws.head?))] → W p l en (headSpec wsX9_named ({ frames := 2, cells := 0, slots := 0, locals := 44 })).room s m ([.ref (v), .ref (b)] : List Value).toArray below meth c s.heap [] 0 0 (MQ below (zR (va_rf (fnV f u vs (if k = 3 ∨ k = 4 then els f a else [])))) ([.ref (v), .ref (b)] : List Value).toArray s 0 0 (fun _ => False)) (F0 m 5 ls []) := by
    intro n_
    induction n_ with
    | zero => intro ws xs lo hm_; exact absurd hm_ (Nat.not_lt_zero _)
    | succ n_ ih_ =>
      intro ws xs lo hm_ hkd hs9 ls hl
      refine zo_aload_n hx hb dX9_named_5 rfl (lv_at hl 2 rfl) ?_
      rcases ws with _ | ⟨v1, vs1⟩
      · have hl : lv_has ls 3 [(0, .ref (v)), (1, .ref (b)), (2, .null)] := hl
        have hxs_ws := kidL_nil hkd
        subst hxs_ws
        refine W.eq (g2 := F0 m 6 ls ([.null])) rfl ?_
        refine lv_ifnullN (tgt := 30) hx hb dX9_named_6 (by decide) ?_
        refine lv_null hx hb dX9_named_30 ?_
        exact zr_a hx hb hr hlocks (Or.inl rfl) (by rw [hs9]; rfl) dX9_named_31
      · have hl : lv_has ls 3 [(0, .ref (v)), (1, .ref (b)), (2, .ref (v1))] := hl
        obtain ⟨x1, xs1, rfl, hlo1, mid1, hmi1, hN1, hkd1⟩ := kidL_cons hkd
        obtain ⟨nm1, tx1, f1, l1, n1, hO1, hS1, hT1, hv1⟩ := hN1.o
        obtain ⟨sv1, sh1, sz1, -, -, hSS1⟩ := id hS1
        refine W.eq (g2 := F0 m 6 ls ([.ref (v1)])) rfl ?_
        refine lv_ifnull hx hb dX9_named_6 ?_
        refine lv_aload_n hx hb dX9_named_9 rfl (lv_at hl 2 rfl) ?_
        refine zi_get (C := RX9) (T := TX9) (N := 9) (v := .ref (nm1)) hx hb hz wo_X9 hown hK hO1 rfl 2 (by decide) (hz _ wf_X9_22) (fun _ h9 => h9) rfl dX9_named_10 ?_
        refine lv_aload_n hx hb dX9_named_13 rfl (lv_at hl 1 rfl) ?_
        refine zc_Vw (As := [.ref (b)]) (rest := []) ⟨hx, hb, hml, hown, hts⟩ (j_equals l G nm1 b (nL f x1) (u) (Zr G v1 mid1) Z2) (cwV 1 hts (zgV wm_X9_38 wv_J0_equals_9ea2d) rfl rfl rfl (by decide +kernel) ⟨Nat.le_of_ble_eq_true rfl, Nat.le_of_ble_eq_true rfl⟩) hK hSS1.1 rfl ⟨hS1, hSb, hCH⟩ rfl hl.1 rfl (Nat.le_of_ble_eq_true rfl) dX9_named_14 ⟨Nat.zero_le _, Nat.zero_le _⟩ ?_
        refine zb_if_eq (tgt := 22) hx hb dX9_named_17 (by decide) (fun c_17 => ?_) (fun c_17 => ?_)
        · refine lv_aload_n hx hb dX9_named_22 rfl (lv_at hl 2 rfl) ?_
          refine zi_get (C := RX9) (T := TX9) (N := 9) (v := va_rf (vs1.head?)) hx hb hz wo_X9 hown hK hO1 rfl 7 (by decide) (hz _ wf_X9_32) (fun _ h9 => h9) rfl dX9_named_23 ?_
          refine zo_astore_n (lv' := [(2, va_rf (vs1.head?)), (0, .ref (v)), (1, .ref (b))]) hx hb dX9_named_26 rfl hl (by decide) rfl (fun ls hl => ?_)
          refine lv_goto (tgt := 5) hx hb dX9_named_27 (by decide) ?_
          exact ih_ vs1 xs1 mid1 (by simp only [List.length_cons] at hm_; omega) hkd1 (by rw [hs9, fnV, if_neg (of_decide_eq_false c_17)]) ls (lv_sub hl [1, 2, 0] rfl)
        · refine lv_aload_n hx hb dX9_named_20 rfl (lv_at hl 2 rfl) ?_
          exact zr_a hx hb hr hlocks (Or.inr ⟨_, rfl⟩) (by rw [hs9, fnV, if_pos (of_decide_eq_true c_17)]; rfl) dX9_named_21
  exact L5 ((vs.length) + 1) vs ((if k = 3 ∨ k = 4 then els f a else [])) (v + 1) (Nat.lt_succ_self _) hkd0 rfl ls (lv_sub hl [1, 2, 0] rfl)

set_option maxHeartbeats 4000000 in
set_option maxRecDepth 100000 in
theorem c_isConditions (l : Launch) (G : zG) (f : Nat → Nat) (pf : Nat → Int32) (d v hi k a : Nat) (w : List Nat) (pl : Int32) (nxt : Option Nat) (nm tx : Nat) (vs : List Nat) (hkB : okV f (d + 1) k a) : Met l yX9_isConditions wsX9_isConditions ({ frames := 5, cells := 0, slots := 0, locals := 105 }) (zP G [.ref (v)] (fun H => NodX G H f pf d v hi k a w pl nxt nm tx vs ∧ CH G H)) (zR (.int (nI (nB (isC f k a))))) 0 0 (fun _ => False) := by
  refine Met.ofW (cc := cX9_isConditions) (maxL := 1) (ret := (some .boolean)) (by decide) rfl ?_
  intro p en s m args below meth c s₁ B hml hv
  obtain ⟨rfl, hP, hK⟩ := hv
  have hx := B.exec
  have hb := B.bytes
  have hr := B.returns
  have hts := atoms_spec (ws := wsX9_isConditions) B.pre
  have hz : ∀ w ∈ zW, w.before _ s = true := fun w h => hts w (List.mem_cons_of_mem _ h)
  have hown : s.vm.findClass RX9 = some m.cls := findClass_of_methodNamed B.named
  have hlocks := B.notSynchronized
  obtain ⟨⟨hO, hS, hT, hvh, hkd⟩, hCH⟩ := id hP
  have hk31 := hkB.b.lt
  have hl := lv_entry ([.ref (v)]) (n := 1) (Nat.le_of_ble_eq_true rfl)
  rw [lg_entry_eq]
  generalize (lg_sl ([.ref (v)]) ++ List.replicate (1 - (lg_sl ([.ref (v)])).length) Slot.unset).toArray = ls at hl ⊢
  have hl : lv_has ls 1 [(0, .ref (v))] := hl
  refine lv_aload_n hx hb dX9_isConditions_0 rfl (lv_at hl 0 rfl) ?_
  refine zi_get (C := RX9) (T := TX9) (N := 9) (v := .int (nI (k))) hx hb hz wo_X9 hown hK hO rfl 0 (by decide) (hz _ wf_X9_15) (fun _ h9 => h9) rfl dX9_isConditions_1 ?_
  refine lv_iconst (v := nI 3) hx hb dX9_isConditions_4 (by decide) ?_
  refine zi_icmp_ne (tgt := 32) hx hb dX9_isConditions_5 (by decide) hk31 (by omega) (fun c_5 => ?_) (fun c_5 => ?_)
  · refine lv_iconst (v := nI 0) hx hb dX9_isConditions_32 (by decide) ?_
    exact zr_z hx hb hr hlocks (by rw [isC_no c_5]; rfl) dX9_isConditions_33
  · refine lv_aload_n hx hb dX9_isConditions_8 rfl (lv_at hl 0 rfl) ?_
    refine zi_get (C := RX9) (T := TX9) (N := 9) (v := va_rf (vs.head?)) hx hb hz wo_X9 hown hK hO rfl 5 (by decide) (hz _ wf_X9_29) (fun _ h9 => h9) rfl dX9_isConditions_9 ?_
    rcases vs with _ | ⟨v1, vs1⟩
    · have hl : lv_has ls 1 [(0, .ref (v))] := hl
      rw [if_pos (Or.inl c_5)] at hkd
      have hxs := kidL_nil hkd
      refine W.eq (g2 := F0 m 12 ls ([.null])) rfl ?_
      refine lv_ifnullN (tgt := 32) hx hb dX9_isConditions_12 (by decide) ?_
      refine lv_iconst (v := nI 0) hx hb dX9_isConditions_32 (by decide) ?_
      exact zr_z hx hb hr hlocks (by rw [isC_nil (hkB.2 (Or.inl c_5)).1 hxs]; rfl) dX9_isConditions_33
    · have hl : lv_has ls 1 [(0, .ref (v))] := hl
      rw [if_pos (Or.inl c_5)] at hkd
      obtain ⟨x1, xs1, hxs, hlo1, mid1, hmi1, hN1, hkd1⟩ := kidL_cons hkd
      obtain ⟨nm1, tx1, f1, l1, n1, hO1, hS1, hT1, hv1⟩ := hN1.o
      have hBx := (hkB.2 (Or.inl c_5)).1
      refine W.eq (g2 := F0 m 12 ls ([.ref (v1)])) rfl ?_
      refine lv_ifnull hx hb dX9_isConditions_12 ?_
      refine lv_aload_n hx hb dX9_isConditions_15 rfl (lv_at hl 0 rfl) ?_
      refine zi_get (C := RX9) (T := TX9) (N := 9) (v := .ref (v1)) hx hb hz wo_X9 hown hK hO rfl 5 (by decide) (hz _ wf_X9_29) (fun _ h9 => h9) rfl dX9_isConditions_16 ?_
      refine zi_get (C := RX9) (T := TX9) (N := 9) (v := .ref (nm1)) hx hb hz wo_X9 hown hK hO1 rfl 2 (by decide) (hz _ wf_X9_22) (fun _ h9 => h9) rfl dX9_isConditions_19 ?_
      refine zc_SN (As := [.ref (nm1)]) (rest := []) ⟨hx, hb, hml, hown, hts⟩ (c_begins l G nm1 (nL f x1) (Zr G v1 mid1)) ⟨va_cnB 1 hts (zgN wc_X10_beginsWithDollar) rfl rfl rfl (hK.2.1 _ wm_X9_46) (hz _ wi_X10) (by decide +kernel) ⟨Nat.le_of_ble_eq_true rfl, Nat.le_of_ble_eq_true rfl⟩, hz _ wt_X10_beginsWithDollar, trivial⟩ hK ⟨hS1, hCH⟩ rfl hl.1 rfl (Nat.le_of_ble_eq_true rfl) dX9_isConditions_22 ⟨Nat.zero_le _, Nat.zero_le _⟩ ?_
      refine zb_if_eq (tgt := 32) hx hb dX9_isConditions_25 (by decide) (fun c_25 => ?_) (fun c_25 => ?_)
      · refine lv_iconst (v := nI 0) hx hb dX9_isConditions_32 (by decide) ?_
        exact zr_z hx hb hr hlocks (by rw [c_5, isC_cons hBx hxs, c_25]; rfl) dX9_isConditions_33
      · refine lv_iconst (v := nI 1) hx hb dX9_isConditions_28 (by decide) ?_
        refine lv_goto (tgt := 33) hx hb dX9_isConditions_29 (by decide) ?_
        exact zr_z hx hb hr hlocks (by rw [c_5, isC_cons hBx hxs, c_25]; rfl) dX9_isConditions_33
