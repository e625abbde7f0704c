set_option maxHeartbeats 4000000 in
set_option maxRecDepth 100000 in
theorem c_namedG (l : Launch) (G : zG)  (f : Nat → Nat) (pf : Nat → Int32) (d v lo hi : Nat) (vs xs : List Nat) (fs9 : List Value) (hfs9 : fs9[5]? = some (va_rf vs.head?)) (b : Nat) (u : List Nat) (Z2 : Nat → Prop) : Met l yX9_named wsX9_named ({ frames := 2, cells := 0, slots := 0, locals := 44 }) (zP G [.ref (v), .ref (b)] (fun H => zO G H v 8 fs9 ∧ KL G H f pf d lo hi vs xs ∧ StrZ G H Z2 b u ∧ CH G H)) (zR (va_rf (fnV f u vs xs))) 0 0 (fun _ => False) := by
  refine Met.ofW (cc := cX9_named) (maxL := 3) (ret := (some (.object "FilterReader$Value"))) (by decide) rfl ?_
  intro p en s m args below meth c s₁ B hml hv
  obtain ⟨rfl, hP, hK⟩ := hv
  have hx := B.exec
  have hb := B.bytes
  have hr := B.returns
  have hts := atoms_spec (ws := wsX9_named) B.pre
  have hz : ∀ w ∈ zW, w.before _ s = true := fun w h => hts w (List.mem_cons_of_mem _ h)
  have hown : s.vm.findClass RX9 = some m.cls := findClass_of_methodNamed B.named
  have hlocks := B.notSynchronized
  obtain ⟨hO, hkd0, hSb, hCH⟩ := id hP
  have hl := lv_entry ([.ref (v), .ref (b)]) (n := 3) (Nat.le_of_ble_eq_true rfl)
  rw [lg_entry_eq]
  generalize (lg_sl ([.ref (v), .ref (b)]) ++ List.replicate (3 - (lg_sl ([.ref (v), .ref (b)])).length) Slot.unset).toArray = ls at hl ⊢
  have hl : lv_has ls 3 [(0, .ref (v)), (1, .ref (b))] := hl
  refine lv_aload_n hx hb dX9_named_0 rfl (lv_at hl 0 rfl) ?_
  refine zi_get (C := RX9) (T := TX9) (N := 9) (v := va_rf (vs.head?)) hx hb hz wo_X9 hown hK hO rfl 5 (by decide) (hz _ wf_X9_29) (fun _ h9 => h9) hfs9 dX9_named_1 ?_
  refine zo_astore_n (lv' := [(2, va_rf (vs.head?)), (0, .ref (v)), (1, .ref (b))]) hx hb dX9_named_4 rfl hl (by decide) rfl (fun ls hl => ?_)
  have L5 : ∀ (n_ : Nat) (ws : List Nat) (us : List Nat) (lo1 : Nat), ws.length < n_ → (kidL (fun v1 mid x n1 => Nod G s.heap f pf d v1 mid (f x) (vo f x) (nL f x) (pf x) n1) lo1 hi ws us) → (fnV f u vs xs = fnV f u ws us) → ∀ ls : Array Slot, lv_has ls 3 [(0, .ref (v)), (1, .ref (b)), (2, va_rf (ws.head?))] → W p l en (headSpec wsX9_named ({ frames := 2, cells := 0, slots := 0, locals := 44 })).room s m ([.ref (v), .ref (b)] : List Value).toArray below meth c s.heap [] 0 0 (MQ below (zR (va_rf (fnV f u vs xs))) ([.ref (v), .ref (b)] : List Value).toArray s 0 0 (fun _ => False)) (F0 m 5 ls []) := by
    intro n_
    induction n_ with
    | zero => intro ws us lo1 hm_; exact absurd hm_ (Nat.not_lt_zero _)
    | succ n_ ih_ =>
      intro ws us lo1 hm_ hkd hs9 ls hl
      refine zo_aload_n hx hb dX9_named_5 rfl (lv_at hl 2 rfl) ?_
      rcases ws with _ | ⟨v1, vs1⟩
      · have hl : lv_has ls 3 [(0, .ref (v)), (1, .ref (b)), (2, .null)] := hl
        have hxs_ws := kidL_nil hkd
        subst hxs_ws
        refine W.eq (g2 := F0 m 6 ls ([.null])) rfl ?_
        refine lv_ifnullN (tgt := 30) hx hb dX9_named_6 (by decide) ?_
        refine lv_null hx hb dX9_named_30 ?_
        exact zr_a hx hb hr hlocks (Or.inl rfl) (by rw [hs9]; rfl) dX9_named_31
      · have hl : lv_has ls 3 [(0, .ref (v)), (1, .ref (b)), (2, .ref (v1))] := hl
        obtain ⟨x1, xs1, rfl, hlo1, mid1, hmi1, hN1, hkd1⟩ := kidL_cons hkd
        obtain ⟨nm1, tx1, f1, l1, n1, hO1, hS1, hT1, hv1⟩ := hN1.o
        obtain ⟨sv1, sh1, sz1, -, -, hSS1⟩ := id hS1
        refine W.eq (g2 := F0 m 6 ls ([.ref (v1)])) rfl ?_
        refine lv_ifnull hx hb dX9_named_6 ?_
        refine lv_aload_n hx hb dX9_named_9 rfl (lv_at hl 2 rfl) ?_
        refine zi_get (C := RX9) (T := TX9) (N := 9) (v := .ref (nm1)) hx hb hz wo_X9 hown hK hO1 rfl 2 (by decide) (hz _ wf_X9_22) (fun _ h9 => h9) rfl dX9_named_10 ?_
        refine lv_aload_n hx hb dX9_named_13 rfl (lv_at hl 1 rfl) ?_
        refine zc_Vw (As := [.ref (b)]) (rest := []) ⟨hx, hb, hml, hown, hts⟩ (j_equals l G nm1 b (nL f x1) (u) (Zr G v1 mid1) Z2) (cwV 1 hts (zgV wm_X9_38 wv_J0_equals_9ea2d) rfl rfl rfl (by decide +kernel) ⟨Nat.le_of_ble_eq_true rfl, Nat.le_of_ble_eq_true rfl⟩) hK hSS1.1 rfl ⟨hS1, hSb, hCH⟩ rfl hl.1 rfl (Nat.le_of_ble_eq_true rfl) dX9_named_14 ⟨Nat.zero_le _, Nat.zero_le _⟩ ?_
        refine zb_if_eq (tgt := 22) hx hb dX9_named_17 (by decide) (fun c_17 => ?_) (fun c_17 => ?_)
        · refine lv_aload_n hx hb dX9_named_22 rfl (lv_at hl 2 rfl) ?_
          refine zi_get (C := RX9) (T := TX9) (N := 9) (v := va_rf (vs1.head?)) hx hb hz wo_X9 hown hK hO1 rfl 7 (by decide) (hz _ wf_X9_32) (fun _ h9 => h9) rfl dX9_named_23 ?_
          refine zo_astore_n (lv' := [(2, va_rf (vs1.head?)), (0, .ref (v)), (1, .ref (b))]) hx hb dX9_named_26 rfl hl (by decide) rfl (fun ls hl => ?_)
          refine lv_goto (tgt := 5) hx hb dX9_named_27 (by decide) ?_
          exact ih_ vs1 xs1 mid1 (by simp only [List.length_cons] at hm_; omega) hkd1 (by rw [hs9, fnV, if_neg (of_decide_eq_false c_17)]) ls (lv_sub hl [1, 2, 0] rfl)
        · refine lv_aload_n hx hb dX9_named_20 rfl (lv_at hl 2 rfl) ?_
          exact zr_a hx hb hr hlocks (Or.inr ⟨_, rfl⟩) (by rw [hs9, fnV, if_pos (of_decide_eq_true c_17)]; rfl) dX9_named_21
  exact L5 ((vs.length) + 1) vs xs lo (Nat.lt_succ_self _) hkd0 rfl ls (lv_sub hl [1, 2, 0] rfl)

set_option maxHeartbeats 4000000 in
set_option maxRecDepth 100000 in
theorem c_may (l : Launch) (G : zG)  (o : Nat) (fs : List Value) (f : Nat → Nat) (pf : Nat → Int32) (d v lo hi : Nat) (vs xs : List Nat) (k : Nat) (hk : k < 2 ^ 31) (pl : Int32) (nm tx : Nat) (num : Int64) (lst nxt : Option Nat) (hlen : vs.length < 10000) (v2 : Nat) (fs2 : List Value) (nm2 : Nat) (hf2 : fs2[2]? = some (.ref nm2)) (u : List Nat) (hu30 : u.length < 2 ^ 30) (Z2 : Nat → Prop) : Met l yX0_mayFollow wsX0_mayFollow ({ frames := 5, cells := 0, slots := 0, locals := 109 }) (zP G [.ref (o), .ref (v), .ref (v2)] (fun H => zO G H o 1 fs ∧ zO G H v 8 (vF k pl nm tx num vs.head? lst nxt vs.length) ∧ KL G H f pf d lo hi vs xs ∧ zO G H v2 8 fs2 ∧ StrZ G H Z2 nm2 u ∧ CH G H)) (zR (.int (nI (nB (if k = 4 then decide (u = dgl vs.length) else xs.all (fun x => decide (nL f x ≠ u))))))) 0 0 (fun _ => False) := by
  refine Met.ofW (cc := cX0_mayFollow) (maxL := 3) (ret := (some .boolean)) (by decide) rfl ?_
  intro p en s m args below meth c s₁ B hml hv
  obtain ⟨rfl, hP, hK⟩ := hv
  have hx := B.exec
  have hb := B.bytes
  have hr := B.returns
  have hts := atoms_spec (ws := wsX0_mayFollow) B.pre
  have hz : ∀ w ∈ zW, w.before _ s = true := fun w h => hts w (List.mem_cons_of_mem _ h)
  have hown : s.vm.findClass RX0 = some m.cls := findClass_of_methodNamed B.named
  have hlocks := B.notSynchronized
  obtain ⟨hO, hV, hkd, hV2, hSb, hCH⟩ := id hP
  have hl := lv_entry ([.ref (o), .ref (v), .ref (v2)]) (n := 3) (Nat.le_of_ble_eq_true rfl)
  rw [lg_entry_eq]
  generalize (lg_sl ([.ref (o), .ref (v), .ref (v2)]) ++ List.replicate (3 - (lg_sl ([.ref (o), .ref (v), .ref (v2)])).length) Slot.unset).toArray = ls at hl ⊢
  have hl : lv_has ls 3 [(0, .ref (o)), (1, .ref (v)), (2, .ref (v2))] := hl
  refine lv_aload_n hx hb dX0_mayFollow_0 rfl (lv_at hl 1 rfl) ?_
  refine zi_getN (C := RX9) (T := TX9) (N := 9) (v := .int (nI (k))) hx hb hz wo_X9 hown hK hV rfl 0 (by decide) wf_X0_69 (fun _ h9 => h9) rfl dX0_mayFollow_1 ?_
  refine lv_iconst (v := nI 4) hx hb dX0_mayFollow_4 (by decide) ?_
  refine zi_icmp_ne (tgt := 21) hx hb dX0_mayFollow_5 (by decide) hk (by omega) (fun c_5 => ?_) (fun c_5 => ?_)
  · refine lv_aload_n hx hb dX0_mayFollow_21 rfl (lv_at hl 1 rfl) ?_
    refine lv_aload_n hx hb dX0_mayFollow_22 rfl (lv_at hl 2 rfl) ?_
    refine zi_getN (C := RX9) (T := TX9) (N := 9) (v := .ref (nm2)) hx hb hz wo_X9 hown hK hV2 rfl 2 (by decide) wf_X0_90 (fun _ h9 => h9) hf2 dX0_mayFollow_23 ?_
    refine zc_VN (As := [.ref (nm2)]) (rest := []) ⟨hx, hb, hml, hown, hts⟩ (c_namedG l G f pf d v lo hi vs xs _ rfl nm2 u Z2) ⟨va_cnB 1 hts (zgN wc_X9_named) rfl rfl rfl (hK.2.1 _ wm_X0_100) (hz _ wi_X9) (by decide +kernel) ⟨Nat.le_of_ble_eq_true rfl, Nat.le_of_ble_eq_true rfl⟩, hz _ wn_X9_named, hz _ we_X9_named⟩ hK hV rfl ⟨hV, hkd, hSb, hCH⟩ rfl hl.1 rfl (Nat.le_of_ble_eq_true rfl) dX0_mayFollow_26 ⟨Nat.zero_le _, Nat.zero_le _⟩ ?_
    generalize hov : fnV f u vs xs = ov at hl ⊢
    rcases ov with _ | v9
    · have hl : lv_has ls 3 [(0, .ref (o)), (1, .ref (v)), (2, .ref (v2))] := hl
      have hfi := fnV_iff (f := f) (u := u) hkd
      rw [hov] at hfi
      refine W.eq (g2 := F0 m 29 ls ([.null])) rfl ?_
      refine lv_ifnonnullN hx hb dX0_mayFollow_29 ?_
      refine lv_iconst (v := nI 1) hx hb dX0_mayFollow_32 (by decide) ?_
      refine lv_goto (tgt := 37) hx hb dX0_mayFollow_33 (by decide) ?_
      exact zr_z hx hb hr hlocks (by rw [if_neg c_5, ← hfi]; rfl) dX0_mayFollow_37
    · have hl : lv_has ls 3 [(0, .ref (o)), (1, .ref (v)), (2, .ref (v2))] := hl
      have hfi := fnV_iff (f := f) (u := u) hkd
      rw [hov] at hfi
      refine W.eq (g2 := F0 m 29 ls ([.ref (v9)])) rfl ?_
      refine lv_ifnonnull (tgt := 36) hx hb dX0_mayFollow_29 (by decide) ?_
      refine lv_iconst (v := nI 0) hx hb dX0_mayFollow_36 (by decide) ?_
      exact zr_z hx hb hr hlocks (by rw [if_neg c_5, ← hfi]; rfl) dX0_mayFollow_37
  · refine lv_aload_n hx hb dX0_mayFollow_8 rfl (lv_at hl 0 rfl) ?_
    refine lv_aload_n hx hb dX0_mayFollow_9 rfl (lv_at hl 2 rfl) ?_
    refine zi_getN (C := RX9) (T := TX9) (N := 9) (v := .ref (nm2)) hx hb hz wo_X9 hown hK hV2 rfl 2 (by decide) wf_X0_90 (fun _ h9 => h9) hf2 dX0_mayFollow_10 ?_
    refine lv_aload_n hx hb dX0_mayFollow_13 rfl (lv_at hl 1 rfl) ?_
    refine zi_getN (C := RX9) (T := TX9) (N := 9) (v := .int (nI (vs.length))) hx hb hz wo_X9 hown hK hV rfl 8 (by decide) wf_X0_93 (fun _ h9 => h9) rfl dX0_mayFollow_14 ?_
    refine zc_V (As := [.ref (nm2), .int (nI (vs.length))]) (rest := []) ⟨hx, hb, hml, hown, hts⟩ (c_isDec l G o fs nm2 u Z2 vs.length hlen hu30) (cwV 2 hts (zgV wm_X0_96 wv_X0_isDecimal) rfl rfl rfl (by decide +kernel) ⟨Nat.le_of_ble_eq_true rfl, Nat.le_of_ble_eq_true rfl⟩) hK hO rfl ⟨hO, hSb, hCH⟩ rfl hl.1 rfl (Nat.le_of_ble_eq_true rfl) dX0_mayFollow_17 ⟨Nat.zero_le _, Nat.zero_le _⟩ ?_
    exact zr_z hx hb hr hlocks (by rw [if_pos c_5]) dX0_mayFollow_20

set_option maxHeartbeats 4000000 in
set_option maxRecDepth 100000 in
theorem c_rnum (l : Launch) (G : zG) (rd tp qb cn : Nat) (f : Nat → Nat) (at9 N : Nat) (hN : N ≤ 8) (hat : at9 + N ≤ 2000) (hne : tp ≠ rd ∧ qb ≠ rd) : Met l yX0_readNumber wsX0_readNumber ({ frames := 1, cells := 0, slots := 0, locals := 21 }) (zP G [.ref (rd), .int (nI (N))] (fun H => zO G H rd 1 [.ref tp, .int (nI at9)] ∧ TP G tp qb cn f H)) (zX (fun q => q = rd) (fun r9 H => r9 = some (.long (lN (sb8 f at9 0 N))) ∧ zO G H rd 1 [.ref tp, .int (nI (at9 + N))])) (0) (0) (fun q => q = rd) := by
  refine Met.ofW (cc := cX0_readNumber) (maxL := 5) (ret := (some .long)) (by decide) rfl ?_
  intro p en s m args below meth c s₁ B hml hv
  obtain ⟨rfl, hP, hK⟩ := hv
  have hx := B.exec
  have hb := B.bytes
  have hr := B.returns
  have hts := atoms_spec (ws := wsX0_readNumber) B.pre
  have hz : ∀ w ∈ zW, w.before _ s = true := fun w h => hts w (List.mem_cons_of_mem _ h)
  have hown : s.vm.findClass RX0 = some m.cls := findClass_of_methodNamed B.named
  have hlocks := B.notSynchronized
  obtain ⟨hRd, hT⟩ := id hP
  have hS : va_S (fun q => q = rd) s.heap s.heap [] := va_S.rf
  have h8 := hT.2.2
  have hl := lv_entry ([.ref (rd), .int (nI (N))]) (n := 5) (Nat.le_of_ble_eq_true rfl)
  rw [lg_entry_eq]
  generalize (lg_sl ([.ref (rd), .int (nI (N))]) ++ List.replicate (5 - (lg_sl ([.ref (rd), .int (nI (N))])).length) Slot.unset).toArray = ls at hl ⊢
  have hl : lv_has ls 5 [(0, .ref (rd)), (1, .int (nI (N)))] := hl
  refine lv_lconst (v := 0) hx hb dX0_readNumber_0 (by decide) ?_
  refine lv_lstore_n (lv' := [(2, .long (0)), (0, .ref (rd)), (1, .int (nI (N)))]) hx hb dX0_readNumber_1 rfl hl (by decide) rfl (fun ls hl => ?_)
  refine lv_iconst (v := nI 0) hx hb dX0_readNumber_2 (by decide) ?_
  refine lv_istore (lv' := [(4, .int (nI (0))), (2, .long (0)), (0, .ref (rd)), (1, .int (nI (N)))]) hx hb dX0_readNumber_3 hl (by decide) rfl (fun ls hl => ?_)
  have L5 : ∀ (n_ : Nat) (k : Nat) (cl sl : Nat), N - k < n_ → (k ≤ N) → (cl ≤ 0) → (sl ≤ 0) → ∀ (H : Heap) (locs : List Loc), (zO G H rd 1 [.ref tp, .int (nI (at9 + k))]) → (TP G tp qb cn f H) → va_S (fun q => q = rd) s.heap H locs → ∀ ls : Array Slot, lv_has ls 5 [(0, .ref (rd)), (1, .int (nI (N))), (2, .long (lN (sb8 f at9 0 k))), (4, .int (nI (k)))] → W p l en (headSpec wsX0_readNumber ({ frames := 1, cells := 0, slots := 0, locals := 21 })).room s m ([.ref (rd), .int (nI (N))] : List Value).toArray below meth c H locs cl sl (MQ below (zX (fun q => q = rd) (fun r9 H => r9 = some (.long (lN (sb8 f at9 0 N))) ∧ zO G H rd 1 [.ref tp, .int (nI (at9 + N))])) ([.ref (rd), .int (nI (N))] : List Value).toArray s (0) (0) (fun q => q = rd)) (F0 m 5 ls []) := by
    intro n_
    induction n_ with
    | zero => intro k cl sl hm_; exact absurd hm_ (Nat.not_lt_zero _)
    | succ n_ ih_ =>
      intro k cl sl hm_ hkN hcl hsl H locs hRd hT hS ls hl
      refine lv_iload hx hb dX0_readNumber_5 (lv_at hl 3 rfl) ?_
      refine lv_iload_n hx hb dX0_readNumber_7 rfl (lv_at hl 1 rfl) ?_
      refine zi_icmp_ge (tgt := 48) hx hb dX0_readNumber_8 (by decide) (by omega) (by omega) (fun c_8 => ?_) (fun c_8 => ?_)
      · refine lv_lload_n hx hb dX0_readNumber_48 rfl (lv_at hl 2 rfl) ?_
        exact zx_l hx hb hr hlocks (by show cl ≤ 0; omega) (by show sl ≤ 0; omega) (by rw [show k = N by omega] at hRd ⊢; exact ⟨rfl, hRd⟩) hS dX0_readNumber_49
      · refine lv_lload_n hx hb dX0_readNumber_11 rfl (lv_at hl 2 rfl) ?_
        refine lv_aload_n hx hb dX0_readNumber_12 rfl (lv_at hl 0 rfl) ?_
        refine zi_get (C := RX0) (T := TX0) (N := 2) (v := .ref (tp)) hx hb hz wo_X0 hown hK hRd rfl 0 (by decide) (hz _ wf_X0_9) (fun _ h9 => h9) rfl dX0_readNumber_13 ?_
        refine lv_aload_n hx hb dX0_readNumber_16 rfl (lv_at hl 0 rfl) ?_
        refine zi_get (C := RX0) (T := TX0) (N := 2) (v := .int (nI (at9 + k))) hx hb hz wo_X0 hown hK hRd rfl 1 (by decide) (hz _ wf_X0_15) (fun _ h9 => h9) rfl dX0_readNumber_17 ?_
        refine zc_VN (As := [.int (nI (at9 + k))]) (rest := [.long (lN (sb8 f at9 0 k))]) ⟨hx, hb, hml, hown, hts⟩ (c_byteAt2 l G tp qb cn f (at9 + k) (by omega)) ⟨va_cnB 1 hts (zgN wc_X8_byteAt) rfl rfl rfl (hK.2.1 _ wm_X0_48) (hz _ wi_X8) (by decide +kernel) ⟨Nat.le_of_ble_eq_true rfl, Nat.le_of_ble_eq_true rfl⟩, hz _ wn_X8_byteAt, hz _ we_X8_byteAt⟩ hK hT.1 rfl hT rfl hl.1 rfl (Nat.le_of_ble_eq_true rfl) dX0_readNumber_20 ⟨by show cl ≤ 0; omega, by show sl ≤ 0; omega⟩ ?_
        refine lv_i2l (v := lN (f (at9 + k))) hx hb dX0_readNumber_23 (nI_l (Nat.lt_trans (h8 _) (by decide))) ?_
        refine lv_bipush (v := nI 8) hx hb dX0_readNumber_24 (by decide) ?_
        refine lv_iload hx hb dX0_readNumber_26 (lv_at hl 3 rfl) ?_
        refine zi_mul hx hb dX0_readNumber_28 ?_
        refine lv_lshl (v := lN (f (at9 + k) * 2 ^ (8 * k))) hx hb dX0_readNumber_29 (shlN8 (h8 _) (by omega)) ?_
        refine lv_lor hx hb dX0_readNumber_30 ?_
        rw [show ((lN (sb8 f at9 0 k)) ||| (lN (f (at9 + k) * 2 ^ (8 * k)))) = lN (sb8 f at9 0 (k + 1)) from rn_step h8 (by omega)]
        refine W.eq (g2 := F0 m 31 ls ([.long (lN (sb8 f at9 0 (k + 1)))])) rfl ?_
        refine lv_lstore_n (lv' := [(2, .long (lN (sb8 f at9 0 (k + 1)))), (0, .ref (rd)), (1, .int (nI (N))), (4, .int (nI (k)))]) hx hb dX0_readNumber_31 rfl hl (by decide) rfl (fun ls hl => ?_)
        refine lv_aload_n hx hb dX0_readNumber_32 rfl (lv_at hl 1 rfl) ?_
        refine lv_dup hx hb dX0_readNumber_33 rfl ?_
        refine zi_get (C := RX0) (T := TX0) (N := 2) (v := .int (nI (at9 + k))) hx hb hz wo_X0 hown hK hRd rfl 1 (by decide) (hz _ wf_X0_15) (fun _ h9 => h9) rfl dX0_readNumber_34 ?_
        refine lv_iconst (v := nI 1) hx hb dX0_readNumber_37 (by decide) ?_
        refine zi_add hx hb dX0_readNumber_38 ?_
        refine zx_put (C := RX0) (T := TX0) (N := 2) (v := .int (nI (at9 + k + 1))) hx hb hz wo_X0 tyX0 tyX0_ok nmX0 hown hK hRd rfl 1 (by decide) (hz _ wf_X0_15) (fun _ h9 => h9) (Or.inl rfl) rfl rfl (Nat.le_of_ble_eq_true rfl) (by first | exact rfl | omega | (dsimp only; omega)) hS dX0_readNumber_39 (fun H locs hz9 hRd hk9 hS => ?_)
        have hRd : zO G H (rd) 1 [.ref (tp), .int (nI (at9 + k + 1))] := hRd
        have hT := hT.keep hk9 ⟨by first | exact id | exact rfl | omega | (dsimp only; omega), by first | exact id | exact rfl | omega | (dsimp only; omega)⟩
        refine lv_iinc (v := nI (k + 1)) (lv' := [(4, .int (nI (k + 1))), (2, .long (lN (sb8 f at9 0 (k + 1)))), (0, .ref (rd)), (1, .int (nI (N)))]) hx hb dX0_readNumber_42 hl (k := 3) rfl (nI_add _ _) (by decide) rfl (fun ls hl => ?_)
        refine lv_goto (tgt := 5) hx hb dX0_readNumber_45 (by decide) ?_
        exact ih_ (k + 1) (cl) (sl) (by omega) (by omega) hcl hsl _ _ hRd hT hS ls (lv_sub hl [2, 3, 1, 0] rfl)
  exact L5 ((N - 0) + 1) 0 (0) (0) (Nat.lt_succ_self _) (Nat.zero_le _) (Nat.le_refl _) (Nat.le_refl _) _ _ hRd hT hS ls (lv_sub hl [2, 3, 1, 0] rfl)

set_option maxHeartbeats 4000000 in
set_option maxRecDepth 100000 in
theorem c_vinit (l : Launch) (G : zG) (v k nm : Nat) (pl : Int32) : Met l yX9_init wsX9_init ({ frames := 1, cells := 0, slots := 0, locals := 21 }) (zP G [.ref (v), .int (nI (k)), .int (pl), .ref (nm)] (fun H => zO G H v 8 [.int (nI 0), .int (nI 0), .null, .null, .long 0, .null, .null, .null, .int (nI 0)])) (zX (fun q => q = v) (fun r9 H => r9 = none ∧ zO G H v 8 (vF k pl nm (G.2.2 "") 0 none none none 0))) (0) (0) (fun q => q = v) := by
  refine Met.ofW (cc := cX9_init) (maxL := 4) (ret := none) (by decide) rfl ?_
  intro p en s m args below meth c s₁ B hml hv
  obtain ⟨rfl, hP, hK⟩ := hv
  have hx := B.exec
  have hb := B.bytes
  have hr := B.returns
  have hts := atoms_spec (ws := wsX9_init) B.pre
  have hz : ∀ w ∈ zW, w.before _ s = true := fun w h => hts w (List.mem_cons_of_mem _ h)
  have hown : s.vm.findClass RX9 = some m.cls := findClass_of_methodNamed B.named
  have hlocks := B.notSynchronized
  have hS : va_S (fun q => q = v) s.heap s.heap [] := va_S.rf
  have hl := lv_entry ([.ref (v), .int (nI (k)), .int (pl), .ref (nm)]) (n := 4) (Nat.le_of_ble_eq_true rfl)
  rw [lg_entry_eq]
  generalize (lg_sl ([.ref (v), .int (nI (k)), .int (pl), .ref (nm)]) ++ List.replicate (4 - (lg_sl ([.ref (v), .int (nI (k)), .int (pl), .ref (nm)])).length) Slot.unset).toArray = ls at hl ⊢
  have hl : lv_has ls 4 [(0, .ref (v)), (1, .int (nI (k))), (2, .int (pl)), (3, .ref (nm))] := hl
  refine lv_aload_n hx hb dX9_init_0 rfl (lv_at hl 0 rfl) ?_
  refine W.objInit hx hb hown (hz _ wm_X9_1) (hz _ wOn) (hz _ wOc) rfl (hl.1.trans hml.symm) rfl dX9_init_1 (by show 1 ≤ _; exact Nat.le_of_ble_eq_true rfl) (by show _ ≤ _; exact Nat.le_of_ble_eq_true rfl) ?_
  refine W.eq (g2 := F0 m 4 ls ([])) rfl ?_
  refine lv_aload_n hx hb dX9_init_4 rfl (lv_at hl 0 rfl) ?_
  refine va_ldcS hx hb hown (hK.2.2.1 ("FilterReader$Value", 7, "") (by decide)) dX9_init_5 ?_
  refine zx_put (C := RX9) (T := TX9) (N := 9) (v := .ref (G.2.2 "")) hx hb hz wo_X9 tyX9 tyX9_ok nmX9 hown hK hP rfl 3 (by decide) (hz _ wf_X9_9) (fun _ h9 => h9) (Or.inl rfl) rfl rfl (Nat.le_of_ble_eq_true rfl) (by first | exact rfl | omega | (dsimp only; omega)) hS dX9_init_7 (fun H locs hz9 hP hk9 hS => ?_)
  have hP : zO G H (v) 8 [.int (nI (0)), .int (nI (0)), .null, .ref (G.2.2 ""), .long (0), .null, .null, .null, .int (nI (0))] := hP
  refine lv_aload_n hx hb dX9_init_10 rfl (lv_at hl 0 rfl) ?_
  refine lv_iload_n hx hb dX9_init_11 rfl (lv_at hl 1 rfl) ?_
  refine zx_put (C := RX9) (T := TX9) (N := 9) (v := .int (nI (k))) hx hb hz wo_X9 tyX9 tyX9_ok nmX9 hown hK hP rfl 0 (by decide) (hz _ wf_X9_15) (fun _ h9 => h9) (Or.inr ⟨rfl, (name_of_methodNamed B.named B.method).1, rfl⟩) rfl rfl (Nat.le_of_ble_eq_true rfl) (by first | exact rfl | omega | (dsimp only; omega)) hS dX9_init_12 (fun H locs hz9 hP hk9 hS => ?_)
  have hP : zO G H (v) 8 [.int (nI (k)), .int (nI (0)), .null, .ref (G.2.2 ""), .long (0), .null, .null, .null, .int (nI (0))] := hP
  refine lv_aload_n hx hb dX9_init_15 rfl (lv_at hl 0 rfl) ?_
  refine lv_iload_n hx hb dX9_init_16 rfl (lv_at hl 2 rfl) ?_
  refine zx_put (C := RX9) (T := TX9) (N := 9) (v := .int (pl)) hx hb hz wo_X9 tyX9 tyX9_ok nmX9 hown hK hP rfl 1 (by decide) (hz _ wf_X9_19) (fun _ h9 => h9) (Or.inr ⟨rfl, (name_of_methodNamed B.named B.method).1, rfl⟩) rfl rfl (Nat.le_of_ble_eq_true rfl) (by first | exact rfl | omega | (dsimp only; omega)) hS dX9_init_17 (fun H locs hz9 hP hk9 hS => ?_)
  have hP : zO G H (v) 8 [.int (nI (k)), .int (pl), .null, .ref (G.2.2 ""), .long (0), .null, .null, .null, .int (nI (0))] := hP
  refine lv_aload_n hx hb dX9_init_20 rfl (lv_at hl 0 rfl) ?_
  refine lv_aload_n hx hb dX9_init_21 rfl (lv_at hl 3 rfl) ?_
  refine zx_put (C := RX9) (T := TX9) (N := 9) (v := .ref (nm)) hx hb hz wo_X9 tyX9 tyX9_ok nmX9 hown hK hP rfl 2 (by decide) (hz _ wf_X9_22) (fun _ h9 => h9) (Or.inr ⟨rfl, (name_of_methodNamed B.named B.method).1, rfl⟩) rfl rfl (Nat.le_of_ble_eq_true rfl) (by first | exact rfl | omega | (dsimp only; omega)) hS dX9_init_22 (fun H locs hz9 hP hk9 hS => ?_)
  have hP : zO G H (v) 8 [.int (nI (k)), .int (pl), .ref (nm), .ref (G.2.2 ""), .long (0), .null, .null, .null, .int (nI (0))] := hP
  exact zx_v hx hb hr hlocks (by show 0 ≤ 0; omega) (by show 0 ≤ 0; omega) (⟨rfl, hP⟩) hS dX9_init_25
