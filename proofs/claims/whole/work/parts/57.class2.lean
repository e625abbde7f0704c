set_option maxHeartbeats 4000000 in
set_option maxRecDepth 100000 in
theorem c_compareTexts (l : Launch) (G : zG)  (a b : Nat) (w u : List Nat) (Z Z2 : Nat → Prop) : Met l yX5_compareTexts wsX5_compareTexts ({ frames := 4, cells := 0, slots := 0, locals := 85 }) (zP G [.ref (a), .ref (b)] (fun H => StrZ G H Z a w ∧ StrZ G H Z2 b u ∧ CH G H)) (zR (.int (oI (lx w u)))) 0 0 (fun _ => False) := by
  refine Met.ofW (cc := cX5_compareTexts) (maxL := 4) (ret := (some .int)) (by decide) rfl ?_
  intro p en s m args below meth c s₁ B hml hv
  obtain ⟨rfl, hP, hK⟩ := hv
  have hx := B.exec
  have hb := B.bytes
  have hr := B.returns
  have hts := atoms_spec (ws := wsX5_compareTexts) B.pre
  have hz : ∀ w ∈ zW, w.before _ s = true := fun w h => hts w (List.mem_cons_of_mem _ h)
  have hown : s.vm.findClass RX5 = some m.cls := findClass_of_methodNamed B.named
  have hlocks := B.notSynchronized
  obtain ⟨⟨v, hs, hz9, -, -, hSa⟩, ⟨v2, hs2, hz2, -, -, hSb⟩, hC, ⟨x9, hI⟩, hCH⟩ := id hP
  have hwl := hSa.2.2.2
  have hul := hSb.2.2.2
  have hw8 : ∀ i, w.getD i 0 < 256 := hSa.2.2.1
  have hu8 : ∀ i, u.getD i 0 < 256 := hSb.2.2.1
  have hl := lv_entry ([.ref (a), .ref (b)]) (n := 4) (Nat.le_of_ble_eq_true rfl)
  rw [lg_entry_eq]
  generalize (lg_sl ([.ref (a), .ref (b)]) ++ List.replicate (4 - (lg_sl ([.ref (a), .ref (b)])).length) Slot.unset).toArray = ls at hl ⊢
  have hl : lv_has ls 4 [(0, .ref (a)), (1, .ref (b))] := hl
  refine lv_aload_n hx hb dX5_compareTexts_0 rfl (lv_at hl 0 rfl) ?_
  refine zc_Vw (As := []) (rest := []) ⟨hx, hb, hml, hown, hts⟩ (j_length l G a v w.length (fun i => w.getD i 0) hs hz9) (cwV 0 hts (zgV wm_X5_65 wv_J0_length_8abf5) rfl rfl rfl (by decide +kernel) ⟨Nat.le_of_ble_eq_true rfl, Nat.le_of_ble_eq_true rfl⟩) hK hSa.1 rfl ⟨hSa, hC⟩ rfl hl.1 rfl (Nat.le_of_ble_eq_true rfl) dX5_compareTexts_1 ⟨Nat.zero_le _, Nat.zero_le _⟩ ?_
  refine lv_aload_n hx hb dX5_compareTexts_4 rfl (lv_at hl 1 rfl) ?_
  refine zc_Vw (As := []) (rest := [.int (nI (w.length))]) ⟨hx, hb, hml, hown, hts⟩ (j_length l G b v2 u.length (fun i => u.getD i 0) hs2 hz2) (cwV 0 hts (zgV wm_X5_65 wv_J0_length_8abf5) rfl rfl rfl (by decide +kernel) ⟨Nat.le_of_ble_eq_true rfl, Nat.le_of_ble_eq_true rfl⟩) hK hSb.1 rfl ⟨hSb, hC⟩ rfl hl.1 rfl (Nat.le_of_ble_eq_true rfl) dX5_compareTexts_5 ⟨Nat.zero_le _, Nat.zero_le _⟩ ?_
  refine va_mmin hx hb (hml.trans hl.1.symm) hown (hz _ wm_X5_71) (hz _ wt_J9_min_7cf53) (hz _ wi_J9) (hz _ wc_min) (by show 1 ≤ _; exact Nat.le_of_ble_eq_true rfl) (by show _ ≤ _; exact Nat.le_of_ble_eq_true rfl) (Nat.zero_le _) (Nat.zero_le _) dX5_compareTexts_8 ?_
  rw [min_nI hwl hul]
  refine lv_istore_n (lv' := [(2, .int (nI (min (w.length) (u.length)))), (0, .ref (a)), (1, .ref (b))]) hx hb dX5_compareTexts_11 rfl hl (by decide) rfl (fun ls hl => ?_)
  refine lv_iconst (v := nI 0) hx hb dX5_compareTexts_12 (by decide) ?_
  refine lv_istore_n (lv' := [(3, .int (nI (0))), (2, .int (nI (min (w.length) (u.length)))), (0, .ref (a)), (1, .ref (b))]) hx hb dX5_compareTexts_13 rfl hl (by decide) rfl (fun ls hl => ?_)
  have L14 : ∀ (n_ : Nat) (k : Nat), min w.length u.length - k < n_ → (k ≤ min w.length u.length) → (lx w u = lx (w.drop k) (u.drop k)) → ∀ ls : Array Slot, lv_has ls 4 [(0, .ref (a)), (1, .ref (b)), (2, .int (nI (min (w.length) (u.length)))), (3, .int (nI (k)))] → W p l en (headSpec wsX5_compareTexts ({ frames := 4, cells := 0, slots := 0, locals := 85 })).room s m ([.ref (a), .ref (b)] : List Value).toArray below meth c s.heap [] 0 0 (MQ below (zR (.int (oI (lx w u)))) ([.ref (a), .ref (b)] : List Value).toArray s 0 0 (fun _ => False)) (F0 m 14 ls []) := by
    intro n_
    induction n_ with
    | zero => intro k hm_; exact absurd hm_ (Nat.not_lt_zero _)
    | succ n_ ih_ =>
      intro k hm_ hk9 hs9 ls hl
      refine lv_iload_n hx hb dX5_compareTexts_14 rfl (lv_at hl 3 rfl) ?_
      refine lv_iload_n hx hb dX5_compareTexts_15 rfl (lv_at hl 2 rfl) ?_
      refine zi_icmp_ge (tgt := 52) hx hb dX5_compareTexts_16 (by decide) (by omega) (by omega) (fun c_16 => ?_) (fun c_16 => ?_)
      · refine lv_aload_n hx hb dX5_compareTexts_52 rfl (lv_at hl 0 rfl) ?_
        refine zc_Vw (As := []) (rest := []) ⟨hx, hb, hml, hown, hts⟩ (j_length l G a v w.length (fun i => w.getD i 0) hs hz9) (cwV 0 hts (zgV wm_X5_65 wv_J0_length_8abf5) rfl rfl rfl (by decide +kernel) ⟨Nat.le_of_ble_eq_true rfl, Nat.le_of_ble_eq_true rfl⟩) hK hSa.1 rfl ⟨hSa, hC⟩ rfl hl.1 rfl (Nat.le_of_ble_eq_true rfl) dX5_compareTexts_53 ⟨Nat.zero_le _, Nat.zero_le _⟩ ?_
        refine lv_aload_n hx hb dX5_compareTexts_56 rfl (lv_at hl 1 rfl) ?_
        refine zc_Vw (As := []) (rest := [.int (nI (w.length))]) ⟨hx, hb, hml, hown, hts⟩ (j_length l G b v2 u.length (fun i => u.getD i 0) hs2 hz2) (cwV 0 hts (zgV wm_X5_65 wv_J0_length_8abf5) rfl rfl rfl (by decide +kernel) ⟨Nat.le_of_ble_eq_true rfl, Nat.le_of_ble_eq_true rfl⟩) hK hSb.1 rfl ⟨hSb, hC⟩ rfl hl.1 rfl (Nat.le_of_ble_eq_true rfl) dX5_compareTexts_57 ⟨Nat.zero_le _, Nat.zero_le _⟩ ?_
        refine zc_S (As := [.int (nI (w.length)), .int (nI (u.length))]) (rest := []) ⟨hx, hb, hml, hown, hts⟩ (j_icmp l G (w.length) (u.length) (by omega) (by omega)) (va_cwS 2 hts (zgX wm_X5_21 wu_J6_compare_7cf53) rfl rfl rfl (by decide +kernel) ⟨Nat.le_of_ble_eq_true rfl, Nat.le_of_ble_eq_true rfl⟩) hK trivial rfl hl.1 rfl (Nat.le_of_ble_eq_true rfl) dX5_compareTexts_60 ⟨Nat.zero_le _, Nat.zero_le _⟩ ?_
        exact zr_i hx hb hr hlocks (by rw [hs9, lx_e (by omega)]) dX5_compareTexts_63
      · refine lv_aload_n hx hb dX5_compareTexts_19 rfl (lv_at hl 0 rfl) ?_
        refine lv_iload_n hx hb dX5_compareTexts_20 rfl (lv_at hl 3 rfl) ?_
        refine zc_Vw (As := [.int (nI (k))]) (rest := []) ⟨hx, hb, hml, hown, hts⟩ (j_charAt l G a v w.length (fun i => w.getD i 0) hs hz9 x9 k (by omega)) (cwV 1 hts (zgV wm_X5_76 wv_J0_charAt_5068e) rfl rfl rfl (by decide +kernel) ⟨Nat.le_of_ble_eq_true rfl, Nat.le_of_ble_eq_true rfl⟩) hK hSa.1 rfl ⟨hSa, hC, hI⟩ rfl hl.1 rfl (Nat.le_of_ble_eq_true rfl) dX5_compareTexts_21 ⟨Nat.zero_le _, Nat.zero_le _⟩ ?_
        refine lv_aload_n hx hb dX5_compareTexts_24 rfl (lv_at hl 1 rfl) ?_
        refine lv_iload_n hx hb dX5_compareTexts_25 rfl (lv_at hl 3 rfl) ?_
        refine zc_Vw (As := [.int (nI (k))]) (rest := [.int (nI (w.getD k 0))]) ⟨hx, hb, hml, hown, hts⟩ (j_charAt l G b v2 u.length (fun i => u.getD i 0) hs2 hz2 x9 k (by omega)) (cwV 1 hts (zgV wm_X5_76 wv_J0_charAt_5068e) rfl rfl rfl (by decide +kernel) ⟨Nat.le_of_ble_eq_true rfl, Nat.le_of_ble_eq_true rfl⟩) hK hSb.1 rfl ⟨hSb, hC, hI⟩ rfl hl.1 rfl (Nat.le_of_ble_eq_true rfl) dX5_compareTexts_26 ⟨Nat.zero_le _, Nat.zero_le _⟩ ?_
        refine zi_icmp_eq (tgt := 46) hx hb dX5_compareTexts_29 (by decide) (Nat.lt_trans (hSa.2.2.1 k) (by decide)) (Nat.lt_trans (hSb.2.2.1 k) (by decide)) (fun c_29 => ?_) (fun c_29 => ?_)
        · refine lv_iinc (v := nI (k + 1)) (lv' := [(3, .int (nI (k + 1))), (0, .ref (a)), (1, .ref (b)), (2, .int (nI (min (w.length) (u.length))))]) hx hb dX5_compareTexts_46 hl (k := 3) rfl (nI_add _ _) (by decide) rfl (fun ls hl => ?_)
          refine lv_goto (tgt := 14) hx hb dX5_compareTexts_49 (by decide) ?_
          exact ih_ (k + 1) (by omega) (by omega) (by rw [hs9, lx_k (by omega) (by omega), if_neg (by omega), if_neg (by omega)]) ls (lv_sub hl [1, 2, 3, 0] rfl)
        · refine lv_aload_n hx hb dX5_compareTexts_32 rfl (lv_at hl 0 rfl) ?_
          refine lv_iload_n hx hb dX5_compareTexts_33 rfl (lv_at hl 3 rfl) ?_
          refine zc_Vw (As := [.int (nI (k))]) (rest := []) ⟨hx, hb, hml, hown, hts⟩ (j_charAt l G a v w.length (fun i => w.getD i 0) hs hz9 x9 k (by omega)) (cwV 1 hts (zgV wm_X5_76 wv_J0_charAt_5068e) rfl rfl rfl (by decide +kernel) ⟨Nat.le_of_ble_eq_true rfl, Nat.le_of_ble_eq_true rfl⟩) hK hSa.1 rfl ⟨hSa, hC, hI⟩ rfl hl.1 rfl (Nat.le_of_ble_eq_true rfl) dX5_compareTexts_34 ⟨Nat.zero_le _, Nat.zero_le _⟩ ?_
          refine lv_aload_n hx hb dX5_compareTexts_37 rfl (lv_at hl 1 rfl) ?_
          refine lv_iload_n hx hb dX5_compareTexts_38 rfl (lv_at hl 3 rfl) ?_
          refine zc_Vw (As := [.int (nI (k))]) (rest := [.int (nI (w.getD k 0))]) ⟨hx, hb, hml, hown, hts⟩ (j_charAt l G b v2 u.length (fun i => u.getD i 0) hs2 hz2 x9 k (by omega)) (cwV 1 hts (zgV wm_X5_76 wv_J0_charAt_5068e) rfl rfl rfl (by decide +kernel) ⟨Nat.le_of_ble_eq_true rfl, Nat.le_of_ble_eq_true rfl⟩) hK hSb.1 rfl ⟨hSb, hC, hI⟩ rfl hl.1 rfl (Nat.le_of_ble_eq_true rfl) dX5_compareTexts_39 ⟨Nat.zero_le _, Nat.zero_le _⟩ ?_
          refine zc_S (As := [.int (nI (w.getD k 0)), .int (nI (u.getD k 0))]) (rest := []) ⟨hx, hb, hml, hown, hts⟩ (j_icmp l G (w.getD k 0) (u.getD k 0) (Nat.lt_trans (hSa.2.2.1 k) (by decide)) (Nat.lt_trans (hSb.2.2.1 k) (by decide))) (va_cwS 2 hts (zgX wm_X5_21 wu_J6_compare_7cf53) rfl rfl rfl (by decide +kernel) ⟨Nat.le_of_ble_eq_true rfl, Nat.le_of_ble_eq_true rfl⟩) hK trivial rfl hl.1 rfl (Nat.le_of_ble_eq_true rfl) dX5_compareTexts_42 ⟨Nat.zero_le _, Nat.zero_le _⟩ ?_
          exact zr_i hx hb hr hlocks (by rw [hs9, lx_kn (by omega) (by omega) c_29]) dX5_compareTexts_45
  exact L14 ((min w.length u.length - 0) + 1) 0 (Nat.lt_succ_self _) (Nat.zero_le _) rfl ls (lv_sub hl [2, 3, 1, 0] rfl)

set_option maxHeartbeats 4000000 in
set_option maxRecDepth 100000 in
theorem c_begins (l : Launch) (G : zG)  (a : Nat) (w : List Nat) (Z : Nat → Prop) : Met l yX10_beginsWithDollar wsX10_beginsWithDollar ({ frames := 4, cells := 0, slots := 0, locals := 85 }) (zP G [.ref (a)] (fun H => StrZ G H Z a w ∧ CH G H)) (zR (.int (nI (nB (decide (w.getD 0 0 = 36)))))) 0 0 (fun _ => False) := by
  refine Met.ofW (cc := cX10_beginsWithDollar) (maxL := 1) (ret := (some .boolean)) (by decide) rfl ?_
  intro p en s m args below meth c s₁ B hml hv
  obtain ⟨rfl, hP, hK⟩ := hv
  have hx := B.exec
  have hb := B.bytes
  have hr := B.returns
  have hts := atoms_spec (ws := wsX10_beginsWithDollar) B.pre
  have hz : ∀ w ∈ zW, w.before _ s = true := fun w h => hts w (List.mem_cons_of_mem _ h)
  have hown : s.vm.findClass RX10 = some m.cls := findClass_of_methodNamed B.named
  have hlocks := B.notSynchronized
  obtain ⟨⟨v, hs, hz9, -, -, hSa⟩, hC, ⟨x9, hI⟩, hCH⟩ := id hP
  have hwl := hSa.2.2.2
  have hw8 : ∀ i, w.getD i 0 < 256 := hSa.2.2.1
  have hl := lv_entry ([.ref (a)]) (n := 1) (Nat.le_of_ble_eq_true rfl)
  rw [lg_entry_eq]
  generalize (lg_sl ([.ref (a)]) ++ List.replicate (1 - (lg_sl ([.ref (a)])).length) Slot.unset).toArray = ls at hl ⊢
  have hl : lv_has ls 1 [(0, .ref (a))] := hl
  refine lv_aload_n hx hb dX10_beginsWithDollar_0 rfl (lv_at hl 0 rfl) ?_
  refine zc_Vw (As := []) (rest := []) ⟨hx, hb, hml, hown, hts⟩ (j_isEmpty l G a v w.length (fun i => w.getD i 0) hs hz9) (cwV 0 hts (zgV wm_X10_116 wv_J0_isEmpty_aae02) rfl rfl rfl (by decide +kernel) ⟨Nat.le_of_ble_eq_true rfl, Nat.le_of_ble_eq_true rfl⟩) hK hSa.1 rfl ⟨hSa, hC⟩ rfl hl.1 rfl (Nat.le_of_ble_eq_true rfl) dX10_beginsWithDollar_1 ⟨Nat.zero_le _, Nat.zero_le _⟩ ?_
  refine zb_if_ne (tgt := 21) hx hb dX10_beginsWithDollar_4 (by decide) (fun c_4 => ?_) (fun c_4 => ?_)
  · refine lv_iconst (v := nI 0) hx hb dX10_beginsWithDollar_21 (by decide) ?_
    exact zr_z hx hb hr hlocks (by rw [decide_eq_false (by rw [List.length_eq_zero_iff.mp (of_decide_eq_true c_4)]; decide)]; rfl) dX10_beginsWithDollar_22
  · refine lv_aload_n hx hb dX10_beginsWithDollar_7 rfl (lv_at hl 0 rfl) ?_
    refine lv_iconst (v := nI 0) hx hb dX10_beginsWithDollar_8 (by decide) ?_
    refine zc_Vw (As := [.int (nI (0))]) (rest := []) ⟨hx, hb, hml, hown, hts⟩ (j_charAt l G a v w.length (fun i => w.getD i 0) hs hz9 x9 0 (Nat.pos_of_ne_zero (of_decide_eq_false c_4))) (cwV 1 hts (zgV wm_X10_121 wv_J0_charAt_5068e) rfl rfl rfl (by decide +kernel) ⟨Nat.le_of_ble_eq_true rfl, Nat.le_of_ble_eq_true rfl⟩) hK hSa.1 rfl ⟨hSa, hC, hI⟩ rfl hl.1 rfl (Nat.le_of_ble_eq_true rfl) dX10_beginsWithDollar_9 ⟨Nat.zero_le _, Nat.zero_le _⟩ ?_
    refine lv_bipush (v := nI 36) hx hb dX10_beginsWithDollar_12 (by decide) ?_
    refine zi_icmp_ne (tgt := 21) hx hb dX10_beginsWithDollar_14 (by decide) (Nat.lt_trans (hw8 0) (by decide)) (by omega) (fun c_14 => ?_) (fun c_14 => ?_)
    · refine lv_iconst (v := nI 0) hx hb dX10_beginsWithDollar_21 (by decide) ?_
      exact zr_z hx hb hr hlocks (by rw [decide_eq_false c_14]; rfl) dX10_beginsWithDollar_22
    · refine lv_iconst (v := nI 1) hx hb dX10_beginsWithDollar_17 (by decide) ?_
      refine lv_goto (tgt := 22) hx hb dX10_beginsWithDollar_18 (by decide) ?_
      exact zr_z hx hb hr hlocks (by rw [decide_eq_true c_14]; rfl) dX10_beginsWithDollar_22
