set_option maxHeartbeats 4000000 in
set_option maxRecDepth 100000 in
theorem m_digit (l : Launch) (G : zG)  (v k : Nat) (hv : v < 2 ^ 31) (hk : k < dgs v) : Met l yX11_digit wsX11_digit ({ frames := 1, cells := 0, slots := 0, locals := 20 }) (zP G [.int (nI (v)), .int (nI (k))] (fun H => True)) (zR (.int (nI (dgt v k)))) 0 0 (fun _ => False) := by
  refine Met.ofW (cc := cX11_digit) (maxL := 4) (ret := (some .int)) (by decide) rfl ?_
  intro p en s m args below meth c s₁ B hml hv
  obtain ⟨rfl, hP, hK⟩ := hv
  have hx := B.exec
  have hb := B.bytes
  have hr := B.returns
  have hts := atoms_spec (ws := wsX11_digit) B.pre
  have hz : ∀ w ∈ zW, w.before _ s = true := fun w h => hts w (List.mem_cons_of_mem _ h)
  have hown : s.vm.findClass RX11 = some m.cls := findClass_of_methodNamed B.named
  have hlocks := B.notSynchronized
  have hd := dgs_pos v
  have hl := lv_entry ([.int (nI (v)), .int (nI (k))]) (n := 4) (Nat.le_of_ble_eq_true rfl)
  rw [lg_entry_eq]
  generalize (lg_sl ([.int (nI (v)), .int (nI (k))]) ++ List.replicate (4 - (lg_sl ([.int (nI (v)), .int (nI (k))])).length) Slot.unset).toArray = ls at hl ⊢
  have hl : lv_has ls 4 [(0, .int (nI (v))), (1, .int (nI (k)))] := hl
  refine lv_iload_n hx hb dX11_digit_0 rfl (lv_at hl 0 rfl) ?_
  refine lv_istore_n (lv' := [(2, .int (nI (v))), (0, .int (nI (v))), (1, .int (nI (k)))]) hx hb dX11_digit_1 rfl hl (by decide) rfl (fun ls hl => ?_)
  refine lv_iload_n hx hb dX11_digit_2 rfl (lv_at hl 1 rfl) ?_
  refine zc_S (As := [.int (nI (v))]) (rest := []) ⟨hx, hb, hml, hown, hts⟩ (m_digits l G v hv) (cwS 1 hts (zgS wm_X11_110 wu_X11_digits) rfl rfl rfl (by decide +kernel) ⟨Nat.le_of_ble_eq_true rfl, Nat.le_of_ble_eq_true rfl⟩) hK trivial rfl hl.1 rfl (Nat.le_of_ble_eq_true rfl) dX11_digit_3 ⟨Nat.zero_le _, Nat.zero_le _⟩ ?_
  refine lv_iconst (v := nI 1) hx hb dX11_digit_6 (by decide) ?_
  refine zi_sub hx hb (by omega) dX11_digit_7 ?_
  refine lv_istore_n (lv' := [(3, .int (nI (dgs v - 1))), (2, .int (nI (v))), (0, .int (nI (v))), (1, .int (nI (k)))]) hx hb dX11_digit_8 rfl hl (by decide) rfl (fun ls hl => ?_)
  have L9 : ∀ (n_ : Nat) (i : Nat) (x : Nat), i < n_ → (k ≤ i) → (i ≤ dgs v - 1) → (x ≤ v) → (x = v / 10 ^ (dgs v - 1 - i)) → ∀ ls : Array Slot, lv_has ls 4 [(1, .int (nI (k))), (2, .int (nI (x))), (3, .int (nI (i)))] → W p l en (headSpec wsX11_digit ({ frames := 1, cells := 0, slots := 0, locals := 20 })).room s m ([.int (nI (v)), .int (nI (k))] : List Value).toArray below meth c s.heap [] 0 0 (MQ below (zR (.int (nI (dgt v k)))) ([.int (nI (v)), .int (nI (k))] : List Value).toArray s 0 0 (fun _ => False)) (F0 m 9 ls []) := by
    intro n_
    induction n_ with
    | zero => intro i x hm_; exact absurd hm_ (Nat.not_lt_zero _)
    | succ n_ ih_ =>
      intro i x hm_ h1 h2 hxl hx9 ls hl
      refine lv_iload_n hx hb dX11_digit_9 rfl (lv_at hl 2 rfl) ?_
      refine lv_iload_n hx hb dX11_digit_10 rfl (lv_at hl 0 rfl) ?_
      refine zi_icmp_le (tgt := 25) hx hb dX11_digit_11 (by decide) (by omega) (by omega) (fun c_11 => ?_) (fun c_11 => ?_)
      · refine lv_bipush (v := nI 48) hx hb dX11_digit_25 (by decide) ?_
        refine lv_iload_n hx hb dX11_digit_27 rfl (lv_at hl 1 rfl) ?_
        refine lv_bipush (v := nI 10) hx hb dX11_digit_28 (by decide) ?_
        refine zi_rem hx hb (by omega) (by decide) (by decide) dX11_digit_30 ?_
        refine zi_add hx hb dX11_digit_31 ?_
        exact zr_i hx hb hr hlocks (by rw [dgt, hx9, show i = k by omega]) dX11_digit_32
      · refine lv_iload_n hx hb dX11_digit_14 rfl (lv_at hl 1 rfl) ?_
        refine lv_bipush (v := nI 10) hx hb dX11_digit_15 (by decide) ?_
        refine zi_div hx hb (by omega) (by decide) (by decide) dX11_digit_17 ?_
        refine lv_istore_n (lv' := [(2, .int (nI (x / 10))), (1, .int (nI (k))), (3, .int (nI (i)))]) hx hb dX11_digit_18 rfl hl (by decide) rfl (fun ls hl => ?_)
        refine lv_iinc (v := nI (i - 1)) (lv' := [(3, .int (nI (i - 1))), (2, .int (nI (x / 10))), (1, .int (nI (k)))]) hx hb dX11_digit_19 hl (k := 2) rfl (zi_dec (k := 1) (by omega)) (by decide) rfl (fun ls hl => ?_)
        refine lv_goto (tgt := 9) hx hb dX11_digit_22 (by decide) ?_
        exact ih_ (i - 1) (x / 10) (by omega) (by omega) (by omega) (Nat.le_trans (Nat.div_le_self x 10) hxl) (by rw [hx9, Nat.div_div_eq_div_mul, show dgs v - 1 - (i - 1) = (dgs v - 1 - i) + 1 by omega, Nat.pow_succ]) ls (lv_sub hl [2, 1, 0] rfl)
  exact L9 (((dgs v - 1)) + 1) (dgs v - 1) v (Nat.lt_succ_self _) (by omega) (Nat.le_refl _) (Nat.le_refl _) (by rw [Nat.sub_self]; simp) ls (lv_sub hl [3, 1, 0] rfl)

set_option maxHeartbeats 4000000 in
set_option maxRecDepth 100000 in
theorem m_isNumber (l : Launch) (G : zG) (q N : Nat) (f : Nat → Nat) (hN : N ≤ 18000) (h8 : ∀ i, f i < 256) (a to v : Nat) (hat : a ≤ to) (hto : to ≤ N) (hv : v < 2 ^ 31) : Met l yX11_isNumber wsX11_isNumber ({ frames := 2, cells := 0, slots := 0, locals := 43 }) (zP G [.ref (q), .int (nI (a)), .int (nI (to)), .int (nI (v))] (fun H => zA G H q N f)) (zR (.int (nI (nB (isNu f a to v))))) 0 0 (fun _ => False) := by
  refine Met.ofW (cc := cX11_isNumber) (maxL := 5) (ret := (some .boolean)) (by decide) rfl ?_
  intro p en s m args below meth c s₁ B hml hv
  obtain ⟨rfl, hP, hK⟩ := hv
  have hx := B.exec
  have hb := B.bytes
  have hr := B.returns
  have hts := atoms_spec (ws := wsX11_isNumber) B.pre
  have hz : ∀ w ∈ zW, w.before _ s = true := fun w h => hts w (List.mem_cons_of_mem _ h)
  have hown : s.vm.findClass RX11 = some m.cls := findClass_of_methodNamed B.named
  have hlocks := B.notSynchronized
  have hd := dgs_pos v
  have hl := lv_entry ([.ref (q), .int (nI (a)), .int (nI (to)), .int (nI (v))]) (n := 5) (Nat.le_of_ble_eq_true rfl)
  rw [lg_entry_eq]
  generalize (lg_sl ([.ref (q), .int (nI (a)), .int (nI (to)), .int (nI (v))]) ++ List.replicate (5 - (lg_sl ([.ref (q), .int (nI (a)), .int (nI (to)), .int (nI (v))])).length) Slot.unset).toArray = ls at hl ⊢
  have hl : lv_has ls 5 [(0, .ref (q)), (1, .int (nI (a))), (2, .int (nI (to))), (3, .int (nI (v)))] := hl
  refine lv_iload_n hx hb dX11_isNumber_0 rfl (lv_at hl 2 rfl) ?_
  refine lv_iload_n hx hb dX11_isNumber_1 rfl (lv_at hl 1 rfl) ?_
  refine zi_sub hx hb (by omega) dX11_isNumber_2 ?_
  refine lv_iload_n hx hb dX11_isNumber_3 rfl (lv_at hl 3 rfl) ?_
  refine zc_S (As := [.int (nI (v))]) (rest := [.int (nI (to - a))]) ⟨hx, hb, hml, hown, hts⟩ (m_digits l G v hv) (cwS 1 hts (zgS wm_X11_110 wu_X11_digits) rfl rfl rfl (by decide +kernel) ⟨Nat.le_of_ble_eq_true rfl, Nat.le_of_ble_eq_true rfl⟩) hK trivial rfl hl.1 rfl (Nat.le_of_ble_eq_true rfl) dX11_isNumber_4 ⟨Nat.zero_le _, Nat.zero_le _⟩ ?_
  refine zi_icmp_eq (tgt := 12) hx hb dX11_isNumber_7 (by decide) (by omega) (by omega) (fun c_7 => ?_) (fun c_7 => ?_)
  · refine lv_iconst (v := nI 0) hx hb dX11_isNumber_12 (by decide) ?_
    refine lv_istore (lv' := [(4, .int (nI (0))), (0, .ref (q)), (1, .int (nI (a))), (2, .int (nI (to))), (3, .int (nI (v)))]) hx hb dX11_isNumber_13 hl (by decide) rfl (fun ls hl => ?_)
    have L15 : ∀ (n_ : Nat) (k : Nat), dgs v - k < n_ → (k ≤ dgs v) → (∀ j, j < k → f (a + j) = dgt v j) → ∀ ls : Array Slot, lv_has ls 5 [(0, .ref (q)), (1, .int (nI (a))), (2, .int (nI (to))), (3, .int (nI (v))), (4, .int (nI (k)))] → W p l en (headSpec wsX11_isNumber ({ frames := 2, cells := 0, slots := 0, locals := 43 })).room s m ([.ref (q), .int (nI (a)), .int (nI (to)), .int (nI (v))] : List Value).toArray below meth c s.heap [] 0 0 (MQ below (zR (.int (nI (nB (isNu f a to v))))) ([.ref (q), .int (nI (a)), .int (nI (to)), .int (nI (v))] : List Value).toArray s 0 0 (fun _ => False)) (F0 m 15 ls []) := by
      intro n_
      induction n_ with
      | zero => intro k hm_; exact absurd hm_ (Nat.not_lt_zero _)
      | succ n_ ih_ =>
        intro k hm_ h1 hs ls hl
        refine lv_iload hx hb dX11_isNumber_15 (lv_at hl 4 rfl) ?_
        refine lv_iload_n hx hb dX11_isNumber_17 rfl (lv_at hl 2 rfl) ?_
        refine lv_iload_n hx hb dX11_isNumber_18 rfl (lv_at hl 1 rfl) ?_
        refine zi_sub hx hb (by omega) dX11_isNumber_19 ?_
        refine zi_icmp_ge (tgt := 46) hx hb dX11_isNumber_20 (by decide) (by omega) (by omega) (fun c_20 => ?_) (fun c_20 => ?_)
        · refine lv_iconst (v := nI 1) hx hb dX11_isNumber_46 (by decide) ?_
          exact zr_z hx hb hr hlocks (by rw [isNu, decide_eq_true c_7, all_range (fun j hj => decide_eq_true (hs j (by omega)))]; rfl) dX11_isNumber_47
        · refine lv_aload_n hx hb dX11_isNumber_23 rfl (lv_at hl 0 rfl) ?_
          refine lv_iload_n hx hb dX11_isNumber_24 rfl (lv_at hl 1 rfl) ?_
          refine lv_iload hx hb dX11_isNumber_25 (lv_at hl 4 rfl) ?_
          refine zi_add hx hb dX11_isNumber_27 ?_
          refine zi_ald hx hb hK hP (by omega) (by omega) dX11_isNumber_28 ?_
          refine lv_iload_n hx hb dX11_isNumber_29 rfl (lv_at hl 3 rfl) ?_
          refine lv_iload hx hb dX11_isNumber_30 (lv_at hl 4 rfl) ?_
          refine zc_S (As := [.int (nI (v)), .int (nI (k))]) (rest := [.int (nI (f (a + k)))]) ⟨hx, hb, hml, hown, hts⟩ (m_digit l G v k hv (by omega)) (cwS 2 hts (zgS wm_X11_114 wu_X11_digit) rfl rfl rfl (by decide +kernel) ⟨Nat.le_of_ble_eq_true rfl, Nat.le_of_ble_eq_true rfl⟩) hK trivial rfl hl.1 rfl (Nat.le_of_ble_eq_true rfl) dX11_isNumber_32 ⟨Nat.zero_le _, Nat.zero_le _⟩ ?_
          refine zi_icmp_eq (tgt := 40) hx hb dX11_isNumber_35 (by decide) (Nat.lt_trans (h8 _) (by decide)) (dgt_lt v k) (fun c_35 => ?_) (fun c_35 => ?_)
          · refine lv_iinc (v := nI (k + 1)) (lv' := [(4, .int (nI (k + 1))), (0, .ref (q)), (1, .int (nI (a))), (2, .int (nI (to))), (3, .int (nI (v)))]) hx hb dX11_isNumber_40 hl (k := 4) rfl (nI_add _ _) (by decide) rfl (fun ls hl => ?_)
            refine lv_goto (tgt := 15) hx hb dX11_isNumber_43 (by decide) ?_
            exact ih_ (k + 1) (by omega) (by omega) (fun j hj => by rcases Nat.lt_or_ge j k with z | z; exact hs j z; have : j = k := (by omega); subst this; exact c_35) ls (lv_sub hl [1, 2, 3, 4, 0] rfl)
          · refine lv_iconst (v := nI 0) hx hb dX11_isNumber_38 (by decide) ?_
            exact zr_z hx hb hr hlocks (by rw [isNu, nall_range (k := k) (by omega) (decide_eq_false c_35), Bool.and_false]; rfl) dX11_isNumber_39
    exact L15 ((dgs v - 0) + 1) 0 (Nat.lt_succ_self _) (Nat.zero_le _) (fun j hj => absurd hj (Nat.not_lt_zero j)) ls (lv_sub hl [1, 2, 3, 4, 0] rfl)
  · refine lv_iconst (v := nI 0) hx hb dX11_isNumber_10 (by decide) ?_
    exact zr_z hx hb hr hlocks (by rw [isNu, decide_eq_false c_7]; rfl) dX11_isNumber_11

set_option maxHeartbeats 4000000 in
set_option maxRecDepth 100000 in
theorem m_badText (l : Launch) (G : zG) (q N : Nat) (f : Nat → Nat) (hN : N ≤ 18000) (h8 : ∀ i, f i < 256) (a to : Nat) (hat : a ≤ to) (hto : to ≤ N) : Met l yX11_badText wsX11_badText ({ frames := 1, cells := 0, slots := 0, locals := 26 }) (zP G [.ref (q), .int (nI (a)), .int (nI (to))] (fun H => zA G H q N f)) (zR (.int (bd f a to))) 0 0 (fun _ => False) := by
  refine Met.ofW (cc := cX11_badText) (maxL := 5) (ret := (some .int)) (by decide) rfl ?_
  intro p en s m args below meth c s₁ B hml hv
  obtain ⟨rfl, hP, hK⟩ := hv
  have hx := B.exec
  have hb := B.bytes
  have hr := B.returns
  have hts := atoms_spec (ws := wsX11_badText) B.pre
  have hz : ∀ w ∈ zW, w.before _ s = true := fun w h => hts w (List.mem_cons_of_mem _ h)
  have hown : s.vm.findClass RX11 = some m.cls := findClass_of_methodNamed B.named
  have hlocks := B.notSynchronized
  have hl := lv_entry ([.ref (q), .int (nI (a)), .int (nI (to))]) (n := 5) (Nat.le_of_ble_eq_true rfl)
  rw [lg_entry_eq]
  generalize (lg_sl ([.ref (q), .int (nI (a)), .int (nI (to))]) ++ List.replicate (5 - (lg_sl ([.ref (q), .int (nI (a)), .int (nI (to))])).length) Slot.unset).toArray = ls at hl ⊢
  have hl : lv_has ls 5 [(0, .ref (q)), (1, .int (nI (a))), (2, .int (nI (to)))] := hl
  refine lv_iload_n hx hb dX11_badText_0 rfl (lv_at hl 1 rfl) ?_
  refine lv_istore_n (lv' := [(3, .int (nI (a))), (0, .ref (q)), (1, .int (nI (a))), (2, .int (nI (to)))]) hx hb dX11_badText_1 rfl hl (by decide) rfl (fun ls hl => ?_)
  have L2 : ∀ (n_ : Nat) (k : Nat), to - k < n_ → (k ≤ to) → (bd f a to = bdF f (to - k + 1) k to) → ∀ ls : Array Slot, lv_has ls 5 [(0, .ref (q)), (2, .int (nI (to))), (3, .int (nI (k)))] → W p l en (headSpec wsX11_badText ({ frames := 1, cells := 0, slots := 0, locals := 26 })).room s m ([.ref (q), .int (nI (a)), .int (nI (to))] : List Value).toArray below meth c s.heap [] 0 0 (MQ below (zR (.int (bd f a to))) ([.ref (q), .int (nI (a)), .int (nI (to))] : List Value).toArray s 0 0 (fun _ => False)) (F0 m 2 ls []) := by
    intro n_
    induction n_ with
    | zero => intro k hm_; exact absurd hm_ (Nat.not_lt_zero _)
    | succ n_ ih_ =>
      intro k hm_ h1 hs ls hl
      refine lv_iload_n hx hb dX11_badText_2 rfl (lv_at hl 2 rfl) ?_
      refine lv_iload_n hx hb dX11_badText_3 rfl (lv_at hl 1 rfl) ?_
      refine zi_icmp_ge (tgt := 30) hx hb dX11_badText_4 (by decide) (by omega) (by omega) (fun c_4 => ?_) (fun c_4 => ?_)
      · refine lv_iconst (v := (-1)) hx hb dX11_badText_30 (by decide) ?_
        exact zr_i hx hb hr hlocks (by rw [hs, bdF, if_neg (by omega)]) dX11_badText_31
      · refine lv_aload_n hx hb dX11_badText_7 rfl (lv_at hl 0 rfl) ?_
        refine lv_iload_n hx hb dX11_badText_8 rfl (lv_at hl 2 rfl) ?_
        refine lv_iload_n hx hb dX11_badText_9 rfl (lv_at hl 1 rfl) ?_
        refine zc_S (As := [.ref (q), .int (nI (k)), .int (nI (to))]) (rest := []) ⟨hx, hb, hml, hown, hts⟩ (m_character l G q N f hN h8 k to c_4 hto) (cwS 3 hts (zgS wm_X11_64 wu_X11_character) rfl rfl rfl (by decide +kernel) ⟨Nat.le_of_ble_eq_true rfl, Nat.le_of_ble_eq_true rfl⟩) hK hP rfl hl.1 rfl (Nat.le_of_ble_eq_true rfl) dX11_badText_10 ⟨Nat.zero_le _, Nat.zero_le _⟩ ?_
        refine lv_istore (lv' := [(4, .int (nI (chr f k to))), (0, .ref (q)), (2, .int (nI (to))), (3, .int (nI (k)))]) hx hb dX11_badText_13 hl (by decide) rfl (fun ls hl => ?_)
        refine lv_iload hx hb dX11_badText_15 (lv_at hl 0 rfl) ?_
        refine zi_if_ne (tgt := 22) hx hb dX11_badText_17 (by decide) (Nat.lt_trans (chr_lt f k to) (by decide)) (fun c_17 => ?_) (fun c_17 => ?_)
        · refine lv_iload_n hx hb dX11_badText_22 rfl (lv_at hl 3 rfl) ?_
          refine lv_iload hx hb dX11_badText_23 (lv_at hl 0 rfl) ?_
          refine zi_add hx hb dX11_badText_25 ?_
          refine lv_istore_n (lv' := [(3, .int (nI (k + (chr f k to)))), (4, .int (nI (chr f k to))), (0, .ref (q)), (2, .int (nI (to)))]) hx hb dX11_badText_26 rfl hl (by decide) rfl (fun ls hl => ?_)
          refine lv_goto (tgt := 2) hx hb dX11_badText_27 (by decide) ?_
          exact ih_ (k + chr f k to) (by have := chr_le (f := f) c_4; omega) (chr_le c_4) (by rw [hs, bdF, if_pos c_4, if_neg c_17]; exact bdF_more f _ _ _ (by omega) _ (by omega)) ls (lv_sub hl [2, 3, 0] rfl)
        · refine lv_iload_n hx hb dX11_badText_20 rfl (lv_at hl 3 rfl) ?_
          exact zr_i hx hb hr hlocks (by rw [hs, bdF, if_pos c_4, if_pos c_17]) dX11_badText_21
  exact L2 ((to - a) + 1) a (Nat.lt_succ_self _) hat rfl ls (lv_sub hl [1, 3, 0] rfl)

set_option maxHeartbeats 4000000 in
set_option maxRecDepth 100000 in
theorem m_low (l : Launch) (G : zG) (o qw : Nat) (fs : List Value) (f : Nat → Nat) (a N : Nat) (hN : N ≤ 7) (ha : a + N ≤ 2000) : Met l yX11_low wsX11_low ({ frames := 0, cells := 0, slots := 0, locals := 0 }) (zP G [.ref (o), .int (nI (a)), .int (nI (N))] (fun H => MK G o qw fs f H)) (zR (.long (lN (sb8 f a 0 N)))) 0 0 (fun _ => False) := by
  refine Met.ofW (cc := cX11_low) (maxL := 6) (ret := (some .long)) (by decide) rfl ?_
  intro p en s m args below meth c s₁ B hml hv
  obtain ⟨rfl, hP, hK⟩ := hv
  have hx := B.exec
  have hb := B.bytes
  have hr := B.returns
  have hts := atoms_spec (ws := wsX11_low) B.pre
  have hz : ∀ w ∈ zW, w.before _ s = true := fun w h => hts w (List.mem_cons_of_mem _ h)
  have hown : s.vm.findClass RX11 = some m.cls := findClass_of_methodNamed B.named
  have hlocks := B.notSynchronized
  obtain ⟨hO, hA, hS1, h8⟩ := id hP
  have hl := lv_entry ([.ref (o), .int (nI (a)), .int (nI (N))]) (n := 6) (Nat.le_of_ble_eq_true rfl)
  rw [lg_entry_eq]
  generalize (lg_sl ([.ref (o), .int (nI (a)), .int (nI (N))]) ++ List.replicate (6 - (lg_sl ([.ref (o), .int (nI (a)), .int (nI (N))])).length) Slot.unset).toArray = ls at hl ⊢
  have hl : lv_has ls 6 [(0, .ref (o)), (1, .int (nI (a))), (2, .int (nI (N)))] := hl
  refine lv_lconst (v := 0) hx hb dX11_low_0 (by decide) ?_
  refine lv_lstore_n (lv' := [(3, .long (0)), (0, .ref (o)), (1, .int (nI (a))), (2, .int (nI (N)))]) hx hb dX11_low_1 rfl hl (by decide) rfl (fun ls hl => ?_)
  refine lv_iload_n hx hb dX11_low_2 rfl (lv_at hl 3 rfl) ?_
  refine lv_iconst (v := nI 1) hx hb dX11_low_3 (by decide) ?_
  refine lv_isub hx hb dX11_low_4 ?_
  have h00 : (0 : Int64) = lN (sb8 f a N (N - N)) := by rw [Nat.sub_self]; rfl
  rw [h00] at hl
  refine lv_istore (lv' := [(5, .int (nI N - 1)), (3, .long (lN (sb8 f a N (N - N)))), (0, .ref (o)), (1, .int (nI (a))), (2, .int (nI (N)))]) hx hb dX11_low_5 hl (by decide) rfl (fun ls hl => ?_)
  have L7 : ∀ (n_ : Nat) (z : Nat), z < n_ → (z ≤ N) → ∀ ls : Array Slot, lv_has ls 6 [(0, .ref (o)), (1, .int (nI (a))), (3, .long (lN (sb8 f a z (N - z)))), (5, .int (nI z - 1))] → W p l en (headSpec wsX11_low ({ frames := 0, cells := 0, slots := 0, locals := 0 })).room s m ([.ref (o), .int (nI (a)), .int (nI (N))] : List Value).toArray below meth c s.heap [] 0 0 (MQ below (zR (.long (lN (sb8 f a 0 N)))) ([.ref (o), .int (nI (a)), .int (nI (N))] : List Value).toArray s 0 0 (fun _ => False)) (F0 m 7 ls []) := by
    intro n_
    induction n_ with
    | zero => intro z hm_; exact absurd hm_ (Nat.not_lt_zero _)
    | succ n_ ih_ =>
      intro z hm_ hz8 ls hl
      refine lv_iload hx hb dX11_low_7 (lv_at hl 3 rfl) ?_
      refine lv_if_lt (tgt := 34) hx hb dX11_low_9 (by decide) (fun c_9 => ?_) (fun c_9 => ?_)
      · have hz0 : z = 0 := by
          rcases Nat.eq_zero_or_pos z with q | q
          · exact q
          · obtain ⟨j, rfl⟩ : ∃ j, z = j + 1 := ⟨z - 1, by omega⟩
            rw [nI_pred] at c_9
            exact absurd c_9 (nI_pos (by omega))
        subst hz0
        refine lv_lload_n hx hb dX11_low_34 rfl (lv_at hl 2 rfl) ?_
        exact zr_l hx hb hr hlocks (rfl) dX11_low_35
      · obtain ⟨j, rfl⟩ : ∃ z9, z = z9 + 1 := ⟨z - 1, by
          have : z ≠ 0 := fun q => c_9 (by subst q; decide)
          omega⟩
        rw [nI_pred] at hl
        refine lv_lload_n hx hb dX11_low_12 rfl (lv_at hl 2 rfl) ?_
        refine lv_bipush (v := nI 8) hx hb dX11_low_13 (by decide) ?_
        refine lv_lshl (v := (lN (sb8 f a (j + 1) (N - (j + 1)))) <<< ((nI 8).toInt64 &&& 63)) hx hb dX11_low_15 (rfl) ?_
        refine lv_aload_n hx hb dX11_low_16 rfl (lv_at hl 0 rfl) ?_
        refine zi_get (C := RX11) (T := TX11) (N := 23) (v := .ref (qw)) hx hb hz wo_X11 hown hK hO rfl 12 (by decide) (hz _ wf_X11_26) (fun _ h9 => h9) hS1 dX11_low_17 ?_
        refine lv_iload_n hx hb dX11_low_20 rfl (lv_at hl 1 rfl) ?_
        refine lv_iload hx hb dX11_low_21 (lv_at hl 3 rfl) ?_
        refine zi_add hx hb dX11_low_23 ?_
        refine zi_ald hx hb hK hA (by omega) (by decide) dX11_low_24 ?_
        refine lv_i2l (v := lN (f (a + j))) hx hb dX11_low_25 (nI_l (Nat.lt_trans (h8 _) (by decide))) ?_
        refine lv_lor hx hb dX11_low_26 ?_
        rw [z_shl8or (sb8_lt f h8 a _) (h8 _), sbN_step f a j N (by omega)]
        refine lv_lstore_n (lv' := [(3, .long (lN (sb8 f a j (N - j)))), (0, .ref (o)), (1, .int (nI (a))), (5, .int (nI (j)))]) hx hb dX11_low_27 rfl hl (by decide) rfl (fun ls hl => ?_)
        refine lv_iinc (v := nI j - 1) (lv' := [(5, .int (nI j - 1)), (3, .long (lN (sb8 f a j (N - j)))), (0, .ref (o)), (1, .int (nI (a)))]) hx hb dX11_low_28 hl (k := 3) rfl (z_m1 _) (by decide) rfl (fun ls hl => ?_)
        refine lv_goto (tgt := 7) hx hb dX11_low_31 (by decide) ?_
        exact ih_ j (by omega) (by omega) ls (lv_sub hl [2, 3, 1, 0] rfl)
  exact L7 ((N) + 1) N (Nat.lt_succ_self _) (Nat.le_refl _) ls (lv_sub hl [2, 3, 1, 0] rfl)
