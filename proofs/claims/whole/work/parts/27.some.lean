set_option maxHeartbeats 4000000 in
set_option maxRecDepth 100000 in
theorem m_leaf (l : Launch) (G : zG) (o qs : Nat) (fs : List Value) (f : Nat → Nat) (d c9 e9 : Nat) (hal : C_all l G o qs fs f d) (hfh : C_fh l G o qs fs f d) (hlf : okLf f d c9 e9) (k a : Nat) (u : Bool) (hk16 : okV f 16 k a) : Met l yX11_some wsX11_some (rTL d 0) (zP G [.ref (o), .int (nI (c9)), .int (nI (e9)), .int (nI (0)), .int (nI (k)), .int (nI (a))] (fun H => MM G o qs fs f u H)) (zQ (fun x => x = o) (some (.int (nI (nB (LFd f d c9 e9 k a))))) (fun H => MM G o qs fs f (true) H)) 0 0 (fun x => x = o) := by
  refine Met.ofW (cc := cX11_some) (maxL := 8) (ret := (some .boolean)) (by decide) rfl ?_
  intro p en s m args below meth c s₁ B hml hv
  obtain ⟨rfl, hP, hK⟩ := hv
  have hx := B.exec
  have hb := B.bytes
  have hr := B.returns
  have hts := atoms_spec (ws := wsX11_some) B.pre
  have hz : ∀ w ∈ zW, w.before _ s = true := fun w h => hts w (List.mem_cons_of_mem _ h)
  have hown : s.vm.findClass RX11 = some m.cls := findClass_of_methodNamed B.named
  have hlocks := B.notSynchronized
  obtain ⟨hO, hA, hS1, h8, hln, hne9⟩ := id hP
  have hS : va_S (fun x => x = o) s.heap s.heap [] := va_S.rf
  have hc9 := hlf.1
  have he9 := hlf.2.1
  have hkl := hk16.b.lt
  have hl := lv_entry ([.ref (o), .int (nI (c9)), .int (nI (e9)), .int (nI (0)), .int (nI (k)), .int (nI (a))]) (n := 8) (Nat.le_of_ble_eq_true rfl)
  rw [lg_entry_eq]
  generalize (lg_sl ([.ref (o), .int (nI (c9)), .int (nI (e9)), .int (nI (0)), .int (nI (k)), .int (nI (a))]) ++ List.replicate (8 - (lg_sl ([.ref (o), .int (nI (c9)), .int (nI (e9)), .int (nI (0)), .int (nI (k)), .int (nI (a))])).length) Slot.unset).toArray = ls at hl ⊢
  have hl : lv_has ls 8 [(0, .ref (o)), (1, .int (nI (c9))), (2, .int (nI (e9))), (3, .int (nI (0))), (4, .int (nI (k))), (5, .int (nI (a)))] := hl
  refine lv_iload_n hx hb dX11_some_0 rfl (lv_at hl 3 rfl) ?_
  refine zi_if_ne (tgt := 45) hx hb dX11_some_1 (by decide) (by omega) (fun c_1 => absurd c_1 (by decide)) (fun c_1 => ?_)
  refine lv_aload_n hx hb dX11_some_4 rfl (lv_at hl 0 rfl) ?_
  refine lv_iconst (v := nI 1) hx hb dX11_some_5 (by decide) ?_
  refine zi_put (C := RX11) (T := TX11) (N := 23) (ty := .boolean) (v := .int (nI (nB (true)))) hx hb hz wo_X11 tyX11 tyX11_ok nmX11 hown hK hO rfl 22 (by decide) (hz _ wf_X11_283) (fun _ h9 => h9) rfl (by decide +kernel) (znar_b (true)) (zfit_b (true)) (by simp [zM]; omega) (A := (fun x => x = o)) rfl hS dX11_some_6 (fun H locs _ hk9 hO9 hS => ?_)
  have hP := hP.put (v := true) hk9 hO9
  obtain ⟨hO, hA, hS1, h8, hln, hne9⟩ := id hP
  refine lv_iload_n hx hb dX11_some_9 rfl (lv_at hl 1 rfl) ?_
  refine zi_if_le (tgt := 25) hx hb dX11_some_10 (by decide) (by omega) (fun c_10 => ?_) (fun c_10 => ?_)
  · refine lv_aload_n hx hb dX11_some_25 rfl (lv_at hl 0 rfl) ?_
    refine lv_iload hx hb dX11_some_26 (lv_at hl 4 rfl) ?_
    refine lv_iload hx hb dX11_some_28 (lv_at hl 5 rfl) ?_
    refine lv_aload_n hx hb dX11_some_30 rfl (lv_at hl 0 rfl) ?_
    refine zi_get (C := RX11) (T := TX11) (N := 23) (v := .ref (qs)) hx hb hz wo_X11 hown hK hO rfl 1 (by decide) (hz _ wf_X11_7) (fun _ h9 => h9) (MM.s1 hS1) dX11_some_31 ?_
    refine lv_iload_n hx hb dX11_some_34 rfl (lv_at hl 2 rfl) ?_
    refine zi_ald hx hb hK hA he9 (by decide) dX11_some_35 ?_
    refine lv_aload_n hx hb dX11_some_36 rfl (lv_at hl 0 rfl) ?_
    refine lv_iload_n hx hb dX11_some_37 rfl (lv_at hl 2 rfl) ?_
    refine zc_V (As := [.int (nI (e9))]) (rest := [.int (nI (f e9)), .int (nI (a)), .int (nI (k)), .ref (o)]) ⟨hx, hb, hml, hown, hts⟩ (m_valueOf l G o qs (zM fs (true)) f e9 (hlf.2.2.2 c_10).1.1) (cwV 1 hts (zgV wm_X11_131 wv_X11_valueOf) rfl rfl rfl (by decide +kernel) ⟨show 1 + 1 ≤ 30 * d + 51 + 0 by omega, show 8 + (2 + 11) + (22) ≤ 900 * d + 1290 + 27 * 0 by omega⟩) hK hO rfl hP.mv rfl hl.1 rfl (Nat.le_of_ble_eq_true rfl) dX11_some_38 ⟨Nat.zero_le _, Nat.zero_le _⟩ ?_
    refine zc_V (As := [.int (nI (k)), .int (nI (a)), .int (nI (f e9)), .int (nI (vo f e9))]) (rest := []) ⟨hx, hb, hml, hown, hts⟩ (m_isEqual l G o qs (zM fs (true)) f 16 k a (f e9) (vo f e9) hk16 (hlf.2.2.2 c_10).2) (cwV 4 hts (zgV wm_X11_271 wv_X11_isEqual) rfl rfl rfl (by decide +kernel) ⟨show 36 + 1 ≤ 30 * d + 51 + 0 by omega, show 8 + (7 + 11) + (969) ≤ 900 * d + 1290 + 27 * 0 by omega⟩) hK hO rfl hP.mv rfl hl.1 rfl (Nat.le_of_ble_eq_true rfl) dX11_some_41 ⟨Nat.zero_le _, Nat.zero_le _⟩ ?_
    exact zr_ze hx hb hr hlocks (by unfold LFd LFo; rw [if_neg (by omega)]) (hP) hS dX11_some_44
  · refine lv_aload_n hx hb dX11_some_13 rfl (lv_at hl 0 rfl) ?_
    refine lv_iload_n hx hb dX11_some_14 rfl (lv_at hl 1 rfl) ?_
    refine lv_iload hx hb dX11_some_15 (lv_at hl 4 rfl) ?_
    refine lv_iload hx hb dX11_some_17 (lv_at hl 5 rfl) ?_
    refine zc_VE (As := [.int (nI (c9)), .int (nI (k)), .int (nI (a))]) (rest := []) ⟨hx, hb, hml, hown, hts⟩ (m_does l G o qs fs f d c9 k a (true) hal hfh (hlf.2.2.1 c_10).1 (hlf.2.2.1 c_10).2.1 (hlf.2.2.1 c_10).2.2.1 hk16 (hlf.2.2.1 c_10).2.2.2.1 (hlf.2.2.1 c_10).2.2.2.2) (cwV 3 hts (zgV wm_X11_287 wv_X11_does) rfl rfl rfl (by decide +kernel) ⟨show 30 * d + 50 + 1 ≤ 30 * d + 51 + 0 by omega, show 8 + (9 + 11) + (900 * d + 1260) ≤ 900 * d + 1290 + 27 * 0 by omega⟩) hK hO rfl hP rfl hl.1 rfl (Nat.le_of_ble_eq_true rfl) dX11_some_19 ⟨Nat.zero_le _, Nat.zero_le _⟩ hS (fun _ h9 => h9) (fun H locs hP hz9 hk9 hS => ?_)
    obtain ⟨hO, hA, hS1, h8, hln, hne9⟩ := id hP
    refine W.eq (g2 := F0 m 22 ls ([.int (nI (nB (DO f (evF f d).1 (evF f d).2 c9 k a)))])) rfl ?_
    refine lv_goto (tgt := 44) hx hb dX11_some_22 (by decide) ?_
    exact zr_ze hx hb hr hlocks (by unfold LFd LFo; rw [if_pos c_10]) (hP) hS dX11_some_44

set_option maxHeartbeats 4000000 in
set_option maxRecDepth 100000 in
theorem m_some_ (l : Launch) (G : zG) (o qs : Nat) (fs : List Value) (f : Nat → Nat) (d c9 e9 : Nat) (hal : C_all l G o qs fs f d) (hfh : C_fh l G o qs fs f d) (hlf : okLf f d c9 e9) (t : Nat) (ht : t ≤ 16) (IH : ∀ t', t = t' + 1 → C_some l G o qs fs f d c9 e9 t') (q k a : Nat) (u : Bool) (hq : okPa f q) (hk : okV f t k a) : Met l yX11_some wsX11_some (rTL d (t + 1)) (zP G [.ref (o), .int (nI (c9)), .int (nI (e9)), .int (nI (q)), .int (nI (k)), .int (nI (a))] (fun H => MM G o qs fs f u H)) (zQ (fun x => x = o) (some (.int (nI (nB (decide (TL f (LFd f d c9 e9) t q k a = 2)))))) (fun H => MM G o qs fs f (u || decide (TL f (LFd f d c9 e9) t q k a ≠ 0)) H)) 0 0 (fun x => x = o) := by
  refine Met.ofW (cc := cX11_some) (maxL := 8) (ret := (some .boolean)) (by decide) rfl ?_
  intro p en s m args below meth c s₁ B hml hv
  obtain ⟨rfl, hP, hK⟩ := hv
  have hx := B.exec
  have hb := B.bytes
  have hr := B.returns
  have hts := atoms_spec (ws := wsX11_some) B.pre
  have hz : ∀ w ∈ zW, w.before _ s = true := fun w h => hts w (List.mem_cons_of_mem _ h)
  have hown : s.vm.findClass RX11 = some m.cls := findClass_of_methodNamed B.named
  have hlocks := B.notSynchronized
  obtain ⟨hO, hA, hS1, h8, hln, hne9⟩ := id hP
  have hS : va_S (fun x => x = o) s.heap s.heap [] := va_S.rf
  have hc9 := hlf.1
  have he9 := hlf.2.1
  have hk16 := hk.le ht
  have hkl := hk16.b.lt
  have hql := hq.lt
  have hl := lv_entry ([.ref (o), .int (nI (c9)), .int (nI (e9)), .int (nI (q)), .int (nI (k)), .int (nI (a))]) (n := 8) (Nat.le_of_ble_eq_true rfl)
  rw [lg_entry_eq]
  generalize (lg_sl ([.ref (o), .int (nI (c9)), .int (nI (e9)), .int (nI (q)), .int (nI (k)), .int (nI (a))]) ++ List.replicate (8 - (lg_sl ([.ref (o), .int (nI (c9)), .int (nI (e9)), .int (nI (q)), .int (nI (k)), .int (nI (a))])).length) Slot.unset).toArray = ls at hl ⊢
  have hl : lv_has ls 8 [(0, .ref (o)), (1, .int (nI (c9))), (2, .int (nI (e9))), (3, .int (nI (q))), (4, .int (nI (k))), (5, .int (nI (a)))] := hl
  refine lv_iload_n hx hb dX11_some_0 rfl (lv_at hl 3 rfl) ?_
  refine zi_if_ne (tgt := 45) hx hb dX11_some_1 (by decide) (by omega) (fun c_1 => ?_) (fun c_1 => ?_)
  · refine lv_iload hx hb dX11_some_45 (lv_at hl 4 rfl) ?_
    refine lv_iconst (v := nI 3) hx hb dX11_some_47 (by decide) ?_
    refine zi_icmp_eq (tgt := 67) hx hb dX11_some_48 (by decide) (by omega) (by omega) (fun c_48 => ?_) (fun c_48 => ?_)
    · have hq0 := c_1
      have hqs := hq.s c_1
      have hk34 : k = 3 ∨ k = 4 := Or.inl c_48
      obtain ⟨t1, ht1⟩ := hk.s hk34
      have hkB := okV_box hk ht1 hk34
      have hf1 := hkB.1.2.lt (by decide)
      refine lv_iconst (v := nI 0) hx hb dX11_some_67 (by decide) ?_
      refine lv_istore (lv' := [(6, .int (nI (0))), (0, .ref (o)), (1, .int (nI (c9))), (2, .int (nI (e9))), (3, .int (nI (q))), (4, .int (nI (k))), (5, .int (nI (a)))]) hx hb dX11_some_68 hl (by decide) rfl (fun ls hl => ?_)
      refine lv_aload_n hx hb dX11_some_70 rfl (lv_at hl 1 rfl) ?_
      refine lv_iload hx hb dX11_some_71 (lv_at hl 6 rfl) ?_
      refine zc_V (As := [.int (nI (a))]) (rest := []) ⟨hx, hb, hml, hown, hts⟩ (m_firstOf l G o qs (zM fs (u)) f a hkB.1.1) (cwV 1 hts (zgV wm_X11_137 wv_X11_firstOf) rfl rfl rfl (by decide +kernel) ⟨show 0 + 1 ≤ 30 * d + 51 + (t + 1) by omega, show 8 + (2 + 11) + (0) ≤ 900 * d + 1290 + 27 * (t + 1) by omega⟩) hK hO rfl hP.mv rfl hl.1 rfl (Nat.le_of_ble_eq_true rfl) dX11_some_73 ⟨Nat.zero_le _, Nat.zero_le _⟩ ?_
      refine lv_istore (lv' := [(7, .int (nI (fi f a))), (6, .int (nI (0))), (0, .ref (o)), (1, .int (nI (c9))), (2, .int (nI (e9))), (3, .int (nI (q))), (4, .int (nI (k))), (5, .int (nI (a)))]) hx hb dX11_some_76 hl (by decide) rfl (fun ls hl => ?_)
      have L78 : ∀ (n_ : Nat) (x : Nat) (X : List Nat) (y : Nat), X.length < n_ → (Ch 18000 f x X) → (x < 18000) → (∀ z ∈ X, z ∈ els f a) → (y < 18000) → (fnd f q (els f a) = (if y = 0 then fnd f q X else y)) → ∀ (H : Heap) (locs : List Loc), MM G o qs fs f (u) H → va_S (fun x => x = o) s.heap H locs → ∀ ls : Array Slot, lv_has ls 8 [(0, .ref (o)), (1, .int (nI (c9))), (2, .int (nI (e9))), (3, .int (nI (q))), (4, .int (nI (k))), (5, .int (nI (a))), (6, .int (nI (y))), (7, .int (nI (x)))] → W p l en (headSpec wsX11_some (rTL d (t + 1))).room s m ([.ref (o), .int (nI (c9)), .int (nI (e9)), .int (nI (q)), .int (nI (k)), .int (nI (a))] : List Value).toArray below meth c H locs 0 0 (MQ below (zQ (fun x => x = o) (some (.int (nI (nB (decide (TL f (LFd f d c9 e9) t q k a = 2)))))) (fun H => MM G o qs fs f (u || decide (TL f (LFd f d c9 e9) t q k a ≠ 0)) H)) ([.ref (o), .int (nI (c9)), .int (nI (e9)), .int (nI (q)), .int (nI (k)), .int (nI (a))] : List Value).toArray s 0 0 (fun x => x = o)) (F0 m 78 ls []) := by
        intro n_
        induction n_ with
        | zero => intro x X y hm_; exact absurd hm_ (Nat.not_lt_zero _)
        | succ n_ ih_ =>
          intro x X y hm_ hc hxl hXi hyl hfd H locs hP hS ls hl
          obtain ⟨hO, hA, hS1, h8, hln, hne9⟩ := id hP
          refine lv_iload hx hb dX11_some_78 (lv_at hl 7 rfl) ?_
          refine zi_if_le (tgt := 117) hx hb dX11_some_80 (by decide) (by omega) (fun c_80 => ?_) (fun c_80 => ?_)
          · have hX0 := hc.nil c_80
            subst hX0
            have hy : fnd f q (els f a) = y := by
              rw [hfd]
              split
              · rename_i z; rw [z]; rfl
              · rfl
            refine lv_iload hx hb dX11_some_117 (lv_at hl 4 rfl) ?_
            refine lv_iconst (v := nI 3) hx hb dX11_some_119 (by decide) ?_
            refine zi_icmp_ne (tgt := 165) hx hb dX11_some_120 (by decide) (by omega) (by omega) (fun c_120 => ?_) (fun c_120 => ?_)
            · have hk4 : k = 4 := by omega
              refine lv_iload hx hb dX11_some_165 (lv_at hl 6 rfl) ?_
              refine zi_if_le (tgt := 199) hx hb dX11_some_167 (by decide) (by omega) (fun c_167 => ?_) (fun c_167 => ?_)
              · have hr0 : TL f (LFd f d c9 e9) t q k a = rowF (fun x => TL f (LFd f d c9 e9) t1 q 3 (vo f x)) f (els f a) 0 := by rw [TLx_4 ht1 hk4 hq0 hy, if_pos c_167]
                have hP := hP.to (dE 0 u rfl)
                obtain ⟨hO, hA, hS1, h8, hln, hne9⟩ := id hP
                refine lv_aload_n hx hb dX11_some_199 rfl (lv_at hl 0 rfl) ?_
                refine lv_iload hx hb dX11_some_200 (lv_at hl 5 rfl) ?_
                refine zc_V (As := [.int (nI (a))]) (rest := []) ⟨hx, hb, hml, hown, hts⟩ (m_firstOf l G o qs (zM fs (u || decide (0 ≠ 0))) f a hkB.1.1) (cwV 1 hts (zgV wm_X11_137 wv_X11_firstOf) rfl rfl rfl (by decide +kernel) ⟨show 0 + 1 ≤ 30 * d + 51 + (t + 1) by omega, show 8 + (2 + 11) + (0) ≤ 900 * d + 1290 + 27 * (t + 1) by omega⟩) hK hO rfl hP.mv rfl hl.1 rfl (Nat.le_of_ble_eq_true rfl) dX11_some_202 ⟨Nat.zero_le _, Nat.zero_le _⟩ ?_
                refine lv_istore (lv' := [(7, .int (nI (fi f a))), (0, .ref (o)), (1, .int (nI (c9))), (2, .int (nI (e9))), (3, .int (nI (q))), (4, .int (nI (k))), (5, .int (nI (a))), (6, .int (nI (y)))]) hx hb dX11_some_205 hl (by decide) rfl (fun ls hl => ?_)
                have L207 : ∀ (n_ : Nat) (x : Nat) (X : List Nat) (r : Nat), X.length < n_ → (Ch 18000 f x X) → (x < 18000) → (∀ z ∈ X, z ∈ els f a) → (TL f (LFd f d c9 e9) t q k a = rowF (fun x => TL f (LFd f d c9 e9) t1 q 3 (vo f x)) f X r) → (r < 2) → ∀ (H : Heap) (locs : List Loc), MM G o qs fs f (u || decide (r ≠ 0)) H → va_S (fun x => x = o) s.heap H locs → ∀ ls : Array Slot, lv_has ls 8 [(0, .ref (o)), (1, .int (nI (c9))), (2, .int (nI (e9))), (3, .int (nI (q))), (5, .int (nI (a))), (7, .int (nI (x)))] → W p l en (headSpec wsX11_some (rTL d (t + 1))).room s m ([.ref (o), .int (nI (c9)), .int (nI (e9)), .int (nI (q)), .int (nI (k)), .int (nI (a))] : List Value).toArray below meth c H locs 0 0 (MQ below (zQ (fun x => x = o) (some (.int (nI (nB (decide (TL f (LFd f d c9 e9) t q k a = 2)))))) (fun H => MM G o qs fs f (u || decide (TL f (LFd f d c9 e9) t q k a ≠ 0)) H)) ([.ref (o), .int (nI (c9)), .int (nI (e9)), .int (nI (q)), .int (nI (k)), .int (nI (a))] : List Value).toArray s 0 0 (fun x => x = o)) (F0 m 207 ls []) := by
                  intro n_
                  induction n_ with
                  | zero => intro x X r hm_; exact absurd hm_ (Nat.not_lt_zero _)
                  | succ n_ ih_ =>
                    intro x X r hm_ hc hxl hXi hs hr2 H locs hP hS ls hl
                    obtain ⟨hO, hA, hS1, h8, hln, hne9⟩ := id hP
                    refine lv_iload hx hb dX11_some_207 (lv_at hl 5 rfl) ?_
                    refine zi_if_le (tgt := 253) hx hb dX11_some_209 (by decide) (by omega) (fun c_209 => ?_) (fun c_209 => ?_)
                    · have hX0 := hc.nil c_209
                      subst hX0
                      refine lv_iconst (v := nI 0) hx hb dX11_some_253 (by decide) ?_
                      exact zr_ze hx hb hr hlocks (by rw [hs, decide_eq_false (show rowF (fun x => TL f (LFd f d c9 e9) t1 q 3 (vo f x)) f [] r ≠ 2 from Nat.ne_of_lt hr2)]; rfl) (MM.to (by rw [hs]; rfl) hP) hS dX11_some_254
                    · obtain ⟨X', rfl, hok, hc'⟩ := hc.cons c_209
                      have hx9 := hXi x List.mem_cons_self
                      refine lv_aload_n hx hb dX11_some_212 rfl (lv_at hl 0 rfl) ?_
                      refine zi_get (C := RX11) (T := TX11) (N := 23) (v := .ref (qs)) hx hb hz wo_X11 hown hK hO rfl 1 (by decide) (hz _ wf_X11_7) (fun _ h9 => h9) (MM.s1 hS1) dX11_some_213 ?_
                      refine lv_iload hx hb dX11_some_216 (lv_at hl 5 rfl) ?_
                      refine zi_ald hx hb hK hA (by omega) (by decide) dX11_some_218 ?_
                      refine lv_iconst (v := nI 3) hx hb dX11_some_219 (by decide) ?_
                      refine zi_icmp_ne (tgt := 242) hx hb dX11_some_220 (by decide) (Nat.lt_trans (h8 _) (by decide)) (by omega) (fun c_220 => ?_) (fun c_220 => ?_)
                      · have hs9 := hs.trans (rowF_n (Nat.ne_of_lt hr2) c_220)
                        refine lv_aload_n hx hb dX11_some_242 rfl (lv_at hl 0 rfl) ?_
                        refine lv_iload hx hb dX11_some_243 (lv_at hl 5 rfl) ?_
                        refine zc_V (As := [.int (nI (x))]) (rest := []) ⟨hx, hb, hml, hown, hts⟩ (m_nextOf l G o qs (zM fs (u || decide (r ≠ 0))) f x hok) (cwV 1 hts (zgV wm_X11_140 wv_X11_nextOf) rfl rfl rfl (by decide +kernel) ⟨show 2 + 1 ≤ 30 * d + 51 + (t + 1) by omega, show 8 + (4 + 11) + (43) ≤ 900 * d + 1290 + 27 * (t + 1) by omega⟩) hK hO rfl hP.mv rfl hl.1 rfl (Nat.le_of_ble_eq_true rfl) dX11_some_245 ⟨Nat.zero_le _, Nat.zero_le _⟩ ?_
                        refine lv_istore (lv' := [(7, .int (nI (nx f x))), (0, .ref (o)), (1, .int (nI (c9))), (2, .int (nI (e9))), (3, .int (nI (q))), (5, .int (nI (a)))]) hx hb dX11_some_248 hl (by decide) rfl (fun ls hl => ?_)
                        refine lv_goto (tgt := 207) hx hb dX11_some_250 (by decide) ?_
                        exact ih_ (nx f x) (X') r (by simp at hm_; omega) hc' (Ch.lt (by decide) hc') (fun z hz => hXi z (List.mem_cons_of_mem _ hz)) hs9 hr2 _ _ hP hS ls (lv_sub hl [1, 2, 3, 4, 5, 0] rfl)
                      · refine lv_aload_n hx hb dX11_some_223 rfl (lv_at hl 0 rfl) ?_
                        refine lv_iload_n hx hb dX11_some_224 rfl (lv_at hl 1 rfl) ?_
                        refine lv_iload_n hx hb dX11_some_225 rfl (lv_at hl 2 rfl) ?_
                        refine lv_iload_n hx hb dX11_some_226 rfl (lv_at hl 3 rfl) ?_
                        refine lv_iconst (v := nI 3) hx hb dX11_some_227 (by decide) ?_
                        refine lv_aload_n hx hb dX11_some_228 rfl (lv_at hl 0 rfl) ?_
                        refine lv_iload hx hb dX11_some_229 (lv_at hl 5 rfl) ?_
                        refine zc_V (As := [.int (nI (x))]) (rest := [.int (nI (3)), .int (nI (q)), .int (nI (e9)), .int (nI (c9)), .ref (o)]) ⟨hx, hb, hml, hown, hts⟩ (m_valueOf l G o qs (zM fs (u || decide (r ≠ 0))) f x hok.1) (cwV 1 hts (zgV wm_X11_131 wv_X11_valueOf) rfl rfl rfl (by decide +kernel) ⟨show 1 + 1 ≤ 30 * d + 51 + (t + 1) by omega, show 8 + (2 + 11) + (22) ≤ 900 * d + 1290 + 27 * (t + 1) by omega⟩) hK hO rfl hP.mv rfl hl.1 rfl (Nat.le_of_ble_eq_true rfl) dX11_some_231 ⟨Nat.zero_le _, Nat.zero_le _⟩ ?_
                        refine zc_VE (As := [.int (nI (c9)), .int (nI (e9)), .int (nI (q)), .int (nI (3)), .int (nI (vo f x))]) (rest := []) ⟨hx, hb, hml, hown, hts⟩ (IH t1 ht1 q 3 (vo f x) (u || decide (r ≠ 0)) hq (by have h7 := hkB.2 x hx9; rwa [c_220] at h7)) (cwV 5 hts (zgV wm_X11_290 wv_X11_some) rfl rfl rfl (by decide +kernel) ⟨show 30 * d + 51 + (t1 + 1) + 1 ≤ 30 * d + 51 + (t + 1) by omega, show 8 + (8 + 11) + (900 * d + 1290 + 27 * (t1 + 1)) ≤ 900 * d + 1290 + 27 * (t + 1) by omega⟩) hK hO rfl hP rfl hl.1 rfl (Nat.le_of_ble_eq_true rfl) dX11_some_234 ⟨Nat.zero_le _, Nat.zero_le _⟩ hS (fun _ h9 => h9) (fun H locs hP hz9 hk9 hS => ?_)
                        obtain ⟨hO, hA, hS1, h8, hln, hne9⟩ := id hP
                        refine W.eq (g2 := F0 m 237 ls ([.int (nI (nB (decide (TL f (LFd f d c9 e9) t1 q 3 (vo f x) = 2))))])) rfl ?_
                        refine zb_if_eq (tgt := 242) hx hb dX11_some_237 (by decide) (fun c_237 => ?_) (fun c_237 => ?_)
                        · have hs9 := hs.trans (rowF_y (Nat.ne_of_lt hr2) c_220)
                          have hr29 : max r (TL f (LFd f d c9 e9) t1 q 3 (vo f x)) < 2 := by have := of_decide_eq_false c_237; have := TL_lt (f := f) (LF := LFd f d c9 e9) t1 q 3 (vo f x); omega
                          have hP := hP.to (dmax u r (TL f (LFd f d c9 e9) t1 q 3 (vo f x)))
                          obtain ⟨hO, hA, hS1, h8, hln, hne9⟩ := id hP
                          refine lv_aload_n hx hb dX11_some_242 rfl (lv_at hl 0 rfl) ?_
                          refine lv_iload hx hb dX11_some_243 (lv_at hl 5 rfl) ?_
                          refine zc_V (As := [.int (nI (x))]) (rest := []) ⟨hx, hb, hml, hown, hts⟩ (m_nextOf l G o qs (zM fs (u || decide (max r (TL f (LFd f d c9 e9) t1 q 3 (vo f x)) ≠ 0))) f x hok) (cwV 1 hts (zgV wm_X11_140 wv_X11_nextOf) rfl rfl rfl (by decide +kernel) ⟨show 2 + 1 ≤ 30 * d + 51 + (t + 1) by omega, show 8 + (4 + 11) + (43) ≤ 900 * d + 1290 + 27 * (t + 1) by omega⟩) hK hO rfl hP.mv rfl hl.1 rfl (Nat.le_of_ble_eq_true rfl) dX11_some_245 ⟨Nat.zero_le _, Nat.zero_le _⟩ ?_
                          refine lv_istore (lv' := [(7, .int (nI (nx f x))), (0, .ref (o)), (1, .int (nI (c9))), (2, .int (nI (e9))), (3, .int (nI (q))), (5, .int (nI (a)))]) hx hb dX11_some_248 hl (by decide) rfl (fun ls hl => ?_)
                          refine lv_goto (tgt := 207) hx hb dX11_some_250 (by decide) ?_
                          exact ih_ (nx f x) (X') (max r (TL f (LFd f d c9 e9) t1 q 3 (vo f x))) (by simp at hm_; omega) hc' (Ch.lt (by decide) hc') (fun z hz => hXi z (List.mem_cons_of_mem _ hz)) hs9 hr29 _ _ hP hS ls (lv_sub hl [1, 2, 3, 4, 5, 0] rfl)
                        · refine lv_iconst (v := nI 1) hx hb dX11_some_240 (by decide) ?_
                          exact zr_ze hx hb hr hlocks (by rw [hs, rowF_y (Nat.ne_of_lt hr2) c_220, of_decide_eq_true c_237, show max r 2 = 2 by omega, rowF_2]; rfl) (MM.to (by rw [hs, rowF_y (Nat.ne_of_lt hr2) c_220, of_decide_eq_true c_237, show max r 2 = 2 by omega, rowF_2]; cases u <;> cases (decide (r ≠ 0)) <;> rfl) hP) hS dX11_some_241
                exact L207 (((els f a).length) + 1) (fi f a) (els f a) 0 (Nat.lt_succ_self _) hkB.1.2 hf1 (fun _ z => z) hr0 (by decide) _ _ hP hS ls (lv_sub hl [1, 2, 3, 4, 6, 0] rfl)
              · have hyi : y ∈ els f a := by rw [← hy]; exact fnd_in (by rw [hy]; omega)
                have hyo := ch_ok hkB.1.2 hyi
                have hyl := hyo.1.lt
                refine lv_aload_n hx hb dX11_some_170 rfl (lv_at hl 0 rfl) ?_
                refine lv_iload_n hx hb dX11_some_171 rfl (lv_at hl 1 rfl) ?_
                refine lv_iload_n hx hb dX11_some_172 rfl (lv_at hl 2 rfl) ?_
                refine lv_aload_n hx hb dX11_some_173 rfl (lv_at hl 0 rfl) ?_
                refine lv_iload_n hx hb dX11_some_174 rfl (lv_at hl 3 rfl) ?_
                refine zc_V (As := [.int (nI (q))]) (rest := [.int (nI (e9)), .int (nI (c9)), .ref (o)]) ⟨hx, hb, hml, hown, hts⟩ (m_nextStep l G o qs (zM fs (u)) f q hqs.1) (cwV 1 hts (zgV wm_X11_296 wv_X11_nextStep) rfl rfl rfl (by decide +kernel) ⟨show 0 + 1 ≤ 30 * d + 51 + (t + 1) by omega, show 8 + (3 + 11) + (0) ≤ 900 * d + 1290 + 27 * (t + 1) by omega⟩) hK hO rfl hP.mv rfl hl.1 rfl (Nat.le_of_ble_eq_true rfl) dX11_some_175 ⟨Nat.zero_le _, Nat.zero_le _⟩ ?_
                refine lv_aload_n hx hb dX11_some_178 rfl (lv_at hl 0 rfl) ?_
                refine zi_get (C := RX11) (T := TX11) (N := 23) (v := .ref (qs)) hx hb hz wo_X11 hown hK hO rfl 1 (by decide) (hz _ wf_X11_7) (fun _ h9 => h9) (MM.s1 hS1) dX11_some_179 ?_
                refine lv_iload hx hb dX11_some_182 (lv_at hl 6 rfl) ?_
                refine zi_ald hx hb hK hA (by omega) (by decide) dX11_some_184 ?_
                refine lv_aload_n hx hb dX11_some_185 rfl (lv_at hl 0 rfl) ?_
                refine lv_iload hx hb dX11_some_186 (lv_at hl 6 rfl) ?_
                refine zc_V (As := [.int (nI (y))]) (rest := [.int (nI (f y)), .int (nI (nS f q)), .int (nI (e9)), .int (nI (c9)), .ref (o)]) ⟨hx, hb, hml, hown, hts⟩ (m_valueOf l G o qs (zM fs (u)) f y hyo.1.1) (cwV 1 hts (zgV wm_X11_131 wv_X11_valueOf) rfl rfl rfl (by decide +kernel) ⟨show 1 + 1 ≤ 30 * d + 51 + (t + 1) by omega, show 8 + (2 + 11) + (22) ≤ 900 * d + 1290 + 27 * (t + 1) by omega⟩) hK hO rfl hP.mv rfl hl.1 rfl (Nat.le_of_ble_eq_true rfl) dX11_some_188 ⟨Nat.zero_le _, Nat.zero_le _⟩ ?_
                refine zc_VE (As := [.int (nI (c9)), .int (nI (e9)), .int (nI (nS f q)), .int (nI (f y)), .int (nI (vo f y))]) (rest := []) ⟨hx, hb, hml, hown, hts⟩ (IH t1 ht1 (nS f q) (f y) (vo f y) (u) hqs.2 (hkB.2 y hyi)) (cwV 5 hts (zgV wm_X11_290 wv_X11_some) rfl rfl rfl (by decide +kernel) ⟨show 30 * d + 51 + (t1 + 1) + 1 ≤ 30 * d + 51 + (t + 1) by omega, show 8 + (8 + 11) + (900 * d + 1290 + 27 * (t1 + 1)) ≤ 900 * d + 1290 + 27 * (t + 1) by omega⟩) hK hO rfl hP rfl hl.1 rfl (Nat.le_of_ble_eq_true rfl) dX11_some_191 ⟨Nat.zero_le _, Nat.zero_le _⟩ hS (fun _ h9 => h9) (fun H locs hP hz9 hk9 hS => ?_)
                obtain ⟨hO, hA, hS1, h8, hln, hne9⟩ := id hP
                refine W.eq (g2 := F0 m 194 ls ([.int (nI (nB (decide (TL f (LFd f d c9 e9) t1 (nS f q) (f y) (vo f y) = 2))))])) rfl ?_
                refine zb_if_eq (tgt := 199) hx hb dX11_some_194 (by decide) (fun c_194 => ?_) (fun c_194 => ?_)
                · have hr0 : TL f (LFd f d c9 e9) t q k a = rowF (fun x => TL f (LFd f d c9 e9) t1 q 3 (vo f x)) f (els f a) (TL f (LFd f d c9 e9) t1 (nS f q) (f y) (vo f y)) := by rw [TLx_4 ht1 hk4 hq0 hy, if_neg (by omega)]
                  have hr2 : TL f (LFd f d c9 e9) t1 (nS f q) (f y) (vo f y) < 2 := by have := of_decide_eq_false c_194; have := TL_lt (f := f) (LF := LFd f d c9 e9) t1 (nS f q) (f y) (vo f y); omega
                  refine lv_aload_n hx hb dX11_some_199 rfl (lv_at hl 0 rfl) ?_
                  refine lv_iload hx hb dX11_some_200 (lv_at hl 5 rfl) ?_
                  refine zc_V (As := [.int (nI (a))]) (rest := []) ⟨hx, hb, hml, hown, hts⟩ (m_firstOf l G o qs (zM fs ((u) || decide (TL f (LFd f d c9 e9) t1 (nS f q) (f y) (vo f y) ≠ 0))) f a hkB.1.1) (cwV 1 hts (zgV wm_X11_137 wv_X11_firstOf) rfl rfl rfl (by decide +kernel) ⟨show 0 + 1 ≤ 30 * d + 51 + (t + 1) by omega, show 8 + (2 + 11) + (0) ≤ 900 * d + 1290 + 27 * (t + 1) by omega⟩) hK hO rfl hP.mv rfl hl.1 rfl (Nat.le_of_ble_eq_true rfl) dX11_some_202 ⟨Nat.zero_le _, Nat.zero_le _⟩ ?_
                  refine lv_istore (lv' := [(7, .int (nI (fi f a))), (0, .ref (o)), (1, .int (nI (c9))), (2, .int (nI (e9))), (3, .int (nI (q))), (4, .int (nI (k))), (5, .int (nI (a))), (6, .int (nI (y)))]) hx hb dX11_some_205 hl (by decide) rfl (fun ls hl => ?_)
                  have L207 : ∀ (n_ : Nat) (x : Nat) (X : List Nat) (r : Nat), X.length < n_ → (Ch 18000 f x X) → (x < 18000) → (∀ z ∈ X, z ∈ els f a) → (TL f (LFd f d c9 e9) t q k a = rowF (fun x => TL f (LFd f d c9 e9) t1 q 3 (vo f x)) f X r) → (r < 2) → ∀ (H : Heap) (locs : List Loc), MM G o qs fs f (u || decide (r ≠ 0)) H → va_S (fun x => x = o) s.heap H locs → ∀ ls : Array Slot, lv_has ls 8 [(0, .ref (o)), (1, .int (nI (c9))), (2, .int (nI (e9))), (3, .int (nI (q))), (5, .int (nI (a))), (7, .int (nI (x)))] → W p l en (headSpec wsX11_some (rTL d (t + 1))).room s m ([.ref (o), .int (nI (c9)), .int (nI (e9)), .int (nI (q)), .int (nI (k)), .int (nI (a))] : List Value).toArray below meth c H locs 0 0 (MQ below (zQ (fun x => x = o) (some (.int (nI (nB (decide (TL f (LFd f d c9 e9) t q k a = 2)))))) (fun H => MM G o qs fs f (u || decide (TL f (LFd f d c9 e9) t q k a ≠ 0)) H)) ([.ref (o), .int (nI (c9)), .int (nI (e9)), .int (nI (q)), .int (nI (k)), .int (nI (a))] : List Value).toArray s 0 0 (fun x => x = o)) (F0 m 207 ls []) := by
                    intro n_
                    induction n_ with
                    | zero => intro x X r hm_; exact absurd hm_ (Nat.not_lt_zero _)
                    | succ n_ ih_ =>
                      intro x X r hm_ hc hxl hXi hs hr2 H locs hP hS ls hl
                      obtain ⟨hO, hA, hS1, h8, hln, hne9⟩ := id hP
                      refine lv_iload hx hb dX11_some_207 (lv_at hl 5 rfl) ?_
                      refine zi_if_le (tgt := 253) hx hb dX11_some_209 (by decide) (by omega) (fun c_209 => ?_) (fun c_209 => ?_)
                      · have hX0 := hc.nil c_209
                        subst hX0
                        refine lv_iconst (v := nI 0) hx hb dX11_some_253 (by decide) ?_
                        exact zr_ze hx hb hr hlocks (by rw [hs, decide_eq_false (show rowF (fun x => TL f (LFd f d c9 e9) t1 q 3 (vo f x)) f [] r ≠ 2 from Nat.ne_of_lt hr2)]; rfl) (MM.to (by rw [hs]; rfl) hP) hS dX11_some_254
                      · obtain ⟨X', rfl, hok, hc'⟩ := hc.cons c_209
                        have hx9 := hXi x List.mem_cons_self
                        refine lv_aload_n hx hb dX11_some_212 rfl (lv_at hl 0 rfl) ?_
                        refine zi_get (C := RX11) (T := TX11) (N := 23) (v := .ref (qs)) hx hb hz wo_X11 hown hK hO rfl 1 (by decide) (hz _ wf_X11_7) (fun _ h9 => h9) (MM.s1 hS1) dX11_some_213 ?_
                        refine lv_iload hx hb dX11_some_216 (lv_at hl 5 rfl) ?_
                        refine zi_ald hx hb hK hA (by omega) (by decide) dX11_some_218 ?_
                        refine lv_iconst (v := nI 3) hx hb dX11_some_219 (by decide) ?_
                        refine zi_icmp_ne (tgt := 242) hx hb dX11_some_220 (by decide) (Nat.lt_trans (h8 _) (by decide)) (by omega) (fun c_220 => ?_) (fun c_220 => ?_)
                        · have hs9 := hs.trans (rowF_n (Nat.ne_of_lt hr2) c_220)
                          refine lv_aload_n hx hb dX11_some_242 rfl (lv_at hl 0 rfl) ?_
                          refine lv_iload hx hb dX11_some_243 (lv_at hl 5 rfl) ?_
                          refine zc_V (As := [.int (nI (x))]) (rest := []) ⟨hx, hb, hml, hown, hts⟩ (m_nextOf l G o qs (zM fs (u || decide (r ≠ 0))) f x hok) (cwV 1 hts (zgV wm_X11_140 wv_X11_nextOf) rfl rfl rfl (by decide +kernel) ⟨show 2 + 1 ≤ 30 * d + 51 + (t + 1) by omega, show 8 + (4 + 11) + (43) ≤ 900 * d + 1290 + 27 * (t + 1) by omega⟩) hK hO rfl hP.mv rfl hl.1 rfl (Nat.le_of_ble_eq_true rfl) dX11_some_245 ⟨Nat.zero_le _, Nat.zero_le _⟩ ?_
                          refine lv_istore (lv' := [(7, .int (nI (nx f x))), (0, .ref (o)), (1, .int (nI (c9))), (2, .int (nI (e9))), (3, .int (nI (q))), (5, .int (nI (a)))]) hx hb dX11_some_248 hl (by decide) rfl (fun ls hl => ?_)
                          refine lv_goto (tgt := 207) hx hb dX11_some_250 (by decide) ?_
                          exact ih_ (nx f x) (X') r (by simp at hm_; omega) hc' (Ch.lt (by decide) hc') (fun z hz => hXi z (List.mem_cons_of_mem _ hz)) hs9 hr2 _ _ hP hS ls (lv_sub hl [1, 2, 3, 4, 5, 0] rfl)
                        · refine lv_aload_n hx hb dX11_some_223 rfl (lv_at hl 0 rfl) ?_
                          refine lv_iload_n hx hb dX11_some_224 rfl (lv_at hl 1 rfl) ?_
                          refine lv_iload_n hx hb dX11_some_225 rfl (lv_at hl 2 rfl) ?_
                          refine lv_iload_n hx hb dX11_some_226 rfl (lv_at hl 3 rfl) ?_
                          refine lv_iconst (v := nI 3) hx hb dX11_some_227 (by decide) ?_
                          refine lv_aload_n hx hb dX11_some_228 rfl (lv_at hl 0 rfl) ?_
                          refine lv_iload hx hb dX11_some_229 (lv_at hl 5 rfl) ?_
                          refine zc_V (As := [.int (nI (x))]) (rest := [.int (nI (3)), .int (nI (q)), .int (nI (e9)), .int (nI (c9)), .ref (o)]) ⟨hx, hb, hml, hown, hts⟩ (m_valueOf l G o qs (zM fs (u || decide (r ≠ 0))) f x hok.1) (cwV 1 hts (zgV wm_X11_131 wv_X11_valueOf) rfl rfl rfl (by decide +kernel) ⟨show 1 + 1 ≤ 30 * d + 51 + (t + 1) by omega, show 8 + (2 + 11) + (22) ≤ 900 * d + 1290 + 27 * (t + 1) by omega⟩) hK hO rfl hP.mv rfl hl.1 rfl (Nat.le_of_ble_eq_true rfl) dX11_some_231 ⟨Nat.zero_le _, Nat.zero_le _⟩ ?_
                          refine zc_VE (As := [.int (nI (c9)), .int (nI (e9)), .int (nI (q)), .int (nI (3)), .int (nI (vo f x))]) (rest := []) ⟨hx, hb, hml, hown, hts⟩ (IH t1 ht1 q 3 (vo f x) (u || decide (r ≠ 0)) hq (by have h7 := hkB.2 x hx9; rwa [c_220] at h7)) (cwV 5 hts (zgV wm_X11_290 wv_X11_some) rfl rfl rfl (by decide +kernel) ⟨show 30 * d + 51 + (t1 + 1) + 1 ≤ 30 * d + 51 + (t + 1) by omega, show 8 + (8 + 11) + (900 * d + 1290 + 27 * (t1 + 1)) ≤ 900 * d + 1290 + 27 * (t + 1) by omega⟩) hK hO rfl hP rfl hl.1 rfl (Nat.le_of_ble_eq_true rfl) dX11_some_234 ⟨Nat.zero_le _, Nat.zero_le _⟩ hS (fun _ h9 => h9) (fun H locs hP hz9 hk9 hS => ?_)
                          obtain ⟨hO, hA, hS1, h8, hln, hne9⟩ := id hP
                          refine W.eq (g2 := F0 m 237 ls ([.int (nI (nB (decide (TL f (LFd f d c9 e9) t1 q 3 (vo f x) = 2))))])) rfl ?_
                          refine zb_if_eq (tgt := 242) hx hb dX11_some_237 (by decide) (fun c_237 => ?_) (fun c_237 => ?_)
                          · have hs9 := hs.trans (rowF_y (Nat.ne_of_lt hr2) c_220)
                            have hr29 : max r (TL f (LFd f d c9 e9) t1 q 3 (vo f x)) < 2 := by have := of_decide_eq_false c_237; have := TL_lt (f := f) (LF := LFd f d c9 e9) t1 q 3 (vo f x); omega
                            have hP := hP.to (dmax u r (TL f (LFd f d c9 e9) t1 q 3 (vo f x)))
                            obtain ⟨hO, hA, hS1, h8, hln, hne9⟩ := id hP
                            refine lv_aload_n hx hb dX11_some_242 rfl (lv_at hl 0 rfl) ?_
                            refine lv_iload hx hb dX11_some_243 (lv_at hl 5 rfl) ?_
                            refine zc_V (As := [.int (nI (x))]) (rest := []) ⟨hx, hb, hml, hown, hts⟩ (m_nextOf l G o qs (zM fs (u || decide (max r (TL f (LFd f d c9 e9) t1 q 3 (vo f x)) ≠ 0))) f x hok) (cwV 1 hts (zgV wm_X11_140 wv_X11_nextOf) rfl rfl rfl (by decide +kernel) ⟨show 2 + 1 ≤ 30 * d + 51 + (t + 1) by omega, show 8 + (4 + 11) + (43) ≤ 900 * d + 1290 + 27 * (t + 1) by omega⟩) hK hO rfl hP.mv rfl hl.1 rfl (Nat.le_of_ble_eq_true rfl) dX11_some_245 ⟨Nat.zero_le _, Nat.zero_le _⟩ ?_
                            refine lv_istore (lv' := [(7, .int (nI (nx f x))), (0, .ref (o)), (1, .int (nI (c9))), (2, .int (nI (e9))), (3, .int (nI (q))), (5, .int (nI (a)))]) hx hb dX11_some_248 hl (by decide) rfl (fun ls hl => ?_)
                            refine lv_goto (tgt := 207) hx hb dX11_some_250 (by decide) ?_
                            exact ih_ (nx f x) (X') (max r (TL f (LFd f d c9 e9) t1 q 3 (vo f x))) (by simp at hm_; omega) hc' (Ch.lt (by decide) hc') (fun z hz => hXi z (List.mem_cons_of_mem _ hz)) hs9 hr29 _ _ hP hS ls (lv_sub hl [1, 2, 3, 4, 5, 0] rfl)
                          · refine lv_iconst (v := nI 1) hx hb dX11_some_240 (by decide) ?_
                            exact zr_ze hx hb hr hlocks (by rw [hs, rowF_y (Nat.ne_of_lt hr2) c_220, of_decide_eq_true c_237, show max r 2 = 2 by omega, rowF_2]; rfl) (MM.to (by rw [hs, rowF_y (Nat.ne_of_lt hr2) c_220, of_decide_eq_true c_237, show max r 2 = 2 by omega, rowF_2]; cases u <;> cases (decide (r ≠ 0)) <;> rfl) hP) hS dX11_some_241
                  exact L207 (((els f a).length) + 1) (fi f a) (els f a) (TL f (LFd f d c9 e9) t1 (nS f q) (f y) (vo f y)) (Nat.lt_succ_self _) hkB.1.2 hf1 (fun _ z => z) hr0 hr2 _ _ hP hS ls (lv_sub hl [1, 2, 3, 4, 6, 0] rfl)
                · refine lv_iconst (v := nI 1) hx hb dX11_some_197 (by decide) ?_
                  exact zr_ze hx hb hr hlocks (by rw [TLx_4 ht1 hk4 c_1 hy, if_neg (by omega), of_decide_eq_true c_194, rowF_2]; rfl) (MM.to (by rw [TLx_4 ht1 hk4 c_1 hy, if_neg (by omega), of_decide_eq_true c_194, rowF_2]) hP) hS dX11_some_198
            · refine lv_iload hx hb dX11_some_123 (lv_at hl 6 rfl) ?_
              refine zi_if_le (tgt := 155) hx hb dX11_some_125 (by decide) (by omega) (fun c_125 => ?_) (fun c_125 => ?_)
              · refine lv_aload_n hx hb dX11_some_155 rfl (lv_at hl 0 rfl) ?_
                refine lv_iload_n hx hb dX11_some_156 rfl (lv_at hl 1 rfl) ?_
                refine lv_iload_n hx hb dX11_some_157 rfl (lv_at hl 2 rfl) ?_
                refine lv_iconst (v := nI 0) hx hb dX11_some_158 (by decide) ?_
                refine lv_iconst (v := nI 0) hx hb dX11_some_159 (by decide) ?_
                refine lv_iconst (v := nI 0) hx hb dX11_some_160 (by decide) ?_
                refine zc_VE (As := [.int (nI (c9)), .int (nI (e9)), .int (nI (0)), .int (nI (0)), .int (nI (0))]) (rest := []) ⟨hx, hb, hml, hown, hts⟩ (m_leaf l G o qs fs f d c9 e9 hal hfh hlf 0 0 (u) (okV_0 f 16)) (cwV 5 hts (zgV wm_X11_290 wv_X11_some) rfl rfl rfl (by decide +kernel) ⟨show 30 * d + 51 + 0 + 1 ≤ 30 * d + 51 + (t + 1) by omega, show 8 + (8 + 11) + (900 * d + 1290 + 27 * 0) ≤ 900 * d + 1290 + 27 * (t + 1) by omega⟩) hK hO rfl hP rfl hl.1 rfl (Nat.le_of_ble_eq_true rfl) dX11_some_161 ⟨Nat.zero_le _, Nat.zero_le _⟩ hS (fun _ h9 => h9) (fun H locs hP hz9 hk9 hS => ?_)
                obtain ⟨hO, hA, hS1, h8, hln, hne9⟩ := id hP
                refine W.eq (g2 := F0 m 164 ls ([.int (nI (nB (LFd f d c9 e9 0 0)))])) rfl ?_
                exact zr_ze hx hb hr hlocks (by rw [TLx_3n ht1 c_120 c_1 (by rw [hy]; exact c_125), d1B]) (MM.to (by rw [TLx_3n ht1 c_120 c_1 (by rw [hy]; exact c_125), d1N]) hP) hS dX11_some_164
              · have hyi : y ∈ els f a := by rw [← hy]; exact fnd_in (by rw [hy]; omega)
                have hyo := ch_ok hkB.1.2 hyi
                have hyl := hyo.1.lt
                refine lv_aload_n hx hb dX11_some_128 rfl (lv_at hl 0 rfl) ?_
                refine lv_iload_n hx hb dX11_some_129 rfl (lv_at hl 1 rfl) ?_
                refine lv_iload_n hx hb dX11_some_130 rfl (lv_at hl 2 rfl) ?_
                refine lv_aload_n hx hb dX11_some_131 rfl (lv_at hl 0 rfl) ?_
                refine lv_iload_n hx hb dX11_some_132 rfl (lv_at hl 3 rfl) ?_
                refine zc_V (As := [.int (nI (q))]) (rest := [.int (nI (e9)), .int (nI (c9)), .ref (o)]) ⟨hx, hb, hml, hown, hts⟩ (m_nextStep l G o qs (zM fs (u)) f q hqs.1) (cwV 1 hts (zgV wm_X11_296 wv_X11_nextStep) rfl rfl rfl (by decide +kernel) ⟨show 0 + 1 ≤ 30 * d + 51 + (t + 1) by omega, show 8 + (3 + 11) + (0) ≤ 900 * d + 1290 + 27 * (t + 1) by omega⟩) hK hO rfl hP.mv rfl hl.1 rfl (Nat.le_of_ble_eq_true rfl) dX11_some_133 ⟨Nat.zero_le _, Nat.zero_le _⟩ ?_
                refine lv_aload_n hx hb dX11_some_136 rfl (lv_at hl 0 rfl) ?_
                refine zi_get (C := RX11) (T := TX11) (N := 23) (v := .ref (qs)) hx hb hz wo_X11 hown hK hO rfl 1 (by decide) (hz _ wf_X11_7) (fun _ h9 => h9) (MM.s1 hS1) dX11_some_137 ?_
                refine lv_iload hx hb dX11_some_140 (lv_at hl 6 rfl) ?_
                refine zi_ald hx hb hK hA (by omega) (by decide) dX11_some_142 ?_
                refine lv_aload_n hx hb dX11_some_143 rfl (lv_at hl 0 rfl) ?_
                refine lv_iload hx hb dX11_some_144 (lv_at hl 6 rfl) ?_
                refine zc_V (As := [.int (nI (y))]) (rest := [.int (nI (f y)), .int (nI (nS f q)), .int (nI (e9)), .int (nI (c9)), .ref (o)]) ⟨hx, hb, hml, hown, hts⟩ (m_valueOf l G o qs (zM fs (u)) f y hyo.1.1) (cwV 1 hts (zgV wm_X11_131 wv_X11_valueOf) rfl rfl rfl (by decide +kernel) ⟨show 1 + 1 ≤ 30 * d + 51 + (t + 1) by omega, show 8 + (2 + 11) + (22) ≤ 900 * d + 1290 + 27 * (t + 1) by omega⟩) hK hO rfl hP.mv rfl hl.1 rfl (Nat.le_of_ble_eq_true rfl) dX11_some_146 ⟨Nat.zero_le _, Nat.zero_le _⟩ ?_
                refine zc_VE (As := [.int (nI (c9)), .int (nI (e9)), .int (nI (nS f q)), .int (nI (f y)), .int (nI (vo f y))]) (rest := []) ⟨hx, hb, hml, hown, hts⟩ (IH t1 ht1 (nS f q) (f y) (vo f y) (u) hqs.2 (hkB.2 y hyi)) (cwV 5 hts (zgV wm_X11_290 wv_X11_some) rfl rfl rfl (by decide +kernel) ⟨show 30 * d + 51 + (t1 + 1) + 1 ≤ 30 * d + 51 + (t + 1) by omega, show 8 + (8 + 11) + (900 * d + 1290 + 27 * (t1 + 1)) ≤ 900 * d + 1290 + 27 * (t + 1) by omega⟩) hK hO rfl hP rfl hl.1 rfl (Nat.le_of_ble_eq_true rfl) dX11_some_149 ⟨Nat.zero_le _, Nat.zero_le _⟩ hS (fun _ h9 => h9) (fun H locs hP hz9 hk9 hS => ?_)
                obtain ⟨hO, hA, hS1, h8, hln, hne9⟩ := id hP
                refine W.eq (g2 := F0 m 152 ls ([.int (nI (nB (decide (TL f (LFd f d c9 e9) t1 (nS f q) (f y) (vo f y) = 2))))])) rfl ?_
                refine lv_goto (tgt := 164) hx hb dX11_some_152 (by decide) ?_
                exact zr_ze hx hb hr hlocks (by rw [TLx_3 ht1 c_120 c_1 hy (by omega)]) (MM.to (by rw [TLx_3 ht1 c_120 c_1 hy (by omega)]) hP) hS dX11_some_164
          · refine lv_iload hx hb dX11_some_83 (lv_at hl 6 rfl) ?_
            refine zi_if_ne (tgt := 117) hx hb dX11_some_85 (by decide) (by omega) (fun c_85 => ?_) (fun c_85 => ?_)
            · have hy : fnd f q (els f a) = y := by rw [hfd, if_neg c_85]
              refine lv_iload hx hb dX11_some_117 (lv_at hl 4 rfl) ?_
              refine lv_iconst (v := nI 3) hx hb dX11_some_119 (by decide) ?_
              refine zi_icmp_ne (tgt := 165) hx hb dX11_some_120 (by decide) (by omega) (by omega) (fun c_120 => ?_) (fun c_120 => ?_)
              · have hk4 : k = 4 := by omega
                refine lv_iload hx hb dX11_some_165 (lv_at hl 6 rfl) ?_
                refine zi_if_le (tgt := 199) hx hb dX11_some_167 (by decide) (by omega) (fun c_167 => ?_) (fun c_167 => ?_)
                · have hr0 : TL f (LFd f d c9 e9) t q k a = rowF (fun x => TL f (LFd f d c9 e9) t1 q 3 (vo f x)) f (els f a) 0 := by rw [TLx_4 ht1 hk4 hq0 hy, if_pos c_167]
                  have hP := hP.to (dE 0 u rfl)
                  obtain ⟨hO, hA, hS1, h8, hln, hne9⟩ := id hP
                  refine lv_aload_n hx hb dX11_some_199 rfl (lv_at hl 0 rfl) ?_
                  refine lv_iload hx hb dX11_some_200 (lv_at hl 5 rfl) ?_
                  refine zc_V (As := [.int (nI (a))]) (rest := []) ⟨hx, hb, hml, hown, hts⟩ (m_firstOf l G o qs (zM fs (u || decide (0 ≠ 0))) f a hkB.1.1) (cwV 1 hts (zgV wm_X11_137 wv_X11_firstOf) rfl rfl rfl (by decide +kernel) ⟨show 0 + 1 ≤ 30 * d + 51 + (t + 1) by omega, show 8 + (2 + 11) + (0) ≤ 900 * d + 1290 + 27 * (t + 1) by omega⟩) hK hO rfl hP.mv rfl hl.1 rfl (Nat.le_of_ble_eq_true rfl) dX11_some_202 ⟨Nat.zero_le _, Nat.zero_le _⟩ ?_
                  refine lv_istore (lv' := [(7, .int (nI (fi f a))), (0, .ref (o)), (1, .int (nI (c9))), (2, .int (nI (e9))), (3, .int (nI (q))), (4, .int (nI (k))), (5, .int (nI (a))), (6, .int (nI (y)))]) hx hb dX11_some_205 hl (by decide) rfl (fun ls hl => ?_)
                  have L207 : ∀ (n_ : Nat) (x : Nat) (X : List Nat) (r : Nat), X.length < n_ → (Ch 18000 f x X) → (x < 18000) → (∀ z ∈ X, z ∈ els f a) → (TL f (LFd f d c9 e9) t q k a = rowF (fun x => TL f (LFd f d c9 e9) t1 q 3 (vo f x)) f X r) → (r < 2) → ∀ (H : Heap) (locs : List Loc), MM G o qs fs f (u || decide (r ≠ 0)) H → va_S (fun x => x = o) s.heap H locs → ∀ ls : Array Slot, lv_has ls 8 [(0, .ref (o)), (1, .int (nI (c9))), (2, .int (nI (e9))), (3, .int (nI (q))), (5, .int (nI (a))), (7, .int (nI (x)))] → W p l en (headSpec wsX11_some (rTL d (t + 1))).room s m ([.ref (o), .int (nI (c9)), .int (nI (e9)), .int (nI (q)), .int (nI (k)), .int (nI (a))] : List Value).toArray below meth c H locs 0 0 (MQ below (zQ (fun x => x = o) (some (.int (nI (nB (decide (TL f (LFd f d c9 e9) t q k a = 2)))))) (fun H => MM G o qs fs f (u || decide (TL f (LFd f d c9 e9) t q k a ≠ 0)) H)) ([.ref (o), .int (nI (c9)), .int (nI (e9)), .int (nI (q)), .int (nI (k)), .int (nI (a))] : List Value).toArray s 0 0 (fun x => x = o)) (F0 m 207 ls []) := by
                    intro n_
                    induction n_ with
                    | zero => intro x X r hm_; exact absurd hm_ (Nat.not_lt_zero _)
                    | succ n_ ih_ =>
                      intro x X r hm_ hc hxl hXi hs hr2 H locs hP hS ls hl
                      obtain ⟨hO, hA, hS1, h8, hln, hne9⟩ := id hP
                      refine lv_iload hx hb dX11_some_207 (lv_at hl 5 rfl) ?_
                      refine zi_if_le (tgt := 253) hx hb dX11_some_209 (by decide) (by omega) (fun c_209 => ?_) (fun c_209 => ?_)
                      · have hX0 := hc.nil c_209
                        subst hX0
                        refine lv_iconst (v := nI 0) hx hb dX11_some_253 (by decide) ?_
                        exact zr_ze hx hb hr hlocks (by rw [hs, decide_eq_false (show rowF (fun x => TL f (LFd f d c9 e9) t1 q 3 (vo f x)) f [] r ≠ 2 from Nat.ne_of_lt hr2)]; rfl) (MM.to (by rw [hs]; rfl) hP) hS dX11_some_254
                      · obtain ⟨X', rfl, hok, hc'⟩ := hc.cons c_209
                        have hx9 := hXi x List.mem_cons_self
                        refine lv_aload_n hx hb dX11_some_212 rfl (lv_at hl 0 rfl) ?_
                        refine zi_get (C := RX11) (T := TX11) (N := 23) (v := .ref (qs)) hx hb hz wo_X11 hown hK hO rfl 1 (by decide) (hz _ wf_X11_7) (fun _ h9 => h9) (MM.s1 hS1) dX11_some_213 ?_
                        refine lv_iload hx hb dX11_some_216 (lv_at hl 5 rfl) ?_
                        refine zi_ald hx hb hK hA (by omega) (by decide) dX11_some_218 ?_
                        refine lv_iconst (v := nI 3) hx hb dX11_some_219 (by decide) ?_
                        refine zi_icmp_ne (tgt := 242) hx hb dX11_some_220 (by decide) (Nat.lt_trans (h8 _) (by decide)) (by omega) (fun c_220 => ?_) (fun c_220 => ?_)
                        · have hs9 := hs.trans (rowF_n (Nat.ne_of_lt hr2) c_220)
                          refine lv_aload_n hx hb dX11_some_242 rfl (lv_at hl 0 rfl) ?_
                          refine lv_iload hx hb dX11_some_243 (lv_at hl 5 rfl) ?_
                          refine zc_V (As := [.int (nI (x))]) (rest := []) ⟨hx, hb, hml, hown, hts⟩ (m_nextOf l G o qs (zM fs (u || decide (r ≠ 0))) f x hok) (cwV 1 hts (zgV wm_X11_140 wv_X11_nextOf) rfl rfl rfl (by decide +kernel) ⟨show 2 + 1 ≤ 30 * d + 51 + (t + 1) by omega, show 8 + (4 + 11) + (43) ≤ 900 * d + 1290 + 27 * (t + 1) by omega⟩) hK hO rfl hP.mv rfl hl.1 rfl (Nat.le_of_ble_eq_true rfl) dX11_some_245 ⟨Nat.zero_le _, Nat.zero_le _⟩ ?_
                          refine lv_istore (lv' := [(7, .int (nI (nx f x))), (0, .ref (o)), (1, .int (nI (c9))), (2, .int (nI (e9))), (3, .int (nI (q))), (5, .int (nI (a)))]) hx hb dX11_some_248 hl (by decide) rfl (fun ls hl => ?_)
                          refine lv_goto (tgt := 207) hx hb dX11_some_250 (by decide) ?_
                          exact ih_ (nx f x) (X') r (by simp at hm_; omega) hc' (Ch.lt (by decide) hc') (fun z hz => hXi z (List.mem_cons_of_mem _ hz)) hs9 hr2 _ _ hP hS ls (lv_sub hl [1, 2, 3, 4, 5, 0] rfl)
                        · refine lv_aload_n hx hb dX11_some_223 rfl (lv_at hl 0 rfl) ?_
                          refine lv_iload_n hx hb dX11_some_224 rfl (lv_at hl 1 rfl) ?_
                          refine lv_iload_n hx hb dX11_some_225 rfl (lv_at hl 2 rfl) ?_
                          refine lv_iload_n hx hb dX11_some_226 rfl (lv_at hl 3 rfl) ?_
                          refine lv_iconst (v := nI 3) hx hb dX11_some_227 (by decide) ?_
                          refine lv_aload_n hx hb dX11_some_228 rfl (lv_at hl 0 rfl) ?_
                          refine lv_iload hx hb dX11_some_229 (lv_at hl 5 rfl) ?_
                          refine zc_V (As := [.int (nI (x))]) (rest := [.int (nI (3)), .int (nI (q)), .int (nI (e9)), .int (nI (c9)), .ref (o)]) ⟨hx, hb, hml, hown, hts⟩ (m_valueOf l G o qs (zM fs (u || decide (r ≠ 0))) f x hok.1) (cwV 1 hts (zgV wm_X11_131 wv_X11_valueOf) rfl rfl rfl (by decide +kernel) ⟨show 1 + 1 ≤ 30 * d + 51 + (t + 1) by omega, show 8 + (2 + 11) + (22) ≤ 900 * d + 1290 + 27 * (t + 1) by omega⟩) hK hO rfl hP.mv rfl hl.1 rfl (Nat.le_of_ble_eq_true rfl) dX11_some_231 ⟨Nat.zero_le _, Nat.zero_le _⟩ ?_
                          refine zc_VE (As := [.int (nI (c9)), .int (nI (e9)), .int (nI (q)), .int (nI (3)), .int (nI (vo f x))]) (rest := []) ⟨hx, hb, hml, hown, hts⟩ (IH t1 ht1 q 3 (vo f x) (u || decide (r ≠ 0)) hq (by have h7 := hkB.2 x hx9; rwa [c_220] at h7)) (cwV 5 hts (zgV wm_X11_290 wv_X11_some) rfl rfl rfl (by decide +kernel) ⟨show 30 * d + 51 + (t1 + 1) + 1 ≤ 30 * d + 51 + (t + 1) by omega, show 8 + (8 + 11) + (900 * d + 1290 + 27 * (t1 + 1)) ≤ 900 * d + 1290 + 27 * (t + 1) by omega⟩) hK hO rfl hP rfl hl.1 rfl (Nat.le_of_ble_eq_true rfl) dX11_some_234 ⟨Nat.zero_le _, Nat.zero_le _⟩ hS (fun _ h9 => h9) (fun H locs hP hz9 hk9 hS => ?_)
                          obtain ⟨hO, hA, hS1, h8, hln, hne9⟩ := id hP
                          refine W.eq (g2 := F0 m 237 ls ([.int (nI (nB (decide (TL f (LFd f d c9 e9) t1 q 3 (vo f x) = 2))))])) rfl ?_
                          refine zb_if_eq (tgt := 242) hx hb dX11_some_237 (by decide) (fun c_237 => ?_) (fun c_237 => ?_)
                          · have hs9 := hs.trans (rowF_y (Nat.ne_of_lt hr2) c_220)
                            have hr29 : max r (TL f (LFd f d c9 e9) t1 q 3 (vo f x)) < 2 := by have := of_decide_eq_false c_237; have := TL_lt (f := f) (LF := LFd f d c9 e9) t1 q 3 (vo f x); omega
                            have hP := hP.to (dmax u r (TL f (LFd f d c9 e9) t1 q 3 (vo f x)))
                            obtain ⟨hO, hA, hS1, h8, hln, hne9⟩ := id hP
                            refine lv_aload_n hx hb dX11_some_242 rfl (lv_at hl 0 rfl) ?_
                            refine lv_iload hx hb dX11_some_243 (lv_at hl 5 rfl) ?_
                            refine zc_V (As := [.int (nI (x))]) (rest := []) ⟨hx, hb, hml, hown, hts⟩ (m_nextOf l G o qs (zM fs (u || decide (max r (TL f (LFd f d c9 e9) t1 q 3 (vo f x)) ≠ 0))) f x hok) (cwV 1 hts (zgV wm_X11_140 wv_X11_nextOf) rfl rfl rfl (by decide +kernel) ⟨show 2 + 1 ≤ 30 * d + 51 + (t + 1) by omega, show 8 + (4 + 11) + (43) ≤ 900 * d + 1290 + 27 * (t + 1) by omega⟩) hK hO rfl hP.mv rfl hl.1 rfl (Nat.le_of_ble_eq_true rfl) dX11_some_245 ⟨Nat.zero_le _, Nat.zero_le _⟩ ?_
                            refine lv_istore (lv' := [(7, .int (nI (nx f x))), (0, .ref (o)), (1, .int (nI (c9))), (2, .int (nI (e9))), (3, .int (nI (q))), (5, .int (nI (a)))]) hx hb dX11_some_248 hl (by decide) rfl (fun ls hl => ?_)
                            refine lv_goto (tgt := 207) hx hb dX11_some_250 (by decide) ?_
                            exact ih_ (nx f x) (X') (max r (TL f (LFd f d c9 e9) t1 q 3 (vo f x))) (by simp at hm_; omega) hc' (Ch.lt (by decide) hc') (fun z hz => hXi z (List.mem_cons_of_mem _ hz)) hs9 hr29 _ _ hP hS ls (lv_sub hl [1, 2, 3, 4, 5, 0] rfl)
                          · refine lv_iconst (v := nI 1) hx hb dX11_some_240 (by decide) ?_
                            exact zr_ze hx hb hr hlocks (by rw [hs, rowF_y (Nat.ne_of_lt hr2) c_220, of_decide_eq_true c_237, show max r 2 = 2 by omega, rowF_2]; rfl) (MM.to (by rw [hs, rowF_y (Nat.ne_of_lt hr2) c_220, of_decide_eq_true c_237, show max r 2 = 2 by omega, rowF_2]; cases u <;> cases (decide (r ≠ 0)) <;> rfl) hP) hS dX11_some_241
                  exact L207 (((els f a).length) + 1) (fi f a) (els f a) 0 (Nat.lt_succ_self _) hkB.1.2 hf1 (fun _ z => z) hr0 (by decide) _ _ hP hS ls (lv_sub hl [1, 2, 3, 4, 6, 0] rfl)
                · have hyi : y ∈ els f a := by rw [← hy]; exact fnd_in (by rw [hy]; omega)
                  have hyo := ch_ok hkB.1.2 hyi
                  have hyl := hyo.1.lt
                  refine lv_aload_n hx hb dX11_some_170 rfl (lv_at hl 0 rfl) ?_
                  refine lv_iload_n hx hb dX11_some_171 rfl (lv_at hl 1 rfl) ?_
                  refine lv_iload_n hx hb dX11_some_172 rfl (lv_at hl 2 rfl) ?_
                  refine lv_aload_n hx hb dX11_some_173 rfl (lv_at hl 0 rfl) ?_
                  refine lv_iload_n hx hb dX11_some_174 rfl (lv_at hl 3 rfl) ?_
                  refine zc_V (As := [.int (nI (q))]) (rest := [.int (nI (e9)), .int (nI (c9)), .ref (o)]) ⟨hx, hb, hml, hown, hts⟩ (m_nextStep l G o qs (zM fs (u)) f q hqs.1) (cwV 1 hts (zgV wm_X11_296 wv_X11_nextStep) rfl rfl rfl (by decide +kernel) ⟨show 0 + 1 ≤ 30 * d + 51 + (t + 1) by omega, show 8 + (3 + 11) + (0) ≤ 900 * d + 1290 + 27 * (t + 1) by omega⟩) hK hO rfl hP.mv rfl hl.1 rfl (Nat.le_of_ble_eq_true rfl) dX11_some_175 ⟨Nat.zero_le _, Nat.zero_le _⟩ ?_
                  refine lv_aload_n hx hb dX11_some_178 rfl (lv_at hl 0 rfl) ?_
                  refine zi_get (C := RX11) (T := TX11) (N := 23) (v := .ref (qs)) hx hb hz wo_X11 hown hK hO rfl 1 (by decide) (hz _ wf_X11_7) (fun _ h9 => h9) (MM.s1 hS1) dX11_some_179 ?_
                  refine lv_iload hx hb dX11_some_182 (lv_at hl 6 rfl) ?_
                  refine zi_ald hx hb hK hA (by omega) (by decide) dX11_some_184 ?_
                  refine lv_aload_n hx hb dX11_some_185 rfl (lv_at hl 0 rfl) ?_
                  refine lv_iload hx hb dX11_some_186 (lv_at hl 6 rfl) ?_
                  refine zc_V (As := [.int (nI (y))]) (rest := [.int (nI (f y)), .int (nI (nS f q)), .int (nI (e9)), .int (nI (c9)), .ref (o)]) ⟨hx, hb, hml, hown, hts⟩ (m_valueOf l G o qs (zM fs (u)) f y hyo.1.1) (cwV 1 hts (zgV wm_X11_131 wv_X11_valueOf) rfl rfl rfl (by decide +kernel) ⟨show 1 + 1 ≤ 30 * d + 51 + (t + 1) by omega, show 8 + (2 + 11) + (22) ≤ 900 * d + 1290 + 27 * (t + 1) by omega⟩) hK hO rfl hP.mv rfl hl.1 rfl (Nat.le_of_ble_eq_true rfl) dX11_some_188 ⟨Nat.zero_le _, Nat.zero_le _⟩ ?_
                  refine zc_VE (As := [.int (nI (c9)), .int (nI (e9)), .int (nI (nS f q)), .int (nI (f y)), .int (nI (vo f y))]) (rest := []) ⟨hx, hb, hml, hown, hts⟩ (IH t1 ht1 (nS f q) (f y) (vo f y) (u) hqs.2 (hkB.2 y hyi)) (cwV 5 hts (zgV wm_X11_290 wv_X11_some) rfl rfl rfl (by decide +kernel) ⟨show 30 * d + 51 + (t1 + 1) + 1 ≤ 30 * d + 51 + (t + 1) by omega, show 8 + (8 + 11) + (900 * d + 1290 + 27 * (t1 + 1)) ≤ 900 * d + 1290 + 27 * (t + 1) by omega⟩) hK hO rfl hP rfl hl.1 rfl (Nat.le_of_ble_eq_true rfl) dX11_some_191 ⟨Nat.zero_le _, Nat.zero_le _⟩ hS (fun _ h9 => h9) (fun H locs hP hz9 hk9 hS => ?_)
                  obtain ⟨hO, hA, hS1, h8, hln, hne9⟩ := id hP
                  refine W.eq (g2 := F0 m 194 ls ([.int (nI (nB (decide (TL f (LFd f d c9 e9) t1 (nS f q) (f y) (vo f y) = 2))))])) rfl ?_
                  refine zb_if_eq (tgt := 199) hx hb dX11_some_194 (by decide) (fun c_194 => ?_) (fun c_194 => ?_)
                  · have hr0 : TL f (LFd f d c9 e9) t q k a = rowF (fun x => TL f (LFd f d c9 e9) t1 q 3 (vo f x)) f (els f a) (TL f (LFd f d c9 e9) t1 (nS f q) (f y) (vo f y)) := by rw [TLx_4 ht1 hk4 hq0 hy, if_neg (by omega)]
                    have hr2 : TL f (LFd f d c9 e9) t1 (nS f q) (f y) (vo f y) < 2 := by have := of_decide_eq_false c_194; have := TL_lt (f := f) (LF := LFd f d c9 e9) t1 (nS f q) (f y) (vo f y); omega
                    refine lv_aload_n hx hb dX11_some_199 rfl (lv_at hl 0 rfl) ?_
                    refine lv_iload hx hb dX11_some_200 (lv_at hl 5 rfl) ?_
                    refine zc_V (As := [.int (nI (a))]) (rest := []) ⟨hx, hb, hml, hown, hts⟩ (m_firstOf l G o qs (zM fs ((u) || decide (TL f (LFd f d c9 e9) t1 (nS f q) (f y) (vo f y) ≠ 0))) f a hkB.1.1) (cwV 1 hts (zgV wm_X11_137 wv_X11_firstOf) rfl rfl rfl (by decide +kernel) ⟨show 0 + 1 ≤ 30 * d + 51 + (t + 1) by omega, show 8 + (2 + 11) + (0) ≤ 900 * d + 1290 + 27 * (t + 1) by omega⟩) hK hO rfl hP.mv rfl hl.1 rfl (Nat.le_of_ble_eq_true rfl) dX11_some_202 ⟨Nat.zero_le _, Nat.zero_le _⟩ ?_
                    refine lv_istore (lv' := [(7, .int (nI (fi f a))), (0, .ref (o)), (1, .int (nI (c9))), (2, .int (nI (e9))), (3, .int (nI (q))), (4, .int (nI (k))), (5, .int (nI (a))), (6, .int (nI (y)))]) hx hb dX11_some_205 hl (by decide) rfl (fun ls hl => ?_)
                    have L207 : ∀ (n_ : Nat) (x : Nat) (X : List Nat) (r : Nat), X.length < n_ → (Ch 18000 f x X) → (x < 18000) → (∀ z ∈ X, z ∈ els f a) → (TL f (LFd f d c9 e9) t q k a = rowF (fun x => TL f (LFd f d c9 e9) t1 q 3 (vo f x)) f X r) → (r < 2) → ∀ (H : Heap) (locs : List Loc), MM G o qs fs f (u || decide (r ≠ 0)) H → va_S (fun x => x = o) s.heap H locs → ∀ ls : Array Slot, lv_has ls 8 [(0, .ref (o)), (1, .int (nI (c9))), (2, .int (nI (e9))), (3, .int (nI (q))), (5, .int (nI (a))), (7, .int (nI (x)))] → W p l en (headSpec wsX11_some (rTL d (t + 1))).room s m ([.ref (o), .int (nI (c9)), .int (nI (e9)), .int (nI (q)), .int (nI (k)), .int (nI (a))] : List Value).toArray below meth c H locs 0 0 (MQ below (zQ (fun x => x = o) (some (.int (nI (nB (decide (TL f (LFd f d c9 e9) t q k a = 2)))))) (fun H => MM G o qs fs f (u || decide (TL f (LFd f d c9 e9) t q k a ≠ 0)) H)) ([.ref (o), .int (nI (c9)), .int (nI (e9)), .int (nI (q)), .int (nI (k)), .int (nI (a))] : List Value).toArray s 0 0 (fun x => x = o)) (F0 m 207 ls []) := by
                      intro n_
                      induction n_ with
                      | zero => intro x X r hm_; exact absurd hm_ (Nat.not_lt_zero _)
                      | succ n_ ih_ =>
                        intro x X r hm_ hc hxl hXi hs hr2 H locs hP hS ls hl
                        obtain ⟨hO, hA, hS1, h8, hln, hne9⟩ := id hP
                        refine lv_iload hx hb dX11_some_207 (lv_at hl 5 rfl) ?_
                        refine zi_if_le (tgt := 253) hx hb dX11_some_209 (by decide) (by omega) (fun c_209 => ?_) (fun c_209 => ?_)
                        · have hX0 := hc.nil c_209
                          subst hX0
                          refine lv_iconst (v := nI 0) hx hb dX11_some_253 (by decide) ?_
                          exact zr_ze hx hb hr hlocks (by rw [hs, decide_eq_false (show rowF (fun x => TL f (LFd f d c9 e9) t1 q 3 (vo f x)) f [] r ≠ 2 from Nat.ne_of_lt hr2)]; rfl) (MM.to (by rw [hs]; rfl) hP) hS dX11_some_254
                        · obtain ⟨X', rfl, hok, hc'⟩ := hc.cons c_209
                          have hx9 := hXi x List.mem_cons_self
                          refine lv_aload_n hx hb dX11_some_212 rfl (lv_at hl 0 rfl) ?_
                          refine zi_get (C := RX11) (T := TX11) (N := 23) (v := .ref (qs)) hx hb hz wo_X11 hown hK hO rfl 1 (by decide) (hz _ wf_X11_7) (fun _ h9 => h9) (MM.s1 hS1) dX11_some_213 ?_
                          refine lv_iload hx hb dX11_some_216 (lv_at hl 5 rfl) ?_
                          refine zi_ald hx hb hK hA (by omega) (by decide) dX11_some_218 ?_
                          refine lv_iconst (v := nI 3) hx hb dX11_some_219 (by decide) ?_
                          refine zi_icmp_ne (tgt := 242) hx hb dX11_some_220 (by decide) (Nat.lt_trans (h8 _) (by decide)) (by omega) (fun c_220 => ?_) (fun c_220 => ?_)
                          · have hs9 := hs.trans (rowF_n (Nat.ne_of_lt hr2) c_220)
                            refine lv_aload_n hx hb dX11_some_242 rfl (lv_at hl 0 rfl) ?_
                            refine lv_iload hx hb dX11_some_243 (lv_at hl 5 rfl) ?_
                            refine zc_V (As := [.int (nI (x))]) (rest := []) ⟨hx, hb, hml, hown, hts⟩ (m_nextOf l G o qs (zM fs (u || decide (r ≠ 0))) f x hok) (cwV 1 hts (zgV wm_X11_140 wv_X11_nextOf) rfl rfl rfl (by decide +kernel) ⟨show 2 + 1 ≤ 30 * d + 51 + (t + 1) by omega, show 8 + (4 + 11) + (43) ≤ 900 * d + 1290 + 27 * (t + 1) by omega⟩) hK hO rfl hP.mv rfl hl.1 rfl (Nat.le_of_ble_eq_true rfl) dX11_some_245 ⟨Nat.zero_le _, Nat.zero_le _⟩ ?_
                            refine lv_istore (lv' := [(7, .int (nI (nx f x))), (0, .ref (o)), (1, .int (nI (c9))), (2, .int (nI (e9))), (3, .int (nI (q))), (5, .int (nI (a)))]) hx hb dX11_some_248 hl (by decide) rfl (fun ls hl => ?_)
                            refine lv_goto (tgt := 207) hx hb dX11_some_250 (by decide) ?_
                            exact ih_ (nx f x) (X') r (by simp at hm_; omega) hc' (Ch.lt (by decide) hc') (fun z hz => hXi z (List.mem_cons_of_mem _ hz)) hs9 hr2 _ _ hP hS ls (lv_sub hl [1, 2, 3, 4, 5, 0] rfl)
                          · refine lv_aload_n hx hb dX11_some_223 rfl (lv_at hl 0 rfl) ?_
                            refine lv_iload_n hx hb dX11_some_224 rfl (lv_at hl 1 rfl) ?_
                            refine lv_iload_n hx hb dX11_some_225 rfl (lv_at hl 2 rfl) ?_
                            refine lv_iload_n hx hb dX11_some_226 rfl (lv_at hl 3 rfl) ?_
                            refine lv_iconst (v := nI 3) hx hb dX11_some_227 (by decide) ?_
                            refine lv_aload_n hx hb dX11_some_228 rfl (lv_at hl 0 rfl) ?_
                            refine lv_iload hx hb dX11_some_229 (lv_at hl 5 rfl) ?_
                            refine zc_V (As := [.int (nI (x))]) (rest := [.int (nI (3)), .int (nI (q)), .int (nI (e9)), .int (nI (c9)), .ref (o)]) ⟨hx, hb, hml, hown, hts⟩ (m_valueOf l G o qs (zM fs (u || decide (r ≠ 0))) f x hok.1) (cwV 1 hts (zgV wm_X11_131 wv_X11_valueOf) rfl rfl rfl (by decide +kernel) ⟨show 1 + 1 ≤ 30 * d + 51 + (t + 1) by omega, show 8 + (2 + 11) + (22) ≤ 900 * d + 1290 + 27 * (t + 1) by omega⟩) hK hO rfl hP.mv rfl hl.1 rfl (Nat.le_of_ble_eq_true rfl) dX11_some_231 ⟨Nat.zero_le _, Nat.zero_le _⟩ ?_
                            refine zc_VE (As := [.int (nI (c9)), .int (nI (e9)), .int (nI (q)), .int (nI (3)), .int (nI (vo f x))]) (rest := []) ⟨hx, hb, hml, hown, hts⟩ (IH t1 ht1 q 3 (vo f x) (u || decide (r ≠ 0)) hq (by have h7 := hkB.2 x hx9; rwa [c_220] at h7)) (cwV 5 hts (zgV wm_X11_290 wv_X11_some) rfl rfl rfl (by decide +kernel) ⟨show 30 * d + 51 + (t1 + 1) + 1 ≤ 30 * d + 51 + (t + 1) by omega, show 8 + (8 + 11) + (900 * d + 1290 + 27 * (t1 + 1)) ≤ 900 * d + 1290 + 27 * (t + 1) by omega⟩) hK hO rfl hP rfl hl.1 rfl (Nat.le_of_ble_eq_true rfl) dX11_some_234 ⟨Nat.zero_le _, Nat.zero_le _⟩ hS (fun _ h9 => h9) (fun H locs hP hz9 hk9 hS => ?_)
                            obtain ⟨hO, hA, hS1, h8, hln, hne9⟩ := id hP
                            refine W.eq (g2 := F0 m 237 ls ([.int (nI (nB (decide (TL f (LFd f d c9 e9) t1 q 3 (vo f x) = 2))))])) rfl ?_
                            refine zb_if_eq (tgt := 242) hx hb dX11_some_237 (by decide) (fun c_237 => ?_) (fun c_237 => ?_)
                            · have hs9 := hs.trans (rowF_y (Nat.ne_of_lt hr2) c_220)
                              have hr29 : max r (TL f (LFd f d c9 e9) t1 q 3 (vo f x)) < 2 := by have := of_decide_eq_false c_237; have := TL_lt (f := f) (LF := LFd f d c9 e9) t1 q 3 (vo f x); omega
                              have hP := hP.to (dmax u r (TL f (LFd f d c9 e9) t1 q 3 (vo f x)))
                              obtain ⟨hO, hA, hS1, h8, hln, hne9⟩ := id hP
                              refine lv_aload_n hx hb dX11_some_242 rfl (lv_at hl 0 rfl) ?_
                              refine lv_iload hx hb dX11_some_243 (lv_at hl 5 rfl) ?_
                              refine zc_V (As := [.int (nI (x))]) (rest := []) ⟨hx, hb, hml, hown, hts⟩ (m_nextOf l G o qs (zM fs (u || decide (max r (TL f (LFd f d c9 e9) t1 q 3 (vo f x)) ≠ 0))) f x hok) (cwV 1 hts (zgV wm_X11_140 wv_X11_nextOf) rfl rfl rfl (by decide +kernel) ⟨show 2 + 1 ≤ 30 * d + 51 + (t + 1) by omega, show 8 + (4 + 11) + (43) ≤ 900 * d + 1290 + 27 * (t + 1) by omega⟩) hK hO rfl hP.mv rfl hl.1 rfl (Nat.le_of_ble_eq_true rfl) dX11_some_245 ⟨Nat.zero_le _, Nat.zero_le _⟩ ?_
                              refine lv_istore (lv' := [(7, .int (nI (nx f x))), (0, .ref (o)), (1, .int (nI (c9))), (2, .int (nI (e9))), (3, .int (nI (q))), (5, .int (nI (a)))]) hx hb dX11_some_248 hl (by decide) rfl (fun ls hl => ?_)
                              refine lv_goto (tgt := 207) hx hb dX11_some_250 (by decide) ?_
                              exact ih_ (nx f x) (X') (max r (TL f (LFd f d c9 e9) t1 q 3 (vo f x))) (by simp at hm_; omega) hc' (Ch.lt (by decide) hc') (fun z hz => hXi z (List.mem_cons_of_mem _ hz)) hs9 hr29 _ _ hP hS ls (lv_sub hl [1, 2, 3, 4, 5, 0] rfl)
                            · refine lv_iconst (v := nI 1) hx hb dX11_some_240 (by decide) ?_
                              exact zr_ze hx hb hr hlocks (by rw [hs, rowF_y (Nat.ne_of_lt hr2) c_220, of_decide_eq_true c_237, show max r 2 = 2 by omega, rowF_2]; rfl) (MM.to (by rw [hs, rowF_y (Nat.ne_of_lt hr2) c_220, of_decide_eq_true c_237, show max r 2 = 2 by omega, rowF_2]; cases u <;> cases (decide (r ≠ 0)) <;> rfl) hP) hS dX11_some_241
                    exact L207 (((els f a).length) + 1) (fi f a) (els f a) (TL f (LFd f d c9 e9) t1 (nS f q) (f y) (vo f y)) (Nat.lt_succ_self _) hkB.1.2 hf1 (fun _ z => z) hr0 hr2 _ _ hP hS ls (lv_sub hl [1, 2, 3, 4, 6, 0] rfl)
                  · refine lv_iconst (v := nI 1) hx hb dX11_some_197 (by decide) ?_
                    exact zr_ze hx hb hr hlocks (by rw [TLx_4 ht1 hk4 c_1 hy, if_neg (by omega), of_decide_eq_true c_194, rowF_2]; rfl) (MM.to (by rw [TLx_4 ht1 hk4 c_1 hy, if_neg (by omega), of_decide_eq_true c_194, rowF_2]) hP) hS dX11_some_198
              · refine lv_iload hx hb dX11_some_123 (lv_at hl 6 rfl) ?_
                refine zi_if_le (tgt := 155) hx hb dX11_some_125 (by decide) (by omega) (fun c_125 => ?_) (fun c_125 => ?_)
                · refine lv_aload_n hx hb dX11_some_155 rfl (lv_at hl 0 rfl) ?_
                  refine lv_iload_n hx hb dX11_some_156 rfl (lv_at hl 1 rfl) ?_
                  refine lv_iload_n hx hb dX11_some_157 rfl (lv_at hl 2 rfl) ?_
                  refine lv_iconst (v := nI 0) hx hb dX11_some_158 (by decide) ?_
                  refine lv_iconst (v := nI 0) hx hb dX11_some_159 (by decide) ?_
                  refine lv_iconst (v := nI 0) hx hb dX11_some_160 (by decide) ?_
                  refine zc_VE (As := [.int (nI (c9)), .int (nI (e9)), .int (nI (0)), .int (nI (0)), .int (nI (0))]) (rest := []) ⟨hx, hb, hml, hown, hts⟩ (m_leaf l G o qs fs f d c9 e9 hal hfh hlf 0 0 (u) (okV_0 f 16)) (cwV 5 hts (zgV wm_X11_290 wv_X11_some) rfl rfl rfl (by decide +kernel) ⟨show 30 * d + 51 + 0 + 1 ≤ 30 * d + 51 + (t + 1) by omega, show 8 + (8 + 11) + (900 * d + 1290 + 27 * 0) ≤ 900 * d + 1290 + 27 * (t + 1) by omega⟩) hK hO rfl hP rfl hl.1 rfl (Nat.le_of_ble_eq_true rfl) dX11_some_161 ⟨Nat.zero_le _, Nat.zero_le _⟩ hS (fun _ h9 => h9) (fun H locs hP hz9 hk9 hS => ?_)
                  obtain ⟨hO, hA, hS1, h8, hln, hne9⟩ := id hP
                  refine W.eq (g2 := F0 m 164 ls ([.int (nI (nB (LFd f d c9 e9 0 0)))])) rfl ?_
                  exact zr_ze hx hb hr hlocks (by rw [TLx_3n ht1 c_120 c_1 (by rw [hy]; exact c_125), d1B]) (MM.to (by rw [TLx_3n ht1 c_120 c_1 (by rw [hy]; exact c_125), d1N]) hP) hS dX11_some_164
                · have hyi : y ∈ els f a := by rw [← hy]; exact fnd_in (by rw [hy]; omega)
                  have hyo := ch_ok hkB.1.2 hyi
                  have hyl := hyo.1.lt
                  refine lv_aload_n hx hb dX11_some_128 rfl (lv_at hl 0 rfl) ?_
                  refine lv_iload_n hx hb dX11_some_129 rfl (lv_at hl 1 rfl) ?_
                  refine lv_iload_n hx hb dX11_some_130 rfl (lv_at hl 2 rfl) ?_
                  refine lv_aload_n hx hb dX11_some_131 rfl (lv_at hl 0 rfl) ?_
                  refine lv_iload_n hx hb dX11_some_132 rfl (lv_at hl 3 rfl) ?_
                  refine zc_V (As := [.int (nI (q))]) (rest := [.int (nI (e9)), .int (nI (c9)), .ref (o)]) ⟨hx, hb, hml, hown, hts⟩ (m_nextStep l G o qs (zM fs (u)) f q hqs.1) (cwV 1 hts (zgV wm_X11_296 wv_X11_nextStep) rfl rfl rfl (by decide +kernel) ⟨show 0 + 1 ≤ 30 * d + 51 + (t + 1) by omega, show 8 + (3 + 11) + (0) ≤ 900 * d + 1290 + 27 * (t + 1) by omega⟩) hK hO rfl hP.mv rfl hl.1 rfl (Nat.le_of_ble_eq_true rfl) dX11_some_133 ⟨Nat.zero_le _, Nat.zero_le _⟩ ?_
                  refine lv_aload_n hx hb dX11_some_136 rfl (lv_at hl 0 rfl) ?_
                  refine zi_get (C := RX11) (T := TX11) (N := 23) (v := .ref (qs)) hx hb hz wo_X11 hown hK hO rfl 1 (by decide) (hz _ wf_X11_7) (fun _ h9 => h9) (MM.s1 hS1) dX11_some_137 ?_
                  refine lv_iload hx hb dX11_some_140 (lv_at hl 6 rfl) ?_
                  refine zi_ald hx hb hK hA (by omega) (by decide) dX11_some_142 ?_
                  refine lv_aload_n hx hb dX11_some_143 rfl (lv_at hl 0 rfl) ?_
                  refine lv_iload hx hb dX11_some_144 (lv_at hl 6 rfl) ?_
                  refine zc_V (As := [.int (nI (y))]) (rest := [.int (nI (f y)), .int (nI (nS f q)), .int (nI (e9)), .int (nI (c9)), .ref (o)]) ⟨hx, hb, hml, hown, hts⟩ (m_valueOf l G o qs (zM fs (u)) f y hyo.1.1) (cwV 1 hts (zgV wm_X11_131 wv_X11_valueOf) rfl rfl rfl (by decide +kernel) ⟨show 1 + 1 ≤ 30 * d + 51 + (t + 1) by omega, show 8 + (2 + 11) + (22) ≤ 900 * d + 1290 + 27 * (t + 1) by omega⟩) hK hO rfl hP.mv rfl hl.1 rfl (Nat.le_of_ble_eq_true rfl) dX11_some_146 ⟨Nat.zero_le _, Nat.zero_le _⟩ ?_
                  refine zc_VE (As := [.int (nI (c9)), .int (nI (e9)), .int (nI (nS f q)), .int (nI (f y)), .int (nI (vo f y))]) (rest := []) ⟨hx, hb, hml, hown, hts⟩ (IH t1 ht1 (nS f q) (f y) (vo f y) (u) hqs.2 (hkB.2 y hyi)) (cwV 5 hts (zgV wm_X11_290 wv_X11_some) rfl rfl rfl (by decide +kernel) ⟨show 30 * d + 51 + (t1 + 1) + 1 ≤ 30 * d + 51 + (t + 1) by omega, show 8 + (8 + 11) + (900 * d + 1290 + 27 * (t1 + 1)) ≤ 900 * d + 1290 + 27 * (t + 1) by omega⟩) hK hO rfl hP rfl hl.1 rfl (Nat.le_of_ble_eq_true rfl) dX11_some_149 ⟨Nat.zero_le _, Nat.zero_le _⟩ hS (fun _ h9 => h9) (fun H locs hP hz9 hk9 hS => ?_)
                  obtain ⟨hO, hA, hS1, h8, hln, hne9⟩ := id hP
                  refine W.eq (g2 := F0 m 152 ls ([.int (nI (nB (decide (TL f (LFd f d c9 e9) t1 (nS f q) (f y) (vo f y) = 2))))])) rfl ?_
                  refine lv_goto (tgt := 164) hx hb dX11_some_152 (by decide) ?_
                  exact zr_ze hx hb hr hlocks (by rw [TLx_3 ht1 c_120 c_1 hy (by omega)]) (MM.to (by rw [TLx_3 ht1 c_120 c_1 hy (by omega)]) hP) hS dX11_some_164
            · obtain ⟨X', rfl, hok, hc'⟩ := hc.cons c_80
              have hx9 := hXi x List.mem_cons_self
              refine lv_aload_n hx hb dX11_some_88 rfl (lv_at hl 0 rfl) ?_
              refine lv_iload_n hx hb dX11_some_89 rfl (lv_at hl 3 rfl) ?_
              refine lv_iload hx hb dX11_some_90 (lv_at hl 7 rfl) ?_
              refine zc_V (As := [.int (nI (q)), .int (nI (x))]) (rest := []) ⟨hx, hb, hml, hown, hts⟩ (m_isStep l G o qs (zM fs (u)) f q x hqs.1 hok.1) (cwV 2 hts (zgV wm_X11_293 wv_X11_isStep) rfl rfl rfl (by decide +kernel) ⟨show 0 + 1 ≤ 30 * d + 51 + (t + 1) by omega, show 8 + (4 + 11) + (0) ≤ 900 * d + 1290 + 27 * (t + 1) by omega⟩) hK hO rfl hP.mv rfl hl.1 rfl (Nat.le_of_ble_eq_true rfl) dX11_some_92 ⟨Nat.zero_le _, Nat.zero_le _⟩ ?_
              refine zb_if_eq (tgt := 103) hx hb dX11_some_95 (by decide) (fun c_95 => ?_) (fun c_95 => ?_)
              · refine lv_iconst (v := nI 0) hx hb dX11_some_103 (by decide) ?_
                refine lv_istore (lv' := [(6, .int (nI (0))), (0, .ref (o)), (1, .int (nI (c9))), (2, .int (nI (e9))), (3, .int (nI (q))), (4, .int (nI (k))), (5, .int (nI (a))), (7, .int (nI (x)))]) hx hb dX11_some_104 hl (by decide) rfl (fun ls hl => ?_)
                refine lv_aload_n hx hb dX11_some_106 rfl (lv_at hl 1 rfl) ?_
                refine lv_iload hx hb dX11_some_107 (lv_at hl 7 rfl) ?_
                refine zc_V (As := [.int (nI (x))]) (rest := []) ⟨hx, hb, hml, hown, hts⟩ (m_nextOf l G o qs (zM fs (u)) f x hok) (cwV 1 hts (zgV wm_X11_140 wv_X11_nextOf) rfl rfl rfl (by decide +kernel) ⟨show 2 + 1 ≤ 30 * d + 51 + (t + 1) by omega, show 8 + (4 + 11) + (43) ≤ 900 * d + 1290 + 27 * (t + 1) by omega⟩) hK hO rfl hP.mv rfl hl.1 rfl (Nat.le_of_ble_eq_true rfl) dX11_some_109 ⟨Nat.zero_le _, Nat.zero_le _⟩ ?_
                refine lv_istore (lv' := [(7, .int (nI (nx f x))), (6, .int (nI (0))), (0, .ref (o)), (1, .int (nI (c9))), (2, .int (nI (e9))), (3, .int (nI (q))), (4, .int (nI (k))), (5, .int (nI (a)))]) hx hb dX11_some_112 hl (by decide) rfl (fun ls hl => ?_)
                refine lv_goto (tgt := 78) hx hb dX11_some_114 (by decide) ?_
                exact ih_ (nx f x) (X') 0 (by simp at hm_; omega) hc' (Ch.lt (by decide) hc') (fun z hz => hXi z (List.mem_cons_of_mem _ hz)) (by decide) (by rw [hfd, if_pos c_85, fnd_n (of_decide_eq_false c_95)]; rfl) _ _ hP hS ls (lv_sub hl [2, 3, 4, 5, 6, 7, 1, 0] rfl)
              · refine lv_iload hx hb dX11_some_98 (lv_at hl 7 rfl) ?_
                refine lv_goto (tgt := 104) hx hb dX11_some_100 (by decide) ?_
                refine lv_istore (lv' := [(6, .int (nI (x))), (0, .ref (o)), (1, .int (nI (c9))), (2, .int (nI (e9))), (3, .int (nI (q))), (4, .int (nI (k))), (5, .int (nI (a))), (7, .int (nI (x)))]) hx hb dX11_some_104 hl (by decide) rfl (fun ls hl => ?_)
                refine lv_aload_n hx hb dX11_some_106 rfl (lv_at hl 1 rfl) ?_
                refine lv_iload hx hb dX11_some_107 (lv_at hl 7 rfl) ?_
                refine zc_V (As := [.int (nI (x))]) (rest := []) ⟨hx, hb, hml, hown, hts⟩ (m_nextOf l G o qs (zM fs (u)) f x hok) (cwV 1 hts (zgV wm_X11_140 wv_X11_nextOf) rfl rfl rfl (by decide +kernel) ⟨show 2 + 1 ≤ 30 * d + 51 + (t + 1) by omega, show 8 + (4 + 11) + (43) ≤ 900 * d + 1290 + 27 * (t + 1) by omega⟩) hK hO rfl hP.mv rfl hl.1 rfl (Nat.le_of_ble_eq_true rfl) dX11_some_109 ⟨Nat.zero_le _, Nat.zero_le _⟩ ?_
                refine lv_istore (lv' := [(7, .int (nI (nx f x))), (6, .int (nI (x))), (0, .ref (o)), (1, .int (nI (c9))), (2, .int (nI (e9))), (3, .int (nI (q))), (4, .int (nI (k))), (5, .int (nI (a)))]) hx hb dX11_some_112 hl (by decide) rfl (fun ls hl => ?_)
                refine lv_goto (tgt := 78) hx hb dX11_some_114 (by decide) ?_
                exact ih_ (nx f x) (X') x (by simp at hm_; omega) hc' (Ch.lt (by decide) hc') (fun z hz => hXi z (List.mem_cons_of_mem _ hz)) hxl (by rw [hfd, if_pos c_85, fnd_y (of_decide_eq_true c_95), if_neg (by omega)]) _ _ hP hS ls (lv_sub hl [2, 3, 4, 5, 6, 7, 1, 0] rfl)
      exact L78 (((els f a).length) + 1) (fi f a) (els f a) 0 (Nat.lt_succ_self _) hkB.1.2 hf1 (fun _ z => z) (by decide) rfl _ _ hP hS ls (lv_sub hl [2, 3, 4, 5, 6, 7, 1, 0] rfl)
    · refine lv_iload hx hb dX11_some_51 (lv_at hl 4 rfl) ?_
      refine lv_iconst (v := nI 4) hx hb dX11_some_53 (by decide) ?_
      refine zi_icmp_eq (tgt := 67) hx hb dX11_some_54 (by decide) (by omega) (by omega) (fun c_54 => ?_) (fun c_54 => ?_)
      · have hq0 := c_1
        have hqs := hq.s c_1
        have hk34 : k = 3 ∨ k = 4 := Or.inr c_54
        obtain ⟨t1, ht1⟩ := hk.s hk34
        have hkB := okV_box hk ht1 hk34
        have hf1 := hkB.1.2.lt (by decide)
        refine lv_iconst (v := nI 0) hx hb dX11_some_67 (by decide) ?_
        refine lv_istore (lv' := [(6, .int (nI (0))), (0, .ref (o)), (1, .int (nI (c9))), (2, .int (nI (e9))), (3, .int (nI (q))), (4, .int (nI (k))), (5, .int (nI (a)))]) hx hb dX11_some_68 hl (by decide) rfl (fun ls hl => ?_)
        refine lv_aload_n hx hb dX11_some_70 rfl (lv_at hl 1 rfl) ?_
        refine lv_iload hx hb dX11_some_71 (lv_at hl 6 rfl) ?_
        refine zc_V (As := [.int (nI (a))]) (rest := []) ⟨hx, hb, hml, hown, hts⟩ (m_firstOf l G o qs (zM fs (u)) f a hkB.1.1) (cwV 1 hts (zgV wm_X11_137 wv_X11_firstOf) rfl rfl rfl (by decide +kernel) ⟨show 0 + 1 ≤ 30 * d + 51 + (t + 1) by omega, show 8 + (2 + 11) + (0) ≤ 900 * d + 1290 + 27 * (t + 1) by omega⟩) hK hO rfl hP.mv rfl hl.1 rfl (Nat.le_of_ble_eq_true rfl) dX11_some_73 ⟨Nat.zero_le _, Nat.zero_le _⟩ ?_
        refine lv_istore (lv' := [(7, .int (nI (fi f a))), (6, .int (nI (0))), (0, .ref (o)), (1, .int (nI (c9))), (2, .int (nI (e9))), (3, .int (nI (q))), (4, .int (nI (k))), (5, .int (nI (a)))]) hx hb dX11_some_76 hl (by decide) rfl (fun ls hl => ?_)
        have L78 : ∀ (n_ : Nat) (x : Nat) (X : List Nat) (y : Nat), X.length < n_ → (Ch 18000 f x X) → (x < 18000) → (∀ z ∈ X, z ∈ els f a) → (y < 18000) → (fnd f q (els f a) = (if y = 0 then fnd f q X else y)) → ∀ (H : Heap) (locs : List Loc), MM G o qs fs f (u) H → va_S (fun x => x = o) s.heap H locs → ∀ ls : Array Slot, lv_has ls 8 [(0, .ref (o)), (1, .int (nI (c9))), (2, .int (nI (e9))), (3, .int (nI (q))), (4, .int (nI (k))), (5, .int (nI (a))), (6, .int (nI (y))), (7, .int (nI (x)))] → W p l en (headSpec wsX11_some (rTL d (t + 1))).room s m ([.ref (o), .int (nI (c9)), .int (nI (e9)), .int (nI (q)), .int (nI (k)), .int (nI (a))] : List Value).toArray below meth c H locs 0 0 (MQ below (zQ (fun x => x = o) (some (.int (nI (nB (decide (TL f (LFd f d c9 e9) t q k a = 2)))))) (fun H => MM G o qs fs f (u || decide (TL f (LFd f d c9 e9) t q k a ≠ 0)) H)) ([.ref (o), .int (nI (c9)), .int (nI (e9)), .int (nI (q)), .int (nI (k)), .int (nI (a))] : List Value).toArray s 0 0 (fun x => x = o)) (F0 m 78 ls []) := by
          intro n_
          induction n_ with
          | zero => intro x X y hm_; exact absurd hm_ (Nat.not_lt_zero _)
          | succ n_ ih_ =>
            intro x X y hm_ hc hxl hXi hyl hfd H locs hP hS ls hl
            obtain ⟨hO, hA, hS1, h8, hln, hne9⟩ := id hP
            refine lv_iload hx hb dX11_some_78 (lv_at hl 7 rfl) ?_
            refine zi_if_le (tgt := 117) hx hb dX11_some_80 (by decide) (by omega) (fun c_80 => ?_) (fun c_80 => ?_)
            · have hX0 := hc.nil c_80
              subst hX0
              have hy : fnd f q (els f a) = y := by
                rw [hfd]
                split
                · rename_i z; rw [z]; rfl
                · rfl
              refine lv_iload hx hb dX11_some_117 (lv_at hl 4 rfl) ?_
              refine lv_iconst (v := nI 3) hx hb dX11_some_119 (by decide) ?_
              refine zi_icmp_ne (tgt := 165) hx hb dX11_some_120 (by decide) (by omega) (by omega) (fun c_120 => ?_) (fun c_120 => ?_)
              · have hk4 : k = 4 := by omega
                refine lv_iload hx hb dX11_some_165 (lv_at hl 6 rfl) ?_
                refine zi_if_le (tgt := 199) hx hb dX11_some_167 (by decide) (by omega) (fun c_167 => ?_) (fun c_167 => ?_)
                · have hr0 : TL f (LFd f d c9 e9) t q k a = rowF (fun x => TL f (LFd f d c9 e9) t1 q 3 (vo f x)) f (els f a) 0 := by rw [TLx_4 ht1 hk4 hq0 hy, if_pos c_167]
                  have hP := hP.to (dE 0 u rfl)
                  obtain ⟨hO, hA, hS1, h8, hln, hne9⟩ := id hP
                  refine lv_aload_n hx hb dX11_some_199 rfl (lv_at hl 0 rfl) ?_
                  refine lv_iload hx hb dX11_some_200 (lv_at hl 5 rfl) ?_
                  refine zc_V (As := [.int (nI (a))]) (rest := []) ⟨hx, hb, hml, hown, hts⟩ (m_firstOf l G o qs (zM fs (u || decide (0 ≠ 0))) f a hkB.1.1) (cwV 1 hts (zgV wm_X11_137 wv_X11_firstOf) rfl rfl rfl (by decide +kernel) ⟨show 0 + 1 ≤ 30 * d + 51 + (t + 1) by omega, show 8 + (2 + 11) + (0) ≤ 900 * d + 1290 + 27 * (t + 1) by omega⟩) hK hO rfl hP.mv rfl hl.1 rfl (Nat.le_of_ble_eq_true rfl) dX11_some_202 ⟨Nat.zero_le _, Nat.zero_le _⟩ ?_
                  refine lv_istore (lv' := [(7, .int (nI (fi f a))), (0, .ref (o)), (1, .int (nI (c9))), (2, .int (nI (e9))), (3, .int (nI (q))), (4, .int (nI (k))), (5, .int (nI (a))), (6, .int (nI (y)))]) hx hb dX11_some_205 hl (by decide) rfl (fun ls hl => ?_)
                  have L207 : ∀ (n_ : Nat) (x : Nat) (X : List Nat) (r : Nat), X.length < n_ → (Ch 18000 f x X) → (x < 18000) → (∀ z ∈ X, z ∈ els f a) → (TL f (LFd f d c9 e9) t q k a = rowF (fun x => TL f (LFd f d c9 e9) t1 q 3 (vo f x)) f X r) → (r < 2) → ∀ (H : Heap) (locs : List Loc), MM G o qs fs f (u || decide (r ≠ 0)) H → va_S (fun x => x = o) s.heap H locs → ∀ ls : Array Slot, lv_has ls 8 [(0, .ref (o)), (1, .int (nI (c9))), (2, .int (nI (e9))), (3, .int (nI (q))), (5, .int (nI (a))), (7, .int (nI (x)))] → W p l en (headSpec wsX11_some (rTL d (t + 1))).room s m ([.ref (o), .int (nI (c9)), .int (nI (e9)), .int (nI (q)), .int (nI (k)), .int (nI (a))] : List Value).toArray below meth c H locs 0 0 (MQ below (zQ (fun x => x = o) (some (.int (nI (nB (decide (TL f (LFd f d c9 e9) t q k a = 2)))))) (fun H => MM G o qs fs f (u || decide (TL f (LFd f d c9 e9) t q k a ≠ 0)) H)) ([.ref (o), .int (nI (c9)), .int (nI (e9)), .int (nI (q)), .int (nI (k)), .int (nI (a))] : List Value).toArray s 0 0 (fun x => x = o)) (F0 m 207 ls []) := by
                    intro n_
                    induction n_ with
                    | zero => intro x X r hm_; exact absurd hm_ (Nat.not_lt_zero _)
                    | succ n_ ih_ =>
                      intro x X r hm_ hc hxl hXi hs hr2 H locs hP hS ls hl
                      obtain ⟨hO, hA, hS1, h8, hln, hne9⟩ := id hP
                      refine lv_iload hx hb dX11_some_207 (lv_at hl 5 rfl) ?_
                      refine zi_if_le (tgt := 253) hx hb dX11_some_209 (by decide) (by omega) (fun c_209 => ?_) (fun c_209 => ?_)
                      · have hX0 := hc.nil c_209
                        subst hX0
                        refine lv_iconst (v := nI 0) hx hb dX11_some_253 (by decide) ?_
                        exact zr_ze hx hb hr hlocks (by rw [hs, decide_eq_false (show rowF (fun x => TL f (LFd f d c9 e9) t1 q 3 (vo f x)) f [] r ≠ 2 from Nat.ne_of_lt hr2)]; rfl) (MM.to (by rw [hs]; rfl) hP) hS dX11_some_254
                      · obtain ⟨X', rfl, hok, hc'⟩ := hc.cons c_209
                        have hx9 := hXi x List.mem_cons_self
                        refine lv_aload_n hx hb dX11_some_212 rfl (lv_at hl 0 rfl) ?_
                        refine zi_get (C := RX11) (T := TX11) (N := 23) (v := .ref (qs)) hx hb hz wo_X11 hown hK hO rfl 1 (by decide) (hz _ wf_X11_7) (fun _ h9 => h9) (MM.s1 hS1) dX11_some_213 ?_
                        refine lv_iload hx hb dX11_some_216 (lv_at hl 5 rfl) ?_
                        refine zi_ald hx hb hK hA (by omega) (by decide) dX11_some_218 ?_
                        refine lv_iconst (v := nI 3) hx hb dX11_some_219 (by decide) ?_
                        refine zi_icmp_ne (tgt := 242) hx hb dX11_some_220 (by decide) (Nat.lt_trans (h8 _) (by decide)) (by omega) (fun c_220 => ?_) (fun c_220 => ?_)
                        · have hs9 := hs.trans (rowF_n (Nat.ne_of_lt hr2) c_220)
                          refine lv_aload_n hx hb dX11_some_242 rfl (lv_at hl 0 rfl) ?_
                          refine lv_iload hx hb dX11_some_243 (lv_at hl 5 rfl) ?_
                          refine zc_V (As := [.int (nI (x))]) (rest := []) ⟨hx, hb, hml, hown, hts⟩ (m_nextOf l G o qs (zM fs (u || decide (r ≠ 0))) f x hok) (cwV 1 hts (zgV wm_X11_140 wv_X11_nextOf) rfl rfl rfl (by decide +kernel) ⟨show 2 + 1 ≤ 30 * d + 51 + (t + 1) by omega, show 8 + (4 + 11) + (43) ≤ 900 * d + 1290 + 27 * (t + 1) by omega⟩) hK hO rfl hP.mv rfl hl.1 rfl (Nat.le_of_ble_eq_true rfl) dX11_some_245 ⟨Nat.zero_le _, Nat.zero_le _⟩ ?_
                          refine lv_istore (lv' := [(7, .int (nI (nx f x))), (0, .ref (o)), (1, .int (nI (c9))), (2, .int (nI (e9))), (3, .int (nI (q))), (5, .int (nI (a)))]) hx hb dX11_some_248 hl (by decide) rfl (fun ls hl => ?_)
                          refine lv_goto (tgt := 207) hx hb dX11_some_250 (by decide) ?_
                          exact ih_ (nx f x) (X') r (by simp at hm_; omega) hc' (Ch.lt (by decide) hc') (fun z hz => hXi z (List.mem_cons_of_mem _ hz)) hs9 hr2 _ _ hP hS ls (lv_sub hl [1, 2, 3, 4, 5, 0] rfl)
                        · refine lv_aload_n hx hb dX11_some_223 rfl (lv_at hl 0 rfl) ?_
                          refine lv_iload_n hx hb dX11_some_224 rfl (lv_at hl 1 rfl) ?_
                          refine lv_iload_n hx hb dX11_some_225 rfl (lv_at hl 2 rfl) ?_
                          refine lv_iload_n hx hb dX11_some_226 rfl (lv_at hl 3 rfl) ?_
                          refine lv_iconst (v := nI 3) hx hb dX11_some_227 (by decide) ?_
                          refine lv_aload_n hx hb dX11_some_228 rfl (lv_at hl 0 rfl) ?_
                          refine lv_iload hx hb dX11_some_229 (lv_at hl 5 rfl) ?_
                          refine zc_V (As := [.int (nI (x))]) (rest := [.int (nI (3)), .int (nI (q)), .int (nI (e9)), .int (nI (c9)), .ref (o)]) ⟨hx, hb, hml, hown, hts⟩ (m_valueOf l G o qs (zM fs (u || decide (r ≠ 0))) f x hok.1) (cwV 1 hts (zgV wm_X11_131 wv_X11_valueOf) rfl rfl rfl (by decide +kernel) ⟨show 1 + 1 ≤ 30 * d + 51 + (t + 1) by omega, show 8 + (2 + 11) + (22) ≤ 900 * d + 1290 + 27 * (t + 1) by omega⟩) hK hO rfl hP.mv rfl hl.1 rfl (Nat.le_of_ble_eq_true rfl) dX11_some_231 ⟨Nat.zero_le _, Nat.zero_le _⟩ ?_
                          refine zc_VE (As := [.int (nI (c9)), .int (nI (e9)), .int (nI (q)), .int (nI (3)), .int (nI (vo f x))]) (rest := []) ⟨hx, hb, hml, hown, hts⟩ (IH t1 ht1 q 3 (vo f x) (u || decide (r ≠ 0)) hq (by have h7 := hkB.2 x hx9; rwa [c_220] at h7)) (cwV 5 hts (zgV wm_X11_290 wv_X11_some) rfl rfl rfl (by decide +kernel) ⟨show 30 * d + 51 + (t1 + 1) + 1 ≤ 30 * d + 51 + (t + 1) by omega, show 8 + (8 + 11) + (900 * d + 1290 + 27 * (t1 + 1)) ≤ 900 * d + 1290 + 27 * (t + 1) by omega⟩) hK hO rfl hP rfl hl.1 rfl (Nat.le_of_ble_eq_true rfl) dX11_some_234 ⟨Nat.zero_le _, Nat.zero_le _⟩ hS (fun _ h9 => h9) (fun H locs hP hz9 hk9 hS => ?_)
                          obtain ⟨hO, hA, hS1, h8, hln, hne9⟩ := id hP
                          refine W.eq (g2 := F0 m 237 ls ([.int (nI (nB (decide (TL f (LFd f d c9 e9) t1 q 3 (vo f x) = 2))))])) rfl ?_
                          refine zb_if_eq (tgt := 242) hx hb dX11_some_237 (by decide) (fun c_237 => ?_) (fun c_237 => ?_)
                          · have hs9 := hs.trans (rowF_y (Nat.ne_of_lt hr2) c_220)
                            have hr29 : max r (TL f (LFd f d c9 e9) t1 q 3 (vo f x)) < 2 := by have := of_decide_eq_false c_237; have := TL_lt (f := f) (LF := LFd f d c9 e9) t1 q 3 (vo f x); omega
                            have hP := hP.to (dmax u r (TL f (LFd f d c9 e9) t1 q 3 (vo f x)))
                            obtain ⟨hO, hA, hS1, h8, hln, hne9⟩ := id hP
                            refine lv_aload_n hx hb dX11_some_242 rfl (lv_at hl 0 rfl) ?_
                            refine lv_iload hx hb dX11_some_243 (lv_at hl 5 rfl) ?_
                            refine zc_V (As := [.int (nI (x))]) (rest := []) ⟨hx, hb, hml, hown, hts⟩ (m_nextOf l G o qs (zM fs (u || decide (max r (TL f (LFd f d c9 e9) t1 q 3 (vo f x)) ≠ 0))) f x hok) (cwV 1 hts (zgV wm_X11_140 wv_X11_nextOf) rfl rfl rfl (by decide +kernel) ⟨show 2 + 1 ≤ 30 * d + 51 + (t + 1) by omega, show 8 + (4 + 11) + (43) ≤ 900 * d + 1290 + 27 * (t + 1) by omega⟩) hK hO rfl hP.mv rfl hl.1 rfl (Nat.le_of_ble_eq_true rfl) dX11_some_245 ⟨Nat.zero_le _, Nat.zero_le _⟩ ?_
                            refine lv_istore (lv' := [(7, .int (nI (nx f x))), (0, .ref (o)), (1, .int (nI (c9))), (2, .int (nI (e9))), (3, .int (nI (q))), (5, .int (nI (a)))]) hx hb dX11_some_248 hl (by decide) rfl (fun ls hl => ?_)
                            refine lv_goto (tgt := 207) hx hb dX11_some_250 (by decide) ?_
                            exact ih_ (nx f x) (X') (max r (TL f (LFd f d c9 e9) t1 q 3 (vo f x))) (by simp at hm_; omega) hc' (Ch.lt (by decide) hc') (fun z hz => hXi z (List.mem_cons_of_mem _ hz)) hs9 hr29 _ _ hP hS ls (lv_sub hl [1, 2, 3, 4, 5, 0] rfl)
                          · refine lv_iconst (v := nI 1) hx hb dX11_some_240 (by decide) ?_
                            exact zr_ze hx hb hr hlocks (by rw [hs, rowF_y (Nat.ne_of_lt hr2) c_220, of_decide_eq_true c_237, show max r 2 = 2 by omega, rowF_2]; rfl) (MM.to (by rw [hs, rowF_y (Nat.ne_of_lt hr2) c_220, of_decide_eq_true c_237, show max r 2 = 2 by omega, rowF_2]; cases u <;> cases (decide (r ≠ 0)) <;> rfl) hP) hS dX11_some_241
                  exact L207 (((els f a).length) + 1) (fi f a) (els f a) 0 (Nat.lt_succ_self _) hkB.1.2 hf1 (fun _ z => z) hr0 (by decide) _ _ hP hS ls (lv_sub hl [1, 2, 3, 4, 6, 0] rfl)
                · have hyi : y ∈ els f a := by rw [← hy]; exact fnd_in (by rw [hy]; omega)
                  have hyo := ch_ok hkB.1.2 hyi
                  have hyl := hyo.1.lt
                  refine lv_aload_n hx hb dX11_some_170 rfl (lv_at hl 0 rfl) ?_
                  refine lv_iload_n hx hb dX11_some_171 rfl (lv_at hl 1 rfl) ?_
                  refine lv_iload_n hx hb dX11_some_172 rfl (lv_at hl 2 rfl) ?_
                  refine lv_aload_n hx hb dX11_some_173 rfl (lv_at hl 0 rfl) ?_
                  refine lv_iload_n hx hb dX11_some_174 rfl (lv_at hl 3 rfl) ?_
                  refine zc_V (As := [.int (nI (q))]) (rest := [.int (nI (e9)), .int (nI (c9)), .ref (o)]) ⟨hx, hb, hml, hown, hts⟩ (m_nextStep l G o qs (zM fs (u)) f q hqs.1) (cwV 1 hts (zgV wm_X11_296 wv_X11_nextStep) rfl rfl rfl (by decide +kernel) ⟨show 0 + 1 ≤ 30 * d + 51 + (t + 1) by omega, show 8 + (3 + 11) + (0) ≤ 900 * d + 1290 + 27 * (t + 1) by omega⟩) hK hO rfl hP.mv rfl hl.1 rfl (Nat.le_of_ble_eq_true rfl) dX11_some_175 ⟨Nat.zero_le _, Nat.zero_le _⟩ ?_
                  refine lv_aload_n hx hb dX11_some_178 rfl (lv_at hl 0 rfl) ?_
                  refine zi_get (C := RX11) (T := TX11) (N := 23) (v := .ref (qs)) hx hb hz wo_X11 hown hK hO rfl 1 (by decide) (hz _ wf_X11_7) (fun _ h9 => h9) (MM.s1 hS1) dX11_some_179 ?_
                  refine lv_iload hx hb dX11_some_182 (lv_at hl 6 rfl) ?_
                  refine zi_ald hx hb hK hA (by omega) (by decide) dX11_some_184 ?_
                  refine lv_aload_n hx hb dX11_some_185 rfl (lv_at hl 0 rfl) ?_
                  refine lv_iload hx hb dX11_some_186 (lv_at hl 6 rfl) ?_
                  refine zc_V (As := [.int (nI (y))]) (rest := [.int (nI (f y)), .int (nI (nS f q)), .int (nI (e9)), .int (nI (c9)), .ref (o)]) ⟨hx, hb, hml, hown, hts⟩ (m_valueOf l G o qs (zM fs (u)) f y hyo.1.1) (cwV 1 hts (zgV wm_X11_131 wv_X11_valueOf) rfl rfl rfl (by decide +kernel) ⟨show 1 + 1 ≤ 30 * d + 51 + (t + 1) by omega, show 8 + (2 + 11) + (22) ≤ 900 * d + 1290 + 27 * (t + 1) by omega⟩) hK hO rfl hP.mv rfl hl.1 rfl (Nat.le_of_ble_eq_true rfl) dX11_some_188 ⟨Nat.zero_le _, Nat.zero_le _⟩ ?_
                  refine zc_VE (As := [.int (nI (c9)), .int (nI (e9)), .int (nI (nS f q)), .int (nI (f y)), .int (nI (vo f y))]) (rest := []) ⟨hx, hb, hml, hown, hts⟩ (IH t1 ht1 (nS f q) (f y) (vo f y) (u) hqs.2 (hkB.2 y hyi)) (cwV 5 hts (zgV wm_X11_290 wv_X11_some) rfl rfl rfl (by decide +kernel) ⟨show 30 * d + 51 + (t1 + 1) + 1 ≤ 30 * d + 51 + (t + 1) by omega, show 8 + (8 + 11) + (900 * d + 1290 + 27 * (t1 + 1)) ≤ 900 * d + 1290 + 27 * (t + 1) by omega⟩) hK hO rfl hP rfl hl.1 rfl (Nat.le_of_ble_eq_true rfl) dX11_some_191 ⟨Nat.zero_le _, Nat.zero_le _⟩ hS (fun _ h9 => h9) (fun H locs hP hz9 hk9 hS => ?_)
                  obtain ⟨hO, hA, hS1, h8, hln, hne9⟩ := id hP
                  refine W.eq (g2 := F0 m 194 ls ([.int (nI (nB (decide (TL f (LFd f d c9 e9) t1 (nS f q) (f y) (vo f y) = 2))))])) rfl ?_
                  refine zb_if_eq (tgt := 199) hx hb dX11_some_194 (by decide) (fun c_194 => ?_) (fun c_194 => ?_)
                  · have hr0 : TL f (LFd f d c9 e9) t q k a = rowF (fun x => TL f (LFd f d c9 e9) t1 q 3 (vo f x)) f (els f a) (TL f (LFd f d c9 e9) t1 (nS f q) (f y) (vo f y)) := by rw [TLx_4 ht1 hk4 hq0 hy, if_neg (by omega)]
                    have hr2 : TL f (LFd f d c9 e9) t1 (nS f q) (f y) (vo f y) < 2 := by have := of_decide_eq_false c_194; have := TL_lt (f := f) (LF := LFd f d c9 e9) t1 (nS f q) (f y) (vo f y); omega
                    refine lv_aload_n hx hb dX11_some_199 rfl (lv_at hl 0 rfl) ?_
                    refine lv_iload hx hb dX11_some_200 (lv_at hl 5 rfl) ?_
                    refine zc_V (As := [.int (nI (a))]) (rest := []) ⟨hx, hb, hml, hown, hts⟩ (m_firstOf l G o qs (zM fs ((u) || decide (TL f (LFd f d c9 e9) t1 (nS f q) (f y) (vo f y) ≠ 0))) f a hkB.1.1) (cwV 1 hts (zgV wm_X11_137 wv_X11_firstOf) rfl rfl rfl (by decide +kernel) ⟨show 0 + 1 ≤ 30 * d + 51 + (t + 1) by omega, show 8 + (2 + 11) + (0) ≤ 900 * d + 1290 + 27 * (t + 1) by omega⟩) hK hO rfl hP.mv rfl hl.1 rfl (Nat.le_of_ble_eq_true rfl) dX11_some_202 ⟨Nat.zero_le _, Nat.zero_le _⟩ ?_
                    refine lv_istore (lv' := [(7, .int (nI (fi f a))), (0, .ref (o)), (1, .int (nI (c9))), (2, .int (nI (e9))), (3, .int (nI (q))), (4, .int (nI (k))), (5, .int (nI (a))), (6, .int (nI (y)))]) hx hb dX11_some_205 hl (by decide) rfl (fun ls hl => ?_)
                    have L207 : ∀ (n_ : Nat) (x : Nat) (X : List Nat) (r : Nat), X.length < n_ → (Ch 18000 f x X) → (x < 18000) → (∀ z ∈ X, z ∈ els f a) → (TL f (LFd f d c9 e9) t q k a = rowF (fun x => TL f (LFd f d c9 e9) t1 q 3 (vo f x)) f X r) → (r < 2) → ∀ (H : Heap) (locs : List Loc), MM G o qs fs f (u || decide (r ≠ 0)) H → va_S (fun x => x = o) s.heap H locs → ∀ ls : Array Slot, lv_has ls 8 [(0, .ref (o)), (1, .int (nI (c9))), (2, .int (nI (e9))), (3, .int (nI (q))), (5, .int (nI (a))), (7, .int (nI (x)))] → W p l en (headSpec wsX11_some (rTL d (t + 1))).room s m ([.ref (o), .int (nI (c9)), .int (nI (e9)), .int (nI (q)), .int (nI (k)), .int (nI (a))] : List Value).toArray below meth c H locs 0 0 (MQ below (zQ (fun x => x = o) (some (.int (nI (nB (decide (TL f (LFd f d c9 e9) t q k a = 2)))))) (fun H => MM G o qs fs f (u || decide (TL f (LFd f d c9 e9) t q k a ≠ 0)) H)) ([.ref (o), .int (nI (c9)), .int (nI (e9)), .int (nI (q)), .int (nI (k)), .int (nI (a))] : List Value).toArray s 0 0 (fun x => x = o)) (F0 m 207 ls []) := by
                      intro n_
                      induction n_ with
                      | zero => intro x X r hm_; exact absurd hm_ (Nat.not_lt_zero _)
                      | succ n_ ih_ =>
                        intro x X r hm_ hc hxl hXi hs hr2 H locs hP hS ls hl
                        obtain ⟨hO, hA, hS1, h8, hln, hne9⟩ := id hP
                        refine lv_iload hx hb dX11_some_207 (lv_at hl 5 rfl) ?_
                        refine zi_if_le (tgt := 253) hx hb dX11_some_209 (by decide) (by omega) (fun c_209 => ?_) (fun c_209 => ?_)
                        · have hX0 := hc.nil c_209
                          subst hX0
                          refine lv_iconst (v := nI 0) hx hb dX11_some_253 (by decide) ?_
                          exact zr_ze hx hb hr hlocks (by rw [hs, decide_eq_false (show rowF (fun x => TL f (LFd f d c9 e9) t1 q 3 (vo f x)) f [] r ≠ 2 from Nat.ne_of_lt hr2)]; rfl) (MM.to (by rw [hs]; rfl) hP) hS dX11_some_254
                        · obtain ⟨X', rfl, hok, hc'⟩ := hc.cons c_209
                          have hx9 := hXi x List.mem_cons_self
                          refine lv_aload_n hx hb dX11_some_212 rfl (lv_at hl 0 rfl) ?_
                          refine zi_get (C := RX11) (T := TX11) (N := 23) (v := .ref (qs)) hx hb hz wo_X11 hown hK hO rfl 1 (by decide) (hz _ wf_X11_7) (fun _ h9 => h9) (MM.s1 hS1) dX11_some_213 ?_
                          refine lv_iload hx hb dX11_some_216 (lv_at hl 5 rfl) ?_
                          refine zi_ald hx hb hK hA (by omega) (by decide) dX11_some_218 ?_
                          refine lv_iconst (v := nI 3) hx hb dX11_some_219 (by decide) ?_
                          refine zi_icmp_ne (tgt := 242) hx hb dX11_some_220 (by decide) (Nat.lt_trans (h8 _) (by decide)) (by omega) (fun c_220 => ?_) (fun c_220 => ?_)
                          · have hs9 := hs.trans (rowF_n (Nat.ne_of_lt hr2) c_220)
                            refine lv_aload_n hx hb dX11_some_242 rfl (lv_at hl 0 rfl) ?_
                            refine lv_iload hx hb dX11_some_243 (lv_at hl 5 rfl) ?_
                            refine zc_V (As := [.int (nI (x))]) (rest := []) ⟨hx, hb, hml, hown, hts⟩ (m_nextOf l G o qs (zM fs (u || decide (r ≠ 0))) f x hok) (cwV 1 hts (zgV wm_X11_140 wv_X11_nextOf) rfl rfl rfl (by decide +kernel) ⟨show 2 + 1 ≤ 30 * d + 51 + (t + 1) by omega, show 8 + (4 + 11) + (43) ≤ 900 * d + 1290 + 27 * (t + 1) by omega⟩) hK hO rfl hP.mv rfl hl.1 rfl (Nat.le_of_ble_eq_true rfl) dX11_some_245 ⟨Nat.zero_le _, Nat.zero_le _⟩ ?_
                            refine lv_istore (lv' := [(7, .int (nI (nx f x))), (0, .ref (o)), (1, .int (nI (c9))), (2, .int (nI (e9))), (3, .int (nI (q))), (5, .int (nI (a)))]) hx hb dX11_some_248 hl (by decide) rfl (fun ls hl => ?_)
                            refine lv_goto (tgt := 207) hx hb dX11_some_250 (by decide) ?_
                            exact ih_ (nx f x) (X') r (by simp at hm_; omega) hc' (Ch.lt (by decide) hc') (fun z hz => hXi z (List.mem_cons_of_mem _ hz)) hs9 hr2 _ _ hP hS ls (lv_sub hl [1, 2, 3, 4, 5, 0] rfl)
                          · refine lv_aload_n hx hb dX11_some_223 rfl (lv_at hl 0 rfl) ?_
                            refine lv_iload_n hx hb dX11_some_224 rfl (lv_at hl 1 rfl) ?_
                            refine lv_iload_n hx hb dX11_some_225 rfl (lv_at hl 2 rfl) ?_
                            refine lv_iload_n hx hb dX11_some_226 rfl (lv_at hl 3 rfl) ?_
                            refine lv_iconst (v := nI 3) hx hb dX11_some_227 (by decide) ?_
                            refine lv_aload_n hx hb dX11_some_228 rfl (lv_at hl 0 rfl) ?_
                            refine lv_iload hx hb dX11_some_229 (lv_at hl 5 rfl) ?_
                            refine zc_V (As := [.int (nI (x))]) (rest := [.int (nI (3)), .int (nI (q)), .int (nI (e9)), .int (nI (c9)), .ref (o)]) ⟨hx, hb, hml, hown, hts⟩ (m_valueOf l G o qs (zM fs (u || decide (r ≠ 0))) f x hok.1) (cwV 1 hts (zgV wm_X11_131 wv_X11_valueOf) rfl rfl rfl (by decide +kernel) ⟨show 1 + 1 ≤ 30 * d + 51 + (t + 1) by omega, show 8 + (2 + 11) + (22) ≤ 900 * d + 1290 + 27 * (t + 1) by omega⟩) hK hO rfl hP.mv rfl hl.1 rfl (Nat.le_of_ble_eq_true rfl) dX11_some_231 ⟨Nat.zero_le _, Nat.zero_le _⟩ ?_
                            refine zc_VE (As := [.int (nI (c9)), .int (nI (e9)), .int (nI (q)), .int (nI (3)), .int (nI (vo f x))]) (rest := []) ⟨hx, hb, hml, hown, hts⟩ (IH t1 ht1 q 3 (vo f x) (u || decide (r ≠ 0)) hq (by have h7 := hkB.2 x hx9; rwa [c_220] at h7)) (cwV 5 hts (zgV wm_X11_290 wv_X11_some) rfl rfl rfl (by decide +kernel) ⟨show 30 * d + 51 + (t1 + 1) + 1 ≤ 30 * d + 51 + (t + 1) by omega, show 8 + (8 + 11) + (900 * d + 1290 + 27 * (t1 + 1)) ≤ 900 * d + 1290 + 27 * (t + 1) by omega⟩) hK hO rfl hP rfl hl.1 rfl (Nat.le_of_ble_eq_true rfl) dX11_some_234 ⟨Nat.zero_le _, Nat.zero_le _⟩ hS (fun _ h9 => h9) (fun H locs hP hz9 hk9 hS => ?_)
                            obtain ⟨hO, hA, hS1, h8, hln, hne9⟩ := id hP
                            refine W.eq (g2 := F0 m 237 ls ([.int (nI (nB (decide (TL f (LFd f d c9 e9) t1 q 3 (vo f x) = 2))))])) rfl ?_
                            refine zb_if_eq (tgt := 242) hx hb dX11_some_237 (by decide) (fun c_237 => ?_) (fun c_237 => ?_)
                            · have hs9 := hs.trans (rowF_y (Nat.ne_of_lt hr2) c_220)
                              have hr29 : max r (TL f (LFd f d c9 e9) t1 q 3 (vo f x)) < 2 := by have := of_decide_eq_false c_237; have := TL_lt (f := f) (LF := LFd f d c9 e9) t1 q 3 (vo f x); omega
                              have hP := hP.to (dmax u r (TL f (LFd f d c9 e9) t1 q 3 (vo f x)))
                              obtain ⟨hO, hA, hS1, h8, hln, hne9⟩ := id hP
                              refine lv_aload_n hx hb dX11_some_242 rfl (lv_at hl 0 rfl) ?_
                              refine lv_iload hx hb dX11_some_243 (lv_at hl 5 rfl) ?_
                              refine zc_V (As := [.int (nI (x))]) (rest := []) ⟨hx, hb, hml, hown, hts⟩ (m_nextOf l G o qs (zM fs (u || decide (max r (TL f (LFd f d c9 e9) t1 q 3 (vo f x)) ≠ 0))) f x hok) (cwV 1 hts (zgV wm_X11_140 wv_X11_nextOf) rfl rfl rfl (by decide +kernel) ⟨show 2 + 1 ≤ 30 * d + 51 + (t + 1) by omega, show 8 + (4 + 11) + (43) ≤ 900 * d + 1290 + 27 * (t + 1) by omega⟩) hK hO rfl hP.mv rfl hl.1 rfl (Nat.le_of_ble_eq_true rfl) dX11_some_245 ⟨Nat.zero_le _, Nat.zero_le _⟩ ?_
                              refine lv_istore (lv' := [(7, .int (nI (nx f x))), (0, .ref (o)), (1, .int (nI (c9))), (2, .int (nI (e9))), (3, .int (nI (q))), (5, .int (nI (a)))]) hx hb dX11_some_248 hl (by decide) rfl (fun ls hl => ?_)
                              refine lv_goto (tgt := 207) hx hb dX11_some_250 (by decide) ?_
                              exact ih_ (nx f x) (X') (max r (TL f (LFd f d c9 e9) t1 q 3 (vo f x))) (by simp at hm_; omega) hc' (Ch.lt (by decide) hc') (fun z hz => hXi z (List.mem_cons_of_mem _ hz)) hs9 hr29 _ _ hP hS ls (lv_sub hl [1, 2, 3, 4, 5, 0] rfl)
                            · refine lv_iconst (v := nI 1) hx hb dX11_some_240 (by decide) ?_
                              exact zr_ze hx hb hr hlocks (by rw [hs, rowF_y (Nat.ne_of_lt hr2) c_220, of_decide_eq_true c_237, show max r 2 = 2 by omega, rowF_2]; rfl) (MM.to (by rw [hs, rowF_y (Nat.ne_of_lt hr2) c_220, of_decide_eq_true c_237, show max r 2 = 2 by omega, rowF_2]; cases u <;> cases (decide (r ≠ 0)) <;> rfl) hP) hS dX11_some_241
                    exact L207 (((els f a).length) + 1) (fi f a) (els f a) (TL f (LFd f d c9 e9) t1 (nS f q) (f y) (vo f y)) (Nat.lt_succ_self _) hkB.1.2 hf1 (fun _ z => z) hr0 hr2 _ _ hP hS ls (lv_sub hl [1, 2, 3, 4, 6, 0] rfl)
                  · refine lv_iconst (v := nI 1) hx hb dX11_some_197 (by decide) ?_
                    exact zr_ze hx hb hr hlocks (by rw [TLx_4 ht1 hk4 c_1 hy, if_neg (by omega), of_decide_eq_true c_194, rowF_2]; rfl) (MM.to (by rw [TLx_4 ht1 hk4 c_1 hy, if_neg (by omega), of_decide_eq_true c_194, rowF_2]) hP) hS dX11_some_198
              · refine lv_iload hx hb dX11_some_123 (lv_at hl 6 rfl) ?_
                refine zi_if_le (tgt := 155) hx hb dX11_some_125 (by decide) (by omega) (fun c_125 => ?_) (fun c_125 => ?_)
                · refine lv_aload_n hx hb dX11_some_155 rfl (lv_at hl 0 rfl) ?_
                  refine lv_iload_n hx hb dX11_some_156 rfl (lv_at hl 1 rfl) ?_
                  refine lv_iload_n hx hb dX11_some_157 rfl (lv_at hl 2 rfl) ?_
                  refine lv_iconst (v := nI 0) hx hb dX11_some_158 (by decide) ?_
                  refine lv_iconst (v := nI 0) hx hb dX11_some_159 (by decide) ?_
                  refine lv_iconst (v := nI 0) hx hb dX11_some_160 (by decide) ?_
                  refine zc_VE (As := [.int (nI (c9)), .int (nI (e9)), .int (nI (0)), .int (nI (0)), .int (nI (0))]) (rest := []) ⟨hx, hb, hml, hown, hts⟩ (m_leaf l G o qs fs f d c9 e9 hal hfh hlf 0 0 (u) (okV_0 f 16)) (cwV 5 hts (zgV wm_X11_290 wv_X11_some) rfl rfl rfl (by decide +kernel) ⟨show 30 * d + 51 + 0 + 1 ≤ 30 * d + 51 + (t + 1) by omega, show 8 + (8 + 11) + (900 * d + 1290 + 27 * 0) ≤ 900 * d + 1290 + 27 * (t + 1) by omega⟩) hK hO rfl hP rfl hl.1 rfl (Nat.le_of_ble_eq_true rfl) dX11_some_161 ⟨Nat.zero_le _, Nat.zero_le _⟩ hS (fun _ h9 => h9) (fun H locs hP hz9 hk9 hS => ?_)
                  obtain ⟨hO, hA, hS1, h8, hln, hne9⟩ := id hP
                  refine W.eq (g2 := F0 m 164 ls ([.int (nI (nB (LFd f d c9 e9 0 0)))])) rfl ?_
                  exact zr_ze hx hb hr hlocks (by rw [TLx_3n ht1 c_120 c_1 (by rw [hy]; exact c_125), d1B]) (MM.to (by rw [TLx_3n ht1 c_120 c_1 (by rw [hy]; exact c_125), d1N]) hP) hS dX11_some_164
                · have hyi : y ∈ els f a := by rw [← hy]; exact fnd_in (by rw [hy]; omega)
                  have hyo := ch_ok hkB.1.2 hyi
                  have hyl := hyo.1.lt
                  refine lv_aload_n hx hb dX11_some_128 rfl (lv_at hl 0 rfl) ?_
                  refine lv_iload_n hx hb dX11_some_129 rfl (lv_at hl 1 rfl) ?_
                  refine lv_iload_n hx hb dX11_some_130 rfl (lv_at hl 2 rfl) ?_
                  refine lv_aload_n hx hb dX11_some_131 rfl (lv_at hl 0 rfl) ?_
                  refine lv_iload_n hx hb dX11_some_132 rfl (lv_at hl 3 rfl) ?_
                  refine zc_V (As := [.int (nI (q))]) (rest := [.int (nI (e9)), .int (nI (c9)), .ref (o)]) ⟨hx, hb, hml, hown, hts⟩ (m_nextStep l G o qs (zM fs (u)) f q hqs.1) (cwV 1 hts (zgV wm_X11_296 wv_X11_nextStep) rfl rfl rfl (by decide +kernel) ⟨show 0 + 1 ≤ 30 * d + 51 + (t + 1) by omega, show 8 + (3 + 11) + (0) ≤ 900 * d + 1290 + 27 * (t + 1) by omega⟩) hK hO rfl hP.mv rfl hl.1 rfl (Nat.le_of_ble_eq_true rfl) dX11_some_133 ⟨Nat.zero_le _, Nat.zero_le _⟩ ?_
                  refine lv_aload_n hx hb dX11_some_136 rfl (lv_at hl 0 rfl) ?_
                  refine zi_get (C := RX11) (T := TX11) (N := 23) (v := .ref (qs)) hx hb hz wo_X11 hown hK hO rfl 1 (by decide) (hz _ wf_X11_7) (fun _ h9 => h9) (MM.s1 hS1) dX11_some_137 ?_
                  refine lv_iload hx hb dX11_some_140 (lv_at hl 6 rfl) ?_
                  refine zi_ald hx hb hK hA (by omega) (by decide) dX11_some_142 ?_
                  refine lv_aload_n hx hb dX11_some_143 rfl (lv_at hl 0 rfl) ?_
                  refine lv_iload hx hb dX11_some_144 (lv_at hl 6 rfl) ?_
                  refine zc_V (As := [.int (nI (y))]) (rest := [.int (nI (f y)), .int (nI (nS f q)), .int (nI (e9)), .int (nI (c9)), .ref (o)]) ⟨hx, hb, hml, hown, hts⟩ (m_valueOf l G o qs (zM fs (u)) f y hyo.1.1) (cwV 1 hts (zgV wm_X11_131 wv_X11_valueOf) rfl rfl rfl (by decide +kernel) ⟨show 1 + 1 ≤ 30 * d + 51 + (t + 1) by omega, show 8 + (2 + 11) + (22) ≤ 900 * d + 1290 + 27 * (t + 1) by omega⟩) hK hO rfl hP.mv rfl hl.1 rfl (Nat.le_of_ble_eq_true rfl) dX11_some_146 ⟨Nat.zero_le _, Nat.zero_le _⟩ ?_
                  refine zc_VE (As := [.int (nI (c9)), .int (nI (e9)), .int (nI (nS f q)), .int (nI (f y)), .int (nI (vo f y))]) (rest := []) ⟨hx, hb, hml, hown, hts⟩ (IH t1 ht1 (nS f q) (f y) (vo f y) (u) hqs.2 (hkB.2 y hyi)) (cwV 5 hts (zgV wm_X11_290 wv_X11_some) rfl rfl rfl (by decide +kernel) ⟨show 30 * d + 51 + (t1 + 1) + 1 ≤ 30 * d + 51 + (t + 1) by omega, show 8 + (8 + 11) + (900 * d + 1290 + 27 * (t1 + 1)) ≤ 900 * d + 1290 + 27 * (t + 1) by omega⟩) hK hO rfl hP rfl hl.1 rfl (Nat.le_of_ble_eq_true rfl) dX11_some_149 ⟨Nat.zero_le _, Nat.zero_le _⟩ hS (fun _ h9 => h9) (fun H locs hP hz9 hk9 hS => ?_)
                  obtain ⟨hO, hA, hS1, h8, hln, hne9⟩ := id hP
                  refine W.eq (g2 := F0 m 152 ls ([.int (nI (nB (decide (TL f (LFd f d c9 e9) t1 (nS f q) (f y) (vo f y) = 2))))])) rfl ?_
                  refine lv_goto (tgt := 164) hx hb dX11_some_152 (by decide) ?_
                  exact zr_ze hx hb hr hlocks (by rw [TLx_3 ht1 c_120 c_1 hy (by omega)]) (MM.to (by rw [TLx_3 ht1 c_120 c_1 hy (by omega)]) hP) hS dX11_some_164
            · refine lv_iload hx hb dX11_some_83 (lv_at hl 6 rfl) ?_
              refine zi_if_ne (tgt := 117) hx hb dX11_some_85 (by decide) (by omega) (fun c_85 => ?_) (fun c_85 => ?_)
              · have hy : fnd f q (els f a) = y := by rw [hfd, if_neg c_85]
                refine lv_iload hx hb dX11_some_117 (lv_at hl 4 rfl) ?_
                refine lv_iconst (v := nI 3) hx hb dX11_some_119 (by decide) ?_
                refine zi_icmp_ne (tgt := 165) hx hb dX11_some_120 (by decide) (by omega) (by omega) (fun c_120 => ?_) (fun c_120 => ?_)
                · have hk4 : k = 4 := by omega
                  refine lv_iload hx hb dX11_some_165 (lv_at hl 6 rfl) ?_
                  refine zi_if_le (tgt := 199) hx hb dX11_some_167 (by decide) (by omega) (fun c_167 => ?_) (fun c_167 => ?_)
                  · have hr0 : TL f (LFd f d c9 e9) t q k a = rowF (fun x => TL f (LFd f d c9 e9) t1 q 3 (vo f x)) f (els f a) 0 := by rw [TLx_4 ht1 hk4 hq0 hy, if_pos c_167]
                    have hP := hP.to (dE 0 u rfl)
                    obtain ⟨hO, hA, hS1, h8, hln, hne9⟩ := id hP
                    refine lv_aload_n hx hb dX11_some_199 rfl (lv_at hl 0 rfl) ?_
                    refine lv_iload hx hb dX11_some_200 (lv_at hl 5 rfl) ?_
                    refine zc_V (As := [.int (nI (a))]) (rest := []) ⟨hx, hb, hml, hown, hts⟩ (m_firstOf l G o qs (zM fs (u || decide (0 ≠ 0))) f a hkB.1.1) (cwV 1 hts (zgV wm_X11_137 wv_X11_firstOf) rfl rfl rfl (by decide +kernel) ⟨show 0 + 1 ≤ 30 * d + 51 + (t + 1) by omega, show 8 + (2 + 11) + (0) ≤ 900 * d + 1290 + 27 * (t + 1) by omega⟩) hK hO rfl hP.mv rfl hl.1 rfl (Nat.le_of_ble_eq_true rfl) dX11_some_202 ⟨Nat.zero_le _, Nat.zero_le _⟩ ?_
                    refine lv_istore (lv' := [(7, .int (nI (fi f a))), (0, .ref (o)), (1, .int (nI (c9))), (2, .int (nI (e9))), (3, .int (nI (q))), (4, .int (nI (k))), (5, .int (nI (a))), (6, .int (nI (y)))]) hx hb dX11_some_205 hl (by decide) rfl (fun ls hl => ?_)
                    have L207 : ∀ (n_ : Nat) (x : Nat) (X : List Nat) (r : Nat), X.length < n_ → (Ch 18000 f x X) → (x < 18000) → (∀ z ∈ X, z ∈ els f a) → (TL f (LFd f d c9 e9) t q k a = rowF (fun x => TL f (LFd f d c9 e9) t1 q 3 (vo f x)) f X r) → (r < 2) → ∀ (H : Heap) (locs : List Loc), MM G o qs fs f (u || decide (r ≠ 0)) H → va_S (fun x => x = o) s.heap H locs → ∀ ls : Array Slot, lv_has ls 8 [(0, .ref (o)), (1, .int (nI (c9))), (2, .int (nI (e9))), (3, .int (nI (q))), (5, .int (nI (a))), (7, .int (nI (x)))] → W p l en (headSpec wsX11_some (rTL d (t + 1))).room s m ([.ref (o), .int (nI (c9)), .int (nI (e9)), .int (nI (q)), .int (nI (k)), .int (nI (a))] : List Value).toArray below meth c H locs 0 0 (MQ below (zQ (fun x => x = o) (some (.int (nI (nB (decide (TL f (LFd f d c9 e9) t q k a = 2)))))) (fun H => MM G o qs fs f (u || decide (TL f (LFd f d c9 e9) t q k a ≠ 0)) H)) ([.ref (o), .int (nI (c9)), .int (nI (e9)), .int (nI (q)), .int (nI (k)), .int (nI (a))] : List Value).toArray s 0 0 (fun x => x = o)) (F0 m 207 ls []) := by
                      intro n_
                      induction n_ with
                      | zero => intro x X r hm_; exact absurd hm_ (Nat.not_lt_zero _)
                      | succ n_ ih_ =>
                        intro x X r hm_ hc hxl hXi hs hr2 H locs hP hS ls hl
                        obtain ⟨hO, hA, hS1, h8, hln, hne9⟩ := id hP
                        refine lv_iload hx hb dX11_some_207 (lv_at hl 5 rfl) ?_
                        refine zi_if_le (tgt := 253) hx hb dX11_some_209 (by decide) (by omega) (fun c_209 => ?_) (fun c_209 => ?_)
                        · have hX0 := hc.nil c_209
                          subst hX0
                          refine lv_iconst (v := nI 0) hx hb dX11_some_253 (by decide) ?_
                          exact zr_ze hx hb hr hlocks (by rw [hs, decide_eq_false (show rowF (fun x => TL f (LFd f d c9 e9) t1 q 3 (vo f x)) f [] r ≠ 2 from Nat.ne_of_lt hr2)]; rfl) (MM.to (by rw [hs]; rfl) hP) hS dX11_some_254
                        · obtain ⟨X', rfl, hok, hc'⟩ := hc.cons c_209
                          have hx9 := hXi x List.mem_cons_self
                          refine lv_aload_n hx hb dX11_some_212 rfl (lv_at hl 0 rfl) ?_
                          refine zi_get (C := RX11) (T := TX11) (N := 23) (v := .ref (qs)) hx hb hz wo_X11 hown hK hO rfl 1 (by decide) (hz _ wf_X11_7) (fun _ h9 => h9) (MM.s1 hS1) dX11_some_213 ?_
                          refine lv_iload hx hb dX11_some_216 (lv_at hl 5 rfl) ?_
                          refine zi_ald hx hb hK hA (by omega) (by decide) dX11_some_218 ?_
                          refine lv_iconst (v := nI 3) hx hb dX11_some_219 (by decide) ?_
                          refine zi_icmp_ne (tgt := 242) hx hb dX11_some_220 (by decide) (Nat.lt_trans (h8 _) (by decide)) (by omega) (fun c_220 => ?_) (fun c_220 => ?_)
                          · have hs9 := hs.trans (rowF_n (Nat.ne_of_lt hr2) c_220)
                            refine lv_aload_n hx hb dX11_some_242 rfl (lv_at hl 0 rfl) ?_
                            refine lv_iload hx hb dX11_some_243 (lv_at hl 5 rfl) ?_
                            refine zc_V (As := [.int (nI (x))]) (rest := []) ⟨hx, hb, hml, hown, hts⟩ (m_nextOf l G o qs (zM fs (u || decide (r ≠ 0))) f x hok) (cwV 1 hts (zgV wm_X11_140 wv_X11_nextOf) rfl rfl rfl (by decide +kernel) ⟨show 2 + 1 ≤ 30 * d + 51 + (t + 1) by omega, show 8 + (4 + 11) + (43) ≤ 900 * d + 1290 + 27 * (t + 1) by omega⟩) hK hO rfl hP.mv rfl hl.1 rfl (Nat.le_of_ble_eq_true rfl) dX11_some_245 ⟨Nat.zero_le _, Nat.zero_le _⟩ ?_
                            refine lv_istore (lv' := [(7, .int (nI (nx f x))), (0, .ref (o)), (1, .int (nI (c9))), (2, .int (nI (e9))), (3, .int (nI (q))), (5, .int (nI (a)))]) hx hb dX11_some_248 hl (by decide) rfl (fun ls hl => ?_)
                            refine lv_goto (tgt := 207) hx hb dX11_some_250 (by decide) ?_
                            exact ih_ (nx f x) (X') r (by simp at hm_; omega) hc' (Ch.lt (by decide) hc') (fun z hz => hXi z (List.mem_cons_of_mem _ hz)) hs9 hr2 _ _ hP hS ls (lv_sub hl [1, 2, 3, 4, 5, 0] rfl)
                          · refine lv_aload_n hx hb dX11_some_223 rfl (lv_at hl 0 rfl) ?_
                            refine lv_iload_n hx hb dX11_some_224 rfl (lv_at hl 1 rfl) ?_
                            refine lv_iload_n hx hb dX11_some_225 rfl (lv_at hl 2 rfl) ?_
                            refine lv_iload_n hx hb dX11_some_226 rfl (lv_at hl 3 rfl) ?_
                            refine lv_iconst (v := nI 3) hx hb dX11_some_227 (by decide) ?_
                            refine lv_aload_n hx hb dX11_some_228 rfl (lv_at hl 0 rfl) ?_
                            refine lv_iload hx hb dX11_some_229 (lv_at hl 5 rfl) ?_
                            refine zc_V (As := [.int (nI (x))]) (rest := [.int (nI (3)), .int (nI (q)), .int (nI (e9)), .int (nI (c9)), .ref (o)]) ⟨hx, hb, hml, hown, hts⟩ (m_valueOf l G o qs (zM fs (u || decide (r ≠ 0))) f x hok.1) (cwV 1 hts (zgV wm_X11_131 wv_X11_valueOf) rfl rfl rfl (by decide +kernel) ⟨show 1 + 1 ≤ 30 * d + 51 + (t + 1) by omega, show 8 + (2 + 11) + (22) ≤ 900 * d + 1290 + 27 * (t + 1) by omega⟩) hK hO rfl hP.mv rfl hl.1 rfl (Nat.le_of_ble_eq_true rfl) dX11_some_231 ⟨Nat.zero_le _, Nat.zero_le _⟩ ?_
                            refine zc_VE (As := [.int (nI (c9)), .int (nI (e9)), .int (nI (q)), .int (nI (3)), .int (nI (vo f x))]) (rest := []) ⟨hx, hb, hml, hown, hts⟩ (IH t1 ht1 q 3 (vo f x) (u || decide (r ≠ 0)) hq (by have h7 := hkB.2 x hx9; rwa [c_220] at h7)) (cwV 5 hts (zgV wm_X11_290 wv_X11_some) rfl rfl rfl (by decide +kernel) ⟨show 30 * d + 51 + (t1 + 1) + 1 ≤ 30 * d + 51 + (t + 1) by omega, show 8 + (8 + 11) + (900 * d + 1290 + 27 * (t1 + 1)) ≤ 900 * d + 1290 + 27 * (t + 1) by omega⟩) hK hO rfl hP rfl hl.1 rfl (Nat.le_of_ble_eq_true rfl) dX11_some_234 ⟨Nat.zero_le _, Nat.zero_le _⟩ hS (fun _ h9 => h9) (fun H locs hP hz9 hk9 hS => ?_)
                            obtain ⟨hO, hA, hS1, h8, hln, hne9⟩ := id hP
                            refine W.eq (g2 := F0 m 237 ls ([.int (nI (nB (decide (TL f (LFd f d c9 e9) t1 q 3 (vo f x) = 2))))])) rfl ?_
                            refine zb_if_eq (tgt := 242) hx hb dX11_some_237 (by decide) (fun c_237 => ?_) (fun c_237 => ?_)
                            · have hs9 := hs.trans (rowF_y (Nat.ne_of_lt hr2) c_220)
                              have hr29 : max r (TL f (LFd f d c9 e9) t1 q 3 (vo f x)) < 2 := by have := of_decide_eq_false c_237; have := TL_lt (f := f) (LF := LFd f d c9 e9) t1 q 3 (vo f x); omega
                              have hP := hP.to (dmax u r (TL f (LFd f d c9 e9) t1 q 3 (vo f x)))
                              obtain ⟨hO, hA, hS1, h8, hln, hne9⟩ := id hP
                              refine lv_aload_n hx hb dX11_some_242 rfl (lv_at hl 0 rfl) ?_
                              refine lv_iload hx hb dX11_some_243 (lv_at hl 5 rfl) ?_
                              refine zc_V (As := [.int (nI (x))]) (rest := []) ⟨hx, hb, hml, hown, hts⟩ (m_nextOf l G o qs (zM fs (u || decide (max r (TL f (LFd f d c9 e9) t1 q 3 (vo f x)) ≠ 0))) f x hok) (cwV 1 hts (zgV wm_X11_140 wv_X11_nextOf) rfl rfl rfl (by decide +kernel) ⟨show 2 + 1 ≤ 30 * d + 51 + (t + 1) by omega, show 8 + (4 + 11) + (43) ≤ 900 * d + 1290 + 27 * (t + 1) by omega⟩) hK hO rfl hP.mv rfl hl.1 rfl (Nat.le_of_ble_eq_true rfl) dX11_some_245 ⟨Nat.zero_le _, Nat.zero_le _⟩ ?_
                              refine lv_istore (lv' := [(7, .int (nI (nx f x))), (0, .ref (o)), (1, .int (nI (c9))), (2, .int (nI (e9))), (3, .int (nI (q))), (5, .int (nI (a)))]) hx hb dX11_some_248 hl (by decide) rfl (fun ls hl => ?_)
                              refine lv_goto (tgt := 207) hx hb dX11_some_250 (by decide) ?_
                              exact ih_ (nx f x) (X') (max r (TL f (LFd f d c9 e9) t1 q 3 (vo f x))) (by simp at hm_; omega) hc' (Ch.lt (by decide) hc') (fun z hz => hXi z (List.mem_cons_of_mem _ hz)) hs9 hr29 _ _ hP hS ls (lv_sub hl [1, 2, 3, 4, 5, 0] rfl)
                            · refine lv_iconst (v := nI 1) hx hb dX11_some_240 (by decide) ?_
                              exact zr_ze hx hb hr hlocks (by rw [hs, rowF_y (Nat.ne_of_lt hr2) c_220, of_decide_eq_true c_237, show max r 2 = 2 by omega, rowF_2]; rfl) (MM.to (by rw [hs, rowF_y (Nat.ne_of_lt hr2) c_220, of_decide_eq_true c_237, show max r 2 = 2 by omega, rowF_2]; cases u <;> cases (decide (r ≠ 0)) <;> rfl) hP) hS dX11_some_241
                    exact L207 (((els f a).length) + 1) (fi f a) (els f a) 0 (Nat.lt_succ_self _) hkB.1.2 hf1 (fun _ z => z) hr0 (by decide) _ _ hP hS ls (lv_sub hl [1, 2, 3, 4, 6, 0] rfl)
                  · have hyi : y ∈ els f a := by rw [← hy]; exact fnd_in (by rw [hy]; omega)
                    have hyo := ch_ok hkB.1.2 hyi
                    have hyl := hyo.1.lt
                    refine lv_aload_n hx hb dX11_some_170 rfl (lv_at hl 0 rfl) ?_
                    refine lv_iload_n hx hb dX11_some_171 rfl (lv_at hl 1 rfl) ?_
                    refine lv_iload_n hx hb dX11_some_172 rfl (lv_at hl 2 rfl) ?_
                    refine lv_aload_n hx hb dX11_some_173 rfl (lv_at hl 0 rfl) ?_
                    refine lv_iload_n hx hb dX11_some_174 rfl (lv_at hl 3 rfl) ?_
                    refine zc_V (As := [.int (nI (q))]) (rest := [.int (nI (e9)), .int (nI (c9)), .ref (o)]) ⟨hx, hb, hml, hown, hts⟩ (m_nextStep l G o qs (zM fs (u)) f q hqs.1) (cwV 1 hts (zgV wm_X11_296 wv_X11_nextStep) rfl rfl rfl (by decide +kernel) ⟨show 0 + 1 ≤ 30 * d + 51 + (t + 1) by omega, show 8 + (3 + 11) + (0) ≤ 900 * d + 1290 + 27 * (t + 1) by omega⟩) hK hO rfl hP.mv rfl hl.1 rfl (Nat.le_of_ble_eq_true rfl) dX11_some_175 ⟨Nat.zero_le _, Nat.zero_le _⟩ ?_
                    refine lv_aload_n hx hb dX11_some_178 rfl (lv_at hl 0 rfl) ?_
                    refine zi_get (C := RX11) (T := TX11) (N := 23) (v := .ref (qs)) hx hb hz wo_X11 hown hK hO rfl 1 (by decide) (hz _ wf_X11_7) (fun _ h9 => h9) (MM.s1 hS1) dX11_some_179 ?_
                    refine lv_iload hx hb dX11_some_182 (lv_at hl 6 rfl) ?_
                    refine zi_ald hx hb hK hA (by omega) (by decide) dX11_some_184 ?_
                    refine lv_aload_n hx hb dX11_some_185 rfl (lv_at hl 0 rfl) ?_
                    refine lv_iload hx hb dX11_some_186 (lv_at hl 6 rfl) ?_
                    refine zc_V (As := [.int (nI (y))]) (rest := [.int (nI (f y)), .int (nI (nS f q)), .int (nI (e9)), .int (nI (c9)), .ref (o)]) ⟨hx, hb, hml, hown, hts⟩ (m_valueOf l G o qs (zM fs (u)) f y hyo.1.1) (cwV 1 hts (zgV wm_X11_131 wv_X11_valueOf) rfl rfl rfl (by decide +kernel) ⟨show 1 + 1 ≤ 30 * d + 51 + (t + 1) by omega, show 8 + (2 + 11) + (22) ≤ 900 * d + 1290 + 27 * (t + 1) by omega⟩) hK hO rfl hP.mv rfl hl.1 rfl (Nat.le_of_ble_eq_true rfl) dX11_some_188 ⟨Nat.zero_le _, Nat.zero_le _⟩ ?_
                    refine zc_VE (As := [.int (nI (c9)), .int (nI (e9)), .int (nI (nS f q)), .int (nI (f y)), .int (nI (vo f y))]) (rest := []) ⟨hx, hb, hml, hown, hts⟩ (IH t1 ht1 (nS f q) (f y) (vo f y) (u) hqs.2 (hkB.2 y hyi)) (cwV 5 hts (zgV wm_X11_290 wv_X11_some) rfl rfl rfl (by decide +kernel) ⟨show 30 * d + 51 + (t1 + 1) + 1 ≤ 30 * d + 51 + (t + 1) by omega, show 8 + (8 + 11) + (900 * d + 1290 + 27 * (t1 + 1)) ≤ 900 * d + 1290 + 27 * (t + 1) by omega⟩) hK hO rfl hP rfl hl.1 rfl (Nat.le_of_ble_eq_true rfl) dX11_some_191 ⟨Nat.zero_le _, Nat.zero_le _⟩ hS (fun _ h9 => h9) (fun H locs hP hz9 hk9 hS => ?_)
                    obtain ⟨hO, hA, hS1, h8, hln, hne9⟩ := id hP
                    refine W.eq (g2 := F0 m 194 ls ([.int (nI (nB (decide (TL f (LFd f d c9 e9) t1 (nS f q) (f y) (vo f y) = 2))))])) rfl ?_
                    refine zb_if_eq (tgt := 199) hx hb dX11_some_194 (by decide) (fun c_194 => ?_) (fun c_194 => ?_)
                    · have hr0 : TL f (LFd f d c9 e9) t q k a = rowF (fun x => TL f (LFd f d c9 e9) t1 q 3 (vo f x)) f (els f a) (TL f (LFd f d c9 e9) t1 (nS f q) (f y) (vo f y)) := by rw [TLx_4 ht1 hk4 hq0 hy, if_neg (by omega)]
                      have hr2 : TL f (LFd f d c9 e9) t1 (nS f q) (f y) (vo f y) < 2 := by have := of_decide_eq_false c_194; have := TL_lt (f := f) (LF := LFd f d c9 e9) t1 (nS f q) (f y) (vo f y); omega
                      refine lv_aload_n hx hb dX11_some_199 rfl (lv_at hl 0 rfl) ?_
                      refine lv_iload hx hb dX11_some_200 (lv_at hl 5 rfl) ?_
                      refine zc_V (As := [.int (nI (a))]) (rest := []) ⟨hx, hb, hml, hown, hts⟩ (m_firstOf l G o qs (zM fs ((u) || decide (TL f (LFd f d c9 e9) t1 (nS f q) (f y) (vo f y) ≠ 0))) f a hkB.1.1) (cwV 1 hts (zgV wm_X11_137 wv_X11_firstOf) rfl rfl rfl (by decide +kernel) ⟨show 0 + 1 ≤ 30 * d + 51 + (t + 1) by omega, show 8 + (2 + 11) + (0) ≤ 900 * d + 1290 + 27 * (t + 1) by omega⟩) hK hO rfl hP.mv rfl hl.1 rfl (Nat.le_of_ble_eq_true rfl) dX11_some_202 ⟨Nat.zero_le _, Nat.zero_le _⟩ ?_
                      refine lv_istore (lv' := [(7, .int (nI (fi f a))), (0, .ref (o)), (1, .int (nI (c9))), (2, .int (nI (e9))), (3, .int (nI (q))), (4, .int (nI (k))), (5, .int (nI (a))), (6, .int (nI (y)))]) hx hb dX11_some_205 hl (by decide) rfl (fun ls hl => ?_)
                      have L207 : ∀ (n_ : Nat) (x : Nat) (X : List Nat) (r : Nat), X.length < n_ → (Ch 18000 f x X) → (x < 18000) → (∀ z ∈ X, z ∈ els f a) → (TL f (LFd f d c9 e9) t q k a = rowF (fun x => TL f (LFd f d c9 e9) t1 q 3 (vo f x)) f X r) → (r < 2) → ∀ (H : Heap) (locs : List Loc), MM G o qs fs f (u || decide (r ≠ 0)) H → va_S (fun x => x = o) s.heap H locs → ∀ ls : Array Slot, lv_has ls 8 [(0, .ref (o)), (1, .int (nI (c9))), (2, .int (nI (e9))), (3, .int (nI (q))), (5, .int (nI (a))), (7, .int (nI (x)))] → W p l en (headSpec wsX11_some (rTL d (t + 1))).room s m ([.ref (o), .int (nI (c9)), .int (nI (e9)), .int (nI (q)), .int (nI (k)), .int (nI (a))] : List Value).toArray below meth c H locs 0 0 (MQ below (zQ (fun x => x = o) (some (.int (nI (nB (decide (TL f (LFd f d c9 e9) t q k a = 2)))))) (fun H => MM G o qs fs f (u || decide (TL f (LFd f d c9 e9) t q k a ≠ 0)) H)) ([.ref (o), .int (nI (c9)), .int (nI (e9)), .int (nI (q)), .int (nI (k)), .int (nI (a))] : List Value).toArray s 0 0 (fun x => x = o)) (F0 m 207 ls []) := by
                        intro n_
                        induction n_ with
                        | zero => intro x X r hm_; exact absurd hm_ (Nat.not_lt_zero _)
                        | succ n_ ih_ =>
                          intro x X r hm_ hc hxl hXi hs hr2 H locs hP hS ls hl
                          obtain ⟨hO, hA, hS1, h8, hln, hne9⟩ := id hP
                          refine lv_iload hx hb dX11_some_207 (lv_at hl 5 rfl) ?_
                          refine zi_if_le (tgt := 253) hx hb dX11_some_209 (by decide) (by omega) (fun c_209 => ?_) (fun c_209 => ?_)
                          · have hX0 := hc.nil c_209
                            subst hX0
                            refine lv_iconst (v := nI 0) hx hb dX11_some_253 (by decide) ?_
                            exact zr_ze hx hb hr hlocks (by rw [hs, decide_eq_false (show rowF (fun x => TL f (LFd f d c9 e9) t1 q 3 (vo f x)) f [] r ≠ 2 from Nat.ne_of_lt hr2)]; rfl) (MM.to (by rw [hs]; rfl) hP) hS dX11_some_254
                          · obtain ⟨X', rfl, hok, hc'⟩ := hc.cons c_209
                            have hx9 := hXi x List.mem_cons_self
                            refine lv_aload_n hx hb dX11_some_212 rfl (lv_at hl 0 rfl) ?_
                            refine zi_get (C := RX11) (T := TX11) (N := 23) (v := .ref (qs)) hx hb hz wo_X11 hown hK hO rfl 1 (by decide) (hz _ wf_X11_7) (fun _ h9 => h9) (MM.s1 hS1) dX11_some_213 ?_
                            refine lv_iload hx hb dX11_some_216 (lv_at hl 5 rfl) ?_
                            refine zi_ald hx hb hK hA (by omega) (by decide) dX11_some_218 ?_
                            refine lv_iconst (v := nI 3) hx hb dX11_some_219 (by decide) ?_
                            refine zi_icmp_ne (tgt := 242) hx hb dX11_some_220 (by decide) (Nat.lt_trans (h8 _) (by decide)) (by omega) (fun c_220 => ?_) (fun c_220 => ?_)
                            · have hs9 := hs.trans (rowF_n (Nat.ne_of_lt hr2) c_220)
                              refine lv_aload_n hx hb dX11_some_242 rfl (lv_at hl 0 rfl) ?_
                              refine lv_iload hx hb dX11_some_243 (lv_at hl 5 rfl) ?_
                              refine zc_V (As := [.int (nI (x))]) (rest := []) ⟨hx, hb, hml, hown, hts⟩ (m_nextOf l G o qs (zM fs (u || decide (r ≠ 0))) f x hok) (cwV 1 hts (zgV wm_X11_140 wv_X11_nextOf) rfl rfl rfl (by decide +kernel) ⟨show 2 + 1 ≤ 30 * d + 51 + (t + 1) by omega, show 8 + (4 + 11) + (43) ≤ 900 * d + 1290 + 27 * (t + 1) by omega⟩) hK hO rfl hP.mv rfl hl.1 rfl (Nat.le_of_ble_eq_true rfl) dX11_some_245 ⟨Nat.zero_le _, Nat.zero_le _⟩ ?_
                              refine lv_istore (lv' := [(7, .int (nI (nx f x))), (0, .ref (o)), (1, .int (nI (c9))), (2, .int (nI (e9))), (3, .int (nI (q))), (5, .int (nI (a)))]) hx hb dX11_some_248 hl (by decide) rfl (fun ls hl => ?_)
                              refine lv_goto (tgt := 207) hx hb dX11_some_250 (by decide) ?_
                              exact ih_ (nx f x) (X') r (by simp at hm_; omega) hc' (Ch.lt (by decide) hc') (fun z hz => hXi z (List.mem_cons_of_mem _ hz)) hs9 hr2 _ _ hP hS ls (lv_sub hl [1, 2, 3, 4, 5, 0] rfl)
                            · refine lv_aload_n hx hb dX11_some_223 rfl (lv_at hl 0 rfl) ?_
                              refine lv_iload_n hx hb dX11_some_224 rfl (lv_at hl 1 rfl) ?_
                              refine lv_iload_n hx hb dX11_some_225 rfl (lv_at hl 2 rfl) ?_
                              refine lv_iload_n hx hb dX11_some_226 rfl (lv_at hl 3 rfl) ?_
                              refine lv_iconst (v := nI 3) hx hb dX11_some_227 (by decide) ?_
                              refine lv_aload_n hx hb dX11_some_228 rfl (lv_at hl 0 rfl) ?_
                              refine lv_iload hx hb dX11_some_229 (lv_at hl 5 rfl) ?_
                              refine zc_V (As := [.int (nI (x))]) (rest := [.int (nI (3)), .int (nI (q)), .int (nI (e9)), .int (nI (c9)), .ref (o)]) ⟨hx, hb, hml, hown, hts⟩ (m_valueOf l G o qs (zM fs (u || decide (r ≠ 0))) f x hok.1) (cwV 1 hts (zgV wm_X11_131 wv_X11_valueOf) rfl rfl rfl (by decide +kernel) ⟨show 1 + 1 ≤ 30 * d + 51 + (t + 1) by omega, show 8 + (2 + 11) + (22) ≤ 900 * d + 1290 + 27 * (t + 1) by omega⟩) hK hO rfl hP.mv rfl hl.1 rfl (Nat.le_of_ble_eq_true rfl) dX11_some_231 ⟨Nat.zero_le _, Nat.zero_le _⟩ ?_
                              refine zc_VE (As := [.int (nI (c9)), .int (nI (e9)), .int (nI (q)), .int (nI (3)), .int (nI (vo f x))]) (rest := []) ⟨hx, hb, hml, hown, hts⟩ (IH t1 ht1 q 3 (vo f x) (u || decide (r ≠ 0)) hq (by have h7 := hkB.2 x hx9; rwa [c_220] at h7)) (cwV 5 hts (zgV wm_X11_290 wv_X11_some) rfl rfl rfl (by decide +kernel) ⟨show 30 * d + 51 + (t1 + 1) + 1 ≤ 30 * d + 51 + (t + 1) by omega, show 8 + (8 + 11) + (900 * d + 1290 + 27 * (t1 + 1)) ≤ 900 * d + 1290 + 27 * (t + 1) by omega⟩) hK hO rfl hP rfl hl.1 rfl (Nat.le_of_ble_eq_true rfl) dX11_some_234 ⟨Nat.zero_le _, Nat.zero_le _⟩ hS (fun _ h9 => h9) (fun H locs hP hz9 hk9 hS => ?_)
                              obtain ⟨hO, hA, hS1, h8, hln, hne9⟩ := id hP
                              refine W.eq (g2 := F0 m 237 ls ([.int (nI (nB (decide (TL f (LFd f d c9 e9) t1 q 3 (vo f x) = 2))))])) rfl ?_
                              refine zb_if_eq (tgt := 242) hx hb dX11_some_237 (by decide) (fun c_237 => ?_) (fun c_237 => ?_)
                              · have hs9 := hs.trans (rowF_y (Nat.ne_of_lt hr2) c_220)
                                have hr29 : max r (TL f (LFd f d c9 e9) t1 q 3 (vo f x)) < 2 := by have := of_decide_eq_false c_237; have := TL_lt (f := f) (LF := LFd f d c9 e9) t1 q 3 (vo f x); omega
                                have hP := hP.to (dmax u r (TL f (LFd f d c9 e9) t1 q 3 (vo f x)))
                                obtain ⟨hO, hA, hS1, h8, hln, hne9⟩ := id hP
                                refine lv_aload_n hx hb dX11_some_242 rfl (lv_at hl 0 rfl) ?_
                                refine lv_iload hx hb dX11_some_243 (lv_at hl 5 rfl) ?_
                                refine zc_V (As := [.int (nI (x))]) (rest := []) ⟨hx, hb, hml, hown, hts⟩ (m_nextOf l G o qs (zM fs (u || decide (max r (TL f (LFd f d c9 e9) t1 q 3 (vo f x)) ≠ 0))) f x hok) (cwV 1 hts (zgV wm_X11_140 wv_X11_nextOf) rfl rfl rfl (by decide +kernel) ⟨show 2 + 1 ≤ 30 * d + 51 + (t + 1) by omega, show 8 + (4 + 11) + (43) ≤ 900 * d + 1290 + 27 * (t + 1) by omega⟩) hK hO rfl hP.mv rfl hl.1 rfl (Nat.le_of_ble_eq_true rfl) dX11_some_245 ⟨Nat.zero_le _, Nat.zero_le _⟩ ?_
                                refine lv_istore (lv' := [(7, .int (nI (nx f x))), (0, .ref (o)), (1, .int (nI (c9))), (2, .int (nI (e9))), (3, .int (nI (q))), (5, .int (nI (a)))]) hx hb dX11_some_248 hl (by decide) rfl (fun ls hl => ?_)
                                refine lv_goto (tgt := 207) hx hb dX11_some_250 (by decide) ?_
                                exact ih_ (nx f x) (X') (max r (TL f (LFd f d c9 e9) t1 q 3 (vo f x))) (by simp at hm_; omega) hc' (Ch.lt (by decide) hc') (fun z hz => hXi z (List.mem_cons_of_mem _ hz)) hs9 hr29 _ _ hP hS ls (lv_sub hl [1, 2, 3, 4, 5, 0] rfl)
                              · refine lv_iconst (v := nI 1) hx hb dX11_some_240 (by decide) ?_
                                exact zr_ze hx hb hr hlocks (by rw [hs, rowF_y (Nat.ne_of_lt hr2) c_220, of_decide_eq_true c_237, show max r 2 = 2 by omega, rowF_2]; rfl) (MM.to (by rw [hs, rowF_y (Nat.ne_of_lt hr2) c_220, of_decide_eq_true c_237, show max r 2 = 2 by omega, rowF_2]; cases u <;> cases (decide (r ≠ 0)) <;> rfl) hP) hS dX11_some_241
                      exact L207 (((els f a).length) + 1) (fi f a) (els f a) (TL f (LFd f d c9 e9) t1 (nS f q) (f y) (vo f y)) (Nat.lt_succ_self _) hkB.1.2 hf1 (fun _ z => z) hr0 hr2 _ _ hP hS ls (lv_sub hl [1, 2, 3, 4, 6, 0] rfl)
                    · refine lv_iconst (v := nI 1) hx hb dX11_some_197 (by decide) ?_
                      exact zr_ze hx hb hr hlocks (by rw [TLx_4 ht1 hk4 c_1 hy, if_neg (by omega), of_decide_eq_true c_194, rowF_2]; rfl) (MM.to (by rw [TLx_4 ht1 hk4 c_1 hy, if_neg (by omega), of_decide_eq_true c_194, rowF_2]) hP) hS dX11_some_198
                · refine lv_iload hx hb dX11_some_123 (lv_at hl 6 rfl) ?_
                  refine zi_if_le (tgt := 155) hx hb dX11_some_125 (by decide) (by omega) (fun c_125 => ?_) (fun c_125 => ?_)
                  · refine lv_aload_n hx hb dX11_some_155 rfl (lv_at hl 0 rfl) ?_
                    refine lv_iload_n hx hb dX11_some_156 rfl (lv_at hl 1 rfl) ?_
                    refine lv_iload_n hx hb dX11_some_157 rfl (lv_at hl 2 rfl) ?_
                    refine lv_iconst (v := nI 0) hx hb dX11_some_158 (by decide) ?_
                    refine lv_iconst (v := nI 0) hx hb dX11_some_159 (by decide) ?_
                    refine lv_iconst (v := nI 0) hx hb dX11_some_160 (by decide) ?_
                    refine zc_VE (As := [.int (nI (c9)), .int (nI (e9)), .int (nI (0)), .int (nI (0)), .int (nI (0))]) (rest := []) ⟨hx, hb, hml, hown, hts⟩ (m_leaf l G o qs fs f d c9 e9 hal hfh hlf 0 0 (u) (okV_0 f 16)) (cwV 5 hts (zgV wm_X11_290 wv_X11_some) rfl rfl rfl (by decide +kernel) ⟨show 30 * d + 51 + 0 + 1 ≤ 30 * d + 51 + (t + 1) by omega, show 8 + (8 + 11) + (900 * d + 1290 + 27 * 0) ≤ 900 * d + 1290 + 27 * (t + 1) by omega⟩) hK hO rfl hP rfl hl.1 rfl (Nat.le_of_ble_eq_true rfl) dX11_some_161 ⟨Nat.zero_le _, Nat.zero_le _⟩ hS (fun _ h9 => h9) (fun H locs hP hz9 hk9 hS => ?_)
                    obtain ⟨hO, hA, hS1, h8, hln, hne9⟩ := id hP
                    refine W.eq (g2 := F0 m 164 ls ([.int (nI (nB (LFd f d c9 e9 0 0)))])) rfl ?_
                    exact zr_ze hx hb hr hlocks (by rw [TLx_3n ht1 c_120 c_1 (by rw [hy]; exact c_125), d1B]) (MM.to (by rw [TLx_3n ht1 c_120 c_1 (by rw [hy]; exact c_125), d1N]) hP) hS dX11_some_164
                  · have hyi : y ∈ els f a := by rw [← hy]; exact fnd_in (by rw [hy]; omega)
                    have hyo := ch_ok hkB.1.2 hyi
                    have hyl := hyo.1.lt
                    refine lv_aload_n hx hb dX11_some_128 rfl (lv_at hl 0 rfl) ?_
                    refine lv_iload_n hx hb dX11_some_129 rfl (lv_at hl 1 rfl) ?_
                    refine lv_iload_n hx hb dX11_some_130 rfl (lv_at hl 2 rfl) ?_
                    refine lv_aload_n hx hb dX11_some_131 rfl (lv_at hl 0 rfl) ?_
                    refine lv_iload_n hx hb dX11_some_132 rfl (lv_at hl 3 rfl) ?_
                    refine zc_V (As := [.int (nI (q))]) (rest := [.int (nI (e9)), .int (nI (c9)), .ref (o)]) ⟨hx, hb, hml, hown, hts⟩ (m_nextStep l G o qs (zM fs (u)) f q hqs.1) (cwV 1 hts (zgV wm_X11_296 wv_X11_nextStep) rfl rfl rfl (by decide +kernel) ⟨show 0 + 1 ≤ 30 * d + 51 + (t + 1) by omega, show 8 + (3 + 11) + (0) ≤ 900 * d + 1290 + 27 * (t + 1) by omega⟩) hK hO rfl hP.mv rfl hl.1 rfl (Nat.le_of_ble_eq_true rfl) dX11_some_133 ⟨Nat.zero_le _, Nat.zero_le _⟩ ?_
                    refine lv_aload_n hx hb dX11_some_136 rfl (lv_at hl 0 rfl) ?_
                    refine zi_get (C := RX11) (T := TX11) (N := 23) (v := .ref (qs)) hx hb hz wo_X11 hown hK hO rfl 1 (by decide) (hz _ wf_X11_7) (fun _ h9 => h9) (MM.s1 hS1) dX11_some_137 ?_
                    refine lv_iload hx hb dX11_some_140 (lv_at hl 6 rfl) ?_
                    refine zi_ald hx hb hK hA (by omega) (by decide) dX11_some_142 ?_
                    refine lv_aload_n hx hb dX11_some_143 rfl (lv_at hl 0 rfl) ?_
                    refine lv_iload hx hb dX11_some_144 (lv_at hl 6 rfl) ?_
                    refine zc_V (As := [.int (nI (y))]) (rest := [.int (nI (f y)), .int (nI (nS f q)), .int (nI (e9)), .int (nI (c9)), .ref (o)]) ⟨hx, hb, hml, hown, hts⟩ (m_valueOf l G o qs (zM fs (u)) f y hyo.1.1) (cwV 1 hts (zgV wm_X11_131 wv_X11_valueOf) rfl rfl rfl (by decide +kernel) ⟨show 1 + 1 ≤ 30 * d + 51 + (t + 1) by omega, show 8 + (2 + 11) + (22) ≤ 900 * d + 1290 + 27 * (t + 1) by omega⟩) hK hO rfl hP.mv rfl hl.1 rfl (Nat.le_of_ble_eq_true rfl) dX11_some_146 ⟨Nat.zero_le _, Nat.zero_le _⟩ ?_
                    refine zc_VE (As := [.int (nI (c9)), .int (nI (e9)), .int (nI (nS f q)), .int (nI (f y)), .int (nI (vo f y))]) (rest := []) ⟨hx, hb, hml, hown, hts⟩ (IH t1 ht1 (nS f q) (f y) (vo f y) (u) hqs.2 (hkB.2 y hyi)) (cwV 5 hts (zgV wm_X11_290 wv_X11_some) rfl rfl rfl (by decide +kernel) ⟨show 30 * d + 51 + (t1 + 1) + 1 ≤ 30 * d + 51 + (t + 1) by omega, show 8 + (8 + 11) + (900 * d + 1290 + 27 * (t1 + 1)) ≤ 900 * d + 1290 + 27 * (t + 1) by omega⟩) hK hO rfl hP rfl hl.1 rfl (Nat.le_of_ble_eq_true rfl) dX11_some_149 ⟨Nat.zero_le _, Nat.zero_le _⟩ hS (fun _ h9 => h9) (fun H locs hP hz9 hk9 hS => ?_)
                    obtain ⟨hO, hA, hS1, h8, hln, hne9⟩ := id hP
                    refine W.eq (g2 := F0 m 152 ls ([.int (nI (nB (decide (TL f (LFd f d c9 e9) t1 (nS f q) (f y) (vo f y) = 2))))])) rfl ?_
                    refine lv_goto (tgt := 164) hx hb dX11_some_152 (by decide) ?_
                    exact zr_ze hx hb hr hlocks (by rw [TLx_3 ht1 c_120 c_1 hy (by omega)]) (MM.to (by rw [TLx_3 ht1 c_120 c_1 hy (by omega)]) hP) hS dX11_some_164
              · obtain ⟨X', rfl, hok, hc'⟩ := hc.cons c_80
                have hx9 := hXi x List.mem_cons_self
                refine lv_aload_n hx hb dX11_some_88 rfl (lv_at hl 0 rfl) ?_
                refine lv_iload_n hx hb dX11_some_89 rfl (lv_at hl 3 rfl) ?_
                refine lv_iload hx hb dX11_some_90 (lv_at hl 7 rfl) ?_
                refine zc_V (As := [.int (nI (q)), .int (nI (x))]) (rest := []) ⟨hx, hb, hml, hown, hts⟩ (m_isStep l G o qs (zM fs (u)) f q x hqs.1 hok.1) (cwV 2 hts (zgV wm_X11_293 wv_X11_isStep) rfl rfl rfl (by decide +kernel) ⟨show 0 + 1 ≤ 30 * d + 51 + (t + 1) by omega, show 8 + (4 + 11) + (0) ≤ 900 * d + 1290 + 27 * (t + 1) by omega⟩) hK hO rfl hP.mv rfl hl.1 rfl (Nat.le_of_ble_eq_true rfl) dX11_some_92 ⟨Nat.zero_le _, Nat.zero_le _⟩ ?_
                refine zb_if_eq (tgt := 103) hx hb dX11_some_95 (by decide) (fun c_95 => ?_) (fun c_95 => ?_)
                · refine lv_iconst (v := nI 0) hx hb dX11_some_103 (by decide) ?_
                  refine lv_istore (lv' := [(6, .int (nI (0))), (0, .ref (o)), (1, .int (nI (c9))), (2, .int (nI (e9))), (3, .int (nI (q))), (4, .int (nI (k))), (5, .int (nI (a))), (7, .int (nI (x)))]) hx hb dX11_some_104 hl (by decide) rfl (fun ls hl => ?_)
                  refine lv_aload_n hx hb dX11_some_106 rfl (lv_at hl 1 rfl) ?_
                  refine lv_iload hx hb dX11_some_107 (lv_at hl 7 rfl) ?_
                  refine zc_V (As := [.int (nI (x))]) (rest := []) ⟨hx, hb, hml, hown, hts⟩ (m_nextOf l G o qs (zM fs (u)) f x hok) (cwV 1 hts (zgV wm_X11_140 wv_X11_nextOf) rfl rfl rfl (by decide +kernel) ⟨show 2 + 1 ≤ 30 * d + 51 + (t + 1) by omega, show 8 + (4 + 11) + (43) ≤ 900 * d + 1290 + 27 * (t + 1) by omega⟩) hK hO rfl hP.mv rfl hl.1 rfl (Nat.le_of_ble_eq_true rfl) dX11_some_109 ⟨Nat.zero_le _, Nat.zero_le _⟩ ?_
                  refine lv_istore (lv' := [(7, .int (nI (nx f x))), (6, .int (nI (0))), (0, .ref (o)), (1, .int (nI (c9))), (2, .int (nI (e9))), (3, .int (nI (q))), (4, .int (nI (k))), (5, .int (nI (a)))]) hx hb dX11_some_112 hl (by decide) rfl (fun ls hl => ?_)
                  refine lv_goto (tgt := 78) hx hb dX11_some_114 (by decide) ?_
                  exact ih_ (nx f x) (X') 0 (by simp at hm_; omega) hc' (Ch.lt (by decide) hc') (fun z hz => hXi z (List.mem_cons_of_mem _ hz)) (by decide) (by rw [hfd, if_pos c_85, fnd_n (of_decide_eq_false c_95)]; rfl) _ _ hP hS ls (lv_sub hl [2, 3, 4, 5, 6, 7, 1, 0] rfl)
                · refine lv_iload hx hb dX11_some_98 (lv_at hl 7 rfl) ?_
                  refine lv_goto (tgt := 104) hx hb dX11_some_100 (by decide) ?_
                  refine lv_istore (lv' := [(6, .int (nI (x))), (0, .ref (o)), (1, .int (nI (c9))), (2, .int (nI (e9))), (3, .int (nI (q))), (4, .int (nI (k))), (5, .int (nI (a))), (7, .int (nI (x)))]) hx hb dX11_some_104 hl (by decide) rfl (fun ls hl => ?_)
                  refine lv_aload_n hx hb dX11_some_106 rfl (lv_at hl 1 rfl) ?_
                  refine lv_iload hx hb dX11_some_107 (lv_at hl 7 rfl) ?_
                  refine zc_V (As := [.int (nI (x))]) (rest := []) ⟨hx, hb, hml, hown, hts⟩ (m_nextOf l G o qs (zM fs (u)) f x hok) (cwV 1 hts (zgV wm_X11_140 wv_X11_nextOf) rfl rfl rfl (by decide +kernel) ⟨show 2 + 1 ≤ 30 * d + 51 + (t + 1) by omega, show 8 + (4 + 11) + (43) ≤ 900 * d + 1290 + 27 * (t + 1) by omega⟩) hK hO rfl hP.mv rfl hl.1 rfl (Nat.le_of_ble_eq_true rfl) dX11_some_109 ⟨Nat.zero_le _, Nat.zero_le _⟩ ?_
                  refine lv_istore (lv' := [(7, .int (nI (nx f x))), (6, .int (nI (x))), (0, .ref (o)), (1, .int (nI (c9))), (2, .int (nI (e9))), (3, .int (nI (q))), (4, .int (nI (k))), (5, .int (nI (a)))]) hx hb dX11_some_112 hl (by decide) rfl (fun ls hl => ?_)
                  refine lv_goto (tgt := 78) hx hb dX11_some_114 (by decide) ?_
                  exact ih_ (nx f x) (X') x (by simp at hm_; omega) hc' (Ch.lt (by decide) hc') (fun z hz => hXi z (List.mem_cons_of_mem _ hz)) hxl (by rw [hfd, if_pos c_85, fnd_y (of_decide_eq_true c_95), if_neg (by omega)]) _ _ hP hS ls (lv_sub hl [2, 3, 4, 5, 6, 7, 1, 0] rfl)
        exact L78 (((els f a).length) + 1) (fi f a) (els f a) 0 (Nat.lt_succ_self _) hkB.1.2 hf1 (fun _ z => z) (by decide) rfl _ _ hP hS ls (lv_sub hl [2, 3, 4, 5, 6, 7, 1, 0] rfl)
      · refine lv_aload_n hx hb dX11_some_57 rfl (lv_at hl 0 rfl) ?_
        refine lv_iload_n hx hb dX11_some_58 rfl (lv_at hl 1 rfl) ?_
        refine lv_iload_n hx hb dX11_some_59 rfl (lv_at hl 2 rfl) ?_
        refine lv_iconst (v := nI 0) hx hb dX11_some_60 (by decide) ?_
        refine lv_iconst (v := nI 0) hx hb dX11_some_61 (by decide) ?_
        refine lv_iconst (v := nI 0) hx hb dX11_some_62 (by decide) ?_
        refine zc_VE (As := [.int (nI (c9)), .int (nI (e9)), .int (nI (0)), .int (nI (0)), .int (nI (0))]) (rest := []) ⟨hx, hb, hml, hown, hts⟩ (m_leaf l G o qs fs f d c9 e9 hal hfh hlf 0 0 (u) (okV_0 f 16)) (cwV 5 hts (zgV wm_X11_290 wv_X11_some) rfl rfl rfl (by decide +kernel) ⟨show 30 * d + 51 + 0 + 1 ≤ 30 * d + 51 + (t + 1) by omega, show 8 + (8 + 11) + (900 * d + 1290 + 27 * 0) ≤ 900 * d + 1290 + 27 * (t + 1) by omega⟩) hK hO rfl hP rfl hl.1 rfl (Nat.le_of_ble_eq_true rfl) dX11_some_63 ⟨Nat.zero_le _, Nat.zero_le _⟩ hS (fun _ h9 => h9) (fun H locs hP hz9 hk9 hS => ?_)
        obtain ⟨hO, hA, hS1, h8, hln, hne9⟩ := id hP
        refine W.eq (g2 := F0 m 66 ls ([.int (nI (nB (LFd f d c9 e9 0 0)))])) rfl ?_
        exact zr_ze hx hb hr hlocks (by rw [TL_o c_1 c_48 c_54, d1B]) (MM.to (by rw [TL_o c_1 c_48 c_54, d1N]) hP) hS dX11_some_66
  · refine lv_aload_n hx hb dX11_some_4 rfl (lv_at hl 0 rfl) ?_
    refine lv_iconst (v := nI 1) hx hb dX11_some_5 (by decide) ?_
    refine zi_put (C := RX11) (T := TX11) (N := 23) (ty := .boolean) (v := .int (nI (nB (true)))) hx hb hz wo_X11 tyX11 tyX11_ok nmX11 hown hK hO rfl 22 (by decide) (hz _ wf_X11_283) (fun _ h9 => h9) rfl (by decide +kernel) (znar_b (true)) (zfit_b (true)) (by simp [zM]; omega) (A := (fun x => x = o)) rfl hS dX11_some_6 (fun H locs _ hk9 hO9 hS => ?_)
    have hP := hP.put (v := true) hk9 hO9
    obtain ⟨hO, hA, hS1, h8, hln, hne9⟩ := id hP
    refine lv_iload_n hx hb dX11_some_9 rfl (lv_at hl 1 rfl) ?_
    refine zi_if_le (tgt := 25) hx hb dX11_some_10 (by decide) (by omega) (fun c_10 => ?_) (fun c_10 => ?_)
    · refine lv_aload_n hx hb dX11_some_25 rfl (lv_at hl 0 rfl) ?_
      refine lv_iload hx hb dX11_some_26 (lv_at hl 4 rfl) ?_
      refine lv_iload hx hb dX11_some_28 (lv_at hl 5 rfl) ?_
      refine lv_aload_n hx hb dX11_some_30 rfl (lv_at hl 0 rfl) ?_
      refine zi_get (C := RX11) (T := TX11) (N := 23) (v := .ref (qs)) hx hb hz wo_X11 hown hK hO rfl 1 (by decide) (hz _ wf_X11_7) (fun _ h9 => h9) (MM.s1 hS1) dX11_some_31 ?_
      refine lv_iload_n hx hb dX11_some_34 rfl (lv_at hl 2 rfl) ?_
      refine zi_ald hx hb hK hA he9 (by decide) dX11_some_35 ?_
      refine lv_aload_n hx hb dX11_some_36 rfl (lv_at hl 0 rfl) ?_
      refine lv_iload_n hx hb dX11_some_37 rfl (lv_at hl 2 rfl) ?_
      refine zc_V (As := [.int (nI (e9))]) (rest := [.int (nI (f e9)), .int (nI (a)), .int (nI (k)), .ref (o)]) ⟨hx, hb, hml, hown, hts⟩ (m_valueOf l G o qs (zM fs (true)) f e9 (hlf.2.2.2 c_10).1.1) (cwV 1 hts (zgV wm_X11_131 wv_X11_valueOf) rfl rfl rfl (by decide +kernel) ⟨show 1 + 1 ≤ 30 * d + 51 + (t + 1) by omega, show 8 + (2 + 11) + (22) ≤ 900 * d + 1290 + 27 * (t + 1) by omega⟩) hK hO rfl hP.mv rfl hl.1 rfl (Nat.le_of_ble_eq_true rfl) dX11_some_38 ⟨Nat.zero_le _, Nat.zero_le _⟩ ?_
      refine zc_V (As := [.int (nI (k)), .int (nI (a)), .int (nI (f e9)), .int (nI (vo f e9))]) (rest := []) ⟨hx, hb, hml, hown, hts⟩ (m_isEqual l G o qs (zM fs (true)) f 16 k a (f e9) (vo f e9) hk16 (hlf.2.2.2 c_10).2) (cwV 4 hts (zgV wm_X11_271 wv_X11_isEqual) rfl rfl rfl (by decide +kernel) ⟨show 36 + 1 ≤ 30 * d + 51 + (t + 1) by omega, show 8 + (7 + 11) + (969) ≤ 900 * d + 1290 + 27 * (t + 1) by omega⟩) hK hO rfl hP.mv rfl hl.1 rfl (Nat.le_of_ble_eq_true rfl) dX11_some_41 ⟨Nat.zero_le _, Nat.zero_le _⟩ ?_
      exact zr_ze hx hb hr hlocks (by subst c_1; rw [TL_0, d1B]; unfold LFd LFo; rw [if_neg (by omega)]) (MM.to (by subst c_1; rw [TL_0, d1N]) hP) hS dX11_some_44
    · refine lv_aload_n hx hb dX11_some_13 rfl (lv_at hl 0 rfl) ?_
      refine lv_iload_n hx hb dX11_some_14 rfl (lv_at hl 1 rfl) ?_
      refine lv_iload hx hb dX11_some_15 (lv_at hl 4 rfl) ?_
      refine lv_iload hx hb dX11_some_17 (lv_at hl 5 rfl) ?_
      refine zc_VE (As := [.int (nI (c9)), .int (nI (k)), .int (nI (a))]) (rest := []) ⟨hx, hb, hml, hown, hts⟩ (m_does l G o qs fs f d c9 k a (true) hal hfh (hlf.2.2.1 c_10).1 (hlf.2.2.1 c_10).2.1 (hlf.2.2.1 c_10).2.2.1 hk16 (hlf.2.2.1 c_10).2.2.2.1 (hlf.2.2.1 c_10).2.2.2.2) (cwV 3 hts (zgV wm_X11_287 wv_X11_does) rfl rfl rfl (by decide +kernel) ⟨show 30 * d + 50 + 1 ≤ 30 * d + 51 + (t + 1) by omega, show 8 + (9 + 11) + (900 * d + 1260) ≤ 900 * d + 1290 + 27 * (t + 1) by omega⟩) hK hO rfl hP rfl hl.1 rfl (Nat.le_of_ble_eq_true rfl) dX11_some_19 ⟨Nat.zero_le _, Nat.zero_le _⟩ hS (fun _ h9 => h9) (fun H locs hP hz9 hk9 hS => ?_)
      obtain ⟨hO, hA, hS1, h8, hln, hne9⟩ := id hP
      refine W.eq (g2 := F0 m 22 ls ([.int (nI (nB (DO f (evF f d).1 (evF f d).2 c9 k a)))])) rfl ?_
      refine lv_goto (tgt := 44) hx hb dX11_some_22 (by decide) ?_
      exact zr_ze hx hb hr hlocks (by subst c_1; rw [TL_0, d1B]; unfold LFd LFo; rw [if_pos c_10]) (MM.to (by subst c_1; rw [TL_0, d1N]) hP) hS dX11_some_44
