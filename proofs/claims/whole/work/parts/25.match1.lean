set_option maxHeartbeats 4000000 in
set_option maxRecDepth 100000 in
theorem m_hasItem (l : Launch) (G : zG) (o qs : Nat) (fs : List Value) (f : Nat → Nat) (d a v : Nat) (u : Bool) (hal : C_all l G o qs fs f d) (hfh : C_fh l G o qs fs f d) (ha : Bx 18000 f a (els f a)) (hai : ∀ x ∈ els f a, okV f 16 (f x) (vo f x)) (hv5 : v + 5 < 18000) (hvB : Bx 18000 f v (els f v)) (hv1 : asC f v = true → (okFl f d).1 v) (hv2 : ¬ asC f v = true → (okFl f d).2 v) : Met l yX11_hasItem wsX11_hasItem (rHI d) (zP G [.ref (o), .int (nI (a)), .int (nI (v))] (fun H => MM G o qs fs f u H)) (zQ (fun x => x = o) (some (.int (nI (nB (HI f (evF f d).1 (evF f d).2 a v))))) (fun H => MM G o qs fs f (u) H)) 0 0 (fun x => x = o) := by
  refine Met.ofW (cc := cX11_hasItem) (maxL := 5) (ret := (some .boolean)) (by decide) rfl ?_
  intro p en s m args below meth c s₁ B hml hv
  obtain ⟨rfl, hP, hK⟩ := hv
  have hx := B.exec
  have hb := B.bytes
  have hr := B.returns
  have hts := atoms_spec (ws := wsX11_hasItem) B.pre
  have hz : ∀ w ∈ zW, w.before _ s = true := fun w h => hts w (List.mem_cons_of_mem _ h)
  have hown : s.vm.findClass RX11 = some m.cls := findClass_of_methodNamed B.named
  have hlocks := B.notSynchronized
  obtain ⟨hO, hA, hS1, h8, hln, hne9⟩ := id hP
  have hS : va_S (fun x => x = o) s.heap s.heap [] := va_S.rf
  have hf1 := ha.2.lt (by decide)
  have hl := lv_entry ([.ref (o), .int (nI (a)), .int (nI (v))]) (n := 5) (Nat.le_of_ble_eq_true rfl)
  rw [lg_entry_eq]
  generalize (lg_sl ([.ref (o), .int (nI (a)), .int (nI (v))]) ++ List.replicate (5 - (lg_sl ([.ref (o), .int (nI (a)), .int (nI (v))])).length) Slot.unset).toArray = ls at hl ⊢
  have hl : lv_has ls 5 [(0, .ref (o)), (1, .int (nI (a))), (2, .int (nI (v)))] := hl
  refine lv_aload_n hx hb dX11_hasItem_0 rfl (lv_at hl 0 rfl) ?_
  refine lv_iload_n hx hb dX11_hasItem_1 rfl (lv_at hl 2 rfl) ?_
  refine zc_V (As := [.int (nI (v))]) (rest := []) ⟨hx, hb, hml, hown, hts⟩ (m_asConditions l G o qs (zM fs (u)) f v hv5 (fun z => (bx_ok (x := 0) hvB z).1)) (cwV 1 hts (zgV wm_X11_240 wv_X11_asConditions) rfl rfl rfl (by decide +kernel) ⟨show 3 + 1 ≤ 30 * d + 49 by omega, show 8 + (2 + 11) + (68) ≤ 900 * d + 1230 by omega⟩) hK hO rfl hP.mv rfl hl.1 rfl (Nat.le_of_ble_eq_true rfl) dX11_hasItem_2 ⟨Nat.zero_le _, Nat.zero_le _⟩ ?_
  refine lv_istore_n (lv' := [(3, .int (nI (nB (asC f v)))), (0, .ref (o)), (1, .int (nI (a))), (2, .int (nI (v)))]) hx hb dX11_hasItem_5 rfl hl (by decide) rfl (fun ls hl => ?_)
  refine lv_aload_n hx hb dX11_hasItem_6 rfl (lv_at hl 1 rfl) ?_
  refine lv_iload_n hx hb dX11_hasItem_7 rfl (lv_at hl 2 rfl) ?_
  refine zc_V (As := [.int (nI (a))]) (rest := []) ⟨hx, hb, hml, hown, hts⟩ (m_firstOf l G o qs (zM fs (u)) f a ha.1) (cwV 1 hts (zgV wm_X11_137 wv_X11_firstOf) rfl rfl rfl (by decide +kernel) ⟨show 0 + 1 ≤ 30 * d + 49 by omega, show 8 + (2 + 11) + (0) ≤ 900 * d + 1230 by omega⟩) hK hO rfl hP.mv rfl hl.1 rfl (Nat.le_of_ble_eq_true rfl) dX11_hasItem_8 ⟨Nat.zero_le _, Nat.zero_le _⟩ ?_
  refine lv_istore (lv' := [(4, .int (nI (fi f a))), (3, .int (nI (nB (asC f v)))), (0, .ref (o)), (1, .int (nI (a))), (2, .int (nI (v)))]) hx hb dX11_hasItem_11 hl (by decide) rfl (fun ls hl => ?_)
  have L13 : ∀ (n_ : Nat) (x : Nat) (X : List Nat), X.length < n_ → (Ch 18000 f x X) → (x < 18000) → (∀ z ∈ X, z ∈ els f a) → (HI f (evF f d).1 (evF f d).2 a v = X.any (fun i => if asC f v = true then (evF f d).1 v 0 (f i) (vo f i) else decide (f i = 3) && (evF f d).2 v (vo f i))) → ∀ (H : Heap) (locs : List Loc), MM G o qs fs f (u) H → va_S (fun x => x = o) s.heap H locs → ∀ ls : Array Slot, lv_has ls 5 [(0, .ref (o)), (1, .int (nI (a))), (2, .int (nI (v))), (3, .int (nI (nB (asC f v)))), (4, .int (nI (x)))] → W p l en (headSpec wsX11_hasItem (rHI d)).room s m ([.ref (o), .int (nI (a)), .int (nI (v))] : List Value).toArray below meth c H locs 0 0 (MQ below (zQ (fun x => x = o) (some (.int (nI (nB (HI f (evF f d).1 (evF f d).2 a v))))) (fun H => MM G o qs fs f (u) H)) ([.ref (o), .int (nI (a)), .int (nI (v))] : List Value).toArray s 0 0 (fun x => x = o)) (F0 m 13 ls []) := by
    intro n_
    induction n_ with
    | zero => intro x X hm_; exact absurd hm_ (Nat.not_lt_zero _)
    | succ n_ ih_ =>
      intro x X hm_ hc hxl hXi hs H locs hP hS ls hl
      obtain ⟨hO, hA, hS1, h8, hln, hne9⟩ := id hP
      refine lv_iload hx hb dX11_hasItem_13 (lv_at hl 4 rfl) ?_
      refine zi_if_le (tgt := 85) hx hb dX11_hasItem_15 (by decide) (by omega) (fun c_15 => ?_) (fun c_15 => ?_)
      · have hX0 := hc.nil c_15
        subst hX0
        refine lv_iconst (v := nI 0) hx hb dX11_hasItem_85 (by decide) ?_
        exact zr_ze hx hb hr hlocks (by rw [hs]; rfl) (hP) hS dX11_hasItem_86
      · obtain ⟨X', rfl, hok, hc'⟩ := hc.cons c_15
        have hx9 := hXi x List.mem_cons_self
        refine lv_iload_n hx hb dX11_hasItem_18 rfl (lv_at hl 3 rfl) ?_
        refine zb_if_eq (tgt := 47) hx hb dX11_hasItem_19 (by decide) (fun c_19 => ?_) (fun c_19 => ?_)
        · refine lv_aload_n hx hb dX11_hasItem_47 rfl (lv_at hl 0 rfl) ?_
          refine zi_get (C := RX11) (T := TX11) (N := 23) (v := .ref (qs)) hx hb hz wo_X11 hown hK hO rfl 1 (by decide) (hz _ wf_X11_7) (fun _ h9 => h9) (MM.s1 hS1) dX11_hasItem_48 ?_
          refine lv_iload hx hb dX11_hasItem_51 (lv_at hl 4 rfl) ?_
          refine zi_ald hx hb hK hA (by omega) (by decide) dX11_hasItem_53 ?_
          refine lv_iconst (v := nI 3) hx hb dX11_hasItem_54 (by decide) ?_
          refine zi_icmp_ne (tgt := 74) hx hb dX11_hasItem_55 (by decide) (Nat.lt_trans (h8 _) (by decide)) (by omega) (fun c_55 => ?_) (fun c_55 => ?_)
          · have hd9 : (fun i => if asC f v = true then (evF f d).1 v 0 (f i) (vo f i) else decide (f i = 3) && (evF f d).2 v (vo f i)) x = false := by simp [c_19, c_55]
            refine lv_aload_n hx hb dX11_hasItem_74 rfl (lv_at hl 0 rfl) ?_
            refine lv_iload hx hb dX11_hasItem_75 (lv_at hl 4 rfl) ?_
            refine zc_V (As := [.int (nI (x))]) (rest := []) ⟨hx, hb, hml, hown, hts⟩ (m_nextOf l G o qs (zM fs (u)) f x hok) (cwV 1 hts (zgV wm_X11_140 wv_X11_nextOf) rfl rfl rfl (by decide +kernel) ⟨show 2 + 1 ≤ 30 * d + 49 by omega, show 8 + (4 + 11) + (43) ≤ 900 * d + 1230 by omega⟩) hK hO rfl hP.mv rfl hl.1 rfl (Nat.le_of_ble_eq_true rfl) dX11_hasItem_77 ⟨Nat.zero_le _, Nat.zero_le _⟩ ?_
            refine lv_istore (lv' := [(4, .int (nI (nx f x))), (0, .ref (o)), (1, .int (nI (a))), (2, .int (nI (v))), (3, .int (nI (nB (asC f v))))]) hx hb dX11_hasItem_80 hl (by decide) rfl (fun ls hl => ?_)
            refine lv_goto (tgt := 13) hx hb dX11_hasItem_82 (by decide) ?_
            exact ih_ (nx f x) (X') (by simp at hm_; omega) hc' (Ch.lt (by decide) hc') (fun z hz => hXi z (List.mem_cons_of_mem _ hz)) (hs.trans (any_f hd9)) _ _ hP hS ls (lv_sub hl [1, 2, 3, 4, 0] rfl)
          · refine lv_aload_n hx hb dX11_hasItem_58 rfl (lv_at hl 0 rfl) ?_
            refine lv_iload_n hx hb dX11_hasItem_59 rfl (lv_at hl 2 rfl) ?_
            refine lv_aload_n hx hb dX11_hasItem_60 rfl (lv_at hl 0 rfl) ?_
            refine lv_iload hx hb dX11_hasItem_61 (lv_at hl 4 rfl) ?_
            refine zc_V (As := [.int (nI (x))]) (rest := [.int (nI (v)), .ref (o)]) ⟨hx, hb, hml, hown, hts⟩ (m_valueOf l G o qs (zM fs (u)) f x hok.1) (cwV 1 hts (zgV wm_X11_131 wv_X11_valueOf) rfl rfl rfl (by decide +kernel) ⟨show 1 + 1 ≤ 30 * d + 49 by omega, show 8 + (2 + 11) + (22) ≤ 900 * d + 1230 by omega⟩) hK hO rfl hP.mv rfl hl.1 rfl (Nat.le_of_ble_eq_true rfl) dX11_hasItem_63 ⟨Nat.zero_le _, Nat.zero_le _⟩ ?_
            refine zc_VE (As := [.int (nI (v)), .int (nI (vo f x))]) (rest := []) ⟨hx, hb, hml, hown, hts⟩ (hfh v (vo f x) (u) (hv2 (by rw [c_19]; decide)) (by have := hai x hx9; rwa [c_55] at this)) (cwV 2 hts (zgV wm_X11_268 wv_X11_filterHolds) rfl rfl rfl (by decide +kernel) ⟨show 30 * d + 48 + 1 ≤ 30 * d + 49 by omega, show 8 + (4 + 11) + (900 * d + 1200) ≤ 900 * d + 1230 by omega⟩) hK hO rfl hP rfl hl.1 rfl (Nat.le_of_ble_eq_true rfl) dX11_hasItem_66 ⟨Nat.zero_le _, Nat.zero_le _⟩ hS (fun _ h9 => h9) (fun H locs hP hz9 hk9 hS => ?_)
            obtain ⟨hO, hA, hS1, h8, hln, hne9⟩ := id hP
            refine W.eq (g2 := F0 m 69 ls ([.int (nI (nB ((evF f d).2 v (vo f x))))])) rfl ?_
            refine zb_if_eq (tgt := 74) hx hb dX11_hasItem_69 (by decide) (fun c_69 => ?_) (fun c_69 => ?_)
            · have hd9 : (fun i => if asC f v = true then (evF f d).1 v 0 (f i) (vo f i) else decide (f i = 3) && (evF f d).2 v (vo f i)) x = false := by simp [c_19, c_69]
              refine lv_aload_n hx hb dX11_hasItem_74 rfl (lv_at hl 0 rfl) ?_
              refine lv_iload hx hb dX11_hasItem_75 (lv_at hl 4 rfl) ?_
              refine zc_V (As := [.int (nI (x))]) (rest := []) ⟨hx, hb, hml, hown, hts⟩ (m_nextOf l G o qs (zM fs ((u))) f x hok) (cwV 1 hts (zgV wm_X11_140 wv_X11_nextOf) rfl rfl rfl (by decide +kernel) ⟨show 2 + 1 ≤ 30 * d + 49 by omega, show 8 + (4 + 11) + (43) ≤ 900 * d + 1230 by omega⟩) hK hO rfl hP.mv rfl hl.1 rfl (Nat.le_of_ble_eq_true rfl) dX11_hasItem_77 ⟨Nat.zero_le _, Nat.zero_le _⟩ ?_
              refine lv_istore (lv' := [(4, .int (nI (nx f x))), (0, .ref (o)), (1, .int (nI (a))), (2, .int (nI (v))), (3, .int (nI (nB (asC f v))))]) hx hb dX11_hasItem_80 hl (by decide) rfl (fun ls hl => ?_)
              refine lv_goto (tgt := 13) hx hb dX11_hasItem_82 (by decide) ?_
              exact ih_ (nx f x) (X') (by simp at hm_; omega) hc' (Ch.lt (by decide) hc') (fun z hz => hXi z (List.mem_cons_of_mem _ hz)) (hs.trans (any_f hd9)) _ _ hP hS ls (lv_sub hl [1, 2, 3, 4, 0] rfl)
            · have hd9 : (fun i => if asC f v = true then (evF f d).1 v 0 (f i) (vo f i) else decide (f i = 3) && (evF f d).2 v (vo f i)) x = true := by simp [c_19, c_55, c_69]
              refine lv_iconst (v := nI 1) hx hb dX11_hasItem_72 (by decide) ?_
              exact zr_ze hx hb hr hlocks (by rw [hs, any_t hd9]; rfl) (hP) hS dX11_hasItem_73
        · refine lv_aload_n hx hb dX11_hasItem_22 rfl (lv_at hl 0 rfl) ?_
          refine lv_iload_n hx hb dX11_hasItem_23 rfl (lv_at hl 2 rfl) ?_
          refine lv_iconst (v := nI 0) hx hb dX11_hasItem_24 (by decide) ?_
          refine lv_aload_n hx hb dX11_hasItem_25 rfl (lv_at hl 0 rfl) ?_
          refine zi_get (C := RX11) (T := TX11) (N := 23) (v := .ref (qs)) hx hb hz wo_X11 hown hK hO rfl 1 (by decide) (hz _ wf_X11_7) (fun _ h9 => h9) (MM.s1 hS1) dX11_hasItem_26 ?_
          refine lv_iload hx hb dX11_hasItem_29 (lv_at hl 4 rfl) ?_
          refine zi_ald hx hb hK hA (by omega) (by decide) dX11_hasItem_31 ?_
          refine lv_aload_n hx hb dX11_hasItem_32 rfl (lv_at hl 0 rfl) ?_
          refine lv_iload hx hb dX11_hasItem_33 (lv_at hl 4 rfl) ?_
          refine zc_V (As := [.int (nI (x))]) (rest := [.int (nI (f x)), .int (nI (0)), .int (nI (v)), .ref (o)]) ⟨hx, hb, hml, hown, hts⟩ (m_valueOf l G o qs (zM fs (u)) f x hok.1) (cwV 1 hts (zgV wm_X11_131 wv_X11_valueOf) rfl rfl rfl (by decide +kernel) ⟨show 1 + 1 ≤ 30 * d + 49 by omega, show 8 + (2 + 11) + (22) ≤ 900 * d + 1230 by omega⟩) hK hO rfl hP.mv rfl hl.1 rfl (Nat.le_of_ble_eq_true rfl) dX11_hasItem_35 ⟨Nat.zero_le _, Nat.zero_le _⟩ ?_
          refine zc_VE (As := [.int (nI (v)), .int (nI (0)), .int (nI (f x)), .int (nI (vo f x))]) (rest := []) ⟨hx, hb, hml, hown, hts⟩ (hal v 0 (f x) (vo f x) (u) (hv1 c_19) (okPa.z f) (hai x hx9)) (cwV 4 hts (zgV wm_X11_264 wv_X11_all) rfl rfl rfl (by decide +kernel) ⟨show 30 * d + 48 + 1 ≤ 30 * d + 49 by omega, show 8 + (6 + 11) + (900 * d + 1200) ≤ 900 * d + 1230 by omega⟩) hK hO rfl hP rfl hl.1 rfl (Nat.le_of_ble_eq_true rfl) dX11_hasItem_38 ⟨Nat.zero_le _, Nat.zero_le _⟩ hS (fun _ h9 => h9) (fun H locs hP hz9 hk9 hS => ?_)
          obtain ⟨hO, hA, hS1, h8, hln, hne9⟩ := id hP
          refine W.eq (g2 := F0 m 41 ls ([.int (nI (nB ((evF f d).1 v 0 (f x) (vo f x))))])) rfl ?_
          refine zb_if_eq (tgt := 74) hx hb dX11_hasItem_41 (by decide) (fun c_41 => ?_) (fun c_41 => ?_)
          · have hd9 : (fun i => if asC f v = true then (evF f d).1 v 0 (f i) (vo f i) else decide (f i = 3) && (evF f d).2 v (vo f i)) x = false := by simp [c_19, c_41]
            refine lv_aload_n hx hb dX11_hasItem_74 rfl (lv_at hl 0 rfl) ?_
            refine lv_iload hx hb dX11_hasItem_75 (lv_at hl 4 rfl) ?_
            refine zc_V (As := [.int (nI (x))]) (rest := []) ⟨hx, hb, hml, hown, hts⟩ (m_nextOf l G o qs (zM fs ((u))) f x hok) (cwV 1 hts (zgV wm_X11_140 wv_X11_nextOf) rfl rfl rfl (by decide +kernel) ⟨show 2 + 1 ≤ 30 * d + 49 by omega, show 8 + (4 + 11) + (43) ≤ 900 * d + 1230 by omega⟩) hK hO rfl hP.mv rfl hl.1 rfl (Nat.le_of_ble_eq_true rfl) dX11_hasItem_77 ⟨Nat.zero_le _, Nat.zero_le _⟩ ?_
            refine lv_istore (lv' := [(4, .int (nI (nx f x))), (0, .ref (o)), (1, .int (nI (a))), (2, .int (nI (v))), (3, .int (nI (nB (asC f v))))]) hx hb dX11_hasItem_80 hl (by decide) rfl (fun ls hl => ?_)
            refine lv_goto (tgt := 13) hx hb dX11_hasItem_82 (by decide) ?_
            exact ih_ (nx f x) (X') (by simp at hm_; omega) hc' (Ch.lt (by decide) hc') (fun z hz => hXi z (List.mem_cons_of_mem _ hz)) (hs.trans (any_f hd9)) _ _ hP hS ls (lv_sub hl [1, 2, 3, 4, 0] rfl)
          · have hd9 : (fun i => if asC f v = true then (evF f d).1 v 0 (f i) (vo f i) else decide (f i = 3) && (evF f d).2 v (vo f i)) x = true := by simp [c_19, c_41]
            refine lv_goto (tgt := 72) hx hb dX11_hasItem_44 (by decide) ?_
            refine lv_iconst (v := nI 1) hx hb dX11_hasItem_72 (by decide) ?_
            exact zr_ze hx hb hr hlocks (by rw [hs, any_t hd9]; rfl) (hP) hS dX11_hasItem_73
  exact L13 (((els f a).length) + 1) (fi f a) (els f a) (Nat.lt_succ_self _) ha.2 hf1 (fun _ z => z) rfl _ _ hP hS ls (lv_sub hl [2, 3, 4, 1, 0] rfl)

set_option maxHeartbeats 4000000 in
set_option maxRecDepth 100000 in
theorem m_does (l : Launch) (G : zG) (o qs : Nat) (fs : List Value) (f : Nat → Nat) (d c9 k a : Nat) (u : Bool) (hal : C_all l G o qs fs f d) (hfh : C_fh l G o qs fs f d) (hok : okE 18000 f c9) (hcv : okV f 16 (f c9) (vo f c9)) (hco : okCo f (okFl f d).1 (okFl f d).2 c9) (hk : okV f 16 k a) (hn12 : coN f c9 ≠ 12) (hel : coN f c9 = 11 → Bx 18000 f (vo f c9) (els f (vo f c9))) : Met l yX11_does wsX11_does (rDO d) (zP G [.ref (o), .int (nI (c9)), .int (nI (k)), .int (nI (a))] (fun H => MM G o qs fs f u H)) (zQ (fun x => x = o) (some (.int (nI (nB (DO f (evF f d).1 (evF f d).2 c9 k a))))) (fun H => MM G o qs fs f (u) H)) 0 0 (fun x => x = o) := by
  refine Met.ofW (cc := cX11_does) (maxL := 9) (ret := (some .boolean)) (by decide) rfl ?_
  intro p en s m args below meth c s₁ B hml hv
  obtain ⟨rfl, hP, hK⟩ := hv
  have hx := B.exec
  have hb := B.bytes
  have hr := B.returns
  have hts := atoms_spec (ws := wsX11_does) B.pre
  have hz : ∀ w ∈ zW, w.before _ s = true := fun w h => hts w (List.mem_cons_of_mem _ h)
  have hown : s.vm.findClass RX11 = some m.cls := findClass_of_methodNamed B.named
  have hlocks := B.notSynchronized
  obtain ⟨hO, hA, hS1, h8, hln, hne9⟩ := id hP
  have hS : va_S (fun x => x = o) s.heap s.heap [] := va_S.rf
  have hkl := hk.b.lt
  have hc13 := coN_lt f c9
  have hcl := hok.lt
  have hl := lv_entry ([.ref (o), .int (nI (c9)), .int (nI (k)), .int (nI (a))]) (n := 9) (Nat.le_of_ble_eq_true rfl)
  rw [lg_entry_eq]
  generalize (lg_sl ([.ref (o), .int (nI (c9)), .int (nI (k)), .int (nI (a))]) ++ List.replicate (9 - (lg_sl ([.ref (o), .int (nI (c9)), .int (nI (k)), .int (nI (a))])).length) Slot.unset).toArray = ls at hl ⊢
  have hl : lv_has ls 9 [(0, .ref (o)), (1, .int (nI (c9))), (2, .int (nI (k))), (3, .int (nI (a)))] := hl
  refine lv_aload_n hx hb dX11_does_0 rfl (lv_at hl 0 rfl) ?_
  refine lv_iload_n hx hb dX11_does_1 rfl (lv_at hl 1 rfl) ?_
  refine zc_V (As := [.int (nI (c9))]) (rest := []) ⟨hx, hb, hml, hown, hts⟩ (m_condition l G o qs (zM fs (u)) f c9 hok.1) (cwV 1 hts (zgV wm_X11_234 wv_X11_condition) rfl rfl rfl (by decide +kernel) ⟨show 1 + 1 ≤ 30 * d + 50 by omega, show 8 + (2 + 11) + (26) ≤ 900 * d + 1260 by omega⟩) hK hO rfl hP.mv rfl hl.1 rfl (Nat.le_of_ble_eq_true rfl) dX11_does_2 ⟨Nat.zero_le _, Nat.zero_le _⟩ ?_
  refine lv_istore (lv' := [(4, .int (nI (coN f c9))), (0, .ref (o)), (1, .int (nI (c9))), (2, .int (nI (k))), (3, .int (nI (a)))]) hx hb dX11_does_5 hl (by decide) rfl (fun ls hl => ?_)
  refine lv_aload_n hx hb dX11_does_7 rfl (lv_at hl 1 rfl) ?_
  refine zi_get (C := RX11) (T := TX11) (N := 23) (v := .ref (qs)) hx hb hz wo_X11 hown hK hO rfl 1 (by decide) (hz _ wf_X11_7) (fun _ h9 => h9) (MM.s1 hS1) dX11_does_8 ?_
  refine lv_iload_n hx hb dX11_does_11 rfl (lv_at hl 2 rfl) ?_
  refine zi_ald hx hb hK hA hcl (by decide) dX11_does_12 ?_
  refine lv_istore (lv' := [(5, .int (nI (f c9))), (4, .int (nI (coN f c9))), (0, .ref (o)), (1, .int (nI (c9))), (2, .int (nI (k))), (3, .int (nI (a)))]) hx hb dX11_does_13 hl (by decide) rfl (fun ls hl => ?_)
  refine lv_aload_n hx hb dX11_does_15 rfl (lv_at hl 2 rfl) ?_
  refine lv_iload_n hx hb dX11_does_16 rfl (lv_at hl 3 rfl) ?_
  refine zc_V (As := [.int (nI (c9))]) (rest := []) ⟨hx, hb, hml, hown, hts⟩ (m_valueOf l G o qs (zM fs (u)) f c9 hok.1) (cwV 1 hts (zgV wm_X11_131 wv_X11_valueOf) rfl rfl rfl (by decide +kernel) ⟨show 1 + 1 ≤ 30 * d + 50 by omega, show 8 + (2 + 11) + (22) ≤ 900 * d + 1260 by omega⟩) hK hO rfl hP.mv rfl hl.1 rfl (Nat.le_of_ble_eq_true rfl) dX11_does_17 ⟨Nat.zero_le _, Nat.zero_le _⟩ ?_
  refine lv_istore (lv' := [(6, .int (nI (vo f c9))), (5, .int (nI (f c9))), (4, .int (nI (coN f c9))), (0, .ref (o)), (1, .int (nI (c9))), (2, .int (nI (k))), (3, .int (nI (a)))]) hx hb dX11_does_20 hl (by decide) rfl (fun ls hl => ?_)
  refine lv_iload hx hb dX11_does_22 (lv_at hl 2 rfl) ?_
  refine lv_iconst (v := nI 3) hx hb dX11_does_24 (by decide) ?_
  refine zi_icmp_ge (tgt := 39) hx hb dX11_does_25 (by decide) (by omega) (by omega) (fun c_25 => ?_) (fun c_25 => ?_)
  · refine lv_iload hx hb dX11_does_39 (lv_at hl 2 rfl) ?_
    refine lv_iconst (v := nI 5) hx hb dX11_does_41 (by decide) ?_
    refine zi_icmp_ge (tgt := 101) hx hb dX11_does_42 (by decide) (by omega) (by omega) (fun c_42 => ?_) (fun c_42 => ?_)
    · refine lv_iload hx hb dX11_does_101 (lv_at hl 2 rfl) ?_
      refine lv_bipush (v := nI 9) hx hb dX11_does_103 (by decide) ?_
      refine zi_icmp_ge (tgt := 121) hx hb dX11_does_105 (by decide) (by omega) (by omega) (fun c_105 => ?_) (fun c_105 => ?_)
      · refine lv_iload hx hb dX11_does_121 (lv_at hl 2 rfl) ?_
        refine lv_bipush (v := nI 9) hx hb dX11_does_123 (by decide) ?_
        refine zi_icmp_ne (tgt := 138) hx hb dX11_does_125 (by decide) (by omega) (by omega) (fun c_125 => ?_) (fun c_125 => ?_)
        · refine lv_iload_n hx hb dX11_does_138 rfl (lv_at hl 5 rfl) ?_
          refine lv_iconst (v := nI 4) hx hb dX11_does_139 (by decide) ?_
          refine zi_icmp_ne (tgt := 185) hx hb dX11_does_140 (by decide) (by omega) (by omega) (fun c_140 => ?_) (fun c_140 => ?_)
          · refine lv_iconst (v := nI 0) hx hb dX11_does_185 (by decide) ?_
            exact zr_ze hx hb hr hlocks (by rw [DO, if_neg (by omega), if_neg (by omega), if_neg (by omega), if_neg c_125]; rw [decide_eq_false c_140]; rfl) (hP) hS dX11_does_186
          · refine lv_iload hx hb dX11_does_143 (lv_at hl 2 rfl) ?_
            refine lv_bipush (v := nI 10) hx hb dX11_does_145 (by decide) ?_
            refine zi_icmp_ne (tgt := 171) hx hb dX11_does_147 (by decide) (by omega) (by omega) (fun c_147 => ?_) (fun c_147 => ?_)
            · have h11 : coN f c9 = 11 := by
                have h12 : coN f c9 ≠ 12 := hn12
                omega
              refine lv_aload_n hx hb dX11_does_171 rfl (lv_at hl 3 rfl) ?_
              refine lv_iload_n hx hb dX11_does_172 rfl (lv_at hl 6 rfl) ?_
              refine lv_iload hx hb dX11_does_173 (lv_at hl 0 rfl) ?_
              refine zc_VE (As := [.int (nI (a)), .int (nI (vo f c9))]) (rest := []) ⟨hx, hb, hml, hown, hts⟩ (m_hasItem l G o qs fs f d a (vo f c9) (u) hal hfh (okV_items hk c_140).1 (okV_items hk c_140).2 (hcv.b.2.2.2.2.2 (isR_11 hco.2.1 h11)) (hel h11) (hco.2.2.2 h11).1 (hco.2.2.2 h11).2) (cwV 2 hts (zgV wm_X11_280 wv_X11_hasItem) rfl rfl rfl (by decide +kernel) ⟨show 30 * d + 49 + 1 ≤ 30 * d + 50 by omega, show 8 + (5 + 11) + (900 * d + 1230) ≤ 900 * d + 1260 by omega⟩) hK hO rfl hP rfl hl.1 rfl (Nat.le_of_ble_eq_true rfl) dX11_does_175 ⟨Nat.zero_le _, Nat.zero_le _⟩ hS (fun _ h9 => h9) (fun H locs hP hz9 hk9 hS => ?_)
              obtain ⟨hO, hA, hS1, h8, hln, hne9⟩ := id hP
              refine W.eq (g2 := F0 m 178 ls ([.int (nI (nB (HI f (evF f d).1 (evF f d).2 a (vo f c9))))])) rfl ?_
              refine zb_if_eq (tgt := 185) hx hb dX11_does_178 (by decide) (fun c_178 => ?_) (fun c_178 => ?_)
              · refine lv_iconst (v := nI 0) hx hb dX11_does_185 (by decide) ?_
                exact zr_ze hx hb hr hlocks (by rw [DO, if_neg (by omega), if_neg (by omega), if_neg (by omega), if_neg c_125]; rw [decide_eq_true c_140, if_neg c_147, c_178]; rfl) (hP) hS dX11_does_186
              · refine lv_iconst (v := nI 1) hx hb dX11_does_181 (by decide) ?_
                refine lv_goto (tgt := 186) hx hb dX11_does_182 (by decide) ?_
                exact zr_ze hx hb hr hlocks (by rw [DO, if_neg (by omega), if_neg (by omega), if_neg (by omega), if_neg c_125]; rw [decide_eq_true c_140, if_neg c_147, c_178]; rfl) (hP) hS dX11_does_186
            · refine lv_aload_n hx hb dX11_does_150 rfl (lv_at hl 3 rfl) ?_
              refine lv_iload_n hx hb dX11_does_151 rfl (lv_at hl 6 rfl) ?_
              refine zc_V (As := [.int (nI (a))]) (rest := []) ⟨hx, hb, hml, hown, hts⟩ (m_countOf l G o qs (zM fs (u)) f a (els f a) (okV_items hk c_140).1) (cwV 1 hts (zgV wm_X11_277 wv_X11_countOf) rfl rfl rfl (by decide +kernel) ⟨show 3 + 1 ≤ 30 * d + 50 by omega, show 8 + (4 + 11) + (66) ≤ 900 * d + 1260 by omega⟩) hK hO rfl hP.mv rfl hl.1 rfl (Nat.le_of_ble_eq_true rfl) dX11_does_152 ⟨Nat.zero_le _, Nat.zero_le _⟩ ?_
              refine lv_i2l (v := lN ((els f a).length)) hx hb dX11_does_155 (nI_l (Nat.lt_of_le_of_lt (Ch.len' (by decide) (okV_items hk c_140).1.2) (by decide))) ?_
              refine lv_aload_n hx hb dX11_does_156 rfl (lv_at hl 3 rfl) ?_
              refine lv_iload hx hb dX11_does_157 (lv_at hl 1 rfl) ?_
              refine lv_iload hx hb dX11_does_159 (lv_at hl 0 rfl) ?_
              refine zc_V (As := [.int (nI (f c9)), .int (nI (vo f c9))]) (rest := [.long (lN ((els f a).length))]) ⟨hx, hb, hml, hown, hts⟩ (m_number l G o qs (zM fs (u)) f (f c9) (vo f c9) (Nat.lt_trans (h8 _) (by decide)) (fun z => hcv.b.2.1 z) (fun z => hcv.b.2.2.1 z) (fun z1 z2 => hcv.b.2.2.2.1 (by have := isR_10 hco.2.1 c_147; omega))) (cwV 2 hts (zgV wm_X11_243 wv_X11_number) rfl rfl rfl (by decide +kernel) ⟨show 1 + 1 ≤ 30 * d + 50 by omega, show 8 + (6 + 11) + (21) ≤ 900 * d + 1260 by omega⟩) hK hO rfl hP.mv rfl hl.1 rfl (Nat.le_of_ble_eq_true rfl) dX11_does_161 ⟨Nat.zero_le _, Nat.zero_le _⟩ ?_
              refine W.lcmp hx hb dX11_does_164 ?_
              refine lv_if_ne (tgt := 185) hx hb dX11_does_165 (by decide) (fun c_165 => ?_) (fun c_165 => ?_)
              · refine lv_iconst (v := nI 0) hx hb dX11_does_185 (by decide) ?_
                exact zr_ze hx hb hr hlocks (by rw [DO, if_neg (by omega), if_neg (by omega), if_neg (by omega), if_neg c_125]; rw [decide_eq_true c_140, if_pos c_147]; rw [decide_eq_false (fun z => c_165 ((lg_cmp_eq _ _).mpr z))]; rfl) (hP) hS dX11_does_186
              · refine lv_goto (tgt := 181) hx hb dX11_does_168 (by decide) ?_
                refine lv_iconst (v := nI 1) hx hb dX11_does_181 (by decide) ?_
                refine lv_goto (tgt := 186) hx hb dX11_does_182 (by decide) ?_
                exact zr_ze hx hb hr hlocks (by rw [DO, if_neg (by omega), if_neg (by omega), if_neg (by omega), if_neg c_125]; rw [decide_eq_true c_140, if_pos c_147]; rw [decide_eq_true ((lg_cmp_eq _ _).mp c_165)]; rfl) (hP) hS dX11_does_186
        · refine lv_iload_n hx hb dX11_does_128 rfl (lv_at hl 5 rfl) ?_
          refine zi_if_eq (tgt := 136) hx hb dX11_does_129 (by decide) (by omega) (fun c_129 => ?_) (fun c_129 => ?_)
          · refine lv_iconst (v := nI 0) hx hb dX11_does_136 (by decide) ?_
            exact zr_ze hx hb hr hlocks (by rw [DO, if_neg (by omega), if_neg (by omega), if_neg (by omega), if_pos c_125]; simp [nB, c_129]) (hP) hS dX11_does_137
          · refine lv_iconst (v := nI 1) hx hb dX11_does_132 (by decide) ?_
            refine lv_goto (tgt := 137) hx hb dX11_does_133 (by decide) ?_
            exact zr_ze hx hb hr hlocks (by rw [DO, if_neg (by omega), if_neg (by omega), if_neg (by omega), if_pos c_125]; simp [nB, c_129]) (hP) hS dX11_does_137
      · refine lv_aload_n hx hb dX11_does_108 rfl (lv_at hl 3 rfl) ?_
        refine lv_iload hx hb dX11_does_109 (lv_at hl 2 rfl) ?_
        refine lv_iload_n hx hb dX11_does_111 rfl (lv_at hl 5 rfl) ?_
        refine lv_iload_n hx hb dX11_does_112 rfl (lv_at hl 6 rfl) ?_
        refine lv_iload hx hb dX11_does_113 (lv_at hl 1 rfl) ?_
        refine lv_iload hx hb dX11_does_115 (lv_at hl 0 rfl) ?_
        refine zc_V (As := [.int (nI (coN f c9)), .int (nI (k)), .int (nI (a)), .int (nI (f c9)), .int (nI (vo f c9))]) (rest := []) ⟨hx, hb, hml, hown, hts⟩ (m_isSo l G o qs (zM fs (u)) f (coN f c9) (by omega) 16 k a (f c9) (vo f c9) hk hcv) (cwV 5 hts (zgV wm_X11_274 wv_X11_isSo) rfl rfl rfl (by decide +kernel) ⟨show 37 + 1 ≤ 30 * d + 50 by omega, show 8 + (8 + 11) + (995) ≤ 900 * d + 1260 by omega⟩) hK hO rfl hP.mv rfl hl.1 rfl (Nat.le_of_ble_eq_true rfl) dX11_does_117 ⟨Nat.zero_le _, Nat.zero_le _⟩ ?_
        exact zr_ze hx hb hr hlocks (by rw [DO, if_neg (by omega), if_neg (by omega), if_pos c_105]) (hP) hS dX11_does_120
    · have hk4 := okV_items hcv (isR_34 hco.2.1 (by omega))
      have hf1 := hk4.1.2.lt (by decide)
      have hs0 : DO f (evF f d).1 (evF f d).2 c9 k a = (els f (vo f c9)).any (fun i => isE f 16 k a (f i) (vo f i)) := by rw [DO, if_neg (by omega), if_pos c_42]
      refine lv_iconst (v := nI 0) hx hb dX11_does_45 (by decide) ?_
      refine lv_istore (lv' := [(7, .int (nI (0))), (6, .int (nI (vo f c9))), (5, .int (nI (f c9))), (4, .int (nI (coN f c9))), (0, .ref (o)), (1, .int (nI (c9))), (2, .int (nI (k))), (3, .int (nI (a)))]) hx hb dX11_does_46 hl (by decide) rfl (fun ls hl => ?_)
      refine lv_aload_n hx hb dX11_does_48 rfl (lv_at hl 4 rfl) ?_
      refine lv_iload hx hb dX11_does_49 (lv_at hl 1 rfl) ?_
      refine zc_V (As := [.int (nI (vo f c9))]) (rest := []) ⟨hx, hb, hml, hown, hts⟩ (m_firstOf l G o qs (zM fs (u)) f (vo f c9) hk4.1.1) (cwV 1 hts (zgV wm_X11_137 wv_X11_firstOf) rfl rfl rfl (by decide +kernel) ⟨show 0 + 1 ≤ 30 * d + 50 by omega, show 8 + (2 + 11) + (0) ≤ 900 * d + 1260 by omega⟩) hK hO rfl hP.mv rfl hl.1 rfl (Nat.le_of_ble_eq_true rfl) dX11_does_51 ⟨Nat.zero_le _, Nat.zero_le _⟩ ?_
      refine lv_istore (lv' := [(8, .int (nI (fi f (vo f c9)))), (7, .int (nI (0))), (6, .int (nI (vo f c9))), (5, .int (nI (f c9))), (4, .int (nI (coN f c9))), (0, .ref (o)), (1, .int (nI (c9))), (2, .int (nI (k))), (3, .int (nI (a)))]) hx hb dX11_does_54 hl (by decide) rfl (fun ls hl => ?_)
      have L56 : ∀ (n_ : Nat) (x : Nat) (X : List Nat) (is : Bool), X.length < n_ → (Ch 18000 f x X) → (x < 18000) → (∀ z ∈ X, z ∈ els f (vo f c9)) → (DO f (evF f d).1 (evF f d).2 c9 k a = (is || X.any (fun i => isE f 16 k a (f i) (vo f i)))) → ∀ (H : Heap) (locs : List Loc), MM G o qs fs f (u) H → va_S (fun x => x = o) s.heap H locs → ∀ ls : Array Slot, lv_has ls 9 [(0, .ref (o)), (2, .int (nI (k))), (3, .int (nI (a))), (7, .int (nI (nB (is)))), (8, .int (nI (x)))] → W p l en (headSpec wsX11_does (rDO d)).room s m ([.ref (o), .int (nI (c9)), .int (nI (k)), .int (nI (a))] : List Value).toArray below meth c H locs 0 0 (MQ below (zQ (fun x => x = o) (some (.int (nI (nB (DO f (evF f d).1 (evF f d).2 c9 k a))))) (fun H => MM G o qs fs f (u) H)) ([.ref (o), .int (nI (c9)), .int (nI (k)), .int (nI (a))] : List Value).toArray s 0 0 (fun x => x = o)) (F0 m 56 ls []) := by
        intro n_
        induction n_ with
        | zero => intro x X is hm_; exact absurd hm_ (Nat.not_lt_zero _)
        | succ n_ ih_ =>
          intro x X is hm_ hc hxl hXi hs H locs hP hS ls hl
          obtain ⟨hO, hA, hS1, h8, hln, hne9⟩ := id hP
          refine lv_iload hx hb dX11_does_56 (lv_at hl 4 rfl) ?_
          refine zi_if_le (tgt := 98) hx hb dX11_does_58 (by decide) (by omega) (fun c_58 => ?_) (fun c_58 => ?_)
          · have hX0 := hc.nil c_58
            subst hX0
            refine lv_iload hx hb dX11_does_98 (lv_at hl 3 rfl) ?_
            exact zr_ze hx hb hr hlocks (by rw [hs]; simp) (hP) hS dX11_does_100
          · refine lv_iload hx hb dX11_does_61 (lv_at hl 3 rfl) ?_
            refine zb_if_ne (tgt := 98) hx hb dX11_does_63 (by decide) (fun c_63 => ?_) (fun c_63 => ?_)
            · refine lv_iload hx hb dX11_does_98 (lv_at hl 3 rfl) ?_
              exact zr_ze hx hb hr hlocks (by rw [hs, c_63]; simp) (hP) hS dX11_does_100
            · obtain ⟨X', rfl, hok2, hc'⟩ := hc.cons c_58
              have hx9 := hXi x List.mem_cons_self
              refine lv_aload_n hx hb dX11_does_66 rfl (lv_at hl 0 rfl) ?_
              refine lv_iload_n hx hb dX11_does_67 rfl (lv_at hl 1 rfl) ?_
              refine lv_iload_n hx hb dX11_does_68 rfl (lv_at hl 2 rfl) ?_
              refine lv_aload_n hx hb dX11_does_69 rfl (lv_at hl 0 rfl) ?_
              refine zi_get (C := RX11) (T := TX11) (N := 23) (v := .ref (qs)) hx hb hz wo_X11 hown hK hO rfl 1 (by decide) (hz _ wf_X11_7) (fun _ h9 => h9) (MM.s1 hS1) dX11_does_70 ?_
              refine lv_iload hx hb dX11_does_73 (lv_at hl 4 rfl) ?_
              refine zi_ald hx hb hK hA (by omega) (by decide) dX11_does_75 ?_
              refine lv_aload_n hx hb dX11_does_76 rfl (lv_at hl 0 rfl) ?_
              refine lv_iload hx hb dX11_does_77 (lv_at hl 4 rfl) ?_
              refine zc_V (As := [.int (nI (x))]) (rest := [.int (nI (f x)), .int (nI (a)), .int (nI (k)), .ref (o)]) ⟨hx, hb, hml, hown, hts⟩ (m_valueOf l G o qs (zM fs (u)) f x hok2.1) (cwV 1 hts (zgV wm_X11_131 wv_X11_valueOf) rfl rfl rfl (by decide +kernel) ⟨show 1 + 1 ≤ 30 * d + 50 by omega, show 8 + (2 + 11) + (22) ≤ 900 * d + 1260 by omega⟩) hK hO rfl hP.mv rfl hl.1 rfl (Nat.le_of_ble_eq_true rfl) dX11_does_79 ⟨Nat.zero_le _, Nat.zero_le _⟩ ?_
              refine zc_V (As := [.int (nI (k)), .int (nI (a)), .int (nI (f x)), .int (nI (vo f x))]) (rest := []) ⟨hx, hb, hml, hown, hts⟩ (m_isEqual l G o qs (zM fs (u)) f 16 k a (f x) (vo f x) hk (hk4.2 x hx9)) (cwV 4 hts (zgV wm_X11_271 wv_X11_isEqual) rfl rfl rfl (by decide +kernel) ⟨show 36 + 1 ≤ 30 * d + 50 by omega, show 8 + (7 + 11) + (969) ≤ 900 * d + 1260 by omega⟩) hK hO rfl hP.mv rfl hl.1 rfl (Nat.le_of_ble_eq_true rfl) dX11_does_82 ⟨Nat.zero_le _, Nat.zero_le _⟩ ?_
              refine lv_istore (lv' := [(7, .int (nI (nB (isE f 16 k a (f x) (vo f x))))), (0, .ref (o)), (2, .int (nI (k))), (3, .int (nI (a))), (8, .int (nI (x)))]) hx hb dX11_does_85 hl (by decide) rfl (fun ls hl => ?_)
              refine lv_aload_n hx hb dX11_does_87 rfl (lv_at hl 1 rfl) ?_
              refine lv_iload hx hb dX11_does_88 (lv_at hl 4 rfl) ?_
              refine zc_V (As := [.int (nI (x))]) (rest := []) ⟨hx, hb, hml, hown, hts⟩ (m_nextOf l G o qs (zM fs (u)) f x hok2) (cwV 1 hts (zgV wm_X11_140 wv_X11_nextOf) rfl rfl rfl (by decide +kernel) ⟨show 2 + 1 ≤ 30 * d + 50 by omega, show 8 + (4 + 11) + (43) ≤ 900 * d + 1260 by omega⟩) hK hO rfl hP.mv rfl hl.1 rfl (Nat.le_of_ble_eq_true rfl) dX11_does_90 ⟨Nat.zero_le _, Nat.zero_le _⟩ ?_
              refine lv_istore (lv' := [(8, .int (nI (nx f x))), (7, .int (nI (nB (isE f 16 k a (f x) (vo f x))))), (0, .ref (o)), (2, .int (nI (k))), (3, .int (nI (a)))]) hx hb dX11_does_93 hl (by decide) rfl (fun ls hl => ?_)
              refine lv_goto (tgt := 56) hx hb dX11_does_95 (by decide) ?_
              exact ih_ (nx f x) (X') (isE f 16 k a (f x) (vo f x)) (by simp at hm_; omega) hc' (Ch.lt (by decide) hc') (fun z hz => hXi z (List.mem_cons_of_mem _ hz)) (by rw [hs, c_63, List.any_cons]; rfl) _ _ hP hS ls (lv_sub hl [2, 3, 4, 1, 0] rfl)
      exact L56 (((els f (vo f c9)).length) + 1) (fi f (vo f c9)) (els f (vo f c9)) false (Nat.lt_succ_self _) hk4.1.2 hf1 (fun _ z => z) hs0 _ _ hP hS ls (lv_sub hl [5, 7, 8, 1, 0] rfl)
  · refine lv_aload_n hx hb dX11_does_28 rfl (lv_at hl 3 rfl) ?_
    refine lv_iload_n hx hb dX11_does_29 rfl (lv_at hl 5 rfl) ?_
    refine lv_iload_n hx hb dX11_does_30 rfl (lv_at hl 6 rfl) ?_
    refine lv_iload hx hb dX11_does_31 (lv_at hl 1 rfl) ?_
    refine lv_iload hx hb dX11_does_33 (lv_at hl 0 rfl) ?_
    refine zc_V (As := [.int (nI (k)), .int (nI (a)), .int (nI (f c9)), .int (nI (vo f c9))]) (rest := []) ⟨hx, hb, hml, hown, hts⟩ (m_isEqual l G o qs (zM fs (u)) f 16 k a (f c9) (vo f c9) hk hcv) (cwV 4 hts (zgV wm_X11_271 wv_X11_isEqual) rfl rfl rfl (by decide +kernel) ⟨show 36 + 1 ≤ 30 * d + 50 by omega, show 8 + (7 + 11) + (969) ≤ 900 * d + 1260 by omega⟩) hK hO rfl hP.mv rfl hl.1 rfl (Nat.le_of_ble_eq_true rfl) dX11_does_35 ⟨Nat.zero_le _, Nat.zero_le _⟩ ?_
    exact zr_ze hx hb hr hlocks (by rw [DO, if_pos c_25]) (hP) hS dX11_does_38
