set_option maxHeartbeats 4000000 in
set_option maxRecDepth 100000 in
theorem m_isEqual (l : Launch) (G : zG) (o qs : Nat) (fs : List Value) (f : Nat → Nat) (d k a k2 b : Nat) (hk : okV f d k a) (hk2 : okV f d k2 b) : Met l yX11_isEqual wsX11_isEqual (rBox d) (zP G [.ref (o), .int (nI (k)), .int (nI (a)), .int (nI (k2)), .int (nI (b))] (fun H => MV G o qs fs f H)) (zR (.int (nI (nB (isE f d k a k2 b))))) 0 0 (fun _ => False) := by
  refine Met.ofW (cc := cX11_isEqual) (maxL := 7) (ret := (some .boolean)) (by decide) rfl ?_
  intro p en s m args below meth c s₁ B hml hv
  obtain ⟨rfl, hP, hK⟩ := hv
  have hx := B.exec
  have hb := B.bytes
  have hr := B.returns
  have hts := atoms_spec (ws := wsX11_isEqual) B.pre
  have hz : ∀ w ∈ zW, w.before _ s = true := fun w h => hts w (List.mem_cons_of_mem _ h)
  have hown : s.vm.findClass RX11 = some m.cls := findClass_of_methodNamed B.named
  have hlocks := B.notSynchronized
  obtain ⟨hO, hA, hS1, h8⟩ := id hP
  have hkl := hk.b.lt
  have hk2l := hk2.b.lt
  have hl := lv_entry ([.ref (o), .int (nI (k)), .int (nI (a)), .int (nI (k2)), .int (nI (b))]) (n := 7) (Nat.le_of_ble_eq_true rfl)
  rw [lg_entry_eq]
  generalize (lg_sl ([.ref (o), .int (nI (k)), .int (nI (a)), .int (nI (k2)), .int (nI (b))]) ++ List.replicate (7 - (lg_sl ([.ref (o), .int (nI (k)), .int (nI (a)), .int (nI (k2)), .int (nI (b))])).length) Slot.unset).toArray = ls at hl ⊢
  have hl : lv_has ls 7 [(0, .ref (o)), (1, .int (nI (k))), (2, .int (nI (a))), (3, .int (nI (k2))), (4, .int (nI (b)))] := hl
  refine lv_iload_n hx hb dX11_isEqual_0 rfl (lv_at hl 1 rfl) ?_
  refine zi_if_ne (tgt := 16) hx hb dX11_isEqual_1 (by decide) (by omega) (fun c_1 => ?_) (fun c_1 => ?_)
  · refine lv_aload_n hx hb dX11_isEqual_16 rfl (lv_at hl 0 rfl) ?_
    refine lv_iload_n hx hb dX11_isEqual_17 rfl (lv_at hl 1 rfl) ?_
    refine lv_iload_n hx hb dX11_isEqual_18 rfl (lv_at hl 2 rfl) ?_
    refine lv_iload_n hx hb dX11_isEqual_19 rfl (lv_at hl 3 rfl) ?_
    refine lv_iload hx hb dX11_isEqual_20 (lv_at hl 4 rfl) ?_
    refine zc_V (As := [.int (nI (k)), .int (nI (a)), .int (nI (k2)), .int (nI (b))]) (rest := []) ⟨hx, hb, hml, hown, hts⟩ (m_order_all l G o qs fs f d k a k2 b hk hk2) (cwV 4 hts (zgV wm_X11_257 wv_X11_order) rfl rfl rfl (by decide +kernel) ⟨show 2 * d + 3 + 1 ≤ 2 * d + 4 by omega, show 8 + (10 + 11) + (55 * d + 60) ≤ 55 * d + 89 by omega⟩) hK hO rfl hP rfl hl.1 rfl (Nat.le_of_ble_eq_true rfl) dX11_isEqual_22 ⟨Nat.zero_le _, Nat.zero_le _⟩ ?_
    refine lv_if_ne (tgt := 30) hx hb dX11_isEqual_25 (by decide) (fun c_25 => ?_) (fun c_25 => ?_)
    · refine lv_iconst (v := nI 0) hx hb dX11_isEqual_30 (by decide) ?_
      refine lv_istore (lv' := [(5, .int (nI (0))), (0, .ref (o)), (1, .int (nI (k))), (2, .int (nI (a))), (3, .int (nI (k2))), (4, .int (nI (b)))]) hx hb dX11_isEqual_31 hl (by decide) rfl (fun ls hl => ?_)
      refine lv_iload_n hx hb dX11_isEqual_33 rfl (lv_at hl 2 rfl) ?_
      refine lv_iconst (v := nI 4) hx hb dX11_isEqual_34 (by decide) ?_
      refine zi_icmp_ne (tgt := 96) hx hb dX11_isEqual_35 (by decide) (by omega) (by omega) (fun c_35 => ?_) (fun c_35 => ?_)
      · refine lv_iload hx hb dX11_isEqual_96 (lv_at hl 0 rfl) ?_
        exact zr_z hx hb hr hlocks (by rw [isE, if_neg c_1, decide_eq_false (fun q => c_25 ((oI_eq _).mpr q)), decide_eq_false c_35]; rfl) dX11_isEqual_98
      · have hk4 := okV_items hk c_35
        have hf1 := hk4.1.2.lt (by decide)
        have hs0 : isE f d k a k2 b = (els f a).any (fun x => decide (ord f d (f x) (vo f x) k2 b = .eq)) := by rw [isE, if_neg c_1, decide_eq_false (fun q => c_25 ((oI_eq _).mpr q)), decide_eq_true c_35]; rfl
        refine lv_aload_n hx hb dX11_isEqual_38 rfl (lv_at hl 1 rfl) ?_
        refine lv_iload_n hx hb dX11_isEqual_39 rfl (lv_at hl 3 rfl) ?_
        refine zc_V (As := [.int (nI (a))]) (rest := []) ⟨hx, hb, hml, hown, hts⟩ (m_firstOf l G o qs fs f a hk4.1.1) (cwV 1 hts (zgV wm_X11_137 wv_X11_firstOf) rfl rfl rfl (by decide +kernel) ⟨show 0 + 1 ≤ 2 * d + 4 by omega, show 8 + (2 + 11) + (0) ≤ 55 * d + 89 by omega⟩) hK hO rfl hP rfl hl.1 rfl (Nat.le_of_ble_eq_true rfl) dX11_isEqual_40 ⟨Nat.zero_le _, Nat.zero_le _⟩ ?_
        refine lv_istore (lv' := [(6, .int (nI (fi f a))), (5, .int (nI (0))), (0, .ref (o)), (1, .int (nI (k))), (2, .int (nI (a))), (3, .int (nI (k2))), (4, .int (nI (b)))]) hx hb dX11_isEqual_43 hl (by decide) rfl (fun ls hl => ?_)
        have L45 : ∀ (n_ : Nat) (x : Nat) (X : List Nat) (is : Bool), X.length < n_ → (Ch 18000 f x X) → (x < 18000) → (∀ z ∈ X, z ∈ els f a) → (isE f d k a k2 b = (is || X.any (fun x => decide (ord f d (f x) (vo f x) k2 b = .eq)))) → ∀ ls : Array Slot, lv_has ls 7 [(0, .ref (o)), (3, .int (nI (k2))), (4, .int (nI (b))), (5, .int (nI (nB (is)))), (6, .int (nI (x)))] → W p l en (headSpec wsX11_isEqual (rBox d)).room s m ([.ref (o), .int (nI (k)), .int (nI (a)), .int (nI (k2)), .int (nI (b))] : List Value).toArray below meth c s.heap [] 0 0 (MQ below (zR (.int (nI (nB (isE f d k a k2 b))))) ([.ref (o), .int (nI (k)), .int (nI (a)), .int (nI (k2)), .int (nI (b))] : List Value).toArray s 0 0 (fun _ => False)) (F0 m 45 ls []) := by
          intro n_
          induction n_ with
          | zero => intro x X is hm_; exact absurd hm_ (Nat.not_lt_zero _)
          | succ n_ ih_ =>
            intro x X is hm_ hc hxl hXi hs ls hl
            refine lv_iload hx hb dX11_isEqual_45 (lv_at hl 4 rfl) ?_
            refine zi_if_le (tgt := 96) hx hb dX11_isEqual_47 (by decide) (by omega) (fun c_47 => ?_) (fun c_47 => ?_)
            · have hX0 := hc.nil c_47
              subst hX0
              refine lv_iload hx hb dX11_isEqual_96 (lv_at hl 3 rfl) ?_
              exact zr_z hx hb hr hlocks (by rw [hs]; simp) dX11_isEqual_98
            · refine lv_iload hx hb dX11_isEqual_50 (lv_at hl 3 rfl) ?_
              refine zb_if_ne (tgt := 96) hx hb dX11_isEqual_52 (by decide) (fun c_52 => ?_) (fun c_52 => ?_)
              · refine lv_iload hx hb dX11_isEqual_96 (lv_at hl 3 rfl) ?_
                exact zr_z hx hb hr hlocks (by rw [hs, c_52]; simp) dX11_isEqual_98
              · obtain ⟨X', rfl, hok, hc'⟩ := hc.cons c_47
                have hx9 := hXi x List.mem_cons_self
                refine lv_aload_n hx hb dX11_isEqual_55 rfl (lv_at hl 0 rfl) ?_
                refine lv_aload_n hx hb dX11_isEqual_56 rfl (lv_at hl 0 rfl) ?_
                refine zi_get (C := RX11) (T := TX11) (N := 23) (v := .ref (qs)) hx hb hz wo_X11 hown hK hO rfl 1 (by decide) (hz _ wf_X11_7) (fun _ h9 => h9) hS1 dX11_isEqual_57 ?_
                refine lv_iload hx hb dX11_isEqual_60 (lv_at hl 4 rfl) ?_
                refine zi_ald hx hb hK hA (by omega) (by decide) dX11_isEqual_62 ?_
                refine lv_aload_n hx hb dX11_isEqual_63 rfl (lv_at hl 0 rfl) ?_
                refine lv_iload hx hb dX11_isEqual_64 (lv_at hl 4 rfl) ?_
                refine zc_V (As := [.int (nI (x))]) (rest := [.int (nI (f x)), .ref (o)]) ⟨hx, hb, hml, hown, hts⟩ (m_valueOf l G o qs fs f x hok.1) (cwV 1 hts (zgV wm_X11_131 wv_X11_valueOf) rfl rfl rfl (by decide +kernel) ⟨show 1 + 1 ≤ 2 * d + 4 by omega, show 8 + (2 + 11) + (22) ≤ 55 * d + 89 by omega⟩) hK hO rfl hP rfl hl.1 rfl (Nat.le_of_ble_eq_true rfl) dX11_isEqual_66 ⟨Nat.zero_le _, Nat.zero_le _⟩ ?_
                refine lv_iload_n hx hb dX11_isEqual_69 rfl (lv_at hl 1 rfl) ?_
                refine lv_iload hx hb dX11_isEqual_70 (lv_at hl 2 rfl) ?_
                refine zc_V (As := [.int (nI (f x)), .int (nI (vo f x)), .int (nI (k2)), .int (nI (b))]) (rest := []) ⟨hx, hb, hml, hown, hts⟩ (m_order_all l G o qs fs f d (f x) (vo f x) k2 b (hk4.2 x hx9) hk2) (cwV 4 hts (zgV wm_X11_257 wv_X11_order) rfl rfl rfl (by decide +kernel) ⟨show 2 * d + 3 + 1 ≤ 2 * d + 4 by omega, show 8 + (10 + 11) + (55 * d + 60) ≤ 55 * d + 89 by omega⟩) hK hO rfl hP rfl hl.1 rfl (Nat.le_of_ble_eq_true rfl) dX11_isEqual_72 ⟨Nat.zero_le _, Nat.zero_le _⟩ ?_
                refine lv_if_ne (tgt := 82) hx hb dX11_isEqual_75 (by decide) (fun c_75 => ?_) (fun c_75 => ?_)
                · have hd9 : decide (ord f d (f x) (vo f x) k2 b = .eq) = false := decide_eq_false (fun q => c_75 ((oI_eq _).mpr q))
                  refine lv_iconst (v := nI 0) hx hb dX11_isEqual_82 (by decide) ?_
                  refine lv_istore (lv' := [(5, .int (nI (0))), (0, .ref (o)), (3, .int (nI (k2))), (4, .int (nI (b))), (6, .int (nI (x)))]) hx hb dX11_isEqual_83 hl (by decide) rfl (fun ls hl => ?_)
                  refine lv_aload_n hx hb dX11_isEqual_85 rfl (lv_at hl 1 rfl) ?_
                  refine lv_iload hx hb dX11_isEqual_86 (lv_at hl 4 rfl) ?_
                  refine zc_V (As := [.int (nI (x))]) (rest := []) ⟨hx, hb, hml, hown, hts⟩ (m_nextOf l G o qs fs f x hok) (cwV 1 hts (zgV wm_X11_140 wv_X11_nextOf) rfl rfl rfl (by decide +kernel) ⟨show 2 + 1 ≤ 2 * d + 4 by omega, show 8 + (4 + 11) + (43) ≤ 55 * d + 89 by omega⟩) hK hO rfl hP rfl hl.1 rfl (Nat.le_of_ble_eq_true rfl) dX11_isEqual_88 ⟨Nat.zero_le _, Nat.zero_le _⟩ ?_
                  refine lv_istore (lv' := [(6, .int (nI (nx f x))), (5, .int (nI (0))), (0, .ref (o)), (3, .int (nI (k2))), (4, .int (nI (b)))]) hx hb dX11_isEqual_91 hl (by decide) rfl (fun ls hl => ?_)
                  refine lv_goto (tgt := 45) hx hb dX11_isEqual_93 (by decide) ?_
                  exact ih_ (nx f x) (X') false (by simp at hm_; omega) hc' (Ch.lt (by decide) hc') (fun z hz => hXi z (List.mem_cons_of_mem _ hz)) (by rw [hs, c_52, List.any_cons, hd9]; rfl) ls (lv_sub hl [2, 3, 4, 1, 0] rfl)
                · have hd9 : decide (ord f d (f x) (vo f x) k2 b = .eq) = true := decide_eq_true ((oI_eq _).mp c_75)
                  refine lv_iconst (v := nI 1) hx hb dX11_isEqual_78 (by decide) ?_
                  refine lv_goto (tgt := 83) hx hb dX11_isEqual_79 (by decide) ?_
                  refine lv_istore (lv' := [(5, .int (nI (1))), (0, .ref (o)), (3, .int (nI (k2))), (4, .int (nI (b))), (6, .int (nI (x)))]) hx hb dX11_isEqual_83 hl (by decide) rfl (fun ls hl => ?_)
                  refine lv_aload_n hx hb dX11_isEqual_85 rfl (lv_at hl 1 rfl) ?_
                  refine lv_iload hx hb dX11_isEqual_86 (lv_at hl 4 rfl) ?_
                  refine zc_V (As := [.int (nI (x))]) (rest := []) ⟨hx, hb, hml, hown, hts⟩ (m_nextOf l G o qs fs f x hok) (cwV 1 hts (zgV wm_X11_140 wv_X11_nextOf) rfl rfl rfl (by decide +kernel) ⟨show 2 + 1 ≤ 2 * d + 4 by omega, show 8 + (4 + 11) + (43) ≤ 55 * d + 89 by omega⟩) hK hO rfl hP rfl hl.1 rfl (Nat.le_of_ble_eq_true rfl) dX11_isEqual_88 ⟨Nat.zero_le _, Nat.zero_le _⟩ ?_
                  refine lv_istore (lv' := [(6, .int (nI (nx f x))), (5, .int (nI (1))), (0, .ref (o)), (3, .int (nI (k2))), (4, .int (nI (b)))]) hx hb dX11_isEqual_91 hl (by decide) rfl (fun ls hl => ?_)
                  refine lv_goto (tgt := 45) hx hb dX11_isEqual_93 (by decide) ?_
                  exact ih_ (nx f x) (X') true (by simp at hm_; omega) hc' (Ch.lt (by decide) hc') (fun z hz => hXi z (List.mem_cons_of_mem _ hz)) (by rw [hs, c_52, List.any_cons, hd9]; rfl) ls (lv_sub hl [2, 3, 4, 1, 0] rfl)
        exact L45 (((els f a).length) + 1) (fi f a) (els f a) false (Nat.lt_succ_self _) hk4.1.2 hf1 (fun _ z => z) hs0 ls (lv_sub hl [2, 5, 6, 1, 0] rfl)
    · refine lv_iconst (v := nI 1) hx hb dX11_isEqual_28 (by decide) ?_
      exact zr_z hx hb hr hlocks (by rw [isE, if_neg c_1, decide_eq_true ((oI_eq _).mp c_25)]; rfl) dX11_isEqual_29
  · refine lv_iload_n hx hb dX11_isEqual_4 rfl (lv_at hl 3 rfl) ?_
    refine lv_bipush (v := nI 10) hx hb dX11_isEqual_5 (by decide) ?_
    refine zi_icmp_ne (tgt := 14) hx hb dX11_isEqual_7 (by decide) (by omega) (by omega) (fun c_7 => ?_) (fun c_7 => ?_)
    · refine lv_iconst (v := nI 0) hx hb dX11_isEqual_14 (by decide) ?_
      exact zr_z hx hb hr hlocks (by simp [isE, c_1, c_7, nB]) dX11_isEqual_15
    · refine lv_iconst (v := nI 1) hx hb dX11_isEqual_10 (by decide) ?_
      refine lv_goto (tgt := 15) hx hb dX11_isEqual_11 (by decide) ?_
      exact zr_z hx hb hr hlocks (by simp [isE, c_1, c_7, nB]) dX11_isEqual_15

set_option maxHeartbeats 4000000 in
set_option maxRecDepth 100000 in
theorem m_stands (l : Launch) (G : zG) (o qs : Nat) (fs : List Value) (f : Nat → Nat) (q : Nat) (hq : q < 2 ^ 31) (d k a k2 b : Nat) (hk : okV f d k a) (hk2 : okV f d k2 b) : Met l yX11_stands wsX11_stands (rBox d) (zP G [.ref (o), .int (nI (q)), .int (nI (k)), .int (nI (a)), .int (nI (k2)), .int (nI (b))] (fun H => MV G o qs fs f H)) (zR (.int (nI (nB (stD f d q k a k2 b))))) 0 0 (fun _ => False) := by
  refine Met.ofW (cc := cX11_stands) (maxL := 7) (ret := (some .boolean)) (by decide) rfl ?_
  intro p en s m args below meth c s₁ B hml hv
  obtain ⟨rfl, hP, hK⟩ := hv
  have hx := B.exec
  have hb := B.bytes
  have hr := B.returns
  have hts := atoms_spec (ws := wsX11_stands) B.pre
  have hz : ∀ w ∈ zW, w.before _ s = true := fun w h => hts w (List.mem_cons_of_mem _ h)
  have hown : s.vm.findClass RX11 = some m.cls := findClass_of_methodNamed B.named
  have hlocks := B.notSynchronized
  obtain ⟨hO, hA, hS1, h8⟩ := id hP
  have hkl := hk.b.lt
  have hk2l := hk2.b.lt
  have hl := lv_entry ([.ref (o), .int (nI (q)), .int (nI (k)), .int (nI (a)), .int (nI (k2)), .int (nI (b))]) (n := 7) (Nat.le_of_ble_eq_true rfl)
  rw [lg_entry_eq]
  generalize (lg_sl ([.ref (o), .int (nI (q)), .int (nI (k)), .int (nI (a)), .int (nI (k2)), .int (nI (b))]) ++ List.replicate (7 - (lg_sl ([.ref (o), .int (nI (q)), .int (nI (k)), .int (nI (a)), .int (nI (k2)), .int (nI (b))])).length) Slot.unset).toArray = ls at hl ⊢
  have hl : lv_has ls 7 [(0, .ref (o)), (1, .int (nI (q))), (2, .int (nI (k))), (3, .int (nI (a))), (4, .int (nI (k2))), (5, .int (nI (b)))] := hl
  refine lv_iload_n hx hb dX11_stands_0 rfl (lv_at hl 2 rfl) ?_
  refine zc_S (As := [.int (nI (k))]) (rest := []) ⟨hx, hb, hml, hown, hts⟩ (m_classOf l G k hkl) (cwS 1 hts (zgS wm_X11_246 wu_X11_classOf) rfl rfl rfl (by decide +kernel) ⟨show 0 + 1 ≤ 2 * d + 4 by omega, show 8 + (1 + 11) + (0) ≤ 55 * d + 89 by omega⟩) hK trivial rfl hl.1 rfl (Nat.le_of_ble_eq_true rfl) dX11_stands_1 ⟨Nat.zero_le _, Nat.zero_le _⟩ ?_
  refine lv_iload hx hb dX11_stands_4 (lv_at hl 4 rfl) ?_
  refine zc_S (As := [.int (nI (k2))]) (rest := [.int (nI (clO (k)))]) ⟨hx, hb, hml, hown, hts⟩ (m_classOf l G k2 hk2l) (cwS 1 hts (zgS wm_X11_246 wu_X11_classOf) rfl rfl rfl (by decide +kernel) ⟨show 0 + 1 ≤ 2 * d + 4 by omega, show 8 + (1 + 11) + (0) ≤ 55 * d + 89 by omega⟩) hK trivial rfl hl.1 rfl (Nat.le_of_ble_eq_true rfl) dX11_stands_6 ⟨Nat.zero_le _, Nat.zero_le _⟩ ?_
  refine zi_icmp_eq (tgt := 14) hx hb dX11_stands_9 (by decide) (Nat.lt_trans (clO_lt _) (by decide)) (Nat.lt_trans (clO_lt _) (by decide)) (fun c_9 => ?_) (fun c_9 => ?_)
  · refine lv_aload_n hx hb dX11_stands_14 rfl (lv_at hl 0 rfl) ?_
    refine lv_iload_n hx hb dX11_stands_15 rfl (lv_at hl 2 rfl) ?_
    refine lv_iload_n hx hb dX11_stands_16 rfl (lv_at hl 3 rfl) ?_
    refine lv_iload hx hb dX11_stands_17 (lv_at hl 4 rfl) ?_
    refine lv_iload hx hb dX11_stands_19 (lv_at hl 5 rfl) ?_
    refine zc_V (As := [.int (nI (k)), .int (nI (a)), .int (nI (k2)), .int (nI (b))]) (rest := []) ⟨hx, hb, hml, hown, hts⟩ (m_order_all l G o qs fs f d k a k2 b hk hk2) (cwV 4 hts (zgV wm_X11_257 wv_X11_order) rfl rfl rfl (by decide +kernel) ⟨show 2 * d + 3 + 1 ≤ 2 * d + 4 by omega, show 8 + (10 + 11) + (55 * d + 60) ≤ 55 * d + 89 by omega⟩) hK hO rfl hP rfl hl.1 rfl (Nat.le_of_ble_eq_true rfl) dX11_stands_21 ⟨Nat.zero_le _, Nat.zero_le _⟩ ?_
    refine lv_istore (lv' := [(6, .int (oI (ord f d k a k2 b))), (0, .ref (o)), (1, .int (nI (q))), (2, .int (nI (k))), (3, .int (nI (a))), (4, .int (nI (k2))), (5, .int (nI (b)))]) hx hb dX11_stands_24 hl (by decide) rfl (fun ls hl => ?_)
    refine lv_iload_n hx hb dX11_stands_26 rfl (lv_at hl 2 rfl) ?_
    refine lv_iconst (v := nI 5) hx hb dX11_stands_27 (by decide) ?_
    refine zi_icmp_ne (tgt := 44) hx hb dX11_stands_28 (by decide) (by omega) (by omega) (fun c_28 => ?_) (fun c_28 => ?_)
    · refine lv_iload_n hx hb dX11_stands_44 rfl (lv_at hl 2 rfl) ?_
      refine lv_bipush (v := nI 6) hx hb dX11_stands_45 (by decide) ?_
      refine zi_icmp_ne (tgt := 63) hx hb dX11_stands_47 (by decide) (by omega) (by omega) (fun c_47 => ?_) (fun c_47 => ?_)
      · refine lv_iload_n hx hb dX11_stands_63 rfl (lv_at hl 2 rfl) ?_
        refine lv_bipush (v := nI 7) hx hb dX11_stands_64 (by decide) ?_
        refine zi_icmp_ne (tgt := 82) hx hb dX11_stands_66 (by decide) (by omega) (by omega) (fun c_66 => ?_) (fun c_66 => ?_)
        · refine lv_iload hx hb dX11_stands_82 (lv_at hl 0 rfl) ?_
          refine lv_if_lt (tgt := 91) hx hb dX11_stands_84 (by decide) (fun c_84 => ?_) (fun c_84 => ?_)
          · refine lv_iconst (v := nI 0) hx hb dX11_stands_91 (by decide) ?_
            exact zr_z hx hb hr hlocks (by rw [stD, decide_eq_true c_9]; unfold stO; rw [if_neg c_28, if_neg c_47, if_neg c_66]; rw [decide_eq_false (fun z => z ((oI_lt _).mp c_84))]; rfl) dX11_stands_92
          · refine lv_iconst (v := nI 1) hx hb dX11_stands_87 (by decide) ?_
            refine lv_goto (tgt := 92) hx hb dX11_stands_88 (by decide) ?_
            exact zr_z hx hb hr hlocks (by rw [stD, decide_eq_true c_9]; unfold stO; rw [if_neg c_28, if_neg c_47, if_neg c_66]; rw [decide_eq_true (show ord f d k a k2 b ≠ .lt from fun z => c_84 ((oI_lt _).mpr z))]; rfl) dX11_stands_92
        · refine lv_iload hx hb dX11_stands_69 (lv_at hl 0 rfl) ?_
          refine lv_if_le (tgt := 78) hx hb dX11_stands_71 (by decide) (fun c_71 => ?_) (fun c_71 => ?_)
          · refine lv_iconst (v := nI 0) hx hb dX11_stands_78 (by decide) ?_
            refine lv_goto (tgt := 92) hx hb dX11_stands_79 (by decide) ?_
            exact zr_z hx hb hr hlocks (by rw [stD, decide_eq_true c_9]; unfold stO; rw [if_neg c_28, if_neg c_47, if_pos c_66]; rw [decide_eq_false (fun z => (oI_le _).mp c_71 z)]; rfl) dX11_stands_92
          · refine lv_iconst (v := nI 1) hx hb dX11_stands_74 (by decide) ?_
            refine lv_goto (tgt := 92) hx hb dX11_stands_75 (by decide) ?_
            exact zr_z hx hb hr hlocks (by rw [stD, decide_eq_true c_9]; unfold stO; rw [if_neg c_28, if_neg c_47, if_pos c_66]; rw [decide_eq_true (by cases h9 : ord f d k a k2 b with | gt => rfl | lt => exact absurd (by rw [h9]; decide) c_71 | eq => exact absurd (by rw [h9]; decide) c_71)]; rfl) dX11_stands_92
      · refine lv_iload hx hb dX11_stands_50 (lv_at hl 0 rfl) ?_
        refine lv_if_gt (tgt := 59) hx hb dX11_stands_52 (by decide) (fun c_52 => ?_) (fun c_52 => ?_)
        · refine lv_iconst (v := nI 0) hx hb dX11_stands_59 (by decide) ?_
          refine lv_goto (tgt := 92) hx hb dX11_stands_60 (by decide) ?_
          exact zr_z hx hb hr hlocks (by rw [stD, decide_eq_true c_9]; unfold stO; rw [if_neg c_28, if_pos c_47]; rw [decide_eq_false (fun z => z ((oI_gt _).mp c_52))]; rfl) dX11_stands_92
        · refine lv_iconst (v := nI 1) hx hb dX11_stands_55 (by decide) ?_
          refine lv_goto (tgt := 92) hx hb dX11_stands_56 (by decide) ?_
          exact zr_z hx hb hr hlocks (by rw [stD, decide_eq_true c_9]; unfold stO; rw [if_neg c_28, if_pos c_47]; rw [decide_eq_true (show ord f d k a k2 b ≠ .gt from fun z => c_52 ((oI_gt _).mpr z))]; rfl) dX11_stands_92
    · refine lv_iload hx hb dX11_stands_31 (lv_at hl 0 rfl) ?_
      refine lv_if_ge (tgt := 40) hx hb dX11_stands_33 (by decide) (fun c_33 => ?_) (fun c_33 => ?_)
      · refine lv_iconst (v := nI 0) hx hb dX11_stands_40 (by decide) ?_
        refine lv_goto (tgt := 92) hx hb dX11_stands_41 (by decide) ?_
        exact zr_z hx hb hr hlocks (by rw [stD, decide_eq_true c_9]; unfold stO; rw [if_pos c_28]; rw [decide_eq_false ((oI_ge _).mp c_33)]; rfl) dX11_stands_92
      · refine lv_iconst (v := nI 1) hx hb dX11_stands_36 (by decide) ?_
        refine lv_goto (tgt := 92) hx hb dX11_stands_37 (by decide) ?_
        exact zr_z hx hb hr hlocks (by rw [stD, decide_eq_true c_9]; unfold stO; rw [if_pos c_28]; rw [decide_eq_true (z_olt c_33)]; rfl) dX11_stands_92
  · refine lv_iconst (v := nI 0) hx hb dX11_stands_12 (by decide) ?_
    exact zr_z hx hb hr hlocks (by rw [stD, decide_eq_false c_9]; rfl) dX11_stands_13

set_option maxHeartbeats 4000000 in
set_option maxRecDepth 100000 in
theorem m_isSo (l : Launch) (G : zG) (o qs : Nat) (fs : List Value) (f : Nat → Nat) (q : Nat) (hq : q < 2 ^ 31) (d k a k2 b : Nat) (hk : okV f d k a) (hk2 : okV f d k2 b) : Met l yX11_isSo wsX11_isSo (rSo d) (zP G [.ref (o), .int (nI (q)), .int (nI (k)), .int (nI (a)), .int (nI (k2)), .int (nI (b))] (fun H => MV G o qs fs f H)) (zR (.int (nI (nB (isO f d q k a k2 b))))) 0 0 (fun _ => False) := by
  refine Met.ofW (cc := cX11_isSo) (maxL := 8) (ret := (some .boolean)) (by decide) rfl ?_
  intro p en s m args below meth c s₁ B hml hv
  obtain ⟨rfl, hP, hK⟩ := hv
  have hx := B.exec
  have hb := B.bytes
  have hr := B.returns
  have hts := atoms_spec (ws := wsX11_isSo) B.pre
  have hz : ∀ w ∈ zW, w.before _ s = true := fun w h => hts w (List.mem_cons_of_mem _ h)
  have hown : s.vm.findClass RX11 = some m.cls := findClass_of_methodNamed B.named
  have hlocks := B.notSynchronized
  obtain ⟨hO, hA, hS1, h8⟩ := id hP
  have hkl := hk.b.lt
  have hk2l := hk2.b.lt
  have hl := lv_entry ([.ref (o), .int (nI (q)), .int (nI (k)), .int (nI (a)), .int (nI (k2)), .int (nI (b))]) (n := 8) (Nat.le_of_ble_eq_true rfl)
  rw [lg_entry_eq]
  generalize (lg_sl ([.ref (o), .int (nI (q)), .int (nI (k)), .int (nI (a)), .int (nI (k2)), .int (nI (b))]) ++ List.replicate (8 - (lg_sl ([.ref (o), .int (nI (q)), .int (nI (k)), .int (nI (a)), .int (nI (k2)), .int (nI (b))])).length) Slot.unset).toArray = ls at hl ⊢
  have hl : lv_has ls 8 [(0, .ref (o)), (1, .int (nI (q))), (2, .int (nI (k))), (3, .int (nI (a))), (4, .int (nI (k2))), (5, .int (nI (b)))] := hl
  refine lv_iload_n hx hb dX11_isSo_0 rfl (lv_at hl 2 rfl) ?_
  refine zi_if_ne (tgt := 29) hx hb dX11_isSo_1 (by decide) (by omega) (fun c_1 => ?_) (fun c_1 => ?_)
  · refine lv_aload_n hx hb dX11_isSo_29 rfl (lv_at hl 0 rfl) ?_
    refine lv_iload_n hx hb dX11_isSo_30 rfl (lv_at hl 1 rfl) ?_
    refine lv_iload_n hx hb dX11_isSo_31 rfl (lv_at hl 2 rfl) ?_
    refine lv_iload_n hx hb dX11_isSo_32 rfl (lv_at hl 3 rfl) ?_
    refine lv_iload hx hb dX11_isSo_33 (lv_at hl 4 rfl) ?_
    refine lv_iload hx hb dX11_isSo_35 (lv_at hl 5 rfl) ?_
    refine zc_V (As := [.int (nI (q)), .int (nI (k)), .int (nI (a)), .int (nI (k2)), .int (nI (b))]) (rest := []) ⟨hx, hb, hml, hown, hts⟩ (m_stands l G o qs fs f q hq d k a k2 b hk hk2) (cwV 5 hts (zgV wm_X11_260 wv_X11_stands) rfl rfl rfl (by decide +kernel) ⟨show 2 * d + 4 + 1 ≤ 2 * d + 5 by omega, show 8 + (7 + 11) + (55 * d + 89) ≤ 55 * d + 115 by omega⟩) hK hO rfl hP rfl hl.1 rfl (Nat.le_of_ble_eq_true rfl) dX11_isSo_37 ⟨Nat.zero_le _, Nat.zero_le _⟩ ?_
    refine lv_istore (lv' := [(6, .int (nI (nB (stD f d q k a k2 b)))), (0, .ref (o)), (1, .int (nI (q))), (2, .int (nI (k))), (3, .int (nI (a))), (4, .int (nI (k2))), (5, .int (nI (b)))]) hx hb dX11_isSo_40 hl (by decide) rfl (fun ls hl => ?_)
    refine lv_iload_n hx hb dX11_isSo_42 rfl (lv_at hl 3 rfl) ?_
    refine lv_iconst (v := nI 4) hx hb dX11_isSo_43 (by decide) ?_
    refine zi_icmp_ne (tgt := 99) hx hb dX11_isSo_44 (by decide) (by omega) (by omega) (fun c_44 => ?_) (fun c_44 => ?_)
    · refine lv_iload hx hb dX11_isSo_99 (lv_at hl 0 rfl) ?_
      exact zr_z hx hb hr hlocks (by rw [isO, if_neg c_1, decide_eq_false c_44]; simp) dX11_isSo_101
    · have hk4 := okV_items hk c_44
      have hf1 := hk4.1.2.lt (by decide)
      have hs0 : isO f d q k a k2 b = (stD f d q k a k2 b || (els f a).any (fun x => stD f d q (f x) (vo f x) k2 b)) := by rw [isO, if_neg c_1, decide_eq_true c_44]; rfl
      refine lv_aload_n hx hb dX11_isSo_47 rfl (lv_at hl 1 rfl) ?_
      refine lv_iload_n hx hb dX11_isSo_48 rfl (lv_at hl 4 rfl) ?_
      refine zc_V (As := [.int (nI (a))]) (rest := []) ⟨hx, hb, hml, hown, hts⟩ (m_firstOf l G o qs fs f a hk4.1.1) (cwV 1 hts (zgV wm_X11_137 wv_X11_firstOf) rfl rfl rfl (by decide +kernel) ⟨show 0 + 1 ≤ 2 * d + 5 by omega, show 8 + (2 + 11) + (0) ≤ 55 * d + 115 by omega⟩) hK hO rfl hP rfl hl.1 rfl (Nat.le_of_ble_eq_true rfl) dX11_isSo_49 ⟨Nat.zero_le _, Nat.zero_le _⟩ ?_
      refine lv_istore (lv' := [(7, .int (nI (fi f a))), (6, .int (nI (nB (stD f d q k a k2 b)))), (0, .ref (o)), (1, .int (nI (q))), (2, .int (nI (k))), (3, .int (nI (a))), (4, .int (nI (k2))), (5, .int (nI (b)))]) hx hb dX11_isSo_52 hl (by decide) rfl (fun ls hl => ?_)
      have L54 : ∀ (n_ : Nat) (x : Nat) (X : List Nat) (is : Bool), X.length < n_ → (Ch 18000 f x X) → (x < 18000) → (∀ z ∈ X, z ∈ els f a) → (isO f d q k a k2 b = (is || X.any (fun x => stD f d q (f x) (vo f x) k2 b))) → ∀ ls : Array Slot, lv_has ls 8 [(0, .ref (o)), (1, .int (nI (q))), (4, .int (nI (k2))), (5, .int (nI (b))), (6, .int (nI (nB (is)))), (7, .int (nI (x)))] → W p l en (headSpec wsX11_isSo (rSo d)).room s m ([.ref (o), .int (nI (q)), .int (nI (k)), .int (nI (a)), .int (nI (k2)), .int (nI (b))] : List Value).toArray below meth c s.heap [] 0 0 (MQ below (zR (.int (nI (nB (isO f d q k a k2 b))))) ([.ref (o), .int (nI (q)), .int (nI (k)), .int (nI (a)), .int (nI (k2)), .int (nI (b))] : List Value).toArray s 0 0 (fun _ => False)) (F0 m 54 ls []) := by
        intro n_
        induction n_ with
        | zero => intro x X is hm_; exact absurd hm_ (Nat.not_lt_zero _)
        | succ n_ ih_ =>
          intro x X is hm_ hc hxl hXi hs ls hl
          refine lv_iload hx hb dX11_isSo_54 (lv_at hl 5 rfl) ?_
          refine zi_if_le (tgt := 99) hx hb dX11_isSo_56 (by decide) (by omega) (fun c_56 => ?_) (fun c_56 => ?_)
          · have hX0 := hc.nil c_56
            subst hX0
            refine lv_iload hx hb dX11_isSo_99 (lv_at hl 4 rfl) ?_
            exact zr_z hx hb hr hlocks (by rw [hs]; simp) dX11_isSo_101
          · refine lv_iload hx hb dX11_isSo_59 (lv_at hl 4 rfl) ?_
            refine zb_if_ne (tgt := 99) hx hb dX11_isSo_61 (by decide) (fun c_61 => ?_) (fun c_61 => ?_)
            · refine lv_iload hx hb dX11_isSo_99 (lv_at hl 4 rfl) ?_
              exact zr_z hx hb hr hlocks (by rw [hs, c_61]; simp) dX11_isSo_101
            · obtain ⟨X', rfl, hok, hc'⟩ := hc.cons c_56
              have hx9 := hXi x List.mem_cons_self
              refine lv_aload_n hx hb dX11_isSo_64 rfl (lv_at hl 0 rfl) ?_
              refine lv_iload_n hx hb dX11_isSo_65 rfl (lv_at hl 1 rfl) ?_
              refine lv_aload_n hx hb dX11_isSo_66 rfl (lv_at hl 0 rfl) ?_
              refine zi_get (C := RX11) (T := TX11) (N := 23) (v := .ref (qs)) hx hb hz wo_X11 hown hK hO rfl 1 (by decide) (hz _ wf_X11_7) (fun _ h9 => h9) hS1 dX11_isSo_67 ?_
              refine lv_iload hx hb dX11_isSo_70 (lv_at hl 5 rfl) ?_
              refine zi_ald hx hb hK hA (by omega) (by decide) dX11_isSo_72 ?_
              refine lv_aload_n hx hb dX11_isSo_73 rfl (lv_at hl 0 rfl) ?_
              refine lv_iload hx hb dX11_isSo_74 (lv_at hl 5 rfl) ?_
              refine zc_V (As := [.int (nI (x))]) (rest := [.int (nI (f x)), .int (nI (q)), .ref (o)]) ⟨hx, hb, hml, hown, hts⟩ (m_valueOf l G o qs fs f x hok.1) (cwV 1 hts (zgV wm_X11_131 wv_X11_valueOf) rfl rfl rfl (by decide +kernel) ⟨show 1 + 1 ≤ 2 * d + 5 by omega, show 8 + (2 + 11) + (22) ≤ 55 * d + 115 by omega⟩) hK hO rfl hP rfl hl.1 rfl (Nat.le_of_ble_eq_true rfl) dX11_isSo_76 ⟨Nat.zero_le _, Nat.zero_le _⟩ ?_
              refine lv_iload hx hb dX11_isSo_79 (lv_at hl 2 rfl) ?_
              refine lv_iload hx hb dX11_isSo_81 (lv_at hl 3 rfl) ?_
              refine zc_V (As := [.int (nI (q)), .int (nI (f x)), .int (nI (vo f x)), .int (nI (k2)), .int (nI (b))]) (rest := []) ⟨hx, hb, hml, hown, hts⟩ (m_stands l G o qs fs f q hq d (f x) (vo f x) k2 b (hk4.2 x hx9) hk2) (cwV 5 hts (zgV wm_X11_260 wv_X11_stands) rfl rfl rfl (by decide +kernel) ⟨show 2 * d + 4 + 1 ≤ 2 * d + 5 by omega, show 8 + (7 + 11) + (55 * d + 89) ≤ 55 * d + 115 by omega⟩) hK hO rfl hP rfl hl.1 rfl (Nat.le_of_ble_eq_true rfl) dX11_isSo_83 ⟨Nat.zero_le _, Nat.zero_le _⟩ ?_
              refine lv_istore (lv' := [(6, .int (nI (nB (stD f d q (f x) (vo f x) k2 b)))), (0, .ref (o)), (1, .int (nI (q))), (4, .int (nI (k2))), (5, .int (nI (b))), (7, .int (nI (x)))]) hx hb dX11_isSo_86 hl (by decide) rfl (fun ls hl => ?_)
              refine lv_aload_n hx hb dX11_isSo_88 rfl (lv_at hl 1 rfl) ?_
              refine lv_iload hx hb dX11_isSo_89 (lv_at hl 5 rfl) ?_
              refine zc_V (As := [.int (nI (x))]) (rest := []) ⟨hx, hb, hml, hown, hts⟩ (m_nextOf l G o qs fs f x hok) (cwV 1 hts (zgV wm_X11_140 wv_X11_nextOf) rfl rfl rfl (by decide +kernel) ⟨show 2 + 1 ≤ 2 * d + 5 by omega, show 8 + (4 + 11) + (43) ≤ 55 * d + 115 by omega⟩) hK hO rfl hP rfl hl.1 rfl (Nat.le_of_ble_eq_true rfl) dX11_isSo_91 ⟨Nat.zero_le _, Nat.zero_le _⟩ ?_
              refine lv_istore (lv' := [(7, .int (nI (nx f x))), (6, .int (nI (nB (stD f d q (f x) (vo f x) k2 b)))), (0, .ref (o)), (1, .int (nI (q))), (4, .int (nI (k2))), (5, .int (nI (b)))]) hx hb dX11_isSo_94 hl (by decide) rfl (fun ls hl => ?_)
              refine lv_goto (tgt := 54) hx hb dX11_isSo_96 (by decide) ?_
              exact ih_ (nx f x) (X') (stD f d q (f x) (vo f x) k2 b) (by simp at hm_; omega) hc' (Ch.lt (by decide) hc') (fun z hz => hXi z (List.mem_cons_of_mem _ hz)) (by rw [hs, c_61, List.any_cons]; rfl) ls (lv_sub hl [2, 3, 4, 5, 1, 0] rfl)
      exact L54 (((els f a).length) + 1) (fi f a) (els f a) (stD f d q k a k2 b) (Nat.lt_succ_self _) hk4.1.2 hf1 (fun _ z => z) hs0 ls (lv_sub hl [2, 3, 6, 7, 1, 0] rfl)
  · refine lv_iload hx hb dX11_isSo_4 (lv_at hl 4 rfl) ?_
    refine lv_bipush (v := nI 10) hx hb dX11_isSo_6 (by decide) ?_
    refine zi_icmp_ne (tgt := 27) hx hb dX11_isSo_8 (by decide) (by omega) (by omega) (fun c_8 => ?_) (fun c_8 => ?_)
    · refine lv_iconst (v := nI 0) hx hb dX11_isSo_27 (by decide) ?_
      exact zr_z hx hb hr hlocks (by first | (exfalso; omega) | (simp_all [isO, nB]; done)) dX11_isSo_28
    · refine lv_iload_n hx hb dX11_isSo_11 rfl (lv_at hl 1 rfl) ?_
      refine lv_bipush (v := nI 6) hx hb dX11_isSo_12 (by decide) ?_
      refine zi_icmp_eq (tgt := 23) hx hb dX11_isSo_14 (by decide) (by omega) (by omega) (fun c_14 => ?_) (fun c_14 => ?_)
      · refine lv_iconst (v := nI 1) hx hb dX11_isSo_23 (by decide) ?_
        refine lv_goto (tgt := 28) hx hb dX11_isSo_24 (by decide) ?_
        exact zr_z hx hb hr hlocks (by first | (exfalso; omega) | (simp_all [isO, nB]; done)) dX11_isSo_28
      · refine lv_iload_n hx hb dX11_isSo_17 rfl (lv_at hl 1 rfl) ?_
        refine lv_bipush (v := nI 8) hx hb dX11_isSo_18 (by decide) ?_
        refine zi_icmp_ne (tgt := 27) hx hb dX11_isSo_20 (by decide) (by omega) (by omega) (fun c_20 => ?_) (fun c_20 => ?_)
        · refine lv_iconst (v := nI 0) hx hb dX11_isSo_27 (by decide) ?_
          exact zr_z hx hb hr hlocks (by first | (exfalso; omega) | (simp_all [isO, nB]; done)) dX11_isSo_28
        · refine lv_iconst (v := nI 1) hx hb dX11_isSo_23 (by decide) ?_
          refine lv_goto (tgt := 28) hx hb dX11_isSo_24 (by decide) ?_
          exact zr_z hx hb hr hlocks (by first | (exfalso; omega) | (simp_all [isO, nB]; done)) dX11_isSo_28
