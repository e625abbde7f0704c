set_option maxHeartbeats 4000000 in
set_option maxRecDepth 100000 in
theorem m_stepsOf (l : Launch) (G : zG) (o qs : Nat) (fs : List Value) (f : Nat → Nat) (e : Nat) (hok : okE 18000 f e) : Met l yX11_stepsOf wsX11_stepsOf ({ frames := 1, cells := 0, slots := 0, locals := 22 }) (zP G [.ref (o), .int (nI (e))] (fun H => MV G o qs fs f H)) (zR (.int (nI (stN f e)))) 0 0 (fun _ => False) := by
  refine Met.ofW (cc := cX11_stepsOf) (maxL := 7) (ret := (some .int)) (by decide) rfl ?_
  intro p en s m args below meth c s₁ B hml hv
  obtain ⟨rfl, hP, hK⟩ := hv
  have hx := B.exec
  have hb := B.bytes
  have hr := B.returns
  have hts := atoms_spec (ws := wsX11_stepsOf) B.pre
  have hz : ∀ w ∈ zW, w.before _ s = true := fun w h => hts w (List.mem_cons_of_mem _ h)
  have hown : s.vm.findClass RX11 = some m.cls := findClass_of_methodNamed B.named
  have hlocks := B.notSynchronized
  obtain ⟨hO, hA, hS1, h8⟩ := id hP
  have hel := hok.lt
  have hne := hok.1.2
  have hgt := ne_gt f e
  have hl := lv_entry ([.ref (o), .int (nI (e))]) (n := 7) (Nat.le_of_ble_eq_true rfl)
  rw [lg_entry_eq]
  generalize (lg_sl ([.ref (o), .int (nI (e))]) ++ List.replicate (7 - (lg_sl ([.ref (o), .int (nI (e))])).length) Slot.unset).toArray = ls at hl ⊢
  have hl : lv_has ls 7 [(0, .ref (o)), (1, .int (nI (e)))] := hl
  refine lv_iconst (v := nI 1) hx hb dX11_stepsOf_0 (by decide) ?_
  refine lv_istore_n (lv' := [(2, .int (nI (1))), (0, .ref (o)), (1, .int (nI (e)))]) hx hb dX11_stepsOf_1 rfl hl (by decide) rfl (fun ls hl => ?_)
  refine lv_aload_n hx hb dX11_stepsOf_2 rfl (lv_at hl 1 rfl) ?_
  refine lv_iload_n hx hb dX11_stepsOf_3 rfl (lv_at hl 2 rfl) ?_
  refine zc_V (As := [.int (nI (e))]) (rest := []) ⟨hx, hb, hml, hown, hts⟩ (m_nameEndOf l G o qs fs f e hok.1) (cwV 1 hts (zgV wm_X11_125 wv_X11_nameEndOf) rfl rfl rfl (by decide +kernel) ⟨Nat.le_of_ble_eq_true rfl, Nat.le_of_ble_eq_true rfl⟩) hK hO rfl hP rfl hl.1 rfl (Nat.le_of_ble_eq_true rfl) dX11_stepsOf_4 ⟨Nat.zero_le _, Nat.zero_le _⟩ ?_
  refine lv_istore_n (lv' := [(3, .int (nI (ne f e))), (2, .int (nI (1))), (0, .ref (o)), (1, .int (nI (e)))]) hx hb dX11_stepsOf_7 rfl hl (by decide) rfl (fun ls hl => ?_)
  refine lv_iconst (v := nI 1) hx hb dX11_stepsOf_8 (by decide) ?_
  refine lv_istore (lv' := [(4, .int (nI (1))), (3, .int (nI (ne f e))), (2, .int (nI (1))), (0, .ref (o)), (1, .int (nI (e)))]) hx hb dX11_stepsOf_9 hl (by decide) rfl (fun ls hl => ?_)
  refine lv_iload_n hx hb dX11_stepsOf_11 rfl (lv_at hl 4 rfl) ?_
  refine lv_iconst (v := nI 1) hx hb dX11_stepsOf_12 (by decide) ?_
  refine zi_add hx hb dX11_stepsOf_13 ?_
  refine lv_istore (lv' := [(5, .int (nI (e + 1))), (4, .int (nI (1))), (3, .int (nI (ne f e))), (2, .int (nI (1))), (0, .ref (o)), (1, .int (nI (e)))]) hx hb dX11_stepsOf_14 hl (by decide) rfl (fun ls hl => ?_)
  have L16 : ∀ (n_ : Nat) (k : Nat) (x : Nat) (gd : Bool), ne f e + 1 - k < n_ → (e + 1 ≤ k) → (k ≤ ne f e + 1) → (x ≤ k) → (stI f e k x gd) → ∀ ls : Array Slot, lv_has ls 7 [(0, .ref (o)), (1, .int (nI (e))), (2, .int (nI (x))), (3, .int (nI (ne f e))), (4, .int (nI (nB (gd)))), (5, .int (nI (k)))] → W p l en (headSpec wsX11_stepsOf ({ frames := 1, cells := 0, slots := 0, locals := 22 })).room s m ([.ref (o), .int (nI (e))] : List Value).toArray below meth c s.heap [] 0 0 (MQ below (zR (.int (nI (stN f e)))) ([.ref (o), .int (nI (e))] : List Value).toArray s 0 0 (fun _ => False)) (F0 m 16 ls []) := by
    intro n_
    induction n_ with
    | zero => intro k x gd hm_; exact absurd hm_ (Nat.not_lt_zero _)
    | succ n_ ih_ =>
      intro k x gd hm_ h1 h2 hx9 hi ls hl
      refine lv_iload hx hb dX11_stepsOf_16 (lv_at hl 5 rfl) ?_
      refine lv_iload_n hx hb dX11_stepsOf_18 rfl (lv_at hl 3 rfl) ?_
      refine zi_icmp_gt (tgt := 119) hx hb dX11_stepsOf_19 (by decide) (by omega) (by omega) (fun c_19 => ?_) (fun c_19 => ?_)
      · have hk9 : k = ne f e + 1 := by omega
        have hi2 := hi.2 hk9
        refine lv_iload hx hb dX11_stepsOf_119 (lv_at hl 4 rfl) ?_
        refine zb_if_eq (tgt := 134) hx hb dX11_stepsOf_121 (by decide) (fun c_121 => ?_) (fun c_121 => ?_)
        · refine lv_iconst (v := nI 0) hx hb dX11_stepsOf_134 (by decide) ?_
          exact zr_i hx hb hr hlocks (by rw [stN, if_neg (fun z => by rw [← hi2.1, c_121] at z; exact absurd z.1 (by decide))]) dX11_stepsOf_135
        · refine lv_iload_n hx hb dX11_stepsOf_124 rfl (lv_at hl 2 rfl) ?_
          refine lv_bipush (v := nI 9) hx hb dX11_stepsOf_125 (by decide) ?_
          refine zi_icmp_ge (tgt := 134) hx hb dX11_stepsOf_127 (by decide) (by omega) (by omega) (fun c_127 => ?_) (fun c_127 => ?_)
          · refine lv_iconst (v := nI 0) hx hb dX11_stepsOf_134 (by decide) ?_
            exact zr_i hx hb hr hlocks (by rw [stN, if_neg (fun z => by omega)]) dX11_stepsOf_135
          · refine lv_iload_n hx hb dX11_stepsOf_130 rfl (lv_at hl 2 rfl) ?_
            refine lv_goto (tgt := 135) hx hb dX11_stepsOf_131 (by decide) ?_
            exact zr_i hx hb hr hlocks (by rw [stN, if_pos ⟨by rw [← hi2.1]; exact c_121, by omega⟩, hi2.2, Nat.add_comm]) dX11_stepsOf_135
      · refine lv_iload hx hb dX11_stepsOf_22 (lv_at hl 5 rfl) ?_
        refine lv_iload_n hx hb dX11_stepsOf_24 rfl (lv_at hl 1 rfl) ?_
        refine lv_iconst (v := nI 1) hx hb dX11_stepsOf_25 (by decide) ?_
        refine zi_add hx hb dX11_stepsOf_26 ?_
        refine zi_icmp_eq (tgt := 44) hx hb dX11_stepsOf_27 (by decide) (by omega) (by omega) (fun c_27 => ?_) (fun c_27 => ?_)
        · refine lv_iconst (v := nI 1) hx hb dX11_stepsOf_44 (by decide) ?_
          refine lv_goto (tgt := 49) hx hb dX11_stepsOf_45 (by decide) ?_
          refine lv_istore (lv' := [(6, .int (nI (1))), (0, .ref (o)), (1, .int (nI (e))), (2, .int (nI (x))), (3, .int (nI (ne f e))), (4, .int (nI (nB (gd)))), (5, .int (nI (k)))]) hx hb dX11_stepsOf_49 hl (by decide) rfl (fun ls hl => ?_)
          refine lv_iload hx hb dX11_stepsOf_51 (lv_at hl 0 rfl) ?_
          refine zi_if_eq (tgt := 93) hx hb dX11_stepsOf_53 (by decide) (by omega) (fun c_53 => absurd c_53 (by decide)) (fun c_53 => ?_)
          refine lv_aload_n hx hb dX11_stepsOf_56 rfl (lv_at hl 1 rfl) ?_
          refine zi_get (C := RX11) (T := TX11) (N := 23) (v := .ref (qs)) hx hb hz wo_X11 hown hK hO rfl 1 (by decide) (hz _ wf_X11_7) (fun _ h9 => h9) hS1 dX11_stepsOf_57 ?_
          refine lv_iload hx hb dX11_stepsOf_60 (lv_at hl 6 rfl) ?_
          refine zi_ald hx hb hK hA (by omega) (by decide) dX11_stepsOf_62 ?_
          refine zi_if_eq (tgt := 90) hx hb dX11_stepsOf_63 (by decide) (Nat.lt_trans (h8 _) (by decide)) (fun c_63 => ?_) (fun c_63 => ?_)
          · refine lv_iconst (v := nI 0) hx hb dX11_stepsOf_90 (by decide) ?_
            refine lv_istore (lv' := [(4, .int (nI (0))), (6, .int (nI (1))), (0, .ref (o)), (1, .int (nI (e))), (2, .int (nI (x))), (3, .int (nI (ne f e))), (5, .int (nI (k)))]) hx hb dX11_stepsOf_91 hl (by decide) rfl (fun ls hl => ?_)
            refine lv_iload_n hx hb dX11_stepsOf_93 rfl (lv_at hl 4 rfl) ?_
            refine lv_aload_n hx hb dX11_stepsOf_94 rfl (lv_at hl 2 rfl) ?_
            refine zi_get (C := RX11) (T := TX11) (N := 23) (v := .ref (qs)) hx hb hz wo_X11 hown hK hO rfl 1 (by decide) (hz _ wf_X11_7) (fun _ h9 => h9) hS1 dX11_stepsOf_95 ?_
            refine lv_iload hx hb dX11_stepsOf_98 (lv_at hl 6 rfl) ?_
            refine zi_ald hx hb hK hA (by omega) (by decide) dX11_stepsOf_100 ?_
            refine lv_bipush (v := nI 46) hx hb dX11_stepsOf_101 (by decide) ?_
            refine zi_icmp_ne (tgt := 110) hx hb dX11_stepsOf_103 (by decide) (Nat.lt_trans (h8 _) (by decide)) (by omega) (fun c_103 => ?_) (fun c_103 => ?_)
            · refine lv_iconst (v := nI 0) hx hb dX11_stepsOf_110 (by decide) ?_
              refine zi_add hx hb dX11_stepsOf_111 ?_
              refine lv_istore_n (lv' := [(2, .int (nI (x + 0))), (4, .int (nI (0))), (6, .int (nI (1))), (0, .ref (o)), (1, .int (nI (e))), (3, .int (nI (ne f e))), (5, .int (nI (k)))]) hx hb dX11_stepsOf_112 rfl hl (by decide) rfl (fun ls hl => ?_)
              refine lv_iinc (v := nI (k + 1)) (lv' := [(5, .int (nI (k + 1))), (2, .int (nI (x + 0))), (4, .int (nI (0))), (6, .int (nI (1))), (0, .ref (o)), (1, .int (nI (e))), (3, .int (nI (ne f e)))]) hx hb dX11_stepsOf_113 hl (k := 6) rfl (nI_add _ _) (by decide) rfl (fun ls hl => ?_)
              refine lv_goto (tgt := 16) hx hb dX11_stepsOf_116 (by decide) ?_
              exact ih_ (k + 1) (x + 0) false (by omega) (by omega) (by omega) (by omega) (stI_b hi c_19 h1 hok.1.1 (by rw [if_neg c_103]) (Or.inl c_27) (Or.inl c_63)) ls (lv_sub hl [4, 5, 1, 6, 2, 0] rfl)
            · refine lv_iconst (v := nI 1) hx hb dX11_stepsOf_106 (by decide) ?_
              refine lv_goto (tgt := 111) hx hb dX11_stepsOf_107 (by decide) ?_
              refine zi_add hx hb dX11_stepsOf_111 ?_
              refine lv_istore_n (lv' := [(2, .int (nI (x + 1))), (4, .int (nI (0))), (6, .int (nI (1))), (0, .ref (o)), (1, .int (nI (e))), (3, .int (nI (ne f e))), (5, .int (nI (k)))]) hx hb dX11_stepsOf_112 rfl hl (by decide) rfl (fun ls hl => ?_)
              refine lv_iinc (v := nI (k + 1)) (lv' := [(5, .int (nI (k + 1))), (2, .int (nI (x + 1))), (4, .int (nI (0))), (6, .int (nI (1))), (0, .ref (o)), (1, .int (nI (e))), (3, .int (nI (ne f e)))]) hx hb dX11_stepsOf_113 hl (k := 6) rfl (nI_add _ _) (by decide) rfl (fun ls hl => ?_)
              refine lv_goto (tgt := 16) hx hb dX11_stepsOf_116 (by decide) ?_
              exact ih_ (k + 1) (x + 1) false (by omega) (by omega) (by omega) (by omega) (stI_b hi c_19 h1 hok.1.1 (by rw [if_pos c_103]) (Or.inl c_27) (Or.inl c_63)) ls (lv_sub hl [4, 5, 1, 6, 2, 0] rfl)
          · refine lv_aload_n hx hb dX11_stepsOf_66 rfl (lv_at hl 1 rfl) ?_
            refine zi_get (C := RX11) (T := TX11) (N := 23) (v := .ref (qs)) hx hb hz wo_X11 hown hK hO rfl 1 (by decide) (hz _ wf_X11_7) (fun _ h9 => h9) hS1 dX11_stepsOf_67 ?_
            refine lv_iload hx hb dX11_stepsOf_70 (lv_at hl 6 rfl) ?_
            refine zi_ald hx hb hK hA (by omega) (by decide) dX11_stepsOf_72 ?_
            refine lv_bipush (v := nI 46) hx hb dX11_stepsOf_73 (by decide) ?_
            refine zi_icmp_eq (tgt := 90) hx hb dX11_stepsOf_75 (by decide) (Nat.lt_trans (h8 _) (by decide)) (by omega) (fun c_75 => ?_) (fun c_75 => ?_)
            · refine lv_iconst (v := nI 0) hx hb dX11_stepsOf_90 (by decide) ?_
              refine lv_istore (lv' := [(4, .int (nI (0))), (6, .int (nI (1))), (0, .ref (o)), (1, .int (nI (e))), (2, .int (nI (x))), (3, .int (nI (ne f e))), (5, .int (nI (k)))]) hx hb dX11_stepsOf_91 hl (by decide) rfl (fun ls hl => ?_)
              refine lv_iload_n hx hb dX11_stepsOf_93 rfl (lv_at hl 4 rfl) ?_
              refine lv_aload_n hx hb dX11_stepsOf_94 rfl (lv_at hl 2 rfl) ?_
              refine zi_get (C := RX11) (T := TX11) (N := 23) (v := .ref (qs)) hx hb hz wo_X11 hown hK hO rfl 1 (by decide) (hz _ wf_X11_7) (fun _ h9 => h9) hS1 dX11_stepsOf_95 ?_
              refine lv_iload hx hb dX11_stepsOf_98 (lv_at hl 6 rfl) ?_
              refine zi_ald hx hb hK hA (by omega) (by decide) dX11_stepsOf_100 ?_
              refine lv_bipush (v := nI 46) hx hb dX11_stepsOf_101 (by decide) ?_
              refine zi_icmp_ne (tgt := 110) hx hb dX11_stepsOf_103 (by decide) (Nat.lt_trans (h8 _) (by decide)) (by omega) (fun c_103 => ?_) (fun c_103 => ?_)
              · refine lv_iconst (v := nI 0) hx hb dX11_stepsOf_110 (by decide) ?_
                refine zi_add hx hb dX11_stepsOf_111 ?_
                refine lv_istore_n (lv' := [(2, .int (nI (x + 0))), (4, .int (nI (0))), (6, .int (nI (1))), (0, .ref (o)), (1, .int (nI (e))), (3, .int (nI (ne f e))), (5, .int (nI (k)))]) hx hb dX11_stepsOf_112 rfl hl (by decide) rfl (fun ls hl => ?_)
                refine lv_iinc (v := nI (k + 1)) (lv' := [(5, .int (nI (k + 1))), (2, .int (nI (x + 0))), (4, .int (nI (0))), (6, .int (nI (1))), (0, .ref (o)), (1, .int (nI (e))), (3, .int (nI (ne f e)))]) hx hb dX11_stepsOf_113 hl (k := 6) rfl (nI_add _ _) (by decide) rfl (fun ls hl => ?_)
                refine lv_goto (tgt := 16) hx hb dX11_stepsOf_116 (by decide) ?_
                exact ih_ (k + 1) (x + 0) false (by omega) (by omega) (by omega) (by omega) (stI_b hi c_19 h1 hok.1.1 (by rw [if_neg c_103]) (Or.inl c_27) (Or.inr (Or.inl c_75))) ls (lv_sub hl [4, 5, 1, 6, 2, 0] rfl)
              · refine lv_iconst (v := nI 1) hx hb dX11_stepsOf_106 (by decide) ?_
                refine lv_goto (tgt := 111) hx hb dX11_stepsOf_107 (by decide) ?_
                refine zi_add hx hb dX11_stepsOf_111 ?_
                refine lv_istore_n (lv' := [(2, .int (nI (x + 1))), (4, .int (nI (0))), (6, .int (nI (1))), (0, .ref (o)), (1, .int (nI (e))), (3, .int (nI (ne f e))), (5, .int (nI (k)))]) hx hb dX11_stepsOf_112 rfl hl (by decide) rfl (fun ls hl => ?_)
                refine lv_iinc (v := nI (k + 1)) (lv' := [(5, .int (nI (k + 1))), (2, .int (nI (x + 1))), (4, .int (nI (0))), (6, .int (nI (1))), (0, .ref (o)), (1, .int (nI (e))), (3, .int (nI (ne f e)))]) hx hb dX11_stepsOf_113 hl (k := 6) rfl (nI_add _ _) (by decide) rfl (fun ls hl => ?_)
                refine lv_goto (tgt := 16) hx hb dX11_stepsOf_116 (by decide) ?_
                exact ih_ (k + 1) (x + 1) false (by omega) (by omega) (by omega) (by omega) (stI_b hi c_19 h1 hok.1.1 (by rw [if_pos c_103]) (Or.inl c_27) (Or.inr (Or.inl c_75))) ls (lv_sub hl [4, 5, 1, 6, 2, 0] rfl)
            · refine lv_aload_n hx hb dX11_stepsOf_78 rfl (lv_at hl 1 rfl) ?_
              refine zi_get (C := RX11) (T := TX11) (N := 23) (v := .ref (qs)) hx hb hz wo_X11 hown hK hO rfl 1 (by decide) (hz _ wf_X11_7) (fun _ h9 => h9) hS1 dX11_stepsOf_79 ?_
              refine lv_iload hx hb dX11_stepsOf_82 (lv_at hl 6 rfl) ?_
              refine zi_ald hx hb hK hA (by omega) (by decide) dX11_stepsOf_84 ?_
              refine lv_bipush (v := nI 36) hx hb dX11_stepsOf_85 (by decide) ?_
              refine zi_icmp_ne (tgt := 93) hx hb dX11_stepsOf_87 (by decide) (Nat.lt_trans (h8 _) (by decide)) (by omega) (fun c_87 => ?_) (fun c_87 => ?_)
              · refine lv_iload_n hx hb dX11_stepsOf_93 rfl (lv_at hl 3 rfl) ?_
                refine lv_aload_n hx hb dX11_stepsOf_94 rfl (lv_at hl 1 rfl) ?_
                refine zi_get (C := RX11) (T := TX11) (N := 23) (v := .ref (qs)) hx hb hz wo_X11 hown hK hO rfl 1 (by decide) (hz _ wf_X11_7) (fun _ h9 => h9) hS1 dX11_stepsOf_95 ?_
                refine lv_iload hx hb dX11_stepsOf_98 (lv_at hl 6 rfl) ?_
                refine zi_ald hx hb hK hA (by omega) (by decide) dX11_stepsOf_100 ?_
                refine lv_bipush (v := nI 46) hx hb dX11_stepsOf_101 (by decide) ?_
                refine zi_icmp_ne (tgt := 110) hx hb dX11_stepsOf_103 (by decide) (Nat.lt_trans (h8 _) (by decide)) (by omega) (fun c_103 => ?_) (fun c_103 => ?_)
                · refine lv_iconst (v := nI 0) hx hb dX11_stepsOf_110 (by decide) ?_
                  refine zi_add hx hb dX11_stepsOf_111 ?_
                  refine lv_istore_n (lv' := [(2, .int (nI (x + 0))), (6, .int (nI (1))), (0, .ref (o)), (1, .int (nI (e))), (3, .int (nI (ne f e))), (4, .int (nI (nB (gd)))), (5, .int (nI (k)))]) hx hb dX11_stepsOf_112 rfl hl (by decide) rfl (fun ls hl => ?_)
                  refine lv_iinc (v := nI (k + 1)) (lv' := [(5, .int (nI (k + 1))), (2, .int (nI (x + 0))), (6, .int (nI (1))), (0, .ref (o)), (1, .int (nI (e))), (3, .int (nI (ne f e))), (4, .int (nI (nB (gd))))]) hx hb dX11_stepsOf_113 hl (k := 6) rfl (nI_add _ _) (by decide) rfl (fun ls hl => ?_)
                  refine lv_goto (tgt := 16) hx hb dX11_stepsOf_116 (by decide) ?_
                  exact ih_ (k + 1) (x + 0) gd (by omega) (by omega) (by omega) (by omega) (stI_k hi c_19 h1 hok.1.1 (by rw [if_neg c_103]) (Or.inr (not_or.mpr ⟨c_63, not_or.mpr ⟨c_75, c_87⟩⟩))) ls (lv_sub hl [3, 4, 1, 5, 6, 0] rfl)
                · refine lv_iconst (v := nI 1) hx hb dX11_stepsOf_106 (by decide) ?_
                  refine lv_goto (tgt := 111) hx hb dX11_stepsOf_107 (by decide) ?_
                  refine zi_add hx hb dX11_stepsOf_111 ?_
                  refine lv_istore_n (lv' := [(2, .int (nI (x + 1))), (6, .int (nI (1))), (0, .ref (o)), (1, .int (nI (e))), (3, .int (nI (ne f e))), (4, .int (nI (nB (gd)))), (5, .int (nI (k)))]) hx hb dX11_stepsOf_112 rfl hl (by decide) rfl (fun ls hl => ?_)
                  refine lv_iinc (v := nI (k + 1)) (lv' := [(5, .int (nI (k + 1))), (2, .int (nI (x + 1))), (6, .int (nI (1))), (0, .ref (o)), (1, .int (nI (e))), (3, .int (nI (ne f e))), (4, .int (nI (nB (gd))))]) hx hb dX11_stepsOf_113 hl (k := 6) rfl (nI_add _ _) (by decide) rfl (fun ls hl => ?_)
                  refine lv_goto (tgt := 16) hx hb dX11_stepsOf_116 (by decide) ?_
                  exact ih_ (k + 1) (x + 1) gd (by omega) (by omega) (by omega) (by omega) (stI_k hi c_19 h1 hok.1.1 (by rw [if_pos c_103]) (Or.inr (not_or.mpr ⟨c_63, not_or.mpr ⟨c_75, c_87⟩⟩))) ls (lv_sub hl [3, 4, 1, 5, 6, 0] rfl)
              · refine lv_iconst (v := nI 0) hx hb dX11_stepsOf_90 (by decide) ?_
                refine lv_istore (lv' := [(4, .int (nI (0))), (6, .int (nI (1))), (0, .ref (o)), (1, .int (nI (e))), (2, .int (nI (x))), (3, .int (nI (ne f e))), (5, .int (nI (k)))]) hx hb dX11_stepsOf_91 hl (by decide) rfl (fun ls hl => ?_)
                refine lv_iload_n hx hb dX11_stepsOf_93 rfl (lv_at hl 4 rfl) ?_
                refine lv_aload_n hx hb dX11_stepsOf_94 rfl (lv_at hl 2 rfl) ?_
                refine zi_get (C := RX11) (T := TX11) (N := 23) (v := .ref (qs)) hx hb hz wo_X11 hown hK hO rfl 1 (by decide) (hz _ wf_X11_7) (fun _ h9 => h9) hS1 dX11_stepsOf_95 ?_
                refine lv_iload hx hb dX11_stepsOf_98 (lv_at hl 6 rfl) ?_
                refine zi_ald hx hb hK hA (by omega) (by decide) dX11_stepsOf_100 ?_
                refine lv_bipush (v := nI 46) hx hb dX11_stepsOf_101 (by decide) ?_
                refine zi_icmp_ne (tgt := 110) hx hb dX11_stepsOf_103 (by decide) (Nat.lt_trans (h8 _) (by decide)) (by omega) (fun c_103 => ?_) (fun c_103 => ?_)
                · refine lv_iconst (v := nI 0) hx hb dX11_stepsOf_110 (by decide) ?_
                  refine zi_add hx hb dX11_stepsOf_111 ?_
                  refine lv_istore_n (lv' := [(2, .int (nI (x + 0))), (4, .int (nI (0))), (6, .int (nI (1))), (0, .ref (o)), (1, .int (nI (e))), (3, .int (nI (ne f e))), (5, .int (nI (k)))]) hx hb dX11_stepsOf_112 rfl hl (by decide) rfl (fun ls hl => ?_)
                  refine lv_iinc (v := nI (k + 1)) (lv' := [(5, .int (nI (k + 1))), (2, .int (nI (x + 0))), (4, .int (nI (0))), (6, .int (nI (1))), (0, .ref (o)), (1, .int (nI (e))), (3, .int (nI (ne f e)))]) hx hb dX11_stepsOf_113 hl (k := 6) rfl (nI_add _ _) (by decide) rfl (fun ls hl => ?_)
                  refine lv_goto (tgt := 16) hx hb dX11_stepsOf_116 (by decide) ?_
                  exact ih_ (k + 1) (x + 0) false (by omega) (by omega) (by omega) (by omega) (stI_b hi c_19 h1 hok.1.1 (by rw [if_neg c_103]) (Or.inl c_27) (Or.inr (Or.inr c_87))) ls (lv_sub hl [4, 5, 1, 6, 2, 0] rfl)
                · refine lv_iconst (v := nI 1) hx hb dX11_stepsOf_106 (by decide) ?_
                  refine lv_goto (tgt := 111) hx hb dX11_stepsOf_107 (by decide) ?_
                  refine zi_add hx hb dX11_stepsOf_111 ?_
                  refine lv_istore_n (lv' := [(2, .int (nI (x + 1))), (4, .int (nI (0))), (6, .int (nI (1))), (0, .ref (o)), (1, .int (nI (e))), (3, .int (nI (ne f e))), (5, .int (nI (k)))]) hx hb dX11_stepsOf_112 rfl hl (by decide) rfl (fun ls hl => ?_)
                  refine lv_iinc (v := nI (k + 1)) (lv' := [(5, .int (nI (k + 1))), (2, .int (nI (x + 1))), (4, .int (nI (0))), (6, .int (nI (1))), (0, .ref (o)), (1, .int (nI (e))), (3, .int (nI (ne f e)))]) hx hb dX11_stepsOf_113 hl (k := 6) rfl (nI_add _ _) (by decide) rfl (fun ls hl => ?_)
                  refine lv_goto (tgt := 16) hx hb dX11_stepsOf_116 (by decide) ?_
                  exact ih_ (k + 1) (x + 1) false (by omega) (by omega) (by omega) (by omega) (stI_b hi c_19 h1 hok.1.1 (by rw [if_pos c_103]) (Or.inl c_27) (Or.inr (Or.inr c_87))) ls (lv_sub hl [4, 5, 1, 6, 2, 0] rfl)
        · refine lv_aload_n hx hb dX11_stepsOf_30 rfl (lv_at hl 0 rfl) ?_
          refine zi_get (C := RX11) (T := TX11) (N := 23) (v := .ref (qs)) hx hb hz wo_X11 hown hK hO rfl 1 (by decide) (hz _ wf_X11_7) (fun _ h9 => h9) hS1 dX11_stepsOf_31 ?_
          refine lv_iload hx hb dX11_stepsOf_34 (lv_at hl 5 rfl) ?_
          refine lv_iconst (v := nI 1) hx hb dX11_stepsOf_36 (by decide) ?_
          refine zi_sub hx hb (by omega) dX11_stepsOf_37 ?_
          refine zi_ald hx hb hK hA (by omega) (by decide) dX11_stepsOf_38 ?_
          refine lv_bipush (v := nI 46) hx hb dX11_stepsOf_39 (by decide) ?_
          refine zi_icmp_ne (tgt := 48) hx hb dX11_stepsOf_41 (by decide) (Nat.lt_trans (h8 _) (by decide)) (by omega) (fun c_41 => ?_) (fun c_41 => ?_)
          · refine lv_iconst (v := nI 0) hx hb dX11_stepsOf_48 (by decide) ?_
            refine lv_istore (lv' := [(6, .int (nI (0))), (0, .ref (o)), (1, .int (nI (e))), (2, .int (nI (x))), (3, .int (nI (ne f e))), (4, .int (nI (nB (gd)))), (5, .int (nI (k)))]) hx hb dX11_stepsOf_49 hl (by decide) rfl (fun ls hl => ?_)
            refine lv_iload hx hb dX11_stepsOf_51 (lv_at hl 0 rfl) ?_
            refine zi_if_eq (tgt := 93) hx hb dX11_stepsOf_53 (by decide) (by omega) (fun c_53 => ?_) (fun c_53 => absurd c_53 (by decide))
            refine lv_iload_n hx hb dX11_stepsOf_93 rfl (lv_at hl 3 rfl) ?_
            refine lv_aload_n hx hb dX11_stepsOf_94 rfl (lv_at hl 1 rfl) ?_
            refine zi_get (C := RX11) (T := TX11) (N := 23) (v := .ref (qs)) hx hb hz wo_X11 hown hK hO rfl 1 (by decide) (hz _ wf_X11_7) (fun _ h9 => h9) hS1 dX11_stepsOf_95 ?_
            refine lv_iload hx hb dX11_stepsOf_98 (lv_at hl 6 rfl) ?_
            refine zi_ald hx hb hK hA (by omega) (by decide) dX11_stepsOf_100 ?_
            refine lv_bipush (v := nI 46) hx hb dX11_stepsOf_101 (by decide) ?_
            refine zi_icmp_ne (tgt := 110) hx hb dX11_stepsOf_103 (by decide) (Nat.lt_trans (h8 _) (by decide)) (by omega) (fun c_103 => ?_) (fun c_103 => ?_)
            · refine lv_iconst (v := nI 0) hx hb dX11_stepsOf_110 (by decide) ?_
              refine zi_add hx hb dX11_stepsOf_111 ?_
              refine lv_istore_n (lv' := [(2, .int (nI (x + 0))), (6, .int (nI (0))), (0, .ref (o)), (1, .int (nI (e))), (3, .int (nI (ne f e))), (4, .int (nI (nB (gd)))), (5, .int (nI (k)))]) hx hb dX11_stepsOf_112 rfl hl (by decide) rfl (fun ls hl => ?_)
              refine lv_iinc (v := nI (k + 1)) (lv' := [(5, .int (nI (k + 1))), (2, .int (nI (x + 0))), (6, .int (nI (0))), (0, .ref (o)), (1, .int (nI (e))), (3, .int (nI (ne f e))), (4, .int (nI (nB (gd))))]) hx hb dX11_stepsOf_113 hl (k := 6) rfl (nI_add _ _) (by decide) rfl (fun ls hl => ?_)
              refine lv_goto (tgt := 16) hx hb dX11_stepsOf_116 (by decide) ?_
              exact ih_ (k + 1) (x + 0) gd (by omega) (by omega) (by omega) (by omega) (stI_k hi c_19 h1 hok.1.1 (by rw [if_neg c_103]) (Or.inl (not_or.mpr ⟨c_27, c_41⟩))) ls (lv_sub hl [3, 4, 1, 5, 6, 0] rfl)
            · refine lv_iconst (v := nI 1) hx hb dX11_stepsOf_106 (by decide) ?_
              refine lv_goto (tgt := 111) hx hb dX11_stepsOf_107 (by decide) ?_
              refine zi_add hx hb dX11_stepsOf_111 ?_
              refine lv_istore_n (lv' := [(2, .int (nI (x + 1))), (6, .int (nI (0))), (0, .ref (o)), (1, .int (nI (e))), (3, .int (nI (ne f e))), (4, .int (nI (nB (gd)))), (5, .int (nI (k)))]) hx hb dX11_stepsOf_112 rfl hl (by decide) rfl (fun ls hl => ?_)
              refine lv_iinc (v := nI (k + 1)) (lv' := [(5, .int (nI (k + 1))), (2, .int (nI (x + 1))), (6, .int (nI (0))), (0, .ref (o)), (1, .int (nI (e))), (3, .int (nI (ne f e))), (4, .int (nI (nB (gd))))]) hx hb dX11_stepsOf_113 hl (k := 6) rfl (nI_add _ _) (by decide) rfl (fun ls hl => ?_)
              refine lv_goto (tgt := 16) hx hb dX11_stepsOf_116 (by decide) ?_
              exact ih_ (k + 1) (x + 1) gd (by omega) (by omega) (by omega) (by omega) (stI_k hi c_19 h1 hok.1.1 (by rw [if_pos c_103]) (Or.inl (not_or.mpr ⟨c_27, c_41⟩))) ls (lv_sub hl [3, 4, 1, 5, 6, 0] rfl)
          · refine lv_iconst (v := nI 1) hx hb dX11_stepsOf_44 (by decide) ?_
            refine lv_goto (tgt := 49) hx hb dX11_stepsOf_45 (by decide) ?_
            refine lv_istore (lv' := [(6, .int (nI (1))), (0, .ref (o)), (1, .int (nI (e))), (2, .int (nI (x))), (3, .int (nI (ne f e))), (4, .int (nI (nB (gd)))), (5, .int (nI (k)))]) hx hb dX11_stepsOf_49 hl (by decide) rfl (fun ls hl => ?_)
            refine lv_iload hx hb dX11_stepsOf_51 (lv_at hl 0 rfl) ?_
            refine zi_if_eq (tgt := 93) hx hb dX11_stepsOf_53 (by decide) (by omega) (fun c_53 => absurd c_53 (by decide)) (fun c_53 => ?_)
            refine lv_aload_n hx hb dX11_stepsOf_56 rfl (lv_at hl 1 rfl) ?_
            refine zi_get (C := RX11) (T := TX11) (N := 23) (v := .ref (qs)) hx hb hz wo_X11 hown hK hO rfl 1 (by decide) (hz _ wf_X11_7) (fun _ h9 => h9) hS1 dX11_stepsOf_57 ?_
            refine lv_iload hx hb dX11_stepsOf_60 (lv_at hl 6 rfl) ?_
            refine zi_ald hx hb hK hA (by omega) (by decide) dX11_stepsOf_62 ?_
            refine zi_if_eq (tgt := 90) hx hb dX11_stepsOf_63 (by decide) (Nat.lt_trans (h8 _) (by decide)) (fun c_63 => ?_) (fun c_63 => ?_)
            · refine lv_iconst (v := nI 0) hx hb dX11_stepsOf_90 (by decide) ?_
              refine lv_istore (lv' := [(4, .int (nI (0))), (6, .int (nI (1))), (0, .ref (o)), (1, .int (nI (e))), (2, .int (nI (x))), (3, .int (nI (ne f e))), (5, .int (nI (k)))]) hx hb dX11_stepsOf_91 hl (by decide) rfl (fun ls hl => ?_)
              refine lv_iload_n hx hb dX11_stepsOf_93 rfl (lv_at hl 4 rfl) ?_
              refine lv_aload_n hx hb dX11_stepsOf_94 rfl (lv_at hl 2 rfl) ?_
              refine zi_get (C := RX11) (T := TX11) (N := 23) (v := .ref (qs)) hx hb hz wo_X11 hown hK hO rfl 1 (by decide) (hz _ wf_X11_7) (fun _ h9 => h9) hS1 dX11_stepsOf_95 ?_
              refine lv_iload hx hb dX11_stepsOf_98 (lv_at hl 6 rfl) ?_
              refine zi_ald hx hb hK hA (by omega) (by decide) dX11_stepsOf_100 ?_
              refine lv_bipush (v := nI 46) hx hb dX11_stepsOf_101 (by decide) ?_
              refine zi_icmp_ne (tgt := 110) hx hb dX11_stepsOf_103 (by decide) (Nat.lt_trans (h8 _) (by decide)) (by omega) (fun c_103 => ?_) (fun c_103 => ?_)
              · refine lv_iconst (v := nI 0) hx hb dX11_stepsOf_110 (by decide) ?_
                refine zi_add hx hb dX11_stepsOf_111 ?_
                refine lv_istore_n (lv' := [(2, .int (nI (x + 0))), (4, .int (nI (0))), (6, .int (nI (1))), (0, .ref (o)), (1, .int (nI (e))), (3, .int (nI (ne f e))), (5, .int (nI (k)))]) hx hb dX11_stepsOf_112 rfl hl (by decide) rfl (fun ls hl => ?_)
                refine lv_iinc (v := nI (k + 1)) (lv' := [(5, .int (nI (k + 1))), (2, .int (nI (x + 0))), (4, .int (nI (0))), (6, .int (nI (1))), (0, .ref (o)), (1, .int (nI (e))), (3, .int (nI (ne f e)))]) hx hb dX11_stepsOf_113 hl (k := 6) rfl (nI_add _ _) (by decide) rfl (fun ls hl => ?_)
                refine lv_goto (tgt := 16) hx hb dX11_stepsOf_116 (by decide) ?_
                exact ih_ (k + 1) (x + 0) false (by omega) (by omega) (by omega) (by omega) (stI_b hi c_19 h1 hok.1.1 (by rw [if_neg c_103]) (Or.inr c_41) (Or.inl c_63)) ls (lv_sub hl [4, 5, 1, 6, 2, 0] rfl)
              · refine lv_iconst (v := nI 1) hx hb dX11_stepsOf_106 (by decide) ?_
                refine lv_goto (tgt := 111) hx hb dX11_stepsOf_107 (by decide) ?_
                refine zi_add hx hb dX11_stepsOf_111 ?_
                refine lv_istore_n (lv' := [(2, .int (nI (x + 1))), (4, .int (nI (0))), (6, .int (nI (1))), (0, .ref (o)), (1, .int (nI (e))), (3, .int (nI (ne f e))), (5, .int (nI (k)))]) hx hb dX11_stepsOf_112 rfl hl (by decide) rfl (fun ls hl => ?_)
                refine lv_iinc (v := nI (k + 1)) (lv' := [(5, .int (nI (k + 1))), (2, .int (nI (x + 1))), (4, .int (nI (0))), (6, .int (nI (1))), (0, .ref (o)), (1, .int (nI (e))), (3, .int (nI (ne f e)))]) hx hb dX11_stepsOf_113 hl (k := 6) rfl (nI_add _ _) (by decide) rfl (fun ls hl => ?_)
                refine lv_goto (tgt := 16) hx hb dX11_stepsOf_116 (by decide) ?_
                exact ih_ (k + 1) (x + 1) false (by omega) (by omega) (by omega) (by omega) (stI_b hi c_19 h1 hok.1.1 (by rw [if_pos c_103]) (Or.inr c_41) (Or.inl c_63)) ls (lv_sub hl [4, 5, 1, 6, 2, 0] rfl)
            · refine lv_aload_n hx hb dX11_stepsOf_66 rfl (lv_at hl 1 rfl) ?_
              refine zi_get (C := RX11) (T := TX11) (N := 23) (v := .ref (qs)) hx hb hz wo_X11 hown hK hO rfl 1 (by decide) (hz _ wf_X11_7) (fun _ h9 => h9) hS1 dX11_stepsOf_67 ?_
              refine lv_iload hx hb dX11_stepsOf_70 (lv_at hl 6 rfl) ?_
              refine zi_ald hx hb hK hA (by omega) (by decide) dX11_stepsOf_72 ?_
              refine lv_bipush (v := nI 46) hx hb dX11_stepsOf_73 (by decide) ?_
              refine zi_icmp_eq (tgt := 90) hx hb dX11_stepsOf_75 (by decide) (Nat.lt_trans (h8 _) (by decide)) (by omega) (fun c_75 => ?_) (fun c_75 => ?_)
              · refine lv_iconst (v := nI 0) hx hb dX11_stepsOf_90 (by decide) ?_
                refine lv_istore (lv' := [(4, .int (nI (0))), (6, .int (nI (1))), (0, .ref (o)), (1, .int (nI (e))), (2, .int (nI (x))), (3, .int (nI (ne f e))), (5, .int (nI (k)))]) hx hb dX11_stepsOf_91 hl (by decide) rfl (fun ls hl => ?_)
                refine lv_iload_n hx hb dX11_stepsOf_93 rfl (lv_at hl 4 rfl) ?_
                refine lv_aload_n hx hb dX11_stepsOf_94 rfl (lv_at hl 2 rfl) ?_
                refine zi_get (C := RX11) (T := TX11) (N := 23) (v := .ref (qs)) hx hb hz wo_X11 hown hK hO rfl 1 (by decide) (hz _ wf_X11_7) (fun _ h9 => h9) hS1 dX11_stepsOf_95 ?_
                refine lv_iload hx hb dX11_stepsOf_98 (lv_at hl 6 rfl) ?_
                refine zi_ald hx hb hK hA (by omega) (by decide) dX11_stepsOf_100 ?_
                refine lv_bipush (v := nI 46) hx hb dX11_stepsOf_101 (by decide) ?_
                refine zi_icmp_ne (tgt := 110) hx hb dX11_stepsOf_103 (by decide) (Nat.lt_trans (h8 _) (by decide)) (by omega) (fun c_103 => ?_) (fun c_103 => ?_)
                · refine lv_iconst (v := nI 0) hx hb dX11_stepsOf_110 (by decide) ?_
                  refine zi_add hx hb dX11_stepsOf_111 ?_
                  refine lv_istore_n (lv' := [(2, .int (nI (x + 0))), (4, .int (nI (0))), (6, .int (nI (1))), (0, .ref (o)), (1, .int (nI (e))), (3, .int (nI (ne f e))), (5, .int (nI (k)))]) hx hb dX11_stepsOf_112 rfl hl (by decide) rfl (fun ls hl => ?_)
                  refine lv_iinc (v := nI (k + 1)) (lv' := [(5, .int (nI (k + 1))), (2, .int (nI (x + 0))), (4, .int (nI (0))), (6, .int (nI (1))), (0, .ref (o)), (1, .int (nI (e))), (3, .int (nI (ne f e)))]) hx hb dX11_stepsOf_113 hl (k := 6) rfl (nI_add _ _) (by decide) rfl (fun ls hl => ?_)
                  refine lv_goto (tgt := 16) hx hb dX11_stepsOf_116 (by decide) ?_
                  exact ih_ (k + 1) (x + 0) false (by omega) (by omega) (by omega) (by omega) (stI_b hi c_19 h1 hok.1.1 (by rw [if_neg c_103]) (Or.inr c_41) (Or.inr (Or.inl c_75))) ls (lv_sub hl [4, 5, 1, 6, 2, 0] rfl)
                · refine lv_iconst (v := nI 1) hx hb dX11_stepsOf_106 (by decide) ?_
                  refine lv_goto (tgt := 111) hx hb dX11_stepsOf_107 (by decide) ?_
                  refine zi_add hx hb dX11_stepsOf_111 ?_
                  refine lv_istore_n (lv' := [(2, .int (nI (x + 1))), (4, .int (nI (0))), (6, .int (nI (1))), (0, .ref (o)), (1, .int (nI (e))), (3, .int (nI (ne f e))), (5, .int (nI (k)))]) hx hb dX11_stepsOf_112 rfl hl (by decide) rfl (fun ls hl => ?_)
                  refine lv_iinc (v := nI (k + 1)) (lv' := [(5, .int (nI (k + 1))), (2, .int (nI (x + 1))), (4, .int (nI (0))), (6, .int (nI (1))), (0, .ref (o)), (1, .int (nI (e))), (3, .int (nI (ne f e)))]) hx hb dX11_stepsOf_113 hl (k := 6) rfl (nI_add _ _) (by decide) rfl (fun ls hl => ?_)
                  refine lv_goto (tgt := 16) hx hb dX11_stepsOf_116 (by decide) ?_
                  exact ih_ (k + 1) (x + 1) false (by omega) (by omega) (by omega) (by omega) (stI_b hi c_19 h1 hok.1.1 (by rw [if_pos c_103]) (Or.inr c_41) (Or.inr (Or.inl c_75))) ls (lv_sub hl [4, 5, 1, 6, 2, 0] rfl)
              · refine lv_aload_n hx hb dX11_stepsOf_78 rfl (lv_at hl 1 rfl) ?_
                refine zi_get (C := RX11) (T := TX11) (N := 23) (v := .ref (qs)) hx hb hz wo_X11 hown hK hO rfl 1 (by decide) (hz _ wf_X11_7) (fun _ h9 => h9) hS1 dX11_stepsOf_79 ?_
                refine lv_iload hx hb dX11_stepsOf_82 (lv_at hl 6 rfl) ?_
                refine zi_ald hx hb hK hA (by omega) (by decide) dX11_stepsOf_84 ?_
                refine lv_bipush (v := nI 36) hx hb dX11_stepsOf_85 (by decide) ?_
                refine zi_icmp_ne (tgt := 93) hx hb dX11_stepsOf_87 (by decide) (Nat.lt_trans (h8 _) (by decide)) (by omega) (fun c_87 => ?_) (fun c_87 => ?_)
                · refine lv_iload_n hx hb dX11_stepsOf_93 rfl (lv_at hl 3 rfl) ?_
                  refine lv_aload_n hx hb dX11_stepsOf_94 rfl (lv_at hl 1 rfl) ?_
                  refine zi_get (C := RX11) (T := TX11) (N := 23) (v := .ref (qs)) hx hb hz wo_X11 hown hK hO rfl 1 (by decide) (hz _ wf_X11_7) (fun _ h9 => h9) hS1 dX11_stepsOf_95 ?_
                  refine lv_iload hx hb dX11_stepsOf_98 (lv_at hl 6 rfl) ?_
                  refine zi_ald hx hb hK hA (by omega) (by decide) dX11_stepsOf_100 ?_
                  refine lv_bipush (v := nI 46) hx hb dX11_stepsOf_101 (by decide) ?_
                  refine zi_icmp_ne (tgt := 110) hx hb dX11_stepsOf_103 (by decide) (Nat.lt_trans (h8 _) (by decide)) (by omega) (fun c_103 => ?_) (fun c_103 => ?_)
                  · refine lv_iconst (v := nI 0) hx hb dX11_stepsOf_110 (by decide) ?_
                    refine zi_add hx hb dX11_stepsOf_111 ?_
                    refine lv_istore_n (lv' := [(2, .int (nI (x + 0))), (6, .int (nI (1))), (0, .ref (o)), (1, .int (nI (e))), (3, .int (nI (ne f e))), (4, .int (nI (nB (gd)))), (5, .int (nI (k)))]) hx hb dX11_stepsOf_112 rfl hl (by decide) rfl (fun ls hl => ?_)
                    refine lv_iinc (v := nI (k + 1)) (lv' := [(5, .int (nI (k + 1))), (2, .int (nI (x + 0))), (6, .int (nI (1))), (0, .ref (o)), (1, .int (nI (e))), (3, .int (nI (ne f e))), (4, .int (nI (nB (gd))))]) hx hb dX11_stepsOf_113 hl (k := 6) rfl (nI_add _ _) (by decide) rfl (fun ls hl => ?_)
                    refine lv_goto (tgt := 16) hx hb dX11_stepsOf_116 (by decide) ?_
                    exact ih_ (k + 1) (x + 0) gd (by omega) (by omega) (by omega) (by omega) (stI_k hi c_19 h1 hok.1.1 (by rw [if_neg c_103]) (Or.inr (not_or.mpr ⟨c_63, not_or.mpr ⟨c_75, c_87⟩⟩))) ls (lv_sub hl [3, 4, 1, 5, 6, 0] rfl)
                  · refine lv_iconst (v := nI 1) hx hb dX11_stepsOf_106 (by decide) ?_
                    refine lv_goto (tgt := 111) hx hb dX11_stepsOf_107 (by decide) ?_
                    refine zi_add hx hb dX11_stepsOf_111 ?_
                    refine lv_istore_n (lv' := [(2, .int (nI (x + 1))), (6, .int (nI (1))), (0, .ref (o)), (1, .int (nI (e))), (3, .int (nI (ne f e))), (4, .int (nI (nB (gd)))), (5, .int (nI (k)))]) hx hb dX11_stepsOf_112 rfl hl (by decide) rfl (fun ls hl => ?_)
                    refine lv_iinc (v := nI (k + 1)) (lv' := [(5, .int (nI (k + 1))), (2, .int (nI (x + 1))), (6, .int (nI (1))), (0, .ref (o)), (1, .int (nI (e))), (3, .int (nI (ne f e))), (4, .int (nI (nB (gd))))]) hx hb dX11_stepsOf_113 hl (k := 6) rfl (nI_add _ _) (by decide) rfl (fun ls hl => ?_)
                    refine lv_goto (tgt := 16) hx hb dX11_stepsOf_116 (by decide) ?_
                    exact ih_ (k + 1) (x + 1) gd (by omega) (by omega) (by omega) (by omega) (stI_k hi c_19 h1 hok.1.1 (by rw [if_pos c_103]) (Or.inr (not_or.mpr ⟨c_63, not_or.mpr ⟨c_75, c_87⟩⟩))) ls (lv_sub hl [3, 4, 1, 5, 6, 0] rfl)
                · refine lv_iconst (v := nI 0) hx hb dX11_stepsOf_90 (by decide) ?_
                  refine lv_istore (lv' := [(4, .int (nI (0))), (6, .int (nI (1))), (0, .ref (o)), (1, .int (nI (e))), (2, .int (nI (x))), (3, .int (nI (ne f e))), (5, .int (nI (k)))]) hx hb dX11_stepsOf_91 hl (by decide) rfl (fun ls hl => ?_)
                  refine lv_iload_n hx hb dX11_stepsOf_93 rfl (lv_at hl 4 rfl) ?_
                  refine lv_aload_n hx hb dX11_stepsOf_94 rfl (lv_at hl 2 rfl) ?_
                  refine zi_get (C := RX11) (T := TX11) (N := 23) (v := .ref (qs)) hx hb hz wo_X11 hown hK hO rfl 1 (by decide) (hz _ wf_X11_7) (fun _ h9 => h9) hS1 dX11_stepsOf_95 ?_
                  refine lv_iload hx hb dX11_stepsOf_98 (lv_at hl 6 rfl) ?_
                  refine zi_ald hx hb hK hA (by omega) (by decide) dX11_stepsOf_100 ?_
                  refine lv_bipush (v := nI 46) hx hb dX11_stepsOf_101 (by decide) ?_
                  refine zi_icmp_ne (tgt := 110) hx hb dX11_stepsOf_103 (by decide) (Nat.lt_trans (h8 _) (by decide)) (by omega) (fun c_103 => ?_) (fun c_103 => ?_)
                  · refine lv_iconst (v := nI 0) hx hb dX11_stepsOf_110 (by decide) ?_
                    refine zi_add hx hb dX11_stepsOf_111 ?_
                    refine lv_istore_n (lv' := [(2, .int (nI (x + 0))), (4, .int (nI (0))), (6, .int (nI (1))), (0, .ref (o)), (1, .int (nI (e))), (3, .int (nI (ne f e))), (5, .int (nI (k)))]) hx hb dX11_stepsOf_112 rfl hl (by decide) rfl (fun ls hl => ?_)
                    refine lv_iinc (v := nI (k + 1)) (lv' := [(5, .int (nI (k + 1))), (2, .int (nI (x + 0))), (4, .int (nI (0))), (6, .int (nI (1))), (0, .ref (o)), (1, .int (nI (e))), (3, .int (nI (ne f e)))]) hx hb dX11_stepsOf_113 hl (k := 6) rfl (nI_add _ _) (by decide) rfl (fun ls hl => ?_)
                    refine lv_goto (tgt := 16) hx hb dX11_stepsOf_116 (by decide) ?_
                    exact ih_ (k + 1) (x + 0) false (by omega) (by omega) (by omega) (by omega) (stI_b hi c_19 h1 hok.1.1 (by rw [if_neg c_103]) (Or.inr c_41) (Or.inr (Or.inr c_87))) ls (lv_sub hl [4, 5, 1, 6, 2, 0] rfl)
                  · refine lv_iconst (v := nI 1) hx hb dX11_stepsOf_106 (by decide) ?_
                    refine lv_goto (tgt := 111) hx hb dX11_stepsOf_107 (by decide) ?_
                    refine zi_add hx hb dX11_stepsOf_111 ?_
                    refine lv_istore_n (lv' := [(2, .int (nI (x + 1))), (4, .int (nI (0))), (6, .int (nI (1))), (0, .ref (o)), (1, .int (nI (e))), (3, .int (nI (ne f e))), (5, .int (nI (k)))]) hx hb dX11_stepsOf_112 rfl hl (by decide) rfl (fun ls hl => ?_)
                    refine lv_iinc (v := nI (k + 1)) (lv' := [(5, .int (nI (k + 1))), (2, .int (nI (x + 1))), (4, .int (nI (0))), (6, .int (nI (1))), (0, .ref (o)), (1, .int (nI (e))), (3, .int (nI (ne f e)))]) hx hb dX11_stepsOf_113 hl (k := 6) rfl (nI_add _ _) (by decide) rfl (fun ls hl => ?_)
                    refine lv_goto (tgt := 16) hx hb dX11_stepsOf_116 (by decide) ?_
                    exact ih_ (k + 1) (x + 1) false (by omega) (by omega) (by omega) (by omega) (stI_b hi c_19 h1 hok.1.1 (by rw [if_pos c_103]) (Or.inr c_41) (Or.inr (Or.inr c_87))) ls (lv_sub hl [4, 5, 1, 6, 2, 0] rfl)
  exact L16 ((ne f e + 1 - (e + 1)) + 1) (e + 1) 1 true (Nat.lt_succ_self _) (Nat.le_refl _) (by omega) (by omega) (stI_0 f e) ls (lv_sub hl [4, 5, 3, 2, 1, 0] rfl)

set_option maxHeartbeats 4000000 in
set_option maxRecDepth 100000 in
theorem m_say (l : Launch) (G : zG) (o qs : Nat) (w : Nat → Value) (f : Nat → Nat) (S : cS) (y e : Nat) (hw6 : S.1 < 6) : Met l yX11_say wsX11_say ({ frames := 0, cells := 0, slots := 0, locals := 0 }) (zP G [.ref (o), .int (nI (y)), .int (nI (e))] (fun H => MC G o qs w f S H)) (zQ (fun x => x = o) none (fun H => MC G o qs w f (sSay S y e) H)) 0 0 (fun x => x = o) := by
  refine Met.ofW (cc := cX11_say) (maxL := 3) (ret := none) (by decide) rfl ?_
  intro p en s m args below meth c s₁ B hml hv
  obtain ⟨rfl, hP, hK⟩ := hv
  have hx := B.exec
  have hb := B.bytes
  have hr := B.returns
  have hts := atoms_spec (ws := wsX11_say) B.pre
  have hz : ∀ w ∈ zW, w.before _ s = true := fun w h => hts w (List.mem_cons_of_mem _ h)
  have hown : s.vm.findClass RX11 = some m.cls := findClass_of_methodNamed B.named
  have hlocks := B.notSynchronized
  obtain ⟨hO, hA, h8, hne9⟩ := id hP
  have hS : va_S (fun x => x = o) s.heap s.heap [] := va_S.rf
  have hl := lv_entry ([.ref (o), .int (nI (y)), .int (nI (e))]) (n := 3) (Nat.le_of_ble_eq_true rfl)
  rw [lg_entry_eq]
  generalize (lg_sl ([.ref (o), .int (nI (y)), .int (nI (e))]) ++ List.replicate (3 - (lg_sl ([.ref (o), .int (nI (y)), .int (nI (e))])).length) Slot.unset).toArray = ls at hl ⊢
  have hl : lv_has ls 3 [(0, .ref (o)), (1, .int (nI (y))), (2, .int (nI (e)))] := hl
  refine lv_aload_n hx hb dX11_say_0 rfl (lv_at hl 0 rfl) ?_
  refine zi_get (C := RX11) (T := TX11) (N := 23) (v := .int (nI (S.1))) hx hb hz wo_X11 hown hK hO rfl 10 (by decide) (hz _ wf_X11_191) (fun _ h9 => h9) rfl dX11_say_1 ?_
  refine zi_if_eq (tgt := 8) hx hb dX11_say_4 (by decide) (by omega) (fun c_4 => ?_) (fun c_4 => ?_)
  · refine lv_aload_n hx hb dX11_say_8 rfl (lv_at hl 0 rfl) ?_
    refine lv_iload_n hx hb dX11_say_9 rfl (lv_at hl 1 rfl) ?_
    refine zi_put (C := RX11) (T := TX11) (N := 23) (ty := .int) (v := .int (nI (y))) hx hb hz wo_X11 tyX11 tyX11_ok nmX11 hown hK hO rfl 10 (by decide) (hz _ wf_X11_191) (fun _ h9 => h9) rfl (by decide +kernel) rfl rfl (by show 10 < 23; decide) (A := (fun x => x = o)) rfl hS dX11_say_10 (fun H locs _ hk9 hO9 hS => ?_)
    obtain ⟨S1, eS1⟩ : ∃ z : cS, z = (y, S.2.1, S.2.2.1, S.2.2.2.1, S.2.2.2.2) := ⟨_, rfl⟩
    have hP : MC G o qs w f S1 H := ⟨by rw [eS1]; exact hO9, hA.kept (hk9 _ hne9), h8, hne9⟩
    obtain ⟨hO, hA, h8, hne9⟩ := id hP
    refine lv_aload_n hx hb dX11_say_13 rfl (lv_at hl 0 rfl) ?_
    refine lv_iload_n hx hb dX11_say_14 rfl (lv_at hl 2 rfl) ?_
    refine zi_put (C := RX11) (T := TX11) (N := 23) (ty := .int) (v := .int (nI (e))) hx hb hz wo_X11 tyX11 tyX11_ok nmX11 hown hK hO rfl 11 (by decide) (hz _ wf_X11_194) (fun _ h9 => h9) rfl (by decide +kernel) rfl rfl (by show 11 < 23; decide) (A := (fun x => x = o)) rfl hS dX11_say_15 (fun H locs _ hk9 hO9 hS => ?_)
    obtain ⟨S2, eS2⟩ : ∃ z : cS, z = (S1.1, e, S1.2.2.1, S1.2.2.2.1, S1.2.2.2.2) := ⟨_, rfl⟩
    have hP : MC G o qs w f S2 H := ⟨by rw [eS2]; exact hO9, hA.kept (hk9 _ hne9), h8, hne9⟩
    obtain ⟨hO, hA, h8, hne9⟩ := id hP
    exact zr_v hx hb hr hlocks (by rw [sSay, if_neg (fun z => z c_4)]; rw [eS2, eS1] at hP; exact hP) hS dX11_say_18
  · exact zr_v hx hb hr hlocks (by rw [sSay, if_pos c_4]; exact hP) hS dX11_say_7

set_option maxHeartbeats 4000000 in
set_option maxRecDepth 100000 in
theorem m_count (l : Launch) (G : zG) (o qs : Nat) (w : Nat → Value) (f : Nat → Nat) (S : cS) (y e : Nat) (hi : sInv S) (hn : S.2.2.1 ≤ 100) (hy : y ≤ 2) : Met l yX11_count wsX11_count ({ frames := 1, cells := 0, slots := 0, locals := 22 }) (zP G [.ref (o), .int (nI (y)), .int (nI (e))] (fun H => MC G o qs w f S H)) (zQ (fun x => x = o) none (fun H => MC G o qs w f (sCnt S y e) H)) 0 0 (fun x => x = o) := by
  refine Met.ofW (cc := cX11_count) (maxL := 3) (ret := none) (by decide) rfl ?_
  intro p en s m args below meth c s₁ B hml hv
  obtain ⟨rfl, hP, hK⟩ := hv
  have hx := B.exec
  have hb := B.bytes
  have hr := B.returns
  have hts := atoms_spec (ws := wsX11_count) B.pre
  have hz : ∀ w ∈ zW, w.before _ s = true := fun w h => hts w (List.mem_cons_of_mem _ h)
  have hown : s.vm.findClass RX11 = some m.cls := findClass_of_methodNamed B.named
  have hlocks := B.notSynchronized
  obtain ⟨hO, hA, h8, hne9⟩ := id hP
  have hS : va_S (fun x => x = o) s.heap s.heap [] := va_S.rf
  have hl := lv_entry ([.ref (o), .int (nI (y)), .int (nI (e))]) (n := 3) (Nat.le_of_ble_eq_true rfl)
  rw [lg_entry_eq]
  generalize (lg_sl ([.ref (o), .int (nI (y)), .int (nI (e))]) ++ List.replicate (3 - (lg_sl ([.ref (o), .int (nI (y)), .int (nI (e))])).length) Slot.unset).toArray = ls at hl ⊢
  have hl : lv_has ls 3 [(0, .ref (o)), (1, .int (nI (y))), (2, .int (nI (e)))] := hl
  refine lv_aload_n hx hb dX11_count_0 rfl (lv_at hl 0 rfl) ?_
  refine lv_dup hx hb dX11_count_1 rfl ?_
  refine zi_get (C := RX11) (T := TX11) (N := 23) (v := .int (nI (S.2.2.1))) hx hb hz wo_X11 hown hK hO rfl 7 (by decide) (hz _ wf_X11_197) (fun _ h9 => h9) rfl dX11_count_2 ?_
  refine lv_iload_n hx hb dX11_count_5 rfl (lv_at hl 1 rfl) ?_
  refine zi_add hx hb dX11_count_6 ?_
  refine zi_put (C := RX11) (T := TX11) (N := 23) (ty := .int) (v := .int (nI (S.2.2.1 + y))) hx hb hz wo_X11 tyX11 tyX11_ok nmX11 hown hK hO rfl 7 (by decide) (hz _ wf_X11_197) (fun _ h9 => h9) rfl (by decide +kernel) rfl rfl (by show 7 < 23; decide) (A := (fun x => x = o)) rfl hS dX11_count_7 (fun H locs _ hk9 hO9 hS => ?_)
  obtain ⟨S1, eS1⟩ : ∃ z : cS, z = (S.1, S.2.1, S.2.2.1 + y, S.2.2.2.1, S.2.2.2.2) := ⟨_, rfl⟩
  have hP : MC G o qs w f S1 H := ⟨by rw [eS1]; exact hO9, hA.kept (hk9 _ hne9), h8, hne9⟩
  obtain ⟨hO, hA, h8, hne9⟩ := id hP
  have hS1n : S1.2.2.1 = S.2.2.1 + y := by rw [eS1]
  refine lv_aload_n hx hb dX11_count_10 rfl (lv_at hl 0 rfl) ?_
  refine zi_get (C := RX11) (T := TX11) (N := 23) (v := .int (nI (S1.2.2.1))) hx hb hz wo_X11 hown hK hO rfl 7 (by decide) (hz _ wf_X11_197) (fun _ h9 => h9) rfl dX11_count_11 ?_
  refine lv_bipush (v := nI 100) hx hb dX11_count_14 (by decide) ?_
  refine zi_icmp_le (tgt := 25) hx hb dX11_count_16 (by decide) (by omega) (by omega) (fun c_16 => ?_) (fun c_16 => ?_)
  · exact zr_v hx hb hr hlocks (by rw [sCnt, if_pos (show S.2.2.1 + y ≤ 100 by have := c_16; rw [eS1] at this; exact this)]; rw [eS1] at hP; exact hP) hS dX11_count_25
  · refine lv_aload_n hx hb dX11_count_19 rfl (lv_at hl 0 rfl) ?_
    refine lv_iconst (v := nI 5) hx hb dX11_count_20 (by decide) ?_
    refine lv_iload_n hx hb dX11_count_21 rfl (lv_at hl 2 rfl) ?_
    refine zc_VE (As := [.int (nI (5)), .int (nI (e))]) (rest := []) ⟨hx, hb, hml, hown, hts⟩ (m_say l G o qs w f S1 5 e (by rw [eS1]; exact hi.1)) (cwV 2 hts (zgV wm_X11_200 wv_X11_say) rfl rfl rfl (by decide +kernel) ⟨Nat.le_of_ble_eq_true rfl, Nat.le_of_ble_eq_true rfl⟩) hK hO rfl hP rfl hl.1 rfl (Nat.le_of_ble_eq_true rfl) dX11_count_22 ⟨Nat.zero_le _, Nat.zero_le _⟩ hS (fun _ h9 => h9) (fun H locs hP hz9 hk9 hS => ?_)
    obtain ⟨hO, hA, h8, hne9⟩ := id hP
    refine W.eq (g2 := F0 m 25 ls ([])) rfl ?_
    exact zr_v hx hb hr hlocks (by rw [sCnt, if_neg (show ¬ S.2.2.1 + y ≤ 100 by have := c_16; rw [eS1] at this; exact Nat.not_le.mpr this)]; rw [eS1] at hP; exact hP) hS dX11_count_25
