set_option maxHeartbeats 4000000 in
set_option maxRecDepth 100000 in
theorem m_checkJoin (l : Launch) (G : zG) (o qs : Nat) (w : Nat → Value) (f : Nat → Nat) (S : cS) (d e : Nat) (hF : C_ckF l G o qs w f d) (hok : okE 18000 f e) (hv : okV f d (f e) (vo f e)) (h0 : S.1 = 0) (hi : sInv S) : Met l yX11_checkJoin wsX11_checkJoin (rCj d) (zP G [.ref (o), .int (nI (e))] (fun H => MC G o qs w f S H)) (zQ (fun x => x = o) none (fun H => MC G o qs w f (kJoin f (ckF f d).2 e S) H)) 0 0 (fun x => x = o) := by
  refine Met.ofW (cc := cX11_checkJoin) (maxL := 3) (ret := none) (by decide) rfl ?_
  intro p en s m args below meth c s₁ B hml hv
  obtain ⟨rfl, hP, hK⟩ := hv
  have hx := B.exec
  have hb := B.bytes
  have hr := B.returns
  have hts := atoms_spec (ws := wsX11_checkJoin) B.pre
  have hz : ∀ w ∈ zW, w.before _ s = true := fun w h => hts w (List.mem_cons_of_mem _ h)
  have hown : s.vm.findClass RX11 = some m.cls := findClass_of_methodNamed B.named
  have hlocks := B.notSynchronized
  obtain ⟨hO, hA, h8, hne9⟩ := id hP
  have hS : va_S (fun x => x = o) s.heap s.heap [] := va_S.rf
  have hel := hok.lt
  have hw6 := hi.1
  have hl := lv_entry ([.ref (o), .int (nI (e))]) (n := 3) (Nat.le_of_ble_eq_true rfl)
  rw [lg_entry_eq]
  generalize (lg_sl ([.ref (o), .int (nI (e))]) ++ List.replicate (3 - (lg_sl ([.ref (o), .int (nI (e))])).length) Slot.unset).toArray = ls at hl ⊢
  have hl : lv_has ls 3 [(0, .ref (o)), (1, .int (nI (e)))] := hl
  refine lv_aload_n hx hb dX11_checkJoin_0 rfl (lv_at hl 0 rfl) ?_
  refine lv_iload_n hx hb dX11_checkJoin_1 rfl (lv_at hl 1 rfl) ?_
  refine zc_V (As := [.int (nI (e))]) (rest := []) ⟨hx, hb, hml, hown, hts⟩ (m_isJoin l G o qs (cF5 w qs S) f e hok.1) (cwV 1 hts (zgV wm_X11_209 wv_X11_isJoin) rfl rfl rfl (by decide +kernel) ⟨show 2 + 1 ≤ 3 * d + 9 by omega, show 8 + (2 + 11) + (47) ≤ 80 * d + 176 by omega⟩) hK hO rfl hP.mv rfl hl.1 rfl (Nat.le_of_ble_eq_true rfl) dX11_checkJoin_2 ⟨Nat.zero_le _, Nat.zero_le _⟩ ?_
  refine zb_if_ne (tgt := 15) hx hb dX11_checkJoin_5 (by decide) (fun c_5 => ?_) (fun c_5 => ?_)
  · refine lv_aload_n hx hb dX11_checkJoin_15 rfl (lv_at hl 0 rfl) ?_
    refine zi_get (C := RX11) (T := TX11) (N := 23) (v := .ref (qs)) hx hb hz wo_X11 hown hK hO rfl 1 (by decide) (hz _ wf_X11_7) (fun _ h9 => h9) rfl dX11_checkJoin_16 ?_
    refine lv_iload_n hx hb dX11_checkJoin_19 rfl (lv_at hl 1 rfl) ?_
    refine zi_ald hx hb hK hA hel (by decide) dX11_checkJoin_20 ?_
    refine lv_iconst (v := nI 4) hx hb dX11_checkJoin_21 (by decide) ?_
    refine zi_icmp_ne (tgt := 37) hx hb dX11_checkJoin_22 (by decide) (Nat.lt_trans (h8 _) (by decide)) (by omega) (fun c_22 => ?_) (fun c_22 => ?_)
    · refine lv_aload_n hx hb dX11_checkJoin_37 rfl (lv_at hl 0 rfl) ?_
      refine lv_iconst (v := nI 2) hx hb dX11_checkJoin_38 (by decide) ?_
      refine lv_iload_n hx hb dX11_checkJoin_39 rfl (lv_at hl 1 rfl) ?_
      refine zc_VE (As := [.int (nI (2)), .int (nI (e))]) (rest := []) ⟨hx, hb, hml, hown, hts⟩ (m_say l G o qs w f S 2 e hw6) (cwV 2 hts (zgV wm_X11_200 wv_X11_say) rfl rfl rfl (by decide +kernel) ⟨show 0 + 1 ≤ 3 * d + 9 by omega, show 8 + (3 + 11) + (0) ≤ 80 * d + 176 by omega⟩) hK hO rfl hP rfl hl.1 rfl (Nat.le_of_ble_eq_true rfl) dX11_checkJoin_40 ⟨Nat.zero_le _, Nat.zero_le _⟩ hS (fun _ h9 => h9) (fun H locs hP hz9 hk9 hS => ?_)
      obtain ⟨hO, hA, h8, hne9⟩ := id hP
      refine W.eq (g2 := F0 m 43 ls ([])) rfl ?_
      have hci : sInv (sSay S 2 e) := hi.say ⟨by decide, by decide⟩ e
      have hcn : (sSay S 2 e).2.2.1 ≤ 100 := by rw [sSay_nc]; exact hi.2.2 h0
      refine lv_aload_n hx hb dX11_checkJoin_43 rfl (lv_at hl 0 rfl) ?_
      refine lv_iconst (v := nI 1) hx hb dX11_checkJoin_44 (by decide) ?_
      refine lv_iload_n hx hb dX11_checkJoin_45 rfl (lv_at hl 1 rfl) ?_
      refine zc_VE (As := [.int (nI (1)), .int (nI (e))]) (rest := []) ⟨hx, hb, hml, hown, hts⟩ (m_count l G o qs w f (sSay S 2 e) 1 e hci hcn (by decide)) (cwV 2 hts (zgV wm_X11_212 wv_X11_count) rfl rfl rfl (by decide +kernel) ⟨show 1 + 1 ≤ 3 * d + 9 by omega, show 8 + (3 + 11) + (22) ≤ 80 * d + 176 by omega⟩) hK hO rfl hP rfl hl.1 rfl (Nat.le_of_ble_eq_true rfl) dX11_checkJoin_46 ⟨Nat.zero_le _, Nat.zero_le _⟩ hS (fun _ h9 => h9) (fun H locs hP hz9 hk9 hS => ?_)
      obtain ⟨hO, hA, h8, hne9⟩ := id hP
      refine W.eq (g2 := F0 m 49 ls ([])) rfl ?_
      refine lv_aload_n hx hb dX11_checkJoin_49 rfl (lv_at hl 0 rfl) ?_
      refine zi_get (C := RX11) (T := TX11) (N := 23) (v := .int (nI ((sCnt (sSay S 2 e) 1 e).1))) hx hb hz wo_X11 hown hK hO rfl 10 (by decide) (hz _ wf_X11_191) (fun _ h9 => h9) rfl dX11_checkJoin_50 ?_
      refine zi_if_eq (tgt := 57) hx hb dX11_checkJoin_53 (by decide) (Nat.lt_trans ((hci.cnt hcn (more := 1) (by decide) e).1) (by decide)) (fun c_53 => ?_) (fun c_53 => ?_)
      · exact absurd c_53 (sCnt_w (sSay_w (by decide)))
      · exact zr_v hx hb hr hlocks (hP.to (by rw [kJoin, if_pos c_5, (show (if f e = 4 ∧ 0 < fi f (vo f e) then S else sSay S 2 e) = sSay S 2 e from if_neg (fun z => c_22 z.1)), if_pos c_53])) hS dX11_checkJoin_56
    · refine lv_aload_n hx hb dX11_checkJoin_25 rfl (lv_at hl 0 rfl) ?_
      refine lv_aload_n hx hb dX11_checkJoin_26 rfl (lv_at hl 0 rfl) ?_
      refine lv_iload_n hx hb dX11_checkJoin_27 rfl (lv_at hl 1 rfl) ?_
      refine zc_V (As := [.int (nI (e))]) (rest := [.ref (o)]) ⟨hx, hb, hml, hown, hts⟩ (m_valueOf l G o qs (cF5 w qs S) f e hok.1) (cwV 1 hts (zgV wm_X11_131 wv_X11_valueOf) rfl rfl rfl (by decide +kernel) ⟨show 1 + 1 ≤ 3 * d + 9 by omega, show 8 + (2 + 11) + (22) ≤ 80 * d + 176 by omega⟩) hK hO rfl hP.mv rfl hl.1 rfl (Nat.le_of_ble_eq_true rfl) dX11_checkJoin_28 ⟨Nat.zero_le _, Nat.zero_le _⟩ ?_
      refine zc_V (As := [.int (nI (vo f e))]) (rest := []) ⟨hx, hb, hml, hown, hts⟩ (m_firstOf l G o qs (cF5 w qs S) f (vo f e) (okV_items hv c_22).1.1) (cwV 1 hts (zgV wm_X11_137 wv_X11_firstOf) rfl rfl rfl (by decide +kernel) ⟨show 0 + 1 ≤ 3 * d + 9 by omega, show 8 + (2 + 11) + (0) ≤ 80 * d + 176 by omega⟩) hK hO rfl hP.mv rfl hl.1 rfl (Nat.le_of_ble_eq_true rfl) dX11_checkJoin_31 ⟨Nat.zero_le _, Nat.zero_le _⟩ ?_
      refine zi_if_ne (tgt := 43) hx hb dX11_checkJoin_34 (by decide) (by have := (okV_items hv c_22).1.2.lt (by decide); omega) (fun c_34 => ?_) (fun c_34 => ?_)
      · have hci : sInv S := hi
        have hcn : S.2.2.1 ≤ 100 := hi.2.2 h0
        refine lv_aload_n hx hb dX11_checkJoin_43 rfl (lv_at hl 0 rfl) ?_
        refine lv_iconst (v := nI 1) hx hb dX11_checkJoin_44 (by decide) ?_
        refine lv_iload_n hx hb dX11_checkJoin_45 rfl (lv_at hl 1 rfl) ?_
        refine zc_VE (As := [.int (nI (1)), .int (nI (e))]) (rest := []) ⟨hx, hb, hml, hown, hts⟩ (m_count l G o qs w f S 1 e hci hcn (by decide)) (cwV 2 hts (zgV wm_X11_212 wv_X11_count) rfl rfl rfl (by decide +kernel) ⟨show 1 + 1 ≤ 3 * d + 9 by omega, show 8 + (3 + 11) + (22) ≤ 80 * d + 176 by omega⟩) hK hO rfl hP rfl hl.1 rfl (Nat.le_of_ble_eq_true rfl) dX11_checkJoin_46 ⟨Nat.zero_le _, Nat.zero_le _⟩ hS (fun _ h9 => h9) (fun H locs hP hz9 hk9 hS => ?_)
        obtain ⟨hO, hA, h8, hne9⟩ := id hP
        refine W.eq (g2 := F0 m 49 ls ([])) rfl ?_
        refine lv_aload_n hx hb dX11_checkJoin_49 rfl (lv_at hl 0 rfl) ?_
        refine zi_get (C := RX11) (T := TX11) (N := 23) (v := .int (nI ((sCnt S 1 e).1))) hx hb hz wo_X11 hown hK hO rfl 10 (by decide) (hz _ wf_X11_191) (fun _ h9 => h9) rfl dX11_checkJoin_50 ?_
        refine zi_if_eq (tgt := 57) hx hb dX11_checkJoin_53 (by decide) (Nat.lt_trans ((hci.cnt hcn (more := 1) (by decide) e).1) (by decide)) (fun c_53 => ?_) (fun c_53 => ?_)
        · have hj0 : kJoin f (ckF f d).2 e S = foldS (fun i T => if f i = 3 then (ckF f d).2 (vo f i) T else sSay T 2 i) (els f (vo f e)) (sCnt S 1 e) := by rw [kJoin, if_pos c_5, (show (if f e = 4 ∧ 0 < fi f (vo f e) then S else sSay S 2 e) = S from if_pos ⟨c_22, Nat.pos_of_ne_zero c_34⟩), if_neg (fun z => z c_53)]
          have hk4 := okV_items hv c_22
          have hf1 := hk4.1.2.lt (by decide)
          refine lv_aload_n hx hb dX11_checkJoin_57 rfl (lv_at hl 0 rfl) ?_
          refine lv_aload_n hx hb dX11_checkJoin_58 rfl (lv_at hl 0 rfl) ?_
          refine lv_iload_n hx hb dX11_checkJoin_59 rfl (lv_at hl 1 rfl) ?_
          refine zc_V (As := [.int (nI (e))]) (rest := [.ref (o)]) ⟨hx, hb, hml, hown, hts⟩ (m_valueOf l G o qs (cF5 w qs (sCnt S 1 e)) f e hok.1) (cwV 1 hts (zgV wm_X11_131 wv_X11_valueOf) rfl rfl rfl (by decide +kernel) ⟨show 1 + 1 ≤ 3 * d + 9 by omega, show 8 + (2 + 11) + (22) ≤ 80 * d + 176 by omega⟩) hK hO rfl hP.mv rfl hl.1 rfl (Nat.le_of_ble_eq_true rfl) dX11_checkJoin_60 ⟨Nat.zero_le _, Nat.zero_le _⟩ ?_
          refine zc_V (As := [.int (nI (vo f e))]) (rest := []) ⟨hx, hb, hml, hown, hts⟩ (m_firstOf l G o qs (cF5 w qs (sCnt S 1 e)) f (vo f e) hk4.1.1) (cwV 1 hts (zgV wm_X11_137 wv_X11_firstOf) rfl rfl rfl (by decide +kernel) ⟨show 0 + 1 ≤ 3 * d + 9 by omega, show 8 + (2 + 11) + (0) ≤ 80 * d + 176 by omega⟩) hK hO rfl hP.mv rfl hl.1 rfl (Nat.le_of_ble_eq_true rfl) dX11_checkJoin_63 ⟨Nat.zero_le _, Nat.zero_le _⟩ ?_
          refine lv_istore_n (lv' := [(2, .int (nI (fi f (vo f e)))), (0, .ref (o)), (1, .int (nI (e)))]) hx hb dX11_checkJoin_66 rfl hl (by decide) rfl (fun ls hl => ?_)
          have L67 : ∀ (n_ : Nat) (x : Nat) (X : List Nat) (T : cS), X.length < n_ → (Ch 18000 f x X) → (x < 18000) → (∀ z ∈ X, z ∈ els f (vo f e)) → (sInv T) → (kJoin f (ckF f d).2 e S = foldS (fun i T => if f i = 3 then (ckF f d).2 (vo f i) T else sSay T 2 i) X T) → ∀ (H : Heap) (locs : List Loc), MC G o qs w f T H → va_S (fun x => x = o) s.heap H locs → ∀ ls : Array Slot, lv_has ls 3 [(0, .ref (o)), (2, .int (nI (x)))] → W p l en (headSpec wsX11_checkJoin (rCj d)).room s m ([.ref (o), .int (nI (e))] : List Value).toArray below meth c H locs 0 0 (MQ below (zQ (fun x => x = o) none (fun H => MC G o qs w f (kJoin f (ckF f d).2 e S) H)) ([.ref (o), .int (nI (e))] : List Value).toArray s 0 0 (fun x => x = o)) (F0 m 67 ls []) := by
            intro n_
            induction n_ with
            | zero => intro x X T hm_; exact absurd hm_ (Nat.not_lt_zero _)
            | succ n_ ih_ =>
              intro x X T hm_ hc hxl hXi hTi hs H locs hP hS ls hl
              obtain ⟨hO, hA, h8, hne9⟩ := id hP
              refine lv_iload_n hx hb dX11_checkJoin_67 rfl (lv_at hl 1 rfl) ?_
              refine zi_if_le (tgt := 115) hx hb dX11_checkJoin_68 (by decide) (by omega) (fun c_68 => ?_) (fun c_68 => ?_)
              · have hX0 := hc.nil c_68
                subst hX0
                exact zr_v hx hb hr hlocks (hP.to (by rw [hs]; rfl)) hS dX11_checkJoin_115
              · refine lv_aload_n hx hb dX11_checkJoin_71 rfl (lv_at hl 0 rfl) ?_
                refine zi_get (C := RX11) (T := TX11) (N := 23) (v := .int (nI (T.1))) hx hb hz wo_X11 hown hK hO rfl 10 (by decide) (hz _ wf_X11_191) (fun _ h9 => h9) rfl dX11_checkJoin_72 ?_
                refine zi_if_ne (tgt := 115) hx hb dX11_checkJoin_75 (by decide) (Nat.lt_trans hTi.1 (by decide)) (fun c_75 => ?_) (fun c_75 => ?_)
                · exact zr_v hx hb hr hlocks (hP.to (by rw [hs, foldS_w c_75])) hS dX11_checkJoin_115
                · obtain ⟨X', rfl, hok2, hc'⟩ := hc.cons c_68
                  have hx9 := hXi x List.mem_cons_self
                  refine lv_aload_n hx hb dX11_checkJoin_78 rfl (lv_at hl 0 rfl) ?_
                  refine zi_get (C := RX11) (T := TX11) (N := 23) (v := .ref (qs)) hx hb hz wo_X11 hown hK hO rfl 1 (by decide) (hz _ wf_X11_7) (fun _ h9 => h9) rfl dX11_checkJoin_79 ?_
                  refine lv_iload_n hx hb dX11_checkJoin_82 rfl (lv_at hl 1 rfl) ?_
                  refine zi_ald hx hb hK hA (by omega) (by decide) dX11_checkJoin_83 ?_
                  refine lv_iconst (v := nI 3) hx hb dX11_checkJoin_84 (by decide) ?_
                  refine zi_icmp_eq (tgt := 97) hx hb dX11_checkJoin_85 (by decide) (Nat.lt_trans (h8 _) (by decide)) (by omega) (fun c_85 => ?_) (fun c_85 => ?_)
                  · refine lv_aload_n hx hb dX11_checkJoin_97 rfl (lv_at hl 0 rfl) ?_
                    refine lv_aload_n hx hb dX11_checkJoin_98 rfl (lv_at hl 0 rfl) ?_
                    refine lv_iload_n hx hb dX11_checkJoin_99 rfl (lv_at hl 1 rfl) ?_
                    refine zc_V (As := [.int (nI (x))]) (rest := [.ref (o)]) ⟨hx, hb, hml, hown, hts⟩ (m_valueOf l G o qs (cF5 w qs T) f x hok2.1) (cwV 1 hts (zgV wm_X11_131 wv_X11_valueOf) rfl rfl rfl (by decide +kernel) ⟨show 1 + 1 ≤ 3 * d + 9 by omega, show 8 + (2 + 11) + (22) ≤ 80 * d + 176 by omega⟩) hK hO rfl hP.mv rfl hl.1 rfl (Nat.le_of_ble_eq_true rfl) dX11_checkJoin_100 ⟨Nat.zero_le _, Nat.zero_le _⟩ ?_
                    refine zc_VE (As := [.int (nI (vo f x))]) (rest := []) ⟨hx, hb, hml, hown, hts⟩ (hF T (vo f x) (by have h7 := hk4.2 x hx9; rwa [c_85] at h7) c_75 hTi) (cwV 1 hts (zgV wm_X11_215 wv_X11_checkFilter) rfl rfl rfl (by decide +kernel) ⟨show 3 * d + 8 + 1 ≤ 3 * d + 9 by omega, show 8 + (3 + 11) + (80 * d + 150) ≤ 80 * d + 176 by omega⟩) hK hO rfl hP rfl hl.1 rfl (Nat.le_of_ble_eq_true rfl) dX11_checkJoin_103 ⟨Nat.zero_le _, Nat.zero_le _⟩ hS (fun _ h9 => h9) (fun H locs hP hz9 hk9 hS => ?_)
                    obtain ⟨hO, hA, h8, hne9⟩ := id hP
                    refine W.eq (g2 := F0 m 106 ls ([])) rfl ?_
                    refine lv_aload_n hx hb dX11_checkJoin_106 rfl (lv_at hl 0 rfl) ?_
                    refine lv_iload_n hx hb dX11_checkJoin_107 rfl (lv_at hl 1 rfl) ?_
                    refine zc_V (As := [.int (nI (x))]) (rest := []) ⟨hx, hb, hml, hown, hts⟩ (m_nextOf l G o qs (cF5 w qs ((ckF f d).2 (vo f x) T)) f x hok2) (cwV 1 hts (zgV wm_X11_140 wv_X11_nextOf) rfl rfl rfl (by decide +kernel) ⟨show 2 + 1 ≤ 3 * d + 9 by omega, show 8 + (4 + 11) + (43) ≤ 80 * d + 176 by omega⟩) hK hO rfl hP.mv rfl hl.1 rfl (Nat.le_of_ble_eq_true rfl) dX11_checkJoin_108 ⟨Nat.zero_le _, Nat.zero_le _⟩ ?_
                    refine lv_istore_n (lv' := [(2, .int (nI (nx f x))), (0, .ref (o))]) hx hb dX11_checkJoin_111 rfl hl (by decide) rfl (fun ls hl => ?_)
                    refine lv_goto (tgt := 67) hx hb dX11_checkJoin_112 (by decide) ?_
                    exact ih_ (nx f x) (X') ((ckF f d).2 (vo f x) T) (by simp at hm_; omega) hc' (Ch.lt (by decide) hc') (fun z hz => hXi z (List.mem_cons_of_mem _ hz)) ((ckF_inv f d).2 _ _ hTi c_75) (by rw [hs, foldS_s c_75, if_pos c_85]) _ _ hP hS ls (lv_sub hl [1, 0] rfl)
                  · refine lv_aload_n hx hb dX11_checkJoin_88 rfl (lv_at hl 0 rfl) ?_
                    refine lv_iconst (v := nI 2) hx hb dX11_checkJoin_89 (by decide) ?_
                    refine lv_iload_n hx hb dX11_checkJoin_90 rfl (lv_at hl 1 rfl) ?_
                    refine zc_VE (As := [.int (nI (2)), .int (nI (x))]) (rest := []) ⟨hx, hb, hml, hown, hts⟩ (m_say l G o qs w f T 2 x hTi.1) (cwV 2 hts (zgV wm_X11_200 wv_X11_say) rfl rfl rfl (by decide +kernel) ⟨show 0 + 1 ≤ 3 * d + 9 by omega, show 8 + (3 + 11) + (0) ≤ 80 * d + 176 by omega⟩) hK hO rfl hP rfl hl.1 rfl (Nat.le_of_ble_eq_true rfl) dX11_checkJoin_91 ⟨Nat.zero_le _, Nat.zero_le _⟩ hS (fun _ h9 => h9) (fun H locs hP hz9 hk9 hS => ?_)
                    obtain ⟨hO, hA, h8, hne9⟩ := id hP
                    refine W.eq (g2 := F0 m 94 ls ([])) rfl ?_
                    refine lv_goto (tgt := 106) hx hb dX11_checkJoin_94 (by decide) ?_
                    refine lv_aload_n hx hb dX11_checkJoin_106 rfl (lv_at hl 0 rfl) ?_
                    refine lv_iload_n hx hb dX11_checkJoin_107 rfl (lv_at hl 1 rfl) ?_
                    refine zc_V (As := [.int (nI (x))]) (rest := []) ⟨hx, hb, hml, hown, hts⟩ (m_nextOf l G o qs (cF5 w qs (sSay T 2 x)) f x hok2) (cwV 1 hts (zgV wm_X11_140 wv_X11_nextOf) rfl rfl rfl (by decide +kernel) ⟨show 2 + 1 ≤ 3 * d + 9 by omega, show 8 + (4 + 11) + (43) ≤ 80 * d + 176 by omega⟩) hK hO rfl hP.mv rfl hl.1 rfl (Nat.le_of_ble_eq_true rfl) dX11_checkJoin_108 ⟨Nat.zero_le _, Nat.zero_le _⟩ ?_
                    refine lv_istore_n (lv' := [(2, .int (nI (nx f x))), (0, .ref (o))]) hx hb dX11_checkJoin_111 rfl hl (by decide) rfl (fun ls hl => ?_)
                    refine lv_goto (tgt := 67) hx hb dX11_checkJoin_112 (by decide) ?_
                    exact ih_ (nx f x) (X') (sSay T 2 x) (by simp at hm_; omega) hc' (Ch.lt (by decide) hc') (fun z hz => hXi z (List.mem_cons_of_mem _ hz)) (hTi.say ⟨by decide, by decide⟩ x) (by rw [hs, foldS_s c_75, if_neg c_85]) _ _ hP hS ls (lv_sub hl [1, 0] rfl)
          exact L67 (((els f (vo f e)).length) + 1) (fi f (vo f e)) (els f (vo f e)) (sCnt S 1 e) (Nat.lt_succ_self _) hk4.1.2 hf1 (fun _ z => z) (hci.cnt hcn (by decide) e) hj0 _ _ hP hS ls (lv_sub hl [1, 0] rfl)
        · exact zr_v hx hb hr hlocks (hP.to (by rw [kJoin, if_pos c_5, (show (if f e = 4 ∧ 0 < fi f (vo f e) then S else sSay S 2 e) = S from if_pos ⟨c_22, Nat.pos_of_ne_zero c_34⟩), if_pos c_53])) hS dX11_checkJoin_56
      · refine lv_aload_n hx hb dX11_checkJoin_37 rfl (lv_at hl 0 rfl) ?_
        refine lv_iconst (v := nI 2) hx hb dX11_checkJoin_38 (by decide) ?_
        refine lv_iload_n hx hb dX11_checkJoin_39 rfl (lv_at hl 1 rfl) ?_
        refine zc_VE (As := [.int (nI (2)), .int (nI (e))]) (rest := []) ⟨hx, hb, hml, hown, hts⟩ (m_say l G o qs w f S 2 e hw6) (cwV 2 hts (zgV wm_X11_200 wv_X11_say) rfl rfl rfl (by decide +kernel) ⟨show 0 + 1 ≤ 3 * d + 9 by omega, show 8 + (3 + 11) + (0) ≤ 80 * d + 176 by omega⟩) hK hO rfl hP rfl hl.1 rfl (Nat.le_of_ble_eq_true rfl) dX11_checkJoin_40 ⟨Nat.zero_le _, Nat.zero_le _⟩ hS (fun _ h9 => h9) (fun H locs hP hz9 hk9 hS => ?_)
        obtain ⟨hO, hA, h8, hne9⟩ := id hP
        refine W.eq (g2 := F0 m 43 ls ([])) rfl ?_
        have hci : sInv (sSay S 2 e) := hi.say ⟨by decide, by decide⟩ e
        have hcn : (sSay S 2 e).2.2.1 ≤ 100 := by rw [sSay_nc]; exact hi.2.2 h0
        refine lv_aload_n hx hb dX11_checkJoin_43 rfl (lv_at hl 0 rfl) ?_
        refine lv_iconst (v := nI 1) hx hb dX11_checkJoin_44 (by decide) ?_
        refine lv_iload_n hx hb dX11_checkJoin_45 rfl (lv_at hl 1 rfl) ?_
        refine zc_VE (As := [.int (nI (1)), .int (nI (e))]) (rest := []) ⟨hx, hb, hml, hown, hts⟩ (m_count l G o qs w f (sSay S 2 e) 1 e hci hcn (by decide)) (cwV 2 hts (zgV wm_X11_212 wv_X11_count) rfl rfl rfl (by decide +kernel) ⟨show 1 + 1 ≤ 3 * d + 9 by omega, show 8 + (3 + 11) + (22) ≤ 80 * d + 176 by omega⟩) hK hO rfl hP rfl hl.1 rfl (Nat.le_of_ble_eq_true rfl) dX11_checkJoin_46 ⟨Nat.zero_le _, Nat.zero_le _⟩ hS (fun _ h9 => h9) (fun H locs hP hz9 hk9 hS => ?_)
        obtain ⟨hO, hA, h8, hne9⟩ := id hP
        refine W.eq (g2 := F0 m 49 ls ([])) rfl ?_
        refine lv_aload_n hx hb dX11_checkJoin_49 rfl (lv_at hl 0 rfl) ?_
        refine zi_get (C := RX11) (T := TX11) (N := 23) (v := .int (nI ((sCnt (sSay S 2 e) 1 e).1))) hx hb hz wo_X11 hown hK hO rfl 10 (by decide) (hz _ wf_X11_191) (fun _ h9 => h9) rfl dX11_checkJoin_50 ?_
        refine zi_if_eq (tgt := 57) hx hb dX11_checkJoin_53 (by decide) (Nat.lt_trans ((hci.cnt hcn (more := 1) (by decide) e).1) (by decide)) (fun c_53 => ?_) (fun c_53 => ?_)
        · exact absurd c_53 (sCnt_w (sSay_w (by decide)))
        · exact zr_v hx hb hr hlocks (hP.to (by rw [kJoin, if_pos c_5, (show (if f e = 4 ∧ 0 < fi f (vo f e) then S else sSay S 2 e) = sSay S 2 e from if_neg (fun z => by have := z.2; omega)), if_pos c_53])) hS dX11_checkJoin_56
  · refine lv_aload_n hx hb dX11_checkJoin_8 rfl (lv_at hl 0 rfl) ?_
    refine lv_iconst (v := nI 1) hx hb dX11_checkJoin_9 (by decide) ?_
    refine lv_iload_n hx hb dX11_checkJoin_10 rfl (lv_at hl 1 rfl) ?_
    refine zc_VE (As := [.int (nI (1)), .int (nI (e))]) (rest := []) ⟨hx, hb, hml, hown, hts⟩ (m_say l G o qs w f S 1 e hw6) (cwV 2 hts (zgV wm_X11_200 wv_X11_say) rfl rfl rfl (by decide +kernel) ⟨show 0 + 1 ≤ 3 * d + 9 by omega, show 8 + (3 + 11) + (0) ≤ 80 * d + 176 by omega⟩) hK hO rfl hP rfl hl.1 rfl (Nat.le_of_ble_eq_true rfl) dX11_checkJoin_11 ⟨Nat.zero_le _, Nat.zero_le _⟩ hS (fun _ h9 => h9) (fun H locs hP hz9 hk9 hS => ?_)
    obtain ⟨hO, hA, h8, hne9⟩ := id hP
    refine W.eq (g2 := F0 m 14 ls ([])) rfl ?_
    exact zr_v hx hb hr hlocks (hP.to (by rw [kJoin, if_neg (by rw [c_5]; decide)])) hS dX11_checkJoin_14

set_option maxHeartbeats 4000000 in
set_option maxRecDepth 100000 in
theorem m_checkPath (l : Launch) (G : zG) (o qs : Nat) (w : Nat → Value) (f : Nat → Nat) (S : cS) (d e : Nat) (hC : C_ckC l G o qs w f d) (hok : okE 18000 f e) (hv : okV f d (f e) (vo f e)) (h0 : S.1 = 0) (hi : sInv S) : Met l yX11_checkPath wsX11_checkPath (rCj d) (zP G [.ref (o), .int (nI (e))] (fun H => MC G o qs w f S H)) (zQ (fun x => x = o) none (fun H => MC G o qs w f (kPath f (ckF f d).1 e S) H)) 0 0 (fun x => x = o) := by
  refine Met.ofW (cc := cX11_checkPath) (maxL := 4) (ret := none) (by decide) rfl ?_
  intro p en s m args below meth c s₁ B hml hv
  obtain ⟨rfl, hP, hK⟩ := hv
  have hx := B.exec
  have hb := B.bytes
  have hr := B.returns
  have hts := atoms_spec (ws := wsX11_checkPath) B.pre
  have hz : ∀ w ∈ zW, w.before _ s = true := fun w h => hts w (List.mem_cons_of_mem _ h)
  have hown : s.vm.findClass RX11 = some m.cls := findClass_of_methodNamed B.named
  have hlocks := B.notSynchronized
  obtain ⟨hO, hA, h8, hne9⟩ := id hP
  have hS : va_S (fun x => x = o) s.heap s.heap [] := va_S.rf
  have hel := hok.lt
  have hw6 := hi.1
  have hpi := hi.pp (f := f) (e := e) h0
  have hl := lv_entry ([.ref (o), .int (nI (e))]) (n := 4) (Nat.le_of_ble_eq_true rfl)
  rw [lg_entry_eq]
  generalize (lg_sl ([.ref (o), .int (nI (e))]) ++ List.replicate (4 - (lg_sl ([.ref (o), .int (nI (e))])).length) Slot.unset).toArray = ls at hl ⊢
  have hl : lv_has ls 4 [(0, .ref (o)), (1, .int (nI (e)))] := hl
  refine lv_aload_n hx hb dX11_checkPath_0 rfl (lv_at hl 0 rfl) ?_
  refine lv_iload_n hx hb dX11_checkPath_1 rfl (lv_at hl 1 rfl) ?_
  refine zc_V (As := [.int (nI (e))]) (rest := []) ⟨hx, hb, hml, hown, hts⟩ (m_stepsOf l G o qs (cF5 w qs S) f e hok) (cwV 1 hts (zgV wm_X11_218 wv_X11_stepsOf) rfl rfl rfl (by decide +kernel) ⟨show 1 + 1 ≤ 3 * d + 9 by omega, show 8 + (7 + 11) + (22) ≤ 80 * d + 176 by omega⟩) hK hO rfl hP.mv rfl hl.1 rfl (Nat.le_of_ble_eq_true rfl) dX11_checkPath_2 ⟨Nat.zero_le _, Nat.zero_le _⟩ ?_
  refine lv_istore_n (lv' := [(2, .int (nI (stN f e))), (0, .ref (o)), (1, .int (nI (e)))]) hx hb dX11_checkPath_5 rfl hl (by decide) rfl (fun ls hl => ?_)
  refine lv_iload_n hx hb dX11_checkPath_6 rfl (lv_at hl 0 rfl) ?_
  refine zi_if_ne (tgt := 16) hx hb dX11_checkPath_7 (by decide) (Nat.lt_trans (stN_lt f e) (by decide)) (fun c_7 => ?_) (fun c_7 => ?_)
  · refine lv_aload_n hx hb dX11_checkPath_16 rfl (lv_at hl 1 rfl) ?_
    refine lv_dup hx hb dX11_checkPath_17 rfl ?_
    refine zi_get (C := RX11) (T := TX11) (N := 23) (v := .int (nI (S.2.2.2.1))) hx hb hz wo_X11 hown hK hO rfl 8 (by decide) (hz _ wf_X11_221) (fun _ h9 => h9) rfl dX11_checkPath_18 ?_
    refine lv_iconst (v := nI 1) hx hb dX11_checkPath_21 (by decide) ?_
    refine zi_add hx hb dX11_checkPath_22 ?_
    refine zi_put (C := RX11) (T := TX11) (N := 23) (ty := .int) (v := .int (nI (S.2.2.2.1 + 1))) hx hb hz wo_X11 tyX11 tyX11_ok nmX11 hown hK hO rfl 8 (by decide) (hz _ wf_X11_221) (fun _ h9 => h9) rfl (by decide +kernel) rfl rfl (by show 8 < 23; decide) (A := (fun x => x = o)) rfl hS dX11_checkPath_23 (fun H locs _ hk9 hO9 hS => ?_)
    obtain ⟨S1, eS1⟩ : ∃ z : cS, z = (S.1, S.2.1, S.2.2.1, S.2.2.2.1 + 1, S.2.2.2.2) := ⟨_, rfl⟩
    have hP : MC G o qs w f S1 H := ⟨by rw [eS1]; exact hO9, hA.kept (hk9 _ hne9), h8, hne9⟩
    obtain ⟨hO, hA, h8, hne9⟩ := id hP
    refine lv_aload_n hx hb dX11_checkPath_26 rfl (lv_at hl 1 rfl) ?_
    refine lv_dup hx hb dX11_checkPath_27 rfl ?_
    refine zi_get (C := RX11) (T := TX11) (N := 23) (v := .int (nI (S1.2.2.2.2))) hx hb hz wo_X11 hown hK hO rfl 9 (by decide) (hz _ wf_X11_224) (fun _ h9 => h9) rfl dX11_checkPath_28 ?_
    refine lv_iload_n hx hb dX11_checkPath_31 rfl (lv_at hl 0 rfl) ?_
    refine zi_add hx hb dX11_checkPath_32 ?_
    refine zi_put (C := RX11) (T := TX11) (N := 23) (ty := .int) (v := .int (nI (S1.2.2.2.2 + (stN f e)))) hx hb hz wo_X11 tyX11 tyX11_ok nmX11 hown hK hO rfl 9 (by decide) (hz _ wf_X11_224) (fun _ h9 => h9) rfl (by decide +kernel) rfl rfl (by show 9 < 23; decide) (A := (fun x => x = o)) rfl hS dX11_checkPath_33 (fun H locs _ hk9 hO9 hS => ?_)
    obtain ⟨S2, eS2⟩ : ∃ z : cS, z = (S1.1, S1.2.1, S1.2.2.1, S1.2.2.2.1, S1.2.2.2.2 + (stN f e)) := ⟨_, rfl⟩
    have hP : MC G o qs w f S2 H := ⟨by rw [eS2]; exact hO9, hA.kept (hk9 _ hne9), h8, hne9⟩
    obtain ⟨hO, hA, h8, hne9⟩ := id hP
    have hpp : S2 = pPath f e S := by rw [eS2, eS1, pPath, if_neg c_7]
    rw [hpp] at hP
    obtain ⟨hO, hA, h8, hne9⟩ := id hP
    refine lv_aload_n hx hb dX11_checkPath_36 rfl (lv_at hl 1 rfl) ?_
    refine lv_aload_n hx hb dX11_checkPath_37 rfl (lv_at hl 1 rfl) ?_
    refine zi_get (C := RX11) (T := TX11) (N := 23) (v := .ref (qs)) hx hb hz wo_X11 hown hK hO rfl 1 (by decide) (hz _ wf_X11_7) (fun _ h9 => h9) rfl dX11_checkPath_38 ?_
    refine lv_iload_n hx hb dX11_checkPath_41 rfl (lv_at hl 2 rfl) ?_
    refine zi_ald hx hb hK hA hel (by decide) dX11_checkPath_42 ?_
    refine lv_aload_n hx hb dX11_checkPath_43 rfl (lv_at hl 1 rfl) ?_
    refine lv_iload_n hx hb dX11_checkPath_44 rfl (lv_at hl 2 rfl) ?_
    refine zc_V (As := [.int (nI (e))]) (rest := [.int (nI (f e)), .ref (o)]) ⟨hx, hb, hml, hown, hts⟩ (m_valueOf l G o qs (cF5 w qs (pPath f e S)) f e hok.1) (cwV 1 hts (zgV wm_X11_131 wv_X11_valueOf) rfl rfl rfl (by decide +kernel) ⟨show 1 + 1 ≤ 3 * d + 9 by omega, show 8 + (2 + 11) + (22) ≤ 80 * d + 176 by omega⟩) hK hO rfl hP.mv rfl hl.1 rfl (Nat.le_of_ble_eq_true rfl) dX11_checkPath_45 ⟨Nat.zero_le _, Nat.zero_le _⟩ ?_
    refine zc_V (As := [.int (nI (f e)), .int (nI (vo f e))]) (rest := []) ⟨hx, hb, hml, hown, hts⟩ (m_isConditions l G o qs (cF5 w qs (pPath f e S)) f (f e) (vo f e) (Nat.lt_trans (h8 _) (by decide)) (fun z => hv.b.2.2.2.2.2 z)) (cwV 2 hts (zgV wm_X11_227 wv_X11_isConditions) rfl rfl rfl (by decide +kernel) ⟨show 1 + 1 ≤ 3 * d + 9 by omega, show 8 + (3 + 11) + (21) ≤ 80 * d + 176 by omega⟩) hK hO rfl hP.mv rfl hl.1 rfl (Nat.le_of_ble_eq_true rfl) dX11_checkPath_48 ⟨Nat.zero_le _, Nat.zero_le _⟩ ?_
    refine zb_if_ne (tgt := 58) hx hb dX11_checkPath_51 (by decide) (fun c_51 => ?_) (fun c_51 => ?_)
    · refine lv_iconst (v := nI 0) hx hb dX11_checkPath_58 (by decide) ?_
      refine lv_istore_n (lv' := [(3, .int (nI (0))), (2, .int (nI (stN f e))), (0, .ref (o)), (1, .int (nI (e)))]) hx hb dX11_checkPath_59 rfl hl (by decide) rfl (fun ls hl => ?_)
      refine lv_aload_n hx hb dX11_checkPath_60 rfl (lv_at hl 2 rfl) ?_
      refine lv_iload_n hx hb dX11_checkPath_61 rfl (lv_at hl 0 rfl) ?_
      refine zi_if_eq (tgt := 69) hx hb dX11_checkPath_62 (by decide) (by omega) (fun c_62 => ?_) (fun c_62 => absurd c_62 (by decide))
      refine lv_iconst (v := nI 1) hx hb dX11_checkPath_69 (by decide) ?_
      refine lv_iload_n hx hb dX11_checkPath_70 rfl (lv_at hl 3 rfl) ?_
      refine zc_VE (As := [.int (nI (1)), .int (nI (e))]) (rest := []) ⟨hx, hb, hml, hown, hts⟩ (m_count l G o qs w f (pPath f e S) 1 e hpi.1 hpi.2 (by decide)) (cwV 2 hts (zgV wm_X11_212 wv_X11_count) rfl rfl rfl (by decide +kernel) ⟨show 1 + 1 ≤ 3 * d + 9 by omega, show 8 + (3 + 11) + (22) ≤ 80 * d + 176 by omega⟩) hK hO rfl hP rfl hl.1 rfl (Nat.le_of_ble_eq_true rfl) dX11_checkPath_71 ⟨Nat.zero_le _, Nat.zero_le _⟩ hS (fun _ h9 => h9) (fun H locs hP hz9 hk9 hS => ?_)
      obtain ⟨hO, hA, h8, hne9⟩ := id hP
      refine W.eq (g2 := F0 m 74 ls ([])) rfl ?_
      refine lv_iload_n hx hb dX11_checkPath_74 rfl (lv_at hl 0 rfl) ?_
      refine zi_if_ne (tgt := 94) hx hb dX11_checkPath_75 (by decide) (by omega) (fun c_75 => absurd c_75 (by decide)) (fun c_75 => ?_)
      refine lv_aload_n hx hb dX11_checkPath_78 rfl (lv_at hl 2 rfl) ?_
      refine zi_get (C := RX11) (T := TX11) (N := 23) (v := .int (nI ((sCnt (pPath f e S) 1 e).1))) hx hb hz wo_X11 hown hK hO rfl 10 (by decide) (hz _ wf_X11_191) (fun _ h9 => h9) rfl dX11_checkPath_79 ?_
      refine zi_if_ne (tgt := 94) hx hb dX11_checkPath_82 (by decide) (Nat.lt_trans ((hpi.1.cnt hpi.2 (more := 1) (by decide) e).1) (by decide)) (fun c_82 => ?_) (fun c_82 => ?_)
      · exact zr_v hx hb hr hlocks (hP.to (by rw [kPath, if_pos c_51, if_neg c_82])) hS dX11_checkPath_94
      · refine lv_aload_n hx hb dX11_checkPath_85 rfl (lv_at hl 2 rfl) ?_
        refine lv_aload_n hx hb dX11_checkPath_86 rfl (lv_at hl 2 rfl) ?_
        refine lv_iload_n hx hb dX11_checkPath_87 rfl (lv_at hl 3 rfl) ?_
        refine zc_V (As := [.int (nI (e))]) (rest := [.ref (o)]) ⟨hx, hb, hml, hown, hts⟩ (m_valueOf l G o qs (cF5 w qs (sCnt (pPath f e S) 1 e)) f e hok.1) (cwV 1 hts (zgV wm_X11_131 wv_X11_valueOf) rfl rfl rfl (by decide +kernel) ⟨show 1 + 1 ≤ 3 * d + 9 by omega, show 8 + (2 + 11) + (22) ≤ 80 * d + 176 by omega⟩) hK hO rfl hP.mv rfl hl.1 rfl (Nat.le_of_ble_eq_true rfl) dX11_checkPath_88 ⟨Nat.zero_le _, Nat.zero_le _⟩ ?_
        refine zc_VE (As := [.int (nI (vo f e))]) (rest := []) ⟨hx, hb, hml, hown, hts⟩ (hC (sCnt (pPath f e S) 1 e) (vo f e) (by have h7 := hv; rwa [isC_3 c_51] at h7) c_82 (hpi.1.cnt hpi.2 (by decide) e)) (cwV 1 hts (zgV wm_X11_231 wv_X11_checkConditions) rfl rfl rfl (by decide +kernel) ⟨show 3 * d + 8 + 1 ≤ 3 * d + 9 by omega, show 8 + (5 + 11) + (80 * d + 150) ≤ 80 * d + 176 by omega⟩) hK hO rfl hP rfl hl.1 rfl (Nat.le_of_ble_eq_true rfl) dX11_checkPath_91 ⟨Nat.zero_le _, Nat.zero_le _⟩ hS (fun _ h9 => h9) (fun H locs hP hz9 hk9 hS => ?_)
        obtain ⟨hO, hA, h8, hne9⟩ := id hP
        refine W.eq (g2 := F0 m 94 ls ([])) rfl ?_
        exact zr_v hx hb hr hlocks (hP.to (by rw [kPath, if_pos c_51, if_pos c_82])) hS dX11_checkPath_94
    · refine lv_iconst (v := nI 1) hx hb dX11_checkPath_54 (by decide) ?_
      refine lv_goto (tgt := 59) hx hb dX11_checkPath_55 (by decide) ?_
      refine lv_istore_n (lv' := [(3, .int (nI (1))), (2, .int (nI (stN f e))), (0, .ref (o)), (1, .int (nI (e)))]) hx hb dX11_checkPath_59 rfl hl (by decide) rfl (fun ls hl => ?_)
      refine lv_aload_n hx hb dX11_checkPath_60 rfl (lv_at hl 2 rfl) ?_
      refine lv_iload_n hx hb dX11_checkPath_61 rfl (lv_at hl 0 rfl) ?_
      refine zi_if_eq (tgt := 69) hx hb dX11_checkPath_62 (by decide) (by omega) (fun c_62 => absurd c_62 (by decide)) (fun c_62 => ?_)
      refine lv_iconst (v := nI 2) hx hb dX11_checkPath_65 (by decide) ?_
      refine lv_goto (tgt := 70) hx hb dX11_checkPath_66 (by decide) ?_
      refine lv_iload_n hx hb dX11_checkPath_70 rfl (lv_at hl 3 rfl) ?_
      refine zc_VE (As := [.int (nI (2)), .int (nI (e))]) (rest := []) ⟨hx, hb, hml, hown, hts⟩ (m_count l G o qs w f (pPath f e S) 2 e hpi.1 hpi.2 (by decide)) (cwV 2 hts (zgV wm_X11_212 wv_X11_count) rfl rfl rfl (by decide +kernel) ⟨show 1 + 1 ≤ 3 * d + 9 by omega, show 8 + (3 + 11) + (22) ≤ 80 * d + 176 by omega⟩) hK hO rfl hP rfl hl.1 rfl (Nat.le_of_ble_eq_true rfl) dX11_checkPath_71 ⟨Nat.zero_le _, Nat.zero_le _⟩ hS (fun _ h9 => h9) (fun H locs hP hz9 hk9 hS => ?_)
      obtain ⟨hO, hA, h8, hne9⟩ := id hP
      refine W.eq (g2 := F0 m 74 ls ([])) rfl ?_
      refine lv_iload_n hx hb dX11_checkPath_74 rfl (lv_at hl 0 rfl) ?_
      refine zi_if_ne (tgt := 94) hx hb dX11_checkPath_75 (by decide) (by omega) (fun c_75 => ?_) (fun c_75 => absurd c_75 (by decide))
      exact zr_v hx hb hr hlocks (hP.to (by rw [kPath, if_neg (by rw [c_51]; decide)])) hS dX11_checkPath_94
  · refine lv_aload_n hx hb dX11_checkPath_10 rfl (lv_at hl 1 rfl) ?_
    refine lv_iconst (v := nI 3) hx hb dX11_checkPath_11 (by decide) ?_
    refine lv_iload_n hx hb dX11_checkPath_12 rfl (lv_at hl 2 rfl) ?_
    refine zc_VE (As := [.int (nI (3)), .int (nI (e))]) (rest := []) ⟨hx, hb, hml, hown, hts⟩ (m_say l G o qs w f S 3 e hw6) (cwV 2 hts (zgV wm_X11_200 wv_X11_say) rfl rfl rfl (by decide +kernel) ⟨show 0 + 1 ≤ 3 * d + 9 by omega, show 8 + (3 + 11) + (0) ≤ 80 * d + 176 by omega⟩) hK hO rfl hP rfl hl.1 rfl (Nat.le_of_ble_eq_true rfl) dX11_checkPath_13 ⟨Nat.zero_le _, Nat.zero_le _⟩ hS (fun _ h9 => h9) (fun H locs hP hz9 hk9 hS => ?_)
    obtain ⟨hO, hA, h8, hne9⟩ := id hP
    refine W.eq (g2 := F0 m 16 ls ([])) rfl ?_
    refine lv_aload_n hx hb dX11_checkPath_16 rfl (lv_at hl 1 rfl) ?_
    refine lv_dup hx hb dX11_checkPath_17 rfl ?_
    refine zi_get (C := RX11) (T := TX11) (N := 23) (v := .int (nI ((sSay S 3 e).2.2.2.1))) hx hb hz wo_X11 hown hK hO rfl 8 (by decide) (hz _ wf_X11_221) (fun _ h9 => h9) rfl dX11_checkPath_18 ?_
    refine lv_iconst (v := nI 1) hx hb dX11_checkPath_21 (by decide) ?_
    refine zi_add hx hb dX11_checkPath_22 ?_
    refine zi_put (C := RX11) (T := TX11) (N := 23) (ty := .int) (v := .int (nI ((sSay S 3 e).2.2.2.1 + 1))) hx hb hz wo_X11 tyX11 tyX11_ok nmX11 hown hK hO rfl 8 (by decide) (hz _ wf_X11_221) (fun _ h9 => h9) rfl (by decide +kernel) rfl rfl (by show 8 < 23; decide) (A := (fun x => x = o)) rfl hS dX11_checkPath_23 (fun H locs _ hk9 hO9 hS => ?_)
    obtain ⟨S3, eS3⟩ : ∃ z : cS, z = ((sSay S 3 e).1, (sSay S 3 e).2.1, (sSay S 3 e).2.2.1, (sSay S 3 e).2.2.2.1 + 1, (sSay S 3 e).2.2.2.2) := ⟨_, rfl⟩
    have hP : MC G o qs w f S3 H := ⟨by rw [eS3]; exact hO9, hA.kept (hk9 _ hne9), h8, hne9⟩
    obtain ⟨hO, hA, h8, hne9⟩ := id hP
    refine lv_aload_n hx hb dX11_checkPath_26 rfl (lv_at hl 1 rfl) ?_
    refine lv_dup hx hb dX11_checkPath_27 rfl ?_
    refine zi_get (C := RX11) (T := TX11) (N := 23) (v := .int (nI (S3.2.2.2.2))) hx hb hz wo_X11 hown hK hO rfl 9 (by decide) (hz _ wf_X11_224) (fun _ h9 => h9) rfl dX11_checkPath_28 ?_
    refine lv_iload_n hx hb dX11_checkPath_31 rfl (lv_at hl 0 rfl) ?_
    refine zi_add hx hb dX11_checkPath_32 ?_
    refine zi_put (C := RX11) (T := TX11) (N := 23) (ty := .int) (v := .int (nI (S3.2.2.2.2 + (stN f e)))) hx hb hz wo_X11 tyX11 tyX11_ok nmX11 hown hK hO rfl 9 (by decide) (hz _ wf_X11_224) (fun _ h9 => h9) rfl (by decide +kernel) rfl rfl (by show 9 < 23; decide) (A := (fun x => x = o)) rfl hS dX11_checkPath_33 (fun H locs _ hk9 hO9 hS => ?_)
    obtain ⟨S4, eS4⟩ : ∃ z : cS, z = (S3.1, S3.2.1, S3.2.2.1, S3.2.2.2.1, S3.2.2.2.2 + (stN f e)) := ⟨_, rfl⟩
    have hP : MC G o qs w f S4 H := ⟨by rw [eS4]; exact hO9, hA.kept (hk9 _ hne9), h8, hne9⟩
    obtain ⟨hO, hA, h8, hne9⟩ := id hP
    have hpp : S4 = pPath f e S := by rw [eS4, eS3, pPath, if_pos c_7]; simp only [sSay_nc]
    rw [hpp] at hP
    obtain ⟨hO, hA, h8, hne9⟩ := id hP
    refine lv_aload_n hx hb dX11_checkPath_36 rfl (lv_at hl 1 rfl) ?_
    refine lv_aload_n hx hb dX11_checkPath_37 rfl (lv_at hl 1 rfl) ?_
    refine zi_get (C := RX11) (T := TX11) (N := 23) (v := .ref (qs)) hx hb hz wo_X11 hown hK hO rfl 1 (by decide) (hz _ wf_X11_7) (fun _ h9 => h9) rfl dX11_checkPath_38 ?_
    refine lv_iload_n hx hb dX11_checkPath_41 rfl (lv_at hl 2 rfl) ?_
    refine zi_ald hx hb hK hA hel (by decide) dX11_checkPath_42 ?_
    refine lv_aload_n hx hb dX11_checkPath_43 rfl (lv_at hl 1 rfl) ?_
    refine lv_iload_n hx hb dX11_checkPath_44 rfl (lv_at hl 2 rfl) ?_
    refine zc_V (As := [.int (nI (e))]) (rest := [.int (nI (f e)), .ref (o)]) ⟨hx, hb, hml, hown, hts⟩ (m_valueOf l G o qs (cF5 w qs (pPath f e S)) f e hok.1) (cwV 1 hts (zgV wm_X11_131 wv_X11_valueOf) rfl rfl rfl (by decide +kernel) ⟨show 1 + 1 ≤ 3 * d + 9 by omega, show 8 + (2 + 11) + (22) ≤ 80 * d + 176 by omega⟩) hK hO rfl hP.mv rfl hl.1 rfl (Nat.le_of_ble_eq_true rfl) dX11_checkPath_45 ⟨Nat.zero_le _, Nat.zero_le _⟩ ?_
    refine zc_V (As := [.int (nI (f e)), .int (nI (vo f e))]) (rest := []) ⟨hx, hb, hml, hown, hts⟩ (m_isConditions l G o qs (cF5 w qs (pPath f e S)) f (f e) (vo f e) (Nat.lt_trans (h8 _) (by decide)) (fun z => hv.b.2.2.2.2.2 z)) (cwV 2 hts (zgV wm_X11_227 wv_X11_isConditions) rfl rfl rfl (by decide +kernel) ⟨show 1 + 1 ≤ 3 * d + 9 by omega, show 8 + (3 + 11) + (21) ≤ 80 * d + 176 by omega⟩) hK hO rfl hP.mv rfl hl.1 rfl (Nat.le_of_ble_eq_true rfl) dX11_checkPath_48 ⟨Nat.zero_le _, Nat.zero_le _⟩ ?_
    refine zb_if_ne (tgt := 58) hx hb dX11_checkPath_51 (by decide) (fun c_51 => ?_) (fun c_51 => ?_)
    · refine lv_iconst (v := nI 0) hx hb dX11_checkPath_58 (by decide) ?_
      refine lv_istore_n (lv' := [(3, .int (nI (0))), (2, .int (nI (stN f e))), (0, .ref (o)), (1, .int (nI (e)))]) hx hb dX11_checkPath_59 rfl hl (by decide) rfl (fun ls hl => ?_)
      refine lv_aload_n hx hb dX11_checkPath_60 rfl (lv_at hl 2 rfl) ?_
      refine lv_iload_n hx hb dX11_checkPath_61 rfl (lv_at hl 0 rfl) ?_
      refine zi_if_eq (tgt := 69) hx hb dX11_checkPath_62 (by decide) (by omega) (fun c_62 => ?_) (fun c_62 => absurd c_62 (by decide))
      refine lv_iconst (v := nI 1) hx hb dX11_checkPath_69 (by decide) ?_
      refine lv_iload_n hx hb dX11_checkPath_70 rfl (lv_at hl 3 rfl) ?_
      refine zc_VE (As := [.int (nI (1)), .int (nI (e))]) (rest := []) ⟨hx, hb, hml, hown, hts⟩ (m_count l G o qs w f (pPath f e S) 1 e hpi.1 hpi.2 (by decide)) (cwV 2 hts (zgV wm_X11_212 wv_X11_count) rfl rfl rfl (by decide +kernel) ⟨show 1 + 1 ≤ 3 * d + 9 by omega, show 8 + (3 + 11) + (22) ≤ 80 * d + 176 by omega⟩) hK hO rfl hP rfl hl.1 rfl (Nat.le_of_ble_eq_true rfl) dX11_checkPath_71 ⟨Nat.zero_le _, Nat.zero_le _⟩ hS (fun _ h9 => h9) (fun H locs hP hz9 hk9 hS => ?_)
      obtain ⟨hO, hA, h8, hne9⟩ := id hP
      refine W.eq (g2 := F0 m 74 ls ([])) rfl ?_
      refine lv_iload_n hx hb dX11_checkPath_74 rfl (lv_at hl 0 rfl) ?_
      refine zi_if_ne (tgt := 94) hx hb dX11_checkPath_75 (by decide) (by omega) (fun c_75 => absurd c_75 (by decide)) (fun c_75 => ?_)
      refine lv_aload_n hx hb dX11_checkPath_78 rfl (lv_at hl 2 rfl) ?_
      refine zi_get (C := RX11) (T := TX11) (N := 23) (v := .int (nI ((sCnt (pPath f e S) 1 e).1))) hx hb hz wo_X11 hown hK hO rfl 10 (by decide) (hz _ wf_X11_191) (fun _ h9 => h9) rfl dX11_checkPath_79 ?_
      refine zi_if_ne (tgt := 94) hx hb dX11_checkPath_82 (by decide) (Nat.lt_trans ((hpi.1.cnt hpi.2 (more := 1) (by decide) e).1) (by decide)) (fun c_82 => ?_) (fun c_82 => ?_)
      · exact zr_v hx hb hr hlocks (hP.to (by rw [kPath, if_pos c_51, if_neg c_82])) hS dX11_checkPath_94
      · refine lv_aload_n hx hb dX11_checkPath_85 rfl (lv_at hl 2 rfl) ?_
        refine lv_aload_n hx hb dX11_checkPath_86 rfl (lv_at hl 2 rfl) ?_
        refine lv_iload_n hx hb dX11_checkPath_87 rfl (lv_at hl 3 rfl) ?_
        refine zc_V (As := [.int (nI (e))]) (rest := [.ref (o)]) ⟨hx, hb, hml, hown, hts⟩ (m_valueOf l G o qs (cF5 w qs (sCnt (pPath f e S) 1 e)) f e hok.1) (cwV 1 hts (zgV wm_X11_131 wv_X11_valueOf) rfl rfl rfl (by decide +kernel) ⟨show 1 + 1 ≤ 3 * d + 9 by omega, show 8 + (2 + 11) + (22) ≤ 80 * d + 176 by omega⟩) hK hO rfl hP.mv rfl hl.1 rfl (Nat.le_of_ble_eq_true rfl) dX11_checkPath_88 ⟨Nat.zero_le _, Nat.zero_le _⟩ ?_
        refine zc_VE (As := [.int (nI (vo f e))]) (rest := []) ⟨hx, hb, hml, hown, hts⟩ (hC (sCnt (pPath f e S) 1 e) (vo f e) (by have h7 := hv; rwa [isC_3 c_51] at h7) c_82 (hpi.1.cnt hpi.2 (by decide) e)) (cwV 1 hts (zgV wm_X11_231 wv_X11_checkConditions) rfl rfl rfl (by decide +kernel) ⟨show 3 * d + 8 + 1 ≤ 3 * d + 9 by omega, show 8 + (5 + 11) + (80 * d + 150) ≤ 80 * d + 176 by omega⟩) hK hO rfl hP rfl hl.1 rfl (Nat.le_of_ble_eq_true rfl) dX11_checkPath_91 ⟨Nat.zero_le _, Nat.zero_le _⟩ hS (fun _ h9 => h9) (fun H locs hP hz9 hk9 hS => ?_)
        obtain ⟨hO, hA, h8, hne9⟩ := id hP
        refine W.eq (g2 := F0 m 94 ls ([])) rfl ?_
        exact zr_v hx hb hr hlocks (hP.to (by rw [kPath, if_pos c_51, if_pos c_82])) hS dX11_checkPath_94
    · refine lv_iconst (v := nI 1) hx hb dX11_checkPath_54 (by decide) ?_
      refine lv_goto (tgt := 59) hx hb dX11_checkPath_55 (by decide) ?_
      refine lv_istore_n (lv' := [(3, .int (nI (1))), (2, .int (nI (stN f e))), (0, .ref (o)), (1, .int (nI (e)))]) hx hb dX11_checkPath_59 rfl hl (by decide) rfl (fun ls hl => ?_)
      refine lv_aload_n hx hb dX11_checkPath_60 rfl (lv_at hl 2 rfl) ?_
      refine lv_iload_n hx hb dX11_checkPath_61 rfl (lv_at hl 0 rfl) ?_
      refine zi_if_eq (tgt := 69) hx hb dX11_checkPath_62 (by decide) (by omega) (fun c_62 => absurd c_62 (by decide)) (fun c_62 => ?_)
      refine lv_iconst (v := nI 2) hx hb dX11_checkPath_65 (by decide) ?_
      refine lv_goto (tgt := 70) hx hb dX11_checkPath_66 (by decide) ?_
      refine lv_iload_n hx hb dX11_checkPath_70 rfl (lv_at hl 3 rfl) ?_
      refine zc_VE (As := [.int (nI (2)), .int (nI (e))]) (rest := []) ⟨hx, hb, hml, hown, hts⟩ (m_count l G o qs w f (pPath f e S) 2 e hpi.1 hpi.2 (by decide)) (cwV 2 hts (zgV wm_X11_212 wv_X11_count) rfl rfl rfl (by decide +kernel) ⟨show 1 + 1 ≤ 3 * d + 9 by omega, show 8 + (3 + 11) + (22) ≤ 80 * d + 176 by omega⟩) hK hO rfl hP rfl hl.1 rfl (Nat.le_of_ble_eq_true rfl) dX11_checkPath_71 ⟨Nat.zero_le _, Nat.zero_le _⟩ hS (fun _ h9 => h9) (fun H locs hP hz9 hk9 hS => ?_)
      obtain ⟨hO, hA, h8, hne9⟩ := id hP
      refine W.eq (g2 := F0 m 74 ls ([])) rfl ?_
      refine lv_iload_n hx hb dX11_checkPath_74 rfl (lv_at hl 0 rfl) ?_
      refine zi_if_ne (tgt := 94) hx hb dX11_checkPath_75 (by decide) (by omega) (fun c_75 => ?_) (fun c_75 => absurd c_75 (by decide))
      exact zr_v hx hb hr hlocks (hP.to (by rw [kPath, if_neg (by rw [c_51]; decide)])) hS dX11_checkPath_94

set_option maxHeartbeats 4000000 in
set_option maxRecDepth 100000 in
theorem m_checkFilter_S (l : Launch) (G : zG) (o qs : Nat) (w : Nat → Value) (f : Nat → Nat) (S : cS) (d : Nat) (hC : C_ckC l G o qs w f d) (hF : C_ckF l G o qs w f d) (v : Nat) (hv : okV f (d + 1) 3 v) (h0 : S.1 = 0) (hi : sInv S) : Met l yX11_checkFilter wsX11_checkFilter (rCk (d + 1)) (zP G [.ref (o), .int (nI (v))] (fun H => MC G o qs w f S H)) (zQ (fun x => x = o) none (fun H => MC G o qs w f ((ckF f (d + 1)).2 v S) H)) 0 0 (fun x => x = o) := by
  refine Met.ofW (cc := cX11_checkFilter) (maxL := 3) (ret := none) (by decide) rfl ?_
  intro p en s m args below meth c s₁ B hml hv
  obtain ⟨rfl, hP, hK⟩ := hv
  have hx := B.exec
  have hb := B.bytes
  have hr := B.returns
  have hts := atoms_spec (ws := wsX11_checkFilter) B.pre
  have hz : ∀ w ∈ zW, w.before _ s = true := fun w h => hts w (List.mem_cons_of_mem _ h)
  have hown : s.vm.findClass RX11 = some m.cls := findClass_of_methodNamed B.named
  have hlocks := B.notSynchronized
  obtain ⟨hO, hA, h8, hne9⟩ := id hP
  have hS : va_S (fun x => x = o) s.heap s.heap [] := va_S.rf
  have hvB := hv.2 (Or.inl rfl)
  have hf1 := hvB.1.2.lt (by decide)
  have hl := lv_entry ([.ref (o), .int (nI (v))]) (n := 3) (Nat.le_of_ble_eq_true rfl)
  rw [lg_entry_eq]
  generalize (lg_sl ([.ref (o), .int (nI (v))]) ++ List.replicate (3 - (lg_sl ([.ref (o), .int (nI (v))])).length) Slot.unset).toArray = ls at hl ⊢
  have hl : lv_has ls 3 [(0, .ref (o)), (1, .int (nI (v)))] := hl
  refine lv_aload_n hx hb dX11_checkFilter_0 rfl (lv_at hl 0 rfl) ?_
  refine lv_iload_n hx hb dX11_checkFilter_1 rfl (lv_at hl 1 rfl) ?_
  refine zc_V (As := [.int (nI (v))]) (rest := []) ⟨hx, hb, hml, hown, hts⟩ (m_firstOf l G o qs (cF5 w qs S) f v hvB.1.1) (cwV 1 hts (zgV wm_X11_137 wv_X11_firstOf) rfl rfl rfl (by decide +kernel) ⟨show 0 + 1 ≤ 3 * (d + 1) + 8 by omega, show 8 + (2 + 11) + (0) ≤ 80 * (d + 1) + 150 by omega⟩) hK hO rfl hP.mv rfl hl.1 rfl (Nat.le_of_ble_eq_true rfl) dX11_checkFilter_2 ⟨Nat.zero_le _, Nat.zero_le _⟩ ?_
  refine lv_istore_n (lv' := [(2, .int (nI (fi f v))), (0, .ref (o)), (1, .int (nI (v)))]) hx hb dX11_checkFilter_5 rfl hl (by decide) rfl (fun ls hl => ?_)
  have L6 : ∀ (n_ : Nat) (x : Nat) (X : List Nat) (T : cS), X.length < n_ → (Ch 18000 f x X) → (x < 18000) → (∀ z ∈ X, z ∈ els f v) → (sInv T) → ((ckF f (d + 1)).2 v S = foldS (kEl f (ckF f d).1 (ckF f d).2) X T) → ∀ (H : Heap) (locs : List Loc), MC G o qs w f T H → va_S (fun x => x = o) s.heap H locs → ∀ ls : Array Slot, lv_has ls 3 [(0, .ref (o)), (2, .int (nI (x)))] → W p l en (headSpec wsX11_checkFilter (rCk (d + 1))).room s m ([.ref (o), .int (nI (v))] : List Value).toArray below meth c H locs 0 0 (MQ below (zQ (fun x => x = o) none (fun H => MC G o qs w f ((ckF f (d + 1)).2 v S) H)) ([.ref (o), .int (nI (v))] : List Value).toArray s 0 0 (fun x => x = o)) (F0 m 6 ls []) := by
    intro n_
    induction n_ with
    | zero => intro x X T hm_; exact absurd hm_ (Nat.not_lt_zero _)
    | succ n_ ih_ =>
      intro x X T hm_ hc hxl hXi hTi hs H locs hP hS ls hl
      obtain ⟨hO, hA, h8, hne9⟩ := id hP
      refine lv_iload_n hx hb dX11_checkFilter_6 rfl (lv_at hl 1 rfl) ?_
      refine zi_if_le (tgt := 47) hx hb dX11_checkFilter_7 (by decide) (by omega) (fun c_7 => ?_) (fun c_7 => ?_)
      · have hX0 := hc.nil c_7
        subst hX0
        exact zr_v hx hb hr hlocks (hP.to (by rw [hs]; rfl)) hS dX11_checkFilter_47
      · refine lv_aload_n hx hb dX11_checkFilter_10 rfl (lv_at hl 0 rfl) ?_
        refine zi_get (C := RX11) (T := TX11) (N := 23) (v := .int (nI (T.1))) hx hb hz wo_X11 hown hK hO rfl 10 (by decide) (hz _ wf_X11_191) (fun _ h9 => h9) rfl dX11_checkFilter_11 ?_
        refine zi_if_ne (tgt := 47) hx hb dX11_checkFilter_14 (by decide) (Nat.lt_trans hTi.1 (by decide)) (fun c_14 => ?_) (fun c_14 => ?_)
        · exact zr_v hx hb hr hlocks (hP.to (by rw [hs, foldS_w c_14])) hS dX11_checkFilter_47
        · obtain ⟨X', rfl, hok, hc'⟩ := hc.cons c_7
          have hx9 := hXi x List.mem_cons_self
          refine lv_aload_n hx hb dX11_checkFilter_17 rfl (lv_at hl 0 rfl) ?_
          refine lv_iload_n hx hb dX11_checkFilter_18 rfl (lv_at hl 1 rfl) ?_
          refine zc_V (As := [.int (nI (x))]) (rest := []) ⟨hx, hb, hml, hown, hts⟩ (m_isDollar l G o qs (cF5 w qs T) f x (Nat.lt_of_le_of_lt (ne_gt f x) hok.1.2)) (cwV 1 hts (zgV wm_X11_145 wv_X11_isDollar) rfl rfl rfl (by decide +kernel) ⟨show 0 + 1 ≤ 3 * (d + 1) + 8 by omega, show 8 + (2 + 11) + (0) ≤ 80 * (d + 1) + 150 by omega⟩) hK hO rfl hP.mv rfl hl.1 rfl (Nat.le_of_ble_eq_true rfl) dX11_checkFilter_19 ⟨Nat.zero_le _, Nat.zero_le _⟩ ?_
          refine zb_if_eq (tgt := 33) hx hb dX11_checkFilter_22 (by decide) (fun c_22 => ?_) (fun c_22 => ?_)
          · refine lv_aload_n hx hb dX11_checkFilter_33 rfl (lv_at hl 0 rfl) ?_
            refine lv_iload_n hx hb dX11_checkFilter_34 rfl (lv_at hl 1 rfl) ?_
            refine zc_VE (As := [.int (nI (x))]) (rest := []) ⟨hx, hb, hml, hown, hts⟩ (m_checkPath l G o qs w f T d x hC hok (hvB.2 x hx9) c_14 hTi) (cwV 1 hts (zgV wm_X11_206 wv_X11_checkPath) rfl rfl rfl (by decide +kernel) ⟨show 3 * d + 9 + 1 ≤ 3 * (d + 1) + 8 by omega, show 8 + (4 + 11) + (80 * d + 176) ≤ 80 * (d + 1) + 150 by omega⟩) hK hO rfl hP rfl hl.1 rfl (Nat.le_of_ble_eq_true rfl) dX11_checkFilter_35 ⟨Nat.zero_le _, Nat.zero_le _⟩ hS (fun _ h9 => h9) (fun H locs hP hz9 hk9 hS => ?_)
            obtain ⟨hO, hA, h8, hne9⟩ := id hP
            refine W.eq (g2 := F0 m 38 ls ([])) rfl ?_
            refine lv_aload_n hx hb dX11_checkFilter_38 rfl (lv_at hl 0 rfl) ?_
            refine lv_iload_n hx hb dX11_checkFilter_39 rfl (lv_at hl 1 rfl) ?_
            refine zc_V (As := [.int (nI (x))]) (rest := []) ⟨hx, hb, hml, hown, hts⟩ (m_nextOf l G o qs (cF5 w qs (kPath f (ckF f d).1 x T)) f x hok) (cwV 1 hts (zgV wm_X11_140 wv_X11_nextOf) rfl rfl rfl (by decide +kernel) ⟨show 2 + 1 ≤ 3 * (d + 1) + 8 by omega, show 8 + (4 + 11) + (43) ≤ 80 * (d + 1) + 150 by omega⟩) hK hO rfl hP.mv rfl hl.1 rfl (Nat.le_of_ble_eq_true rfl) dX11_checkFilter_40 ⟨Nat.zero_le _, Nat.zero_le _⟩ ?_
            refine lv_istore_n (lv' := [(2, .int (nI (nx f x))), (0, .ref (o))]) hx hb dX11_checkFilter_43 rfl hl (by decide) rfl (fun ls hl => ?_)
            refine lv_goto (tgt := 6) hx hb dX11_checkFilter_44 (by decide) ?_
            exact ih_ (nx f x) (X') (kPath f (ckF f d).1 x T) (by simp at hm_; omega) hc' (Ch.lt (by decide) hc') (fun z hz => hXi z (List.mem_cons_of_mem _ hz)) (kPath_inv hTi c_14) (by rw [hs, foldS_s c_14, kEl, if_neg (of_decide_eq_false c_22)]) _ _ hP hS ls (lv_sub hl [1, 0] rfl)
          · refine lv_aload_n hx hb dX11_checkFilter_25 rfl (lv_at hl 0 rfl) ?_
            refine lv_iload_n hx hb dX11_checkFilter_26 rfl (lv_at hl 1 rfl) ?_
            refine zc_VE (As := [.int (nI (x))]) (rest := []) ⟨hx, hb, hml, hown, hts⟩ (m_checkJoin l G o qs w f T d x hF hok (hvB.2 x hx9) c_14 hTi) (cwV 1 hts (zgV wm_X11_203 wv_X11_checkJoin) rfl rfl rfl (by decide +kernel) ⟨show 3 * d + 9 + 1 ≤ 3 * (d + 1) + 8 by omega, show 8 + (3 + 11) + (80 * d + 176) ≤ 80 * (d + 1) + 150 by omega⟩) hK hO rfl hP rfl hl.1 rfl (Nat.le_of_ble_eq_true rfl) dX11_checkFilter_27 ⟨Nat.zero_le _, Nat.zero_le _⟩ hS (fun _ h9 => h9) (fun H locs hP hz9 hk9 hS => ?_)
            obtain ⟨hO, hA, h8, hne9⟩ := id hP
            refine W.eq (g2 := F0 m 30 ls ([])) rfl ?_
            refine lv_goto (tgt := 38) hx hb dX11_checkFilter_30 (by decide) ?_
            refine lv_aload_n hx hb dX11_checkFilter_38 rfl (lv_at hl 0 rfl) ?_
            refine lv_iload_n hx hb dX11_checkFilter_39 rfl (lv_at hl 1 rfl) ?_
            refine zc_V (As := [.int (nI (x))]) (rest := []) ⟨hx, hb, hml, hown, hts⟩ (m_nextOf l G o qs (cF5 w qs (kJoin f (ckF f d).2 x T)) f x hok) (cwV 1 hts (zgV wm_X11_140 wv_X11_nextOf) rfl rfl rfl (by decide +kernel) ⟨show 2 + 1 ≤ 3 * (d + 1) + 8 by omega, show 8 + (4 + 11) + (43) ≤ 80 * (d + 1) + 150 by omega⟩) hK hO rfl hP.mv rfl hl.1 rfl (Nat.le_of_ble_eq_true rfl) dX11_checkFilter_40 ⟨Nat.zero_le _, Nat.zero_le _⟩ ?_
            refine lv_istore_n (lv' := [(2, .int (nI (nx f x))), (0, .ref (o))]) hx hb dX11_checkFilter_43 rfl hl (by decide) rfl (fun ls hl => ?_)
            refine lv_goto (tgt := 6) hx hb dX11_checkFilter_44 (by decide) ?_
            exact ih_ (nx f x) (X') (kJoin f (ckF f d).2 x T) (by simp at hm_; omega) hc' (Ch.lt (by decide) hc') (fun z hz => hXi z (List.mem_cons_of_mem _ hz)) (kJoin_inv hTi c_14) (by rw [hs, foldS_s c_14, kEl, if_pos (of_decide_eq_true c_22)]) _ _ hP hS ls (lv_sub hl [1, 0] rfl)
  exact L6 (((els f v).length) + 1) (fi f v) (els f v) S (Nat.lt_succ_self _) hvB.1.2 hf1 (fun _ z => z) hi rfl _ _ hP hS ls (lv_sub hl [1, 0] rfl)

set_option maxHeartbeats 4000000 in
set_option maxRecDepth 100000 in
theorem m_checkConditions_S (l : Launch) (G : zG) (o qs : Nat) (w : Nat → Value) (f : Nat → Nat) (S : cS) (d : Nat) (hC : C_ckC l G o qs w f d) (hF : C_ckF l G o qs w f d) (v : Nat) (hv : okV f (d + 1) 3 v) (h0 : S.1 = 0) (hi : sInv S) : Met l yX11_checkConditions wsX11_checkConditions (rCk (d + 1)) (zP G [.ref (o), .int (nI (v))] (fun H => MC G o qs w f S H)) (zQ (fun x => x = o) none (fun H => MC G o qs w f ((ckF f (d + 1)).1 v S) H)) 0 0 (fun x => x = o) := by
  refine Met.ofW (cc := cX11_checkConditions) (maxL := 5) (ret := none) (by decide) rfl ?_
  intro p en s m args below meth c s₁ B hml hv
  obtain ⟨rfl, hP, hK⟩ := hv
  have hx := B.exec
  have hb := B.bytes
  have hr := B.returns
  have hts := atoms_spec (ws := wsX11_checkConditions) B.pre
  have hz : ∀ w ∈ zW, w.before _ s = true := fun w h => hts w (List.mem_cons_of_mem _ h)
  have hown : s.vm.findClass RX11 = some m.cls := findClass_of_methodNamed B.named
  have hlocks := B.notSynchronized
  obtain ⟨hO, hA, h8, hne9⟩ := id hP
  have hS : va_S (fun x => x = o) s.heap s.heap [] := va_S.rf
  have hvB := hv.2 (Or.inl rfl)
  have hf1 := hvB.1.2.lt (by decide)
  have hl := lv_entry ([.ref (o), .int (nI (v))]) (n := 5) (Nat.le_of_ble_eq_true rfl)
  rw [lg_entry_eq]
  generalize (lg_sl ([.ref (o), .int (nI (v))]) ++ List.replicate (5 - (lg_sl ([.ref (o), .int (nI (v))])).length) Slot.unset).toArray = ls at hl ⊢
  have hl : lv_has ls 5 [(0, .ref (o)), (1, .int (nI (v)))] := hl
  refine lv_aload_n hx hb dX11_checkConditions_0 rfl (lv_at hl 0 rfl) ?_
  refine lv_iload_n hx hb dX11_checkConditions_1 rfl (lv_at hl 1 rfl) ?_
  refine zc_V (As := [.int (nI (v))]) (rest := []) ⟨hx, hb, hml, hown, hts⟩ (m_firstOf l G o qs (cF5 w qs S) f v hvB.1.1) (cwV 1 hts (zgV wm_X11_137 wv_X11_firstOf) rfl rfl rfl (by decide +kernel) ⟨show 0 + 1 ≤ 3 * (d + 1) + 8 by omega, show 8 + (2 + 11) + (0) ≤ 80 * (d + 1) + 150 by omega⟩) hK hO rfl hP.mv rfl hl.1 rfl (Nat.le_of_ble_eq_true rfl) dX11_checkConditions_2 ⟨Nat.zero_le _, Nat.zero_le _⟩ ?_
  refine lv_istore_n (lv' := [(2, .int (nI (fi f v))), (0, .ref (o)), (1, .int (nI (v)))]) hx hb dX11_checkConditions_5 rfl hl (by decide) rfl (fun ls hl => ?_)
  have L6 : ∀ (n_ : Nat) (x : Nat) (X : List Nat) (T : cS), X.length < n_ → (Ch 18000 f x X) → (x < 18000) → (∀ z ∈ X, z ∈ els f v) → (sInv T) → ((ckF f (d + 1)).1 v S = foldS (kCond f (ckF f d).1 (ckF f d).2) X T) → ∀ (H : Heap) (locs : List Loc), MC G o qs w f T H → va_S (fun x => x = o) s.heap H locs → ∀ ls : Array Slot, lv_has ls 5 [(0, .ref (o)), (2, .int (nI (x)))] → W p l en (headSpec wsX11_checkConditions (rCk (d + 1))).room s m ([.ref (o), .int (nI (v))] : List Value).toArray below meth c H locs 0 0 (MQ below (zQ (fun x => x = o) none (fun H => MC G o qs w f ((ckF f (d + 1)).1 v S) H)) ([.ref (o), .int (nI (v))] : List Value).toArray s 0 0 (fun x => x = o)) (F0 m 6 ls []) := by
    intro n_
    induction n_ with
    | zero => intro x X T hm_; exact absurd hm_ (Nat.not_lt_zero _)
    | succ n_ ih_ =>
      intro x X T hm_ hc hxl hXi hTi hs H locs hP hS ls hl
      obtain ⟨hO, hA, h8, hne9⟩ := id hP
      refine lv_iload_n hx hb dX11_checkConditions_6 rfl (lv_at hl 1 rfl) ?_
      refine zi_if_le (tgt := 136) hx hb dX11_checkConditions_7 (by decide) (by omega) (fun c_7 => ?_) (fun c_7 => ?_)
      · have hX0 := hc.nil c_7
        subst hX0
        exact zr_v hx hb hr hlocks (hP.to (by rw [hs]; rfl)) hS dX11_checkConditions_136
      · refine lv_aload_n hx hb dX11_checkConditions_10 rfl (lv_at hl 0 rfl) ?_
        refine zi_get (C := RX11) (T := TX11) (N := 23) (v := .int (nI (T.1))) hx hb hz wo_X11 hown hK hO rfl 10 (by decide) (hz _ wf_X11_191) (fun _ h9 => h9) rfl dX11_checkConditions_11 ?_
        refine zi_if_ne (tgt := 136) hx hb dX11_checkConditions_14 (by decide) (Nat.lt_trans hTi.1 (by decide)) (fun c_14 => ?_) (fun c_14 => ?_)
        · exact zr_v hx hb hr hlocks (hP.to (by rw [hs, foldS_w c_14])) hS dX11_checkConditions_136
        · obtain ⟨X', rfl, hok, hc'⟩ := hc.cons c_7
          have hx9 := hXi x List.mem_cons_self
          have hxv := hvB.2 x hx9
          refine lv_aload_n hx hb dX11_checkConditions_17 rfl (lv_at hl 0 rfl) ?_
          refine lv_iload_n hx hb dX11_checkConditions_18 rfl (lv_at hl 1 rfl) ?_
          refine zc_V (As := [.int (nI (x))]) (rest := []) ⟨hx, hb, hml, hown, hts⟩ (m_condition l G o qs (cF5 w qs T) f x hok.1) (cwV 1 hts (zgV wm_X11_234 wv_X11_condition) rfl rfl rfl (by decide +kernel) ⟨show 1 + 1 ≤ 3 * (d + 1) + 8 by omega, show 8 + (2 + 11) + (26) ≤ 80 * (d + 1) + 150 by omega⟩) hK hO rfl hP.mv rfl hl.1 rfl (Nat.le_of_ble_eq_true rfl) dX11_checkConditions_19 ⟨Nat.zero_le _, Nat.zero_le _⟩ ?_
          refine lv_istore_n (lv' := [(3, .int (nI (coN f x))), (0, .ref (o)), (2, .int (nI (x)))]) hx hb dX11_checkConditions_22 rfl hl (by decide) rfl (fun ls hl => ?_)
          refine lv_aload_n hx hb dX11_checkConditions_23 rfl (lv_at hl 1 rfl) ?_
          refine lv_iload_n hx hb dX11_checkConditions_24 rfl (lv_at hl 2 rfl) ?_
          refine zc_V (As := [.int (nI (x))]) (rest := []) ⟨hx, hb, hml, hown, hts⟩ (m_valueOf l G o qs (cF5 w qs T) f x hok.1) (cwV 1 hts (zgV wm_X11_131 wv_X11_valueOf) rfl rfl rfl (by decide +kernel) ⟨show 1 + 1 ≤ 3 * (d + 1) + 8 by omega, show 8 + (2 + 11) + (22) ≤ 80 * (d + 1) + 150 by omega⟩) hK hO rfl hP.mv rfl hl.1 rfl (Nat.le_of_ble_eq_true rfl) dX11_checkConditions_25 ⟨Nat.zero_le _, Nat.zero_le _⟩ ?_
          refine lv_istore (lv' := [(4, .int (nI (vo f x))), (3, .int (nI (coN f x))), (0, .ref (o)), (2, .int (nI (x)))]) hx hb dX11_checkConditions_28 hl (by decide) rfl (fun ls hl => ?_)
          refine lv_iload_n hx hb dX11_checkConditions_30 rfl (lv_at hl 1 rfl) ?_
          refine zi_if_ne (tgt := 43) hx hb dX11_checkConditions_31 (by decide) (Nat.lt_trans (coN_lt f x) (by decide)) (fun c_31 => ?_) (fun c_31 => ?_)
          · refine lv_aload_n hx hb dX11_checkConditions_43 rfl (lv_at hl 2 rfl) ?_
            refine lv_iload_n hx hb dX11_checkConditions_44 rfl (lv_at hl 1 rfl) ?_
            refine lv_aload_n hx hb dX11_checkConditions_45 rfl (lv_at hl 2 rfl) ?_
            refine zi_get (C := RX11) (T := TX11) (N := 23) (v := .ref (qs)) hx hb hz wo_X11 hown hK hO rfl 1 (by decide) (hz _ wf_X11_7) (fun _ h9 => h9) rfl dX11_checkConditions_46 ?_
            refine lv_iload_n hx hb dX11_checkConditions_49 rfl (lv_at hl 3 rfl) ?_
            refine zi_ald hx hb hK hA hxl (by decide) dX11_checkConditions_50 ?_
            refine lv_iload hx hb dX11_checkConditions_51 (lv_at hl 0 rfl) ?_
            refine zc_V (As := [.int (nI (coN f x)), .int (nI (f x)), .int (nI (vo f x))]) (rest := []) ⟨hx, hb, hml, hown, hts⟩ (m_isRight l G o qs (cF5 w qs T) f (coN f x) (f x) (vo f x) (Nat.lt_trans (coN_lt f x) (by decide)) (Nat.lt_trans (h8 _) (by decide)) hxv.b.2.2.1 hxv.b.2.2.2.1 hxv.b.2.2.2.2.2) (cwV 3 hts (zgV wm_X11_237 wv_X11_isRight) rfl rfl rfl (by decide +kernel) ⟨show 2 + 1 ≤ 3 * (d + 1) + 8 by omega, show 8 + (4 + 11) + (46) ≤ 80 * (d + 1) + 150 by omega⟩) hK hO rfl hP.mv rfl hl.1 rfl (Nat.le_of_ble_eq_true rfl) dX11_checkConditions_53 ⟨Nat.zero_le _, Nat.zero_le _⟩ ?_
            refine zb_if_ne (tgt := 65) hx hb dX11_checkConditions_56 (by decide) (fun c_56 => ?_) (fun c_56 => ?_)
            · have hci : sInv T := hTi
              have hcn : T.2.2.1 ≤ 100 := hTi.2.2 c_14
              refine lv_aload_n hx hb dX11_checkConditions_65 rfl (lv_at hl 2 rfl) ?_
              refine lv_iconst (v := nI 1) hx hb dX11_checkConditions_66 (by decide) ?_
              refine lv_iload_n hx hb dX11_checkConditions_67 rfl (lv_at hl 3 rfl) ?_
              refine zc_VE (As := [.int (nI (1)), .int (nI (x))]) (rest := []) ⟨hx, hb, hml, hown, hts⟩ (m_count l G o qs w f T 1 x hci hcn (by decide)) (cwV 2 hts (zgV wm_X11_212 wv_X11_count) rfl rfl rfl (by decide +kernel) ⟨show 1 + 1 ≤ 3 * (d + 1) + 8 by omega, show 8 + (3 + 11) + (22) ≤ 80 * (d + 1) + 150 by omega⟩) hK hO rfl hP rfl hl.1 rfl (Nat.le_of_ble_eq_true rfl) dX11_checkConditions_68 ⟨Nat.zero_le _, Nat.zero_le _⟩ hS (fun _ h9 => h9) (fun H locs hP hz9 hk9 hS => ?_)
              obtain ⟨hO, hA, h8, hne9⟩ := id hP
              refine W.eq (g2 := F0 m 71 ls ([])) rfl ?_
              have hq9 : sCnt T 1 x = qCond f x T := by rw [qCond, if_neg c_31, if_pos c_56]
              rw [hq9] at hP
              obtain ⟨hO, hA, h8, hne9⟩ := id hP
              refine lv_aload_n hx hb dX11_checkConditions_71 rfl (lv_at hl 2 rfl) ?_
              refine zi_get (C := RX11) (T := TX11) (N := 23) (v := .int (nI ((qCond f x T).1))) hx hb hz wo_X11 hown hK hO rfl 10 (by decide) (hz _ wf_X11_191) (fun _ h9 => h9) rfl dX11_checkConditions_72 ?_
              refine zi_if_ne (tgt := 90) hx hb dX11_checkConditions_75 (by decide) (Nat.lt_trans (hTi.qc c_14).1 (by decide)) (fun c_75 => ?_) (fun c_75 => ?_)
              · refine lv_aload_n hx hb dX11_checkConditions_90 rfl (lv_at hl 2 rfl) ?_
                refine zi_get (C := RX11) (T := TX11) (N := 23) (v := .int (nI ((qCond f x T).1))) hx hb hz wo_X11 hown hK hO rfl 10 (by decide) (hz _ wf_X11_191) (fun _ h9 => h9) rfl dX11_checkConditions_91 ?_
                refine zi_if_ne (tgt := 127) hx hb dX11_checkConditions_94 (by decide) (Nat.lt_trans (hTi.qc c_14).1 (by decide)) (fun c_94 => ?_) (fun c_94 => ?_)
                · refine lv_aload_n hx hb dX11_checkConditions_127 rfl (lv_at hl 2 rfl) ?_
                  refine lv_iload_n hx hb dX11_checkConditions_128 rfl (lv_at hl 3 rfl) ?_
                  refine zc_V (As := [.int (nI (x))]) (rest := []) ⟨hx, hb, hml, hown, hts⟩ (m_nextOf l G o qs (cF5 w qs (qCond f x T)) f x hok) (cwV 1 hts (zgV wm_X11_140 wv_X11_nextOf) rfl rfl rfl (by decide +kernel) ⟨show 2 + 1 ≤ 3 * (d + 1) + 8 by omega, show 8 + (4 + 11) + (43) ≤ 80 * (d + 1) + 150 by omega⟩) hK hO rfl hP.mv rfl hl.1 rfl (Nat.le_of_ble_eq_true rfl) dX11_checkConditions_129 ⟨Nat.zero_le _, Nat.zero_le _⟩ ?_
                  refine lv_istore_n (lv' := [(2, .int (nI (nx f x))), (4, .int (nI (vo f x))), (3, .int (nI (coN f x))), (0, .ref (o))]) hx hb dX11_checkConditions_132 rfl hl (by decide) rfl (fun ls hl => ?_)
                  refine lv_goto (tgt := 6) hx hb dX11_checkConditions_133 (by decide) ?_
                  exact ih_ (nx f x) (X') (qCond f x T) (by simp at hm_; omega) hc' (Ch.lt (by decide) hc') (fun z hz => hXi z (List.mem_cons_of_mem _ hz)) (hTi.qc c_14) (by rw [hs, foldS_s c_14, kCond, if_pos c_75]) _ _ hP hS ls (lv_sub hl [3, 0] rfl)
                · exact absurd c_94 c_75
              · refine lv_iload_n hx hb dX11_checkConditions_78 rfl (lv_at hl 1 rfl) ?_
                refine lv_bipush (v := nI 12) hx hb dX11_checkConditions_79 (by decide) ?_
                refine zi_icmp_ne (tgt := 90) hx hb dX11_checkConditions_81 (by decide) (Nat.lt_trans (coN_lt f x) (by decide)) (by omega) (fun c_81 => ?_) (fun c_81 => ?_)
                · refine lv_aload_n hx hb dX11_checkConditions_90 rfl (lv_at hl 2 rfl) ?_
                  refine zi_get (C := RX11) (T := TX11) (N := 23) (v := .int (nI ((qCond f x T).1))) hx hb hz wo_X11 hown hK hO rfl 10 (by decide) (hz _ wf_X11_191) (fun _ h9 => h9) rfl dX11_checkConditions_91 ?_
                  refine zi_if_ne (tgt := 127) hx hb dX11_checkConditions_94 (by decide) (Nat.lt_trans (hTi.qc c_14).1 (by decide)) (fun c_94 => ?_) (fun c_94 => ?_)
                  · exact absurd c_75 c_94
                  · refine lv_iload_n hx hb dX11_checkConditions_97 rfl (lv_at hl 1 rfl) ?_
                    refine lv_bipush (v := nI 11) hx hb dX11_checkConditions_98 (by decide) ?_
                    refine zi_icmp_ne (tgt := 127) hx hb dX11_checkConditions_100 (by decide) (Nat.lt_trans (coN_lt f x) (by decide)) (by omega) (fun c_100 => ?_) (fun c_100 => ?_)
                    · refine lv_aload_n hx hb dX11_checkConditions_127 rfl (lv_at hl 2 rfl) ?_
                      refine lv_iload_n hx hb dX11_checkConditions_128 rfl (lv_at hl 3 rfl) ?_
                      refine zc_V (As := [.int (nI (x))]) (rest := []) ⟨hx, hb, hml, hown, hts⟩ (m_nextOf l G o qs (cF5 w qs (qCond f x T)) f x hok) (cwV 1 hts (zgV wm_X11_140 wv_X11_nextOf) rfl rfl rfl (by decide +kernel) ⟨show 2 + 1 ≤ 3 * (d + 1) + 8 by omega, show 8 + (4 + 11) + (43) ≤ 80 * (d + 1) + 150 by omega⟩) hK hO rfl hP.mv rfl hl.1 rfl (Nat.le_of_ble_eq_true rfl) dX11_checkConditions_129 ⟨Nat.zero_le _, Nat.zero_le _⟩ ?_
                      refine lv_istore_n (lv' := [(2, .int (nI (nx f x))), (4, .int (nI (vo f x))), (3, .int (nI (coN f x))), (0, .ref (o))]) hx hb dX11_checkConditions_132 rfl hl (by decide) rfl (fun ls hl => ?_)
                      refine lv_goto (tgt := 6) hx hb dX11_checkConditions_133 (by decide) ?_
                      exact ih_ (nx f x) (X') (qCond f x T) (by simp at hm_; omega) hc' (Ch.lt (by decide) hc') (fun z hz => hXi z (List.mem_cons_of_mem _ hz)) (hTi.qc c_14) (by rw [hs, foldS_s c_14, kCond, if_neg (fun z => z c_75), if_neg c_81, if_neg c_100]) _ _ hP hS ls (lv_sub hl [3, 0] rfl)
                    · have hx3 : okV f d 3 (vo f x) := by have h7 := hxv; rwa [isR_11 c_56 c_100] at h7
                      refine lv_aload_n hx hb dX11_checkConditions_103 rfl (lv_at hl 2 rfl) ?_
                      refine lv_iload hx hb dX11_checkConditions_104 (lv_at hl 0 rfl) ?_
                      refine zc_V (As := [.int (nI (vo f x))]) (rest := []) ⟨hx, hb, hml, hown, hts⟩ (m_asConditions l G o qs (cF5 w qs (qCond f x T)) f (vo f x) (hxv.b.2.2.2.2.2 (isR_11 c_56 c_100)) (fun z => (bx_ok (x := 0) (okV_bx hx3) z).1)) (cwV 1 hts (zgV wm_X11_240 wv_X11_asConditions) rfl rfl rfl (by decide +kernel) ⟨show 3 + 1 ≤ 3 * (d + 1) + 8 by omega, show 8 + (2 + 11) + (68) ≤ 80 * (d + 1) + 150 by omega⟩) hK hO rfl hP.mv rfl hl.1 rfl (Nat.le_of_ble_eq_true rfl) dX11_checkConditions_106 ⟨Nat.zero_le _, Nat.zero_le _⟩ ?_
                      refine zb_if_eq (tgt := 121) hx hb dX11_checkConditions_109 (by decide) (fun c_109 => ?_) (fun c_109 => ?_)
                      · refine lv_aload_n hx hb dX11_checkConditions_121 rfl (lv_at hl 2 rfl) ?_
                        refine lv_iload hx hb dX11_checkConditions_122 (lv_at hl 0 rfl) ?_
                        refine zc_VE (As := [.int (nI (vo f x))]) (rest := []) ⟨hx, hb, hml, hown, hts⟩ (hF (qCond f x T) (vo f x) hx3 c_75 (hTi.qc c_14)) (cwV 1 hts (zgV wm_X11_215 wv_X11_checkFilter) rfl rfl rfl (by decide +kernel) ⟨show 3 * d + 8 + 1 ≤ 3 * (d + 1) + 8 by omega, show 8 + (3 + 11) + (80 * d + 150) ≤ 80 * (d + 1) + 150 by omega⟩) hK hO rfl hP rfl hl.1 rfl (Nat.le_of_ble_eq_true rfl) dX11_checkConditions_124 ⟨Nat.zero_le _, Nat.zero_le _⟩ hS (fun _ h9 => h9) (fun H locs hP hz9 hk9 hS => ?_)
                        obtain ⟨hO, hA, h8, hne9⟩ := id hP
                        refine W.eq (g2 := F0 m 127 ls ([])) rfl ?_
                        refine lv_aload_n hx hb dX11_checkConditions_127 rfl (lv_at hl 2 rfl) ?_
                        refine lv_iload_n hx hb dX11_checkConditions_128 rfl (lv_at hl 3 rfl) ?_
                        refine zc_V (As := [.int (nI (x))]) (rest := []) ⟨hx, hb, hml, hown, hts⟩ (m_nextOf l G o qs (cF5 w qs ((ckF f d).2 (vo f x) (qCond f x T))) f x hok) (cwV 1 hts (zgV wm_X11_140 wv_X11_nextOf) rfl rfl rfl (by decide +kernel) ⟨show 2 + 1 ≤ 3 * (d + 1) + 8 by omega, show 8 + (4 + 11) + (43) ≤ 80 * (d + 1) + 150 by omega⟩) hK hO rfl hP.mv rfl hl.1 rfl (Nat.le_of_ble_eq_true rfl) dX11_checkConditions_129 ⟨Nat.zero_le _, Nat.zero_le _⟩ ?_
                        refine lv_istore_n (lv' := [(2, .int (nI (nx f x))), (4, .int (nI (vo f x))), (3, .int (nI (coN f x))), (0, .ref (o))]) hx hb dX11_checkConditions_132 rfl hl (by decide) rfl (fun ls hl => ?_)
                        refine lv_goto (tgt := 6) hx hb dX11_checkConditions_133 (by decide) ?_
                        exact ih_ (nx f x) (X') ((ckF f d).2 (vo f x) (qCond f x T)) (by simp at hm_; omega) hc' (Ch.lt (by decide) hc') (fun z hz => hXi z (List.mem_cons_of_mem _ hz)) ((ckF_inv f d).2 _ _ (hTi.qc c_14) c_75) (by rw [hs, foldS_s c_14, kCond, if_neg (fun z => z c_75), if_neg c_81, if_pos c_100, kElem, if_neg (by rw [c_109]; decide)]) _ _ hP hS ls (lv_sub hl [3, 0] rfl)
                      · refine lv_aload_n hx hb dX11_checkConditions_112 rfl (lv_at hl 2 rfl) ?_
                        refine lv_iload hx hb dX11_checkConditions_113 (lv_at hl 0 rfl) ?_
                        refine zc_VE (As := [.int (nI (vo f x))]) (rest := []) ⟨hx, hb, hml, hown, hts⟩ (hC (qCond f x T) (vo f x) hx3 c_75 (hTi.qc c_14)) (cwV 1 hts (zgV wm_X11_231 wv_X11_checkConditions) rfl rfl rfl (by decide +kernel) ⟨show 3 * d + 8 + 1 ≤ 3 * (d + 1) + 8 by omega, show 8 + (5 + 11) + (80 * d + 150) ≤ 80 * (d + 1) + 150 by omega⟩) hK hO rfl hP rfl hl.1 rfl (Nat.le_of_ble_eq_true rfl) dX11_checkConditions_115 ⟨Nat.zero_le _, Nat.zero_le _⟩ hS (fun _ h9 => h9) (fun H locs hP hz9 hk9 hS => ?_)
                        obtain ⟨hO, hA, h8, hne9⟩ := id hP
                        refine W.eq (g2 := F0 m 118 ls ([])) rfl ?_
                        refine lv_goto (tgt := 127) hx hb dX11_checkConditions_118 (by decide) ?_
                        refine lv_aload_n hx hb dX11_checkConditions_127 rfl (lv_at hl 2 rfl) ?_
                        refine lv_iload_n hx hb dX11_checkConditions_128 rfl (lv_at hl 3 rfl) ?_
                        refine zc_V (As := [.int (nI (x))]) (rest := []) ⟨hx, hb, hml, hown, hts⟩ (m_nextOf l G o qs (cF5 w qs ((ckF f d).1 (vo f x) (qCond f x T))) f x hok) (cwV 1 hts (zgV wm_X11_140 wv_X11_nextOf) rfl rfl rfl (by decide +kernel) ⟨show 2 + 1 ≤ 3 * (d + 1) + 8 by omega, show 8 + (4 + 11) + (43) ≤ 80 * (d + 1) + 150 by omega⟩) hK hO rfl hP.mv rfl hl.1 rfl (Nat.le_of_ble_eq_true rfl) dX11_checkConditions_129 ⟨Nat.zero_le _, Nat.zero_le _⟩ ?_
                        refine lv_istore_n (lv' := [(2, .int (nI (nx f x))), (4, .int (nI (vo f x))), (3, .int (nI (coN f x))), (0, .ref (o))]) hx hb dX11_checkConditions_132 rfl hl (by decide) rfl (fun ls hl => ?_)
                        refine lv_goto (tgt := 6) hx hb dX11_checkConditions_133 (by decide) ?_
                        exact ih_ (nx f x) (X') ((ckF f d).1 (vo f x) (qCond f x T)) (by simp at hm_; omega) hc' (Ch.lt (by decide) hc') (fun z hz => hXi z (List.mem_cons_of_mem _ hz)) ((ckF_inv f d).1 _ _ (hTi.qc c_14) c_75) (by rw [hs, foldS_s c_14, kCond, if_neg (fun z => z c_75), if_neg c_81, if_pos c_100, kElem, if_pos c_109]) _ _ hP hS ls (lv_sub hl [3, 0] rfl)
                · refine lv_aload_n hx hb dX11_checkConditions_84 rfl (lv_at hl 2 rfl) ?_
                  refine lv_iload hx hb dX11_checkConditions_85 (lv_at hl 0 rfl) ?_
                  refine zc_VE (As := [.int (nI (vo f x))]) (rest := []) ⟨hx, hb, hml, hown, hts⟩ (hC (qCond f x T) (vo f x) (by have h7 := hxv; rwa [isC_3 (isR_12 c_56 c_81)] at h7) c_75 (hTi.qc c_14)) (cwV 1 hts (zgV wm_X11_231 wv_X11_checkConditions) rfl rfl rfl (by decide +kernel) ⟨show 3 * d + 8 + 1 ≤ 3 * (d + 1) + 8 by omega, show 8 + (5 + 11) + (80 * d + 150) ≤ 80 * (d + 1) + 150 by omega⟩) hK hO rfl hP rfl hl.1 rfl (Nat.le_of_ble_eq_true rfl) dX11_checkConditions_87 ⟨Nat.zero_le _, Nat.zero_le _⟩ hS (fun _ h9 => h9) (fun H locs hP hz9 hk9 hS => ?_)
                  obtain ⟨hO, hA, h8, hne9⟩ := id hP
                  refine W.eq (g2 := F0 m 90 ls ([])) rfl ?_
                  refine lv_aload_n hx hb dX11_checkConditions_90 rfl (lv_at hl 2 rfl) ?_
                  refine zi_get (C := RX11) (T := TX11) (N := 23) (v := .int (nI (((ckF f d).1 (vo f x) (qCond f x T)).1))) hx hb hz wo_X11 hown hK hO rfl 10 (by decide) (hz _ wf_X11_191) (fun _ h9 => h9) rfl dX11_checkConditions_91 ?_
                  refine zi_if_ne (tgt := 127) hx hb dX11_checkConditions_94 (by decide) (Nat.lt_trans ((ckF_inv f d).1 _ _ (hTi.qc c_14) c_75).1 (by decide)) (fun c_94 => ?_) (fun c_94 => ?_)
                  · refine lv_aload_n hx hb dX11_checkConditions_127 rfl (lv_at hl 2 rfl) ?_
                    refine lv_iload_n hx hb dX11_checkConditions_128 rfl (lv_at hl 3 rfl) ?_
                    refine zc_V (As := [.int (nI (x))]) (rest := []) ⟨hx, hb, hml, hown, hts⟩ (m_nextOf l G o qs (cF5 w qs ((ckF f d).1 (vo f x) (qCond f x T))) f x hok) (cwV 1 hts (zgV wm_X11_140 wv_X11_nextOf) rfl rfl rfl (by decide +kernel) ⟨show 2 + 1 ≤ 3 * (d + 1) + 8 by omega, show 8 + (4 + 11) + (43) ≤ 80 * (d + 1) + 150 by omega⟩) hK hO rfl hP.mv rfl hl.1 rfl (Nat.le_of_ble_eq_true rfl) dX11_checkConditions_129 ⟨Nat.zero_le _, Nat.zero_le _⟩ ?_
                    refine lv_istore_n (lv' := [(2, .int (nI (nx f x))), (4, .int (nI (vo f x))), (3, .int (nI (coN f x))), (0, .ref (o))]) hx hb dX11_checkConditions_132 rfl hl (by decide) rfl (fun ls hl => ?_)
                    refine lv_goto (tgt := 6) hx hb dX11_checkConditions_133 (by decide) ?_
                    exact ih_ (nx f x) (X') ((ckF f d).1 (vo f x) (qCond f x T)) (by simp at hm_; omega) hc' (Ch.lt (by decide) hc') (fun z hz => hXi z (List.mem_cons_of_mem _ hz)) ((ckF_inv f d).1 _ _ (hTi.qc c_14) c_75) (by rw [hs, foldS_s c_14, kCond, if_neg (fun z => z c_75), if_pos c_81]) _ _ hP hS ls (lv_sub hl [3, 0] rfl)
                  · refine lv_iload_n hx hb dX11_checkConditions_97 rfl (lv_at hl 1 rfl) ?_
                    refine lv_bipush (v := nI 11) hx hb dX11_checkConditions_98 (by decide) ?_
                    refine zi_icmp_ne (tgt := 127) hx hb dX11_checkConditions_100 (by decide) (Nat.lt_trans (coN_lt f x) (by decide)) (by omega) (fun c_100 => ?_) (fun c_100 => ?_)
                    · refine lv_aload_n hx hb dX11_checkConditions_127 rfl (lv_at hl 2 rfl) ?_
                      refine lv_iload_n hx hb dX11_checkConditions_128 rfl (lv_at hl 3 rfl) ?_
                      refine zc_V (As := [.int (nI (x))]) (rest := []) ⟨hx, hb, hml, hown, hts⟩ (m_nextOf l G o qs (cF5 w qs ((ckF f d).1 (vo f x) (qCond f x T))) f x hok) (cwV 1 hts (zgV wm_X11_140 wv_X11_nextOf) rfl rfl rfl (by decide +kernel) ⟨show 2 + 1 ≤ 3 * (d + 1) + 8 by omega, show 8 + (4 + 11) + (43) ≤ 80 * (d + 1) + 150 by omega⟩) hK hO rfl hP.mv rfl hl.1 rfl (Nat.le_of_ble_eq_true rfl) dX11_checkConditions_129 ⟨Nat.zero_le _, Nat.zero_le _⟩ ?_
                      refine lv_istore_n (lv' := [(2, .int (nI (nx f x))), (4, .int (nI (vo f x))), (3, .int (nI (coN f x))), (0, .ref (o))]) hx hb dX11_checkConditions_132 rfl hl (by decide) rfl (fun ls hl => ?_)
                      refine lv_goto (tgt := 6) hx hb dX11_checkConditions_133 (by decide) ?_
                      exact ih_ (nx f x) (X') ((ckF f d).1 (vo f x) (qCond f x T)) (by simp at hm_; omega) hc' (Ch.lt (by decide) hc') (fun z hz => hXi z (List.mem_cons_of_mem _ hz)) ((ckF_inv f d).1 _ _ (hTi.qc c_14) c_75) (by rw [hs, foldS_s c_14, kCond, if_neg (fun z => z c_75), if_pos c_81]) _ _ hP hS ls (lv_sub hl [3, 0] rfl)
                    · exfalso; omega
            · refine lv_aload_n hx hb dX11_checkConditions_59 rfl (lv_at hl 2 rfl) ?_
              refine lv_iconst (v := nI 4) hx hb dX11_checkConditions_60 (by decide) ?_
              refine lv_iload_n hx hb dX11_checkConditions_61 rfl (lv_at hl 3 rfl) ?_
              refine zc_VE (As := [.int (nI (4)), .int (nI (x))]) (rest := []) ⟨hx, hb, hml, hown, hts⟩ (m_say l G o qs w f T 4 x hTi.1) (cwV 2 hts (zgV wm_X11_200 wv_X11_say) rfl rfl rfl (by decide +kernel) ⟨show 0 + 1 ≤ 3 * (d + 1) + 8 by omega, show 8 + (3 + 11) + (0) ≤ 80 * (d + 1) + 150 by omega⟩) hK hO rfl hP rfl hl.1 rfl (Nat.le_of_ble_eq_true rfl) dX11_checkConditions_62 ⟨Nat.zero_le _, Nat.zero_le _⟩ hS (fun _ h9 => h9) (fun H locs hP hz9 hk9 hS => ?_)
              obtain ⟨hO, hA, h8, hne9⟩ := id hP
              refine W.eq (g2 := F0 m 65 ls ([])) rfl ?_
              have hci : sInv (sSay T 4 x) := hTi.say ⟨by decide, by decide⟩ x
              have hcn : (sSay T 4 x).2.2.1 ≤ 100 := by rw [sSay_nc]; exact hTi.2.2 c_14
              refine lv_aload_n hx hb dX11_checkConditions_65 rfl (lv_at hl 2 rfl) ?_
              refine lv_iconst (v := nI 1) hx hb dX11_checkConditions_66 (by decide) ?_
              refine lv_iload_n hx hb dX11_checkConditions_67 rfl (lv_at hl 3 rfl) ?_
              refine zc_VE (As := [.int (nI (1)), .int (nI (x))]) (rest := []) ⟨hx, hb, hml, hown, hts⟩ (m_count l G o qs w f (sSay T 4 x) 1 x hci hcn (by decide)) (cwV 2 hts (zgV wm_X11_212 wv_X11_count) rfl rfl rfl (by decide +kernel) ⟨show 1 + 1 ≤ 3 * (d + 1) + 8 by omega, show 8 + (3 + 11) + (22) ≤ 80 * (d + 1) + 150 by omega⟩) hK hO rfl hP rfl hl.1 rfl (Nat.le_of_ble_eq_true rfl) dX11_checkConditions_68 ⟨Nat.zero_le _, Nat.zero_le _⟩ hS (fun _ h9 => h9) (fun H locs hP hz9 hk9 hS => ?_)
              obtain ⟨hO, hA, h8, hne9⟩ := id hP
              refine W.eq (g2 := F0 m 71 ls ([])) rfl ?_
              have hq9 : sCnt (sSay T 4 x) 1 x = qCond f x T := by rw [qCond, if_neg c_31, if_neg (by rw [c_56]; decide)]
              rw [hq9] at hP
              obtain ⟨hO, hA, h8, hne9⟩ := id hP
              have hqw : (qCond f x T).1 ≠ 0 := by rw [← hq9]; exact sCnt_w (sSay_w (by decide))
              refine lv_aload_n hx hb dX11_checkConditions_71 rfl (lv_at hl 2 rfl) ?_
              refine zi_get (C := RX11) (T := TX11) (N := 23) (v := .int (nI ((qCond f x T).1))) hx hb hz wo_X11 hown hK hO rfl 10 (by decide) (hz _ wf_X11_191) (fun _ h9 => h9) rfl dX11_checkConditions_72 ?_
              refine zi_if_ne (tgt := 90) hx hb dX11_checkConditions_75 (by decide) (Nat.lt_trans (hTi.qc c_14).1 (by decide)) (fun c_75 => ?_) (fun c_75 => ?_)
              · refine lv_aload_n hx hb dX11_checkConditions_90 rfl (lv_at hl 2 rfl) ?_
                refine zi_get (C := RX11) (T := TX11) (N := 23) (v := .int (nI ((qCond f x T).1))) hx hb hz wo_X11 hown hK hO rfl 10 (by decide) (hz _ wf_X11_191) (fun _ h9 => h9) rfl dX11_checkConditions_91 ?_
                refine zi_if_ne (tgt := 127) hx hb dX11_checkConditions_94 (by decide) (Nat.lt_trans (hTi.qc c_14).1 (by decide)) (fun c_94 => ?_) (fun c_94 => ?_)
                · refine lv_aload_n hx hb dX11_checkConditions_127 rfl (lv_at hl 2 rfl) ?_
                  refine lv_iload_n hx hb dX11_checkConditions_128 rfl (lv_at hl 3 rfl) ?_
                  refine zc_V (As := [.int (nI (x))]) (rest := []) ⟨hx, hb, hml, hown, hts⟩ (m_nextOf l G o qs (cF5 w qs (qCond f x T)) f x hok) (cwV 1 hts (zgV wm_X11_140 wv_X11_nextOf) rfl rfl rfl (by decide +kernel) ⟨show 2 + 1 ≤ 3 * (d + 1) + 8 by omega, show 8 + (4 + 11) + (43) ≤ 80 * (d + 1) + 150 by omega⟩) hK hO rfl hP.mv rfl hl.1 rfl (Nat.le_of_ble_eq_true rfl) dX11_checkConditions_129 ⟨Nat.zero_le _, Nat.zero_le _⟩ ?_
                  refine lv_istore_n (lv' := [(2, .int (nI (nx f x))), (4, .int (nI (vo f x))), (3, .int (nI (coN f x))), (0, .ref (o))]) hx hb dX11_checkConditions_132 rfl hl (by decide) rfl (fun ls hl => ?_)
                  refine lv_goto (tgt := 6) hx hb dX11_checkConditions_133 (by decide) ?_
                  exact ih_ (nx f x) (X') (qCond f x T) (by simp at hm_; omega) hc' (Ch.lt (by decide) hc') (fun z hz => hXi z (List.mem_cons_of_mem _ hz)) (hTi.qc c_14) (by rw [hs, foldS_s c_14, kCond, if_pos c_75]) _ _ hP hS ls (lv_sub hl [3, 0] rfl)
                · exact absurd c_94 c_75
              · exact absurd c_75 hqw
          · refine lv_aload_n hx hb dX11_checkConditions_34 rfl (lv_at hl 2 rfl) ?_
            refine lv_iconst (v := nI 1) hx hb dX11_checkConditions_35 (by decide) ?_
            refine lv_iload_n hx hb dX11_checkConditions_36 rfl (lv_at hl 3 rfl) ?_
            refine zc_VE (As := [.int (nI (1)), .int (nI (x))]) (rest := []) ⟨hx, hb, hml, hown, hts⟩ (m_say l G o qs w f T 1 x hTi.1) (cwV 2 hts (zgV wm_X11_200 wv_X11_say) rfl rfl rfl (by decide +kernel) ⟨show 0 + 1 ≤ 3 * (d + 1) + 8 by omega, show 8 + (3 + 11) + (0) ≤ 80 * (d + 1) + 150 by omega⟩) hK hO rfl hP rfl hl.1 rfl (Nat.le_of_ble_eq_true rfl) dX11_checkConditions_37 ⟨Nat.zero_le _, Nat.zero_le _⟩ hS (fun _ h9 => h9) (fun H locs hP hz9 hk9 hS => ?_)
            obtain ⟨hO, hA, h8, hne9⟩ := id hP
            refine W.eq (g2 := F0 m 40 ls ([])) rfl ?_
            refine lv_goto (tgt := 65) hx hb dX11_checkConditions_40 (by decide) ?_
            have hci : sInv (sSay T 1 x) := hTi.say ⟨by decide, by decide⟩ x
            have hcn : (sSay T 1 x).2.2.1 ≤ 100 := by rw [sSay_nc]; exact hTi.2.2 c_14
            refine lv_aload_n hx hb dX11_checkConditions_65 rfl (lv_at hl 2 rfl) ?_
            refine lv_iconst (v := nI 1) hx hb dX11_checkConditions_66 (by decide) ?_
            refine lv_iload_n hx hb dX11_checkConditions_67 rfl (lv_at hl 3 rfl) ?_
            refine zc_VE (As := [.int (nI (1)), .int (nI (x))]) (rest := []) ⟨hx, hb, hml, hown, hts⟩ (m_count l G o qs w f (sSay T 1 x) 1 x hci hcn (by decide)) (cwV 2 hts (zgV wm_X11_212 wv_X11_count) rfl rfl rfl (by decide +kernel) ⟨show 1 + 1 ≤ 3 * (d + 1) + 8 by omega, show 8 + (3 + 11) + (22) ≤ 80 * (d + 1) + 150 by omega⟩) hK hO rfl hP rfl hl.1 rfl (Nat.le_of_ble_eq_true rfl) dX11_checkConditions_68 ⟨Nat.zero_le _, Nat.zero_le _⟩ hS (fun _ h9 => h9) (fun H locs hP hz9 hk9 hS => ?_)
            obtain ⟨hO, hA, h8, hne9⟩ := id hP
            refine W.eq (g2 := F0 m 71 ls ([])) rfl ?_
            have hq9 : sCnt (sSay T 1 x) 1 x = qCond f x T := by rw [qCond, if_pos c_31]
            rw [hq9] at hP
            obtain ⟨hO, hA, h8, hne9⟩ := id hP
            have hqw : (qCond f x T).1 ≠ 0 := by rw [← hq9]; exact sCnt_w (sSay_w (by decide))
            refine lv_aload_n hx hb dX11_checkConditions_71 rfl (lv_at hl 2 rfl) ?_
            refine zi_get (C := RX11) (T := TX11) (N := 23) (v := .int (nI ((qCond f x T).1))) hx hb hz wo_X11 hown hK hO rfl 10 (by decide) (hz _ wf_X11_191) (fun _ h9 => h9) rfl dX11_checkConditions_72 ?_
            refine zi_if_ne (tgt := 90) hx hb dX11_checkConditions_75 (by decide) (Nat.lt_trans (hTi.qc c_14).1 (by decide)) (fun c_75 => ?_) (fun c_75 => ?_)
            · refine lv_aload_n hx hb dX11_checkConditions_90 rfl (lv_at hl 2 rfl) ?_
              refine zi_get (C := RX11) (T := TX11) (N := 23) (v := .int (nI ((qCond f x T).1))) hx hb hz wo_X11 hown hK hO rfl 10 (by decide) (hz _ wf_X11_191) (fun _ h9 => h9) rfl dX11_checkConditions_91 ?_
              refine zi_if_ne (tgt := 127) hx hb dX11_checkConditions_94 (by decide) (Nat.lt_trans (hTi.qc c_14).1 (by decide)) (fun c_94 => ?_) (fun c_94 => ?_)
              · refine lv_aload_n hx hb dX11_checkConditions_127 rfl (lv_at hl 2 rfl) ?_
                refine lv_iload_n hx hb dX11_checkConditions_128 rfl (lv_at hl 3 rfl) ?_
                refine zc_V (As := [.int (nI (x))]) (rest := []) ⟨hx, hb, hml, hown, hts⟩ (m_nextOf l G o qs (cF5 w qs (qCond f x T)) f x hok) (cwV 1 hts (zgV wm_X11_140 wv_X11_nextOf) rfl rfl rfl (by decide +kernel) ⟨show 2 + 1 ≤ 3 * (d + 1) + 8 by omega, show 8 + (4 + 11) + (43) ≤ 80 * (d + 1) + 150 by omega⟩) hK hO rfl hP.mv rfl hl.1 rfl (Nat.le_of_ble_eq_true rfl) dX11_checkConditions_129 ⟨Nat.zero_le _, Nat.zero_le _⟩ ?_
                refine lv_istore_n (lv' := [(2, .int (nI (nx f x))), (4, .int (nI (vo f x))), (3, .int (nI (coN f x))), (0, .ref (o))]) hx hb dX11_checkConditions_132 rfl hl (by decide) rfl (fun ls hl => ?_)
                refine lv_goto (tgt := 6) hx hb dX11_checkConditions_133 (by decide) ?_
                exact ih_ (nx f x) (X') (qCond f x T) (by simp at hm_; omega) hc' (Ch.lt (by decide) hc') (fun z hz => hXi z (List.mem_cons_of_mem _ hz)) (hTi.qc c_14) (by rw [hs, foldS_s c_14, kCond, if_pos c_75]) _ _ hP hS ls (lv_sub hl [3, 0] rfl)
              · exact absurd c_94 c_75
            · exact absurd c_75 hqw
  exact L6 (((els f v).length) + 1) (fi f v) (els f v) S (Nat.lt_succ_self _) hvB.1.2 hf1 (fun _ z => z) hi rfl _ _ hP hS ls (lv_sub hl [1, 0] rfl)

theorem m_check_all (l : Launch) (G : zG) (o qs : Nat) (w : Nat → Value) (f : Nat → Nat) : ∀ d, C_ckC l G o qs w f d ∧ C_ckF l G o qs w f d
  | 0 => ⟨fun S v h => absurd rfl h.2.1, fun S v h => absurd rfl h.2.1⟩
  | d + 1 =>
    have h := m_check_all l G o qs w f d
    ⟨fun S v hv h0 hi => m_checkConditions_S l G o qs w f S d h.1 h.2 v hv h0 hi, fun S v hv h0 hi => m_checkFilter_S l G o qs w f S d h.1 h.2 v hv h0 hi⟩
