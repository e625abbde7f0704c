set_option maxHeartbeats 4000000 in
set_option maxRecDepth 100000 in
theorem m_checkJoin (l : Launch) (G : zG) (o qs : Nat) (w : Nat → Value) (f : Nat → Nat) (S : cS) (d e : Nat) (hF : C_ckF l G o qs w f d) (hok : okE 18000 f e) (hv : okV f d (f e) (vo f e)) (h0 : S.1 = 0) (hi : sInv S) : Met l yX11_checkJoin wsX11_checkJoin (rCj d) (zP G [.ref (o), .int (nI (e))] (fun H => MC G o qs w f S H)) (zQ (fun x => x = o) none (fun H => MC G o qs w f (kJoin f (ckF f d).2 e S) H)) 0 0 (fun x => x = o) := by
  refine Met.ofW (cc := cX11_checkJoin) (maxL := 3) (ret := none) (by decide) rfl ?_
  intro p en s m args below meth c s₁ B hml hv
  obtain ⟨rfl, hP, hK⟩ := hv
  have hx := B.exec
  have hb := B.bytes
  have hr := B.returns
  have hts := atoms_spec (ws := wsX11_checkJoin) B.pre
  have hz : ∀ w ∈ zW, w.before _ s = true := fun w h => hts w (List.mem_cons_of_mem _ h)
  have hown : s.vm.findClass RX11 = some m.cls := findClass_of_methodNamed B.named
  have hlocks := B.notSynchronized
  obtain ⟨hO, hA, h8, hne9⟩ := id hP
  have hS : va_S (fun x => x = o) s.heap s.heap [] := va_S.rf
  have hel := hok.lt
  have hw6 := hi.1
  have hl := lv_entry ([.ref (o), .int (nI (e))]) (n := 3) (Nat.le_of_ble_eq_true rfl)
  rw [lg_entry_eq]
  generalize (lg_sl ([.ref (o), .int (nI (e))]) ++ List.replicate (3 - (lg_sl ([.ref (o), .int (nI (e))])).length) Slot.unset).toArray = ls at hl ⊢
  have hl : lv_has ls 3 [(0, .ref (o)), (1, .int (nI (e)))] := hl
  refine lv_aload_n hx hb dX11_checkJoin_0 rfl (lv_at hl 0 rfl) ?_
  refine lv_iload_n hx hb dX11_checkJoin_1 rfl (lv_at hl 1 rfl) ?_
  refine zc_V (As := [.int (nI (e))]) (rest := []) ⟨hx, hb, hml, hown, hts⟩ (m_isJoin l G o qs (cF5 w qs S) f e hok.1) (cwV 1 hts (zgV wm_X11_209 wv_X11_isJoin) rfl rfl rfl (by decide +kernel) ⟨show 2 + 1 ≤ 3 * d + 9 by omega, show 8 + (2 + 11) + (47) ≤ 80 * d + 176 by omega⟩) hK hO rfl hP.mv rfl hl.1 rfl (Nat.le_of_ble_eq_true rfl) dX11_checkJoin_2 ⟨Nat.zero_le _, Nat.zero_le _⟩ ?_
  refine zb_if_ne (tgt := 15) hx hb dX11_checkJoin_5 (by decide) (fun c_5 => ?_) (fun c_5 => ?_)
  · refine lv_aload_n hx hb dX11_checkJoin_15 rfl (lv_at hl 0 rfl) ?_
    refine zi_get (C := RX11) (T := TX11) (N := 23) (v := .ref (qs)) hx hb hz wo_X11 hown hK hO rfl 1 (by decide) (hz _ wf_X11_7) (fun _ h9 => h9) rfl dX11_checkJoin_16 ?_
    refine lv_iload_n hx hb dX11_checkJoin_19 rfl (lv_at hl 1 rfl) ?_
    refine zi_ald hx hb hK hA hel (by decide) dX11_checkJoin_20 ?_
    refine lv_iconst (v := nI 4) hx hb dX11_checkJoin_21 (by decide) ?_
    refine zi_icmp_ne (tgt := 37) hx hb dX11_checkJoin_22 (by decide) (Nat.lt_trans (h8 _) (by decide)) (by omega) (fun c_22 => ?_) (fun c_22 => ?_)
    · refine lv_aload_n hx hb dX11_checkJoin_37 rfl (lv_at hl 0 rfl) ?_
      refine lv_iconst (v := nI 2) hx hb dX11_checkJoin_38 (by decide) ?_
      refine lv_iload_n hx hb dX11_checkJoin_39 rfl (lv_at hl 1 rfl) ?_
      refine zc_VE (As := [.int (nI (2)), .int (nI (e))]) (rest := []) ⟨hx, hb, hml, hown, hts⟩ (m_say l G o qs w f S 2 e hw6) (cwV 2 hts (zgV wm_X11_200 wv_X11_say) rfl rfl rfl (by decide +kernel) ⟨show 0 + 1 ≤ 3 * d + 9 by omega, show 8 + (3 + 11) + (0) ≤ 80 * d + 176 by omega⟩) hK hO rfl hP rfl hl.1 rfl (Nat.le_of_ble_eq_true rfl) dX11_checkJoin_40 ⟨Nat.zero_le _, Nat.zero_le _⟩ hS (fun _ h9 => h9) (fun H locs hP hz9 hk9 hS => ?_)
      obtain ⟨hO, hA, h8, hne9⟩ := id hP
      refine W.eq (g2 := F0 m 43 ls ([])) rfl ?_
      have hci : sInv (sSay S 2 e) := hi.say ⟨by decide, by decide⟩ e
      have hcn : (sSay S 2 e).2.2.1 ≤ 100 := by rw [sSay_nc]; exact hi.2.2 h0
      refine lv_aload_n hx hb dX11_checkJoin_43 rfl (lv_at hl 0 rfl) ?_
      refine lv_iconst (v := nI 1) hx hb dX11_checkJoin_44 (by decide) ?_
      refine lv_iload_n hx hb dX11_checkJoin_45 rfl (lv_at hl 1 rfl) ?_
      refine zc_VE (As := [.int (nI (1)), .int (nI (e))]) (rest := []) ⟨hx, hb, hml, hown, hts⟩ (m_count l G o qs w f (sSay S 2 e) 1 e hci hcn (by decide)) (cwV 2 hts (zgV wm_X11_212 wv_X11_count) rfl rfl rfl (by decide +kernel) ⟨show 1 + 1 ≤ 3 * d + 9 by omega, show 8 + (3 + 11) + (22) ≤ 80 * d + 176 by omega⟩) hK hO rfl hP rfl hl.1 rfl (Nat.le_of_ble_eq_true rfl) dX11_checkJoin_46 ⟨Nat.zero_le _, Nat.zero_le _⟩ hS (fun _ h9 => h9) (fun H locs hP hz9 hk9 hS => ?_)
      obtain ⟨hO, hA, h8, hne9⟩ := id hP
      refine W.eq (g2 := F0 m 49 ls ([])) rfl ?_
      refine lv_aload_n hx hb dX11_checkJoin_49 rfl (lv_at hl 0 rfl) ?_
      refine zi_get (C := RX11) (T := TX11) (N := 23) (v := .int (nI ((sCnt (sSay S 2 e) 1 e).1))) hx hb hz wo_X11 hown hK hO rfl 10 (by decide) (hz _ wf_X11_191) (fun _ h9 => h9) rfl dX11_checkJoin_50 ?_
      refine zi_if_eq (tgt := 57) hx hb dX11_checkJoin_53 (by decide) (Nat.lt_trans ((hci.cnt hcn (more := 1) (by decide) e).1) (by decide)) (fun c_53 => ?_) (fun c_53 => ?_)
      · exact absurd c_53 (sCnt_w (sSay_w (by decide)))
      · exact zr_v hx hb hr hlocks (hP.to (by rw [kJoin, if_pos c_5, (show (if f e = 4 ∧ 0 < fi f (vo f e) then S else sSay S 2 e) = sSay S 2 e from if_neg (fun z => c_22 z.1)), if_pos c_53])) hS dX11_checkJoin_56
    · refine lv_aload_n hx hb dX11_checkJoin_25 rfl (lv_at hl 0 rfl) ?_
      refine lv_aload_n hx hb dX11_checkJoin_26 rfl (lv_at hl 0 rfl) ?_
      refine lv_iload_n hx hb dX11_checkJoin_27 rfl (lv_at hl 1 rfl) ?_
      refine zc_V (As := [.int (nI (e))]) (rest := [.ref (o)]) ⟨hx, hb, hml, hown, hts⟩ (m_valueOf l G o qs (cF5 w qs S) f e hok.1) (cwV 1 hts (zgV wm_X11_131 wv_X11_valueOf) rfl rfl rfl (by decide +kernel) ⟨show 1 + 1 ≤ 3 * d + 9 by omega, show 8 + (2 + 11) + (22) ≤ 80 * d + 176 by omega⟩) hK hO rfl hP.mv rfl hl.1 rfl (Nat.le_of_ble_eq_true rfl) dX11_checkJoin_28 ⟨Nat.zero_le _, Nat.zero_le _⟩ ?_
      refine zc_V (As := [.int (nI (vo f e))]) (rest := []) ⟨hx, hb, hml, hown, hts⟩ (m_firstOf l G o qs (cF5 w qs S) f (vo f e) (okV_items hv c_22).1.1) (cwV 1 hts (zgV wm_X11_137 wv_X11_firstOf) rfl rfl rfl (by decide +kernel) ⟨show 0 + 1 ≤ 3 * d + 9 by omega, show 8 + (2 + 11) + (0) ≤ 80 * d + 176 by omega⟩) hK hO rfl hP.mv rfl hl.1 rfl (Nat.le_of_ble_eq_true rfl) dX11_checkJoin_31 ⟨Nat.zero_le _, Nat.zero_le _⟩ ?_
      refine zi_if_ne (tgt := 43) hx hb dX11_checkJoin_34 (by decide) (by have := (okV_items hv c_22).1.2.lt (by decide); omega) (fun c_34 => ?_) (fun c_34 => ?_)
      · have hci : sInv S := hi
        have hcn : S.2.2.1 ≤ 100 := hi.2.2 h0
        refine lv_aload_n hx hb dX11_checkJoin_43 rfl (lv_at hl 0 rfl) ?_
        refine lv_iconst (v := nI 1) hx hb dX11_checkJoin_44 (by decide) ?_
        refine lv_iload_n hx hb dX11_checkJoin_45 rfl (lv_at hl 1 rfl) ?_
        refine zc_VE (As := [.int (nI (1)), .int (nI (e))]) (rest := []) ⟨hx, hb, hml, hown, hts⟩ (m_count l G o qs w f S 1 e hci hcn (by decide)) (cwV 2 hts (zgV wm_X11_212 wv_X11_count) rfl rfl rfl (by decide +kernel) ⟨show 1 + 1 ≤ 3 * d + 9 by omega, show 8 + (3 + 11) + (22) ≤ 80 * d + 176 by omega⟩) hK hO rfl hP rfl hl.1 rfl (Nat.le_of_ble_eq_true rfl) dX11_checkJoin_46 ⟨Nat.zero_le _, Nat.zero_le _⟩ hS (fun _ h9 => h9) (fun H locs hP hz9 hk9 hS => ?_)
        obtain ⟨hO, hA, h8, hne9⟩ := id hP
        refine W.eq (g2 := F0 m 49 ls ([])) rfl ?_
        refine lv_aload_n hx hb dX11_checkJoin_49 rfl (lv_at hl 0 rfl) ?_
        refine zi_get (C := RX11) (T := TX11) (N := 23) (v := .int (nI ((sCnt S 1 e).1))) hx hb hz wo_X11 hown hK hO rfl 10 (by decide) (hz _ wf_X11_191) (fun _ h9 => h9) rfl dX11_checkJoin_50 ?_
        refine zi_if_eq (tgt := 57) hx hb dX11_checkJoin_53 (by decide) (Nat.lt_trans ((hci.cnt hcn (more := 1) (by decide) e).1) (by decide)) (fun c_53 => ?_) (fun c_53 => ?_)
        · have hj0 : kJoin f (ckF f d).2 e S = foldS (fun i T => if f i = 3 then (ckF f d).2 (vo f i) T else sSay T 2 i) (els f (vo f e)) (sCnt S 1 e) := by rw [kJoin, if_pos c_5, (show (if f e = 4 ∧ 0 < fi f (vo f e) then S else sSay S 2 e) = S from if_pos ⟨c_22, Nat.pos_of_ne_zero c_34⟩), if_neg (fun z => z c_53)]
          have hk4 := okV_items hv c_22
          have hf1 := hk4.1.2.lt (by decide)
          refine lv_aload_n hx hb dX11_checkJoin_57 rfl (lv_at hl 0 rfl) ?_
          refine lv_aload_n hx hb dX11_checkJoin_58 rfl (lv_at hl 0 rfl) ?_
          refine lv_iload_n hx hb dX11_checkJoin_59 rfl (lv_at hl 1 rfl) ?_
          refine zc_V (As := [.int (nI (e))]) (rest := [.ref (o)]) ⟨hx, hb, hml, hown, hts⟩ (m_valueOf l G o qs (cF5 w qs (sCnt S 1 e)) f e hok.1) (cwV 1 hts (zgV wm_X11_131 wv_X11_valueOf) rfl rfl rfl (by decide +kernel) ⟨show 1 + 1 ≤ 3 * d + 9 by omega, show 8 + (2 + 11) + (22) ≤ 80 * d + 176 by omega⟩) hK hO rfl hP.mv rfl hl.1 rfl (Nat.le_of_ble_eq_true rfl) dX11_checkJoin_60 ⟨Nat.zero_le _, Nat.zero_le _⟩ ?_
          refine zc_V (As := [.int (nI (vo f e))]) (rest := []) ⟨hx, hb, hml, hown, hts⟩ (m_firstOf l G o qs (cF5 w qs (sCnt S 1 e)) f (vo f e) hk4.1.1) (cwV 1 hts (zgV wm_X11_137 wv_X11_firstOf) rfl rfl rfl (by decide +kernel) ⟨show 0 + 1 ≤ 3 * d + 9 by omega, show 8 + (2 + 11) + (0) ≤ 80 * d + 176 by omega⟩) hK hO rfl hP.mv rfl hl.1 rfl (Nat.le_of_ble_eq_true rfl) dX11_checkJoin_63 ⟨Nat.zero_le _, Nat.zero_le _⟩ ?_
          refine lv_istore_n (lv' := [(2, .int (nI (fi f (vo f e)))), (0, .ref (o)), (1, .int (nI (e)))]) hx hb dX11_checkJoin_66 rfl hl (by decide) rfl (fun ls hl => ?_)
          have L67 : ∀ (n_ : Nat) (x : Nat) (X : List Nat) (T : cS), X.length < n_ → (Ch 18000 f x X) → (x < 18000) → (∀ z ∈ X, z ∈ els f (vo f e)) → (sInv T) → (kJoin f (ckF f d).2 e S = foldS (fun i T => if f i = 3 then (ckF f d).2 (vo f i) T else sSay T 2 i) X T) → ∀ (H : Heap) (locs : List Loc), MC G o qs w f T H → va_S (fun x => x = o) s.heap H locs → ∀ ls : Array Slot, lv_has ls 3 [(0, .ref (o)), (2, .int (nI (x)))] → W p l en (headSpec wsX11_checkJoin (rCj d)).room s m ([.ref (o), .int (nI (e))] : List Value).toArray below meth c H locs 0 0 (MQ below (zQ (fun x => x = o) none (fun H => MC G o qs w f (kJoin f (ckF f d).2 e S) H)) ([.ref (o), .int (nI (e))] : List Value).toArray s 0 0 (fun x => x = o)) (F0 m 67 ls []) := by
            intro n_
            induction n_ with
            | zero => intro x X T hm_; exact absurd hm_ (Nat.not_lt_zero _)
            | succ n_ ih_ =>
              intro x X T hm_ hc hxl hXi hTi hs H locs hP hS ls hl
              obtain ⟨hO, hA, h8, hne9⟩ := id hP
              refine lv_iload_n hx hb dX11_checkJoin_67 rfl (lv_at hl 1 rfl) ?_
              refine zi_if_le (tgt := 115) hx hb dX11_checkJoin_68 (by decide) (by omega) (fun c_68 => ?_) (fun c_68 => ?_)
              · have hX0 := hc.nil c_68
                subst hX0
                exact zr_v hx hb hr hlocks (hP.to (by rw [hs]; rfl)) hS dX11_checkJoin_115
              · refine lv_aload_n hx hb dX11_checkJoin_71 rfl (lv_at hl 0 rfl) ?_
                refine zi_get (C := RX11) (T := TX11) (N := 23) (v := .int (nI (T.1))) hx hb hz wo_X11 hown hK hO rfl 10 (by decide) (hz _ wf_X11_191) (fun _ h9 => h9) rfl dX11_checkJoin_72 ?_
                refine zi_if_ne (tgt := 115) hx hb dX11_checkJoin_75 (by decide) (Nat.lt_trans hTi.1 (by decide)) (fun c_75 => ?_) (fun c_75 => ?_)
                · exact zr_v hx hb hr hlocks (hP.to (by rw [hs, foldS_w c_75])) hS dX11_checkJoin_115
                · obtain ⟨X', rfl, hok2, hc'⟩ := hc.cons c_68
                  have hx9 := hXi x List.mem_cons_self
                  refine lv_aload_n hx hb dX11_checkJoin_78 rfl (lv_at hl 0 rfl) ?_
                  refine zi_get (C := RX11) (T := TX11) (N := 23) (v := .ref (qs)) hx hb hz wo_X11 hown hK hO rfl 1 (by decide) (hz _ wf_X11_7) (fun _ h9 => h9) rfl dX11_checkJoin_79 ?_
                  refine lv_iload_n hx hb dX11_checkJoin_82 rfl (lv_at hl 1 rfl) ?_
                  refine zi_ald hx hb hK hA (by omega) (by decide) dX11_checkJoin_83 ?_
                  refine lv_iconst (v := nI 3) hx hb dX11_checkJoin_84 (by decide) ?_
                  refine zi_icmp_eq (tgt := 97) hx hb dX11_checkJoin_85 (by decide) (Nat.lt_trans (h8 _) (by decide)) (by omega) (fun c_85 => ?_) (fun c_85 => ?_)
                  · refine lv_aload_n hx hb dX11_checkJoin_97 rfl (lv_at hl 0 rfl) ?_
                    refine lv_aload_n hx hb dX11_checkJoin_98 rfl (lv_at hl 0 rfl) ?_
                    refine lv_iload_n hx hb dX11_checkJoin_99 rfl (lv_at hl 1 rfl) ?_
                    refine zc_V (As := [.int (nI (x))]) (rest := [.ref (o)]) ⟨hx, hb, hml, hown, hts⟩ (m_valueOf l G o qs (cF5 w qs T) f x hok2.1) (cwV 1 hts (zgV wm_X11_131 wv_X11_valueOf) rfl rfl rfl (by decide +kernel) ⟨show 1 + 1 ≤ 3 * d + 9 by omega, show 8 + (2 + 11) + (22) ≤ 80 * d + 176 by omega⟩) hK hO rfl hP.mv rfl hl.1 rfl (Nat.le_of_ble_eq_true rfl) dX11_checkJoin_100 ⟨Nat.zero_le _, Nat.zero_le _⟩ ?_
                    refine zc_VE (As := [.int (nI (vo f x))]) (rest := []) ⟨hx, hb, hml, hown, hts⟩ (hF T (vo f x) (by have h7 := hk4.2 x hx9; rwa [c_85] at h7) c_75 hTi) (cwV 1 hts (zgV wm_X11_215 wv_X11_checkFilter) rfl rfl rfl (by decide +kernel) ⟨show 3 * d + 8 + 1 ≤ 3 * d + 9 by omega, show 8 + (3 + 11) + (80 * d + 150) ≤ 80 * d + 176 by omega⟩) hK hO rfl hP rfl hl.1 rfl (Nat.le_of_ble_eq_true rfl) dX11_checkJoin_103 ⟨Nat.zero_le _, Nat.zero_le _⟩ hS (fun _ h9 => h9) (fun H locs hP hz9 hk9 hS => ?_)
                    obtain ⟨hO, hA, h8, hne9⟩ := id hP
                    refine W.eq (g2 := F0 m 106 ls ([])) rfl ?_
                    refine lv_aload_n hx hb dX11_checkJoin_106 rfl (lv_at hl 0 rfl) ?_
                    refine lv_iload_n hx hb dX11_checkJoin_107 rfl (lv_at hl 1 rfl) ?_
                    refine zc_V (As := [.int (nI (x))]) (rest := []) ⟨hx, hb, hml, hown, hts⟩ (m_nextOf l G o qs (cF5 w qs ((ckF f d).2 (vo f x) T)) f x hok2) (cwV 1 hts (zgV wm_X11_140 wv_X11_nextOf) rfl rfl rfl (by decide +kernel) ⟨show 2 + 1 ≤ 3 * d + 9 by omega, show 8 + (4 + 11) + (43) ≤ 80 * d + 176 by omega⟩) hK hO rfl hP.mv rfl hl.1 rfl (Nat.le_of_ble_eq_true rfl) dX11_checkJoin_108 ⟨Nat.zero_le _, Nat.zero_le _⟩ ?_
                    refine lv_istore_n (lv' := [(2, .int (nI (nx f x))), (0, .ref (o))]) hx hb dX11_checkJoin_111 rfl hl (by decide) rfl (fun ls hl => ?_)
                    refine lv_goto (tgt := 67) hx hb dX11_checkJoin_112 (by decide) ?_
                    exact ih_ (nx f x) (X') ((ckF f d).2 (vo f x) T) (by simp at hm_; omega) hc' (Ch.lt (by decide) hc') (fun z hz => hXi z (List.mem_cons_of_mem _ hz)) ((ckF_inv f d).2 _ _ hTi c_75) (by rw [hs, foldS_s c_75, if_pos c_85]) _ _ hP hS ls (lv_sub hl [1, 0] rfl)
                  · refine lv_aload_n hx hb dX11_checkJoin_88 rfl (lv_at hl 0 rfl) ?_
                    refine lv_iconst (v := nI 2) hx hb dX11_checkJoin_89 (by decide) ?_
                    refine lv_iload_n hx hb dX11_checkJoin_90 rfl (lv_at hl 1 rfl) ?_
                    refine zc_VE (As := [.int (nI (2)), .int (nI (x))]) (rest := []) ⟨hx, hb, hml, hown, hts⟩ (m_say l G o qs w f T 2 x hTi.1) (cwV 2 hts (zgV wm_X11_200 wv_X11_say) rfl rfl rfl (by decide +kernel) ⟨show 0 + 1 ≤ 3 * d + 9 by omega, show 8 + (3 + 11) + (0) ≤ 80 * d + 176 by omega⟩) hK hO rfl hP rfl hl.1 rfl (Nat.le_of_ble_eq_true rfl) dX11_checkJoin_91 ⟨Nat.zero_le _, Nat.zero_le _⟩ hS (fun _ h9 => h9) (fun H locs hP hz9 hk9 hS => ?_)
                    obtain ⟨hO, hA, h8, hne9⟩ := id hP
                    refine W.eq (g2 := F0 m 94 ls ([])) rfl ?_
                    refine lv_goto (tgt := 106) hx hb dX11_checkJoin_94 (by decide) ?_
                    refine lv_aload_n hx hb dX11_checkJoin_106 rfl (lv_at hl 0 rfl) ?_
                    refine lv_iload_n hx hb dX11_checkJoin_107 rfl (lv_at hl 1 rfl) ?_
                    refine zc_V (As := [.int (nI (x))]) (rest := []) ⟨hx, hb, hml, hown, hts⟩ (m_nextOf l G o qs (cF5 w qs (sSay T 2 x)) f x hok2) (cwV 1 hts (zgV wm_X11_140 wv_X11_nextOf) rfl rfl rfl (by decide +kernel) ⟨show 2 + 1 ≤ 3 * d + 9 by omega, show 8 + (4 + 11) + (43) ≤ 80 * d + 176 by omega⟩) hK hO rfl hP.mv rfl hl.1 rfl (Nat.le_of_ble_eq_true rfl) dX11_checkJoin_108 ⟨Nat.zero_le _, Nat.zero_le _⟩ ?_
                    refine lv_istore_n (lv' := [(2, .int (nI (nx f x))), (0, .ref (o))]) hx hb dX11_checkJoin_111 rfl hl (by decide) rfl (fun ls hl => ?_)
                    refine lv_goto (tgt := 67) hx hb dX11_checkJoin_112 (by decide) ?_
                    exact ih_ (nx f x) (X') (sSay T 2 x) (by simp at hm_; omega) hc' (Ch.lt (by decide) hc') (fun z hz => hXi z (List.mem_cons_of_mem _ hz)) (hTi.say ⟨by decide, by decide⟩ x) (by rw [hs, foldS_s c_75, if_neg c_85]) _ _ hP hS ls (lv_sub hl [1, 0] rfl)
          exact L67 (((els f (vo f e)).length) + 1) (fi f (vo f e)) (els f (vo f e)) (sCnt S 1 e) (Nat.lt_succ_self _) hk4.1.2 hf1 (fun _ z => z) (hci.cnt hcn (by decide) e) hj0 _ _ hP hS ls (lv_sub hl [1, 0] rfl)
        · exact zr_v hx hb hr hlocks (hP.to (by rw [kJoin, if_pos c_5, (show (if f e = 4 ∧ 0 < fi f (vo f e) then S else sSay S 2 e) = S from if_pos ⟨c_22, Nat.pos_of_ne_zero c_34⟩), if_pos c_53])) hS dX11_checkJoin_56
      · refine lv_aload_n hx hb dX11_checkJoin_37 rfl (lv_at hl 0 rfl) ?_
        refine lv_iconst (v := nI 2) hx hb dX11_checkJoin_38 (by decide) ?_
        refine lv_iload_n hx hb dX11_checkJoin_39 rfl (lv_at hl 1 rfl) ?_
        refine zc_VE (As := [.int (nI (2)), .int (nI (e))]) (rest := []) ⟨hx, hb, hml, hown, hts⟩ (m_say l G o qs w f S 2 e hw6) (cwV 2 hts (zgV wm_X11_200 wv_X11_say) rfl rfl rfl (by decide +kernel) ⟨show 0 + 1 ≤ 3 * d + 9 by omega, show 8 + (3 + 11) + (0) ≤ 80 * d + 176 by omega⟩) hK hO rfl hP rfl hl.1 rfl (Nat.le_of_ble_eq_true rfl) dX11_checkJoin_40 ⟨Nat.zero_le _, Nat.zero_le _⟩ hS (fun _ h9 => h9) (fun H locs hP hz9 hk9 hS => ?_)
        obtain ⟨hO, hA, h8, hne9⟩ := id hP
        refine W.eq (g2 := F0 m 43 ls ([])) rfl ?_
        have hci : sInv (sSay S 2 e) := hi.say ⟨by decide, by decide⟩ e
        have hcn : (sSay S 2 e).2.2.1 ≤ 100 := by rw [sSay_nc]; exact hi.2.2 h0
        refine lv_aload_n hx hb dX11_checkJoin_43 rfl (lv_at hl 0 rfl) ?_
        refine lv_iconst (v := nI 1) hx hb dX11_checkJoin_44 (by decide) ?_
        refine lv_iload_n hx hb dX11_checkJoin_45 rfl (lv_at hl 1 rfl) ?_
        refine zc_VE (As := [.int (nI (1)), .int (nI (e))]) (rest := []) ⟨hx, hb, hml, hown, hts⟩ (m_count l G o qs w f (sSay S 2 e) 1 e hci hcn (by decide)) (cwV 2 hts (zgV wm_X11_212 wv_X11_count) rfl rfl rfl (by decide +kernel) ⟨show 1 + 1 ≤ 3 * d + 9 by omega, show 8 + (3 + 11) + (22) ≤ 80 * d + 176 by omega⟩) hK hO rfl hP rfl hl.1 rfl (Nat.le_of_ble_eq_true rfl) dX11_checkJoin_46 ⟨Nat.zero_le _, Nat.zero_le _⟩ hS (fun _ h9 => h9) (fun H locs hP hz9 hk9 hS => ?_)
        obtain ⟨hO, hA, h8, hne9⟩ := id hP
        refine W.eq (g2 := F0 m 49 ls ([])) rfl ?_
        refine lv_aload_n hx hb dX11_checkJoin_49 rfl (lv_at hl 0 rfl) ?_
        refine zi_get (C := RX11) (T := TX11) (N := 23) (v := .int (nI ((sCnt (sSay S 2 e) 1 e).1))) hx hb hz wo_X11 hown hK hO rfl 10 (by decide) (hz _ wf_X11_191) (fun _ h9 => h9) rfl dX11_checkJoin_50 ?_
        refine zi_if_eq (tgt := 57) hx hb dX11_checkJoin_53 (by decide) (Nat.lt_trans ((hci.cnt hcn (more := 1) (by decide) e).1) (by decide)) (fun c_53 => ?_) (fun c_53 => ?_)
        · exact absurd c_53 (sCnt_w (sSay_w (by decide)))
        · exact zr_v hx hb hr hlocks (hP.to (by rw [kJoin, if_pos c_5, (show (if f e = 4 ∧ 0 < fi f (vo f e) then S else sSay S 2 e) = sSay S 2 e from if_neg (fun z => by have := z.2; omega)), if_pos c_53])) hS dX11_checkJoin_56
  · refine lv_aload_n hx hb dX11_checkJoin_8 rfl (lv_at hl 0 rfl) ?_
    refine lv_iconst (v := nI 1) hx hb dX11_checkJoin_9 (by decide) ?_
    refine lv_iload_n hx hb dX11_checkJoin_10 rfl (lv_at hl 1 rfl) ?_
    refine zc_VE (As := [.int (nI (1)), .int (nI (e))]) (rest := []) ⟨hx, hb, hml, hown, hts⟩ (m_say l G o qs w f S 1 e hw6) (cwV 2 hts (zgV wm_X11_200 wv_X11_say) rfl rfl rfl (by decide +kernel) ⟨show 0 + 1 ≤ 3 * d + 9 by omega, show 8 + (3 + 11) + (0) ≤ 80 * d + 176 by omega⟩) hK hO rfl hP rfl hl.1 rfl (Nat.le_of_ble_eq_true rfl) dX11_checkJoin_11 ⟨Nat.zero_le _, Nat.zero_le _⟩ hS (fun _ h9 => h9) (fun H locs hP hz9 hk9 hS => ?_)
    obtain ⟨hO, hA, h8, hne9⟩ := id hP
    refine W.eq (g2 := F0 m 14 ls ([])) rfl ?_
    exact zr_v hx hb hr hlocks (hP.to (by rw [kJoin, if_neg (by rw [c_5]; decide)])) hS dX11_checkJoin_14
