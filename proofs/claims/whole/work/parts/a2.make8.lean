set_option maxHeartbeats 4000000 in
set_option maxRecDepth 100000 in
theorem c_aClR (l : Launch) (G : zG) (f : Nat → Nat) (pf : Nat → Int32) (Z : Nat → Prop) (d : Nat) (IH1 : C_aC l G f pf Z d) (IH2 : C_aF l G f pf Z d) (n0 mk fl rt ca c0 h sg : Nat) (ng : Bool) (vl : Nat) (pa nx : Option Nat) (a0 nb : Nat) (S : cS) (dp tv : Nat) (htd : tv ≤ d) (hok : okV f (tv + 1) 3 a0) (how : okW f (tv + 1) 3 a0) (h0 : S.1 = 0) (hsi : sInv S) (hZm : ∀ q, Z q ∨ q < cB G → q < mk) (hd1 : mk < fl) (hd2 : fl < ca) (hmh : mk < h) (hhf : h ≠ fl) (hhc : h ≠ ca) (hhn : h < n0) (hcn9 : ca < n0) (hdp : dp + (tv + 1) = 17) (hc30 : cst 30 f (tv + 1) a0 ≤ 40 * nb) (hc80 : cst 80 f (tv + 1) a0 ≤ 40 * nb) : Met l yX2_addClauses wsX2_addClauses (rMk 20 400 (d + 1) (40 * nb) (40 * nb)) (zP G [.ref (mk), .ref (h), .int (nI (dp))] (fun H => MKs G H mk fl rt ca c0 pf S ∧ zO G H h 5 (rlF sg ng vl pa none none nx) ∧ VNr G H f pf Z vl a0 ∧ CH G H ∧ H.size = n0)) (zX (fun q => q = mk ∨ q = ca ∨ q = h ∨ n0 ≤ q) (fun r9 H => r9 = none ∧ ∃ T : cS, MKs G H mk fl rt ca c0 pf T ∧ eqS T ((ckF f (d + 1)).2 a0 S) ∧ (T.1 = 0 → ∃ rs : List Nat, zO G H h 5 (rlF sg ng vl pa rs.head? rs.getLast? nx) ∧ (RuL G H f pf Z (d + 1)).2 n0 H.size rs (els f a0)))) (40 * nb) (40 * nb) (fun q => q = mk ∨ q = ca ∨ q = h ∨ n0 ≤ q) := by
  refine Met.ofW (cc := cX2_addClauses) (maxL := 4) (ret := none) (by decide) rfl ?_
  intro p en s m args below meth c s₁ B hml hv
  obtain ⟨rfl, hP, hK⟩ := hv
  have hx := B.exec
  have hb := B.bytes
  have hr := B.returns
  have hts := atoms_spec (ws := wsX2_addClauses) B.pre
  have hz : ∀ w ∈ zW, w.before _ s = true := fun w h => hts w (List.mem_cons_of_mem _ h)
  have hown : s.vm.findClass RX2 = some m.cls := findClass_of_methodNamed B.named
  have hlocks := B.notSynchronized
  obtain ⟨⟨hMk, hFl, hCa⟩, hH, hVN, hCH, hn0⟩ := id hP
  have hS : va_S (fun q => q = mk ∨ q = ca ∨ q = h ∨ n0 ≤ q) s.heap s.heap [] := va_S.rf
  obtain ⟨nm, tx, vs, hO, hkv0, hvl0⟩ := hVN.kids
  have hl := lv_entry ([.ref (mk), .ref (h), .int (nI (dp))]) (n := 4) (Nat.le_of_ble_eq_true rfl)
  rw [lg_entry_eq]
  generalize (lg_sl ([.ref (mk), .ref (h), .int (nI (dp))]) ++ List.replicate (4 - (lg_sl ([.ref (mk), .ref (h), .int (nI (dp))])).length) Slot.unset).toArray = ls at hl ⊢
  have hl : lv_has ls 4 [(0, .ref (mk)), (1, .ref (h)), (2, .int (nI (dp)))] := hl
  refine lv_iload_n hx hb dX2_addClauses_0 rfl (lv_at hl 2 rfl) ?_
  refine lv_bipush (v := nI 16) hx hb dX2_addClauses_1 (by decide) ?_
  refine zi_icmp_le (tgt := 7) hx hb dX2_addClauses_3 (by decide) (by omega) (by omega) (fun c_3 => ?_) (fun c_3 => ?_)
  · refine lv_aload_n hx hb dX2_addClauses_7 rfl (lv_at hl 1 rfl) ?_
    refine zi_getN (C := RX6) (T := TX6) (N := 7) (v := .ref (vl)) hx hb hz wo_X6 hown hK hH rfl 2 (by decide) wf_X2_32 (fun _ h9 => h9) rfl dX2_addClauses_8 ?_
    refine zi_getN (C := RX9) (T := TX9) (N := 9) (v := va_rf (vs.head?)) hx hb hz wo_X9 hown hK hO rfl 5 (by decide) wf_X2_38 (fun _ h9 => h9) rfl dX2_addClauses_11 ?_
    refine zo_astore_n (lv' := [(3, va_rf (vs.head?)), (0, .ref (mk)), (1, .ref (h)), (2, .int (nI (dp)))]) hx hb dX2_addClauses_14 rfl hl (by decide) rfl (fun ls hl => ?_)
    have L15 : ∀ (n_ : Nat) (ws : List Nat) (us : List Nat) (rs : List Nat) (ts : List Nat) (T : cS) (cl sl : Nat), ws.length < n_ → (∀ z ∈ us, z ∈ els f a0) → (T.1 = 0 → foldS (kEl f (ckF f d).1 (ckF f d).2) (els f a0) S = foldS (kEl f (ckF f d).1 (ckF f d).2) us T ∧ els f a0 = ts ++ us ∧ sInv T) → (T.1 ≠ 0 → eqS T (foldS (kEl f (ckF f d).1 (ckF f d).2) (els f a0) S)) → (T.1 < 6) → (cl + cstL 30 f (cst 30 f tv) us ≤ 40 * nb) → (sl + cstL 80 f (cst 80 f tv) us ≤ 40 * nb) → ∀ (H : Heap) (locs : List Loc), (MKs G H mk fl rt ca c0 pf T) → (kidV G H f pf Z ws us) → (CH G H) → (T.1 = 0 → zO G H h 5 (rlF sg ng vl pa rs.head? rs.getLast? nx) ∧ zR9 (rFk9 G f pf Z d) H n0 H.size rs ts) → (n0 ≤ H.size) → va_S (fun q => q = mk ∨ q = ca ∨ q = h ∨ n0 ≤ q) s.heap H locs → ∀ ls : Array Slot, lv_has ls 4 [(0, .ref (mk)), (1, .ref (h)), (2, .int (nI (dp))), (3, va_rf (ws.head?))] → W p l en (headSpec wsX2_addClauses (rMk 20 400 (d + 1) (40 * nb) (40 * nb))).room s m ([.ref (mk), .ref (h), .int (nI (dp))] : List Value).toArray below meth c H locs cl sl (MQ below (zX (fun q => q = mk ∨ q = ca ∨ q = h ∨ n0 ≤ q) (fun r9 H => r9 = none ∧ ∃ T : cS, MKs G H mk fl rt ca c0 pf T ∧ eqS T ((ckF f (d + 1)).2 a0 S) ∧ (T.1 = 0 → ∃ rs : List Nat, zO G H h 5 (rlF sg ng vl pa rs.head? rs.getLast? nx) ∧ (RuL G H f pf Z (d + 1)).2 n0 H.size rs (els f a0)))) ([.ref (mk), .ref (h), .int (nI (dp))] : List Value).toArray s (40 * nb) (40 * nb) (fun q => q = mk ∨ q = ca ∨ q = h ∨ n0 ≤ q)) (F0 m 15 ls []) := by
      intro n_
      induction n_ with
      | zero => intro ws us rs ts T cl sl hm_; exact absurd hm_ (Nat.not_lt_zero _)
      | succ n_ ih_ =>
        intro ws us rs ts T cl sl hm_ hXi hF1 hF2 hT6 hcl hsl H locs hMM hkv hCH hCnd hsz hS ls hl
        obtain ⟨hMk, hFl, hCa⟩ := id hMM
        obtain ⟨sz, hsze⟩ : ∃ z, H.size = z := ⟨_, rfl⟩
        refine zo_aload_n hx hb dX2_addClauses_15 rfl (lv_at hl 3 rfl) ?_
        rcases ws with _ | ⟨v1, vs1⟩
        · have hl : lv_has ls 4 [(0, .ref (mk)), (1, .ref (h)), (2, .int (nI (dp))), (3, .null)] := hl
          have hus := kidV_nil hkv
          subst hus
          refine W.eq (g2 := F0 m 16 ls ([.null])) rfl ?_
          refine lv_ifnullN (tgt := 61) hx hb dX2_addClauses_16 (by decide) ?_
          exact zx_v hx hb hr hlocks (by show cl ≤ 40 * nb; omega) (by show sl ≤ 40 * nb; omega) (⟨rfl, T, hMM, ac_end (f := f) (fun z => (hF1 z).1) hF2, fun z => ⟨rs, (hCnd z).1, by have h9 := (hF1 z).2.1; rw [List.append_nil] at h9; rw [h9]; exact (hCnd z).2⟩⟩) hS dX2_addClauses_61
        · have hl : lv_has ls 4 [(0, .ref (mk)), (1, .ref (h)), (2, .int (nI (dp))), (3, .ref (v1))] := hl
          obtain ⟨x1, xs1, rfl, hVq, hkv1⟩ := kidV_cons hkv
          refine W.eq (g2 := F0 m 16 ls ([.ref (v1)])) rfl ?_
          refine lv_ifnull hx hb dX2_addClauses_16 ?_
          refine lv_aload_n hx hb dX2_addClauses_19 rfl (lv_at hl 0 rfl) ?_
          refine zi_get (C := RX2) (T := TX2) (N := 3) (v := .int (nI (T.1))) hx hb hz wo_X2 hown hK hMk rfl 1 (by decide) (hz _ wf_X2_43) (fun _ h9 => h9) rfl dX2_addClauses_20 ?_
          refine zi_if_ne (tgt := 61) hx hb dX2_addClauses_23 (by decide) (by omega) (fun c_23 => ?_) (fun c_23 => ?_)
          · exact zx_v hx hb hr hlocks (by show cl ≤ 40 * nb; omega) (by show sl ≤ 40 * nb; omega) (⟨rfl, T, hMM, hF2 c_23, fun z => absurd z c_23⟩) hS dX2_addClauses_61
          · obtain ⟨hH, hR9⟩ := hCnd c_23
            rw [hsze] at hR9
            obtain ⟨hF1a, hF1b, hF1c⟩ := hF1 c_23
            have hxm := hXi x1 List.mem_cons_self
            have hok1 := (hok.2 (Or.inl rfl)).2 x1 hxm
            have how1 := how.2.2 (Or.inl rfl) x1 hxm
            have hz1 := hok.nz (Or.inl rfl) x1 hxm
            have hcc3 := cstL_c (K := 30) (f := f) (sub := cst 30 f tv) (x := x1) (xs := xs1)
            have hcc8 := cstL_c (K := 80) (f := f) (sub := cst 80 f tv) (x := x1) (xs := xs1)
            have hlz := fun z => hZm v1 (Or.inl z)
            obtain ⟨hv1, hN1, -⟩ := id hVq
            obtain ⟨nm1, tx1, f1, l1, n1, hO1, hSt1, -⟩ := hN1.o
            obtain ⟨v9, hs9, hz99, -, -, hSa⟩ := id hSt1
            have hnl := nL_0 hz1
            refine lv_aload_n hx hb dX2_addClauses_26 rfl (lv_at hl 3 rfl) ?_
            refine zi_getN (C := RX9) (T := TX9) (N := 9) (v := .ref (nm1)) hx hb hz wo_X9 hown hK hO1 rfl 2 (by decide) wf_X2_46 (fun _ h9 => h9) rfl dX2_addClauses_27 ?_
            refine zc_SN (As := [.ref (nm1)]) (rest := []) ⟨hx, hb, hml, hown, hts⟩ (c_begins l G nm1 (nL f x1) (Zr G v1 hv1)) ⟨va_cnB 1 hts (zgN wc_X10_beginsWithDollar) rfl rfl rfl (hK.2.1 _ wm_X2_50) (hz _ wi_X10) (by decide +kernel) ⟨by show 4 + 1 ≤ _; simp only [headSpec]; omega, by show 8 + (_ + 11) + 85 ≤ _; simp only [headSpec]; omega⟩, hz _ wt_X10_beginsWithDollar, trivial⟩ hK ⟨hSt1, hCH⟩ rfl hl.1 rfl (Nat.le_of_ble_eq_true rfl) dX2_addClauses_30 ⟨by show cl ≤ 40 * nb; omega, by show sl ≤ 40 * nb; omega⟩ ?_
            refine zb_if_eq (tgt := 46) hx hb dX2_addClauses_33 (by decide) (fun c_33 => ?_) (fun c_33 => ?_)
            · refine lv_aload_n hx hb dX2_addClauses_46 rfl (lv_at hl 0 rfl) ?_
              refine lv_aload_n hx hb dX2_addClauses_47 rfl (lv_at hl 1 rfl) ?_
              refine lv_aload_n hx hb dX2_addClauses_48 rfl (lv_at hl 3 rfl) ?_
              refine lv_iload_n hx hb dX2_addClauses_49 rfl (lv_at hl 2 rfl) ?_
              refine zx_V (As := [.ref (h), .ref (v1), .int (nI (dp))]) (rest := []) ⟨hx, hb, hml, hown, hts⟩ (c_aPa l G f pf Z d IH1 n0 sz mk fl rt ca c0 h sg ng vl pa nx rs ts v1 x1 T dp tv htd hok1 how1 hz1 (by rw [← hnl]; exact of_decide_eq_false c_33) c_23 hF1c hZm hd1 hd2 hmh hhf hhc hhn hcn9 (by omega) hdp) (cwV 3 hts (zgV wm_X2_58 wv_X2_addPath) rfl rfl rfl (by decide +kernel) ⟨show 5 * d + 23 + 1 ≤ 5 * (d + 1) + 20 by omega, show 8 + (7 + 11) + (140 * d + 510) ≤ 140 * (d + 1) + 400 by omega⟩) hK hMk rfl ⟨⟨hMk, hFl, hCa⟩, hH, hR9, hVq.p, hCH, hsze⟩ rfl hl.1 rfl (Nat.le_of_ble_eq_true rfl) dX2_addClauses_50 ⟨by show cl + (cE1 30 f (cst 30 f tv) x1) ≤ 40 * nb; omega, by show sl + (cE1 80 f (cst 80 f tv) x1) ≤ 40 * nb; omega⟩ hS (by intro q hq; first | omega | (dsimp only at hq ⊢; omega)) (fun r9 H locs hPo hz9 hk9 hS => ?_)
              have hVq := hVq.keep hk9 (by intro q hq; have hq1 := hZm q hq; first | exact id | omega | (dsimp only; omega))
              have hkv1 := hkv1.keep hk9 (by intro q hq; have hq1 := hZm q hq; first | exact id | omega | (dsimp only; omega))
              have hCH := hCH.keep hk9 ⟨by intro q hq; have hq1 := hZm q (Or.inr hq); first | exact id | omega | (dsimp only; omega), by omega⟩
              obtain ⟨rfl, T1, rs1, hMM1, hEq1, hCnd1⟩ := hPo
              have hst := foldS_st c_23 hF1a hEq1
              obtain ⟨hv1, hN1, -⟩ := id hVq
              obtain ⟨nm1, tx1, f1, l1, n1, hO1, -⟩ := hN1.o
              refine W.eq (g2 := F0 m 53 ls ([])) rfl ?_
              refine lv_aload_n hx hb dX2_addClauses_53 rfl (lv_at hl 3 rfl) ?_
              refine zi_getN (C := RX9) (T := TX9) (N := 9) (v := va_rf (vs1.head?)) hx hb hz wo_X9 hown hK hO1 rfl 7 (by decide) wf_X2_61 (fun _ h9 => h9) rfl dX2_addClauses_54 ?_
              refine zo_astore_n (lv' := [(3, va_rf (vs1.head?)), (0, .ref (mk)), (1, .ref (h)), (2, .int (nI (dp)))]) hx hb dX2_addClauses_57 rfl hl (by decide) rfl (fun ls hl => ?_)
              refine lv_goto (tgt := 15) hx hb dX2_addClauses_58 (by decide) ?_
              exact ih_ vs1 xs1 rs1 (ts ++ [x1]) T1 (cl + (cE1 30 f (cst 30 f tv) x1)) (sl + (cE1 80 f (cst 80 f tv) x1)) (by simp only [List.length_cons] at hm_; omega) (fun z hz => hXi z (List.mem_cons_of_mem _ hz)) (fun z => ⟨hst.1 z, by rw [hF1b]; simp, by rw [hEq1.2.2 z]; exact kEl_inv f d x1 T hF1c c_23⟩) hst.2 (by rw [hEq1.1]; exact (kEl_inv f d x1 T hF1c c_23).1) (by omega) (by omega) _ _ hMM1 hkv1 hCH hCnd1 (by omega) hS ls (lv_sub hl [1, 2, 3, 0] rfl)
            · refine lv_aload_n hx hb dX2_addClauses_36 rfl (lv_at hl 0 rfl) ?_
              refine lv_aload_n hx hb dX2_addClauses_37 rfl (lv_at hl 1 rfl) ?_
              refine lv_aload_n hx hb dX2_addClauses_38 rfl (lv_at hl 3 rfl) ?_
              refine lv_iload_n hx hb dX2_addClauses_39 rfl (lv_at hl 2 rfl) ?_
              refine zx_V (As := [.ref (h), .ref (v1), .int (nI (dp))]) (rest := []) ⟨hx, hb, hml, hown, hts⟩ (c_aJn l G f pf Z d IH2 n0 sz mk fl rt ca c0 h sg ng vl pa nx rs ts v1 x1 T dp tv htd hok1 how1 hz1 (by rw [← hnl]; exact of_decide_eq_true c_33) c_23 hF1c hZm hd1 hd2 hmh hhf hhc hhn hcn9 (by omega) hdp) (cwV 3 hts (zgV wm_X2_54 wv_X2_addJoin) rfl rfl rfl (by decide +kernel) ⟨show 5 * d + 24 + 1 ≤ 5 * (d + 1) + 20 by omega, show 8 + (6 + 11) + (140 * d + 515) ≤ 140 * (d + 1) + 400 by omega⟩) hK hMk rfl ⟨⟨hMk, hFl, hCa⟩, hH, hR9, hVq.p, hCH, hsze⟩ rfl hl.1 rfl (Nat.le_of_ble_eq_true rfl) dX2_addClauses_40 ⟨by show cl + (cE1 30 f (cst 30 f tv) x1) ≤ 40 * nb; omega, by show sl + (cE1 80 f (cst 80 f tv) x1) ≤ 40 * nb; omega⟩ hS (by intro q hq; first | omega | (dsimp only at hq ⊢; omega)) (fun r9 H locs hPo hz9 hk9 hS => ?_)
              have hVq := hVq.keep hk9 (by intro q hq; have hq1 := hZm q hq; first | exact id | omega | (dsimp only; omega))
              have hkv1 := hkv1.keep hk9 (by intro q hq; have hq1 := hZm q hq; first | exact id | omega | (dsimp only; omega))
              have hCH := hCH.keep hk9 ⟨by intro q hq; have hq1 := hZm q (Or.inr hq); first | exact id | omega | (dsimp only; omega), by omega⟩
              obtain ⟨rfl, T1, rs1, hMM1, hEq1, hCnd1⟩ := hPo
              have hst := foldS_st c_23 hF1a hEq1
              obtain ⟨hv1, hN1, -⟩ := id hVq
              obtain ⟨nm1, tx1, f1, l1, n1, hO1, -⟩ := hN1.o
              refine W.eq (g2 := F0 m 43 ls ([])) rfl ?_
              refine lv_goto (tgt := 53) hx hb dX2_addClauses_43 (by decide) ?_
              refine lv_aload_n hx hb dX2_addClauses_53 rfl (lv_at hl 3 rfl) ?_
              refine zi_getN (C := RX9) (T := TX9) (N := 9) (v := va_rf (vs1.head?)) hx hb hz wo_X9 hown hK hO1 rfl 7 (by decide) wf_X2_61 (fun _ h9 => h9) rfl dX2_addClauses_54 ?_
              refine zo_astore_n (lv' := [(3, va_rf (vs1.head?)), (0, .ref (mk)), (1, .ref (h)), (2, .int (nI (dp)))]) hx hb dX2_addClauses_57 rfl hl (by decide) rfl (fun ls hl => ?_)
              refine lv_goto (tgt := 15) hx hb dX2_addClauses_58 (by decide) ?_
              exact ih_ vs1 xs1 rs1 (ts ++ [x1]) T1 (cl + (cE1 30 f (cst 30 f tv) x1)) (sl + (cE1 80 f (cst 80 f tv) x1)) (by simp only [List.length_cons] at hm_; omega) (fun z hz => hXi z (List.mem_cons_of_mem _ hz)) (fun z => ⟨hst.1 z, by rw [hF1b]; simp, by rw [hEq1.2.2 z]; exact kEl_inv f d x1 T hF1c c_23⟩) hst.2 (by rw [hEq1.1]; exact (kEl_inv f d x1 T hF1c c_23).1) (by omega) (by omega) _ _ hMM1 hkv1 hCH hCnd1 (by omega) hS ls (lv_sub hl [1, 2, 3, 0] rfl)
    exact L15 ((vs.length) + 1) vs (els f a0) ([]) ([]) S (0) (0) (Nat.lt_succ_self _) (fun _ z => z) (fun _ => ⟨rfl, rfl, hsi⟩) (fun z => absurd h0 z) hsi.1 (by show 0 + _ ≤ _; rw [Nat.zero_add]; first | exact hc30 | exact hc80) (by show 0 + _ ≤ _; rw [Nat.zero_add]; first | exact hc30 | exact hc80) _ _ ⟨hMk, hFl, hCa⟩ hkv0 hCH (fun _ => ⟨hH, by show n0 ≤ _; omega⟩) (by omega) hS ls (lv_sub hl [1, 2, 3, 0] rfl)
  · exfalso; omega

set_option maxHeartbeats 4000000 in
set_option maxRecDepth 100000 in
theorem c_finit (l : Launch) (G : zG) (n0 th vl cnt wa : Nat) (pl : Int32) (nm tx : Nat) (num : Int64) (fst lst nxt : Option Nat) (hth : th < n0) (hne : vl < n0) (hvt : vl ≠ th) : Met l yX1_init wsX1_init ({ frames := 2, cells := 2, slots := 11, locals := 45 }) (zP G [.ref (th), .ref (vl)] (fun H => zO G H th 2 [.null, .null] ∧ zO G H vl 8 (vF 3 pl nm tx num fst lst nxt cnt) ∧ H.size = n0)) (zX (fun q => q = th ∨ n0 ≤ q) (fun r9 H => r9 = none ∧ ∃ rt ca : Nat, n0 ≤ rt ∧ rt < ca ∧ ca < H.size ∧ zO G H th 2 [.ref rt, .ref ca] ∧ zO G H rt 5 (rlF 1 false vl none none none none) ∧ zA G H ca 4 (cA4 cnt (0, wa, 0, 0, 0)))) (2) (11) (fun q => q = th ∨ n0 ≤ q) := by
  refine Met.ofW (cc := cX1_init) (maxL := 2) (ret := none) (by decide) rfl ?_
  intro p en s m args below meth c s₁ B hml hv
  obtain ⟨rfl, hP, hK⟩ := hv
  have hx := B.exec
  have hb := B.bytes
  have hr := B.returns
  have hts := atoms_spec (ws := wsX1_init) B.pre
  have hz : ∀ w ∈ zW, w.before _ s = true := fun w h => hts w (List.mem_cons_of_mem _ h)
  have hown : s.vm.findClass RX1 = some m.cls := findClass_of_methodNamed B.named
  have hlocks := B.notSynchronized
  obtain ⟨hO, hV, hn0⟩ := id hP
  have hS : va_S (fun q => q = th ∨ n0 ≤ q) s.heap s.heap [] := va_S.rf
  have hl := lv_entry ([.ref (th), .ref (vl)]) (n := 2) (Nat.le_of_ble_eq_true rfl)
  rw [lg_entry_eq]
  generalize (lg_sl ([.ref (th), .ref (vl)]) ++ List.replicate (2 - (lg_sl ([.ref (th), .ref (vl)])).length) Slot.unset).toArray = ls at hl ⊢
  have hl : lv_has ls 2 [(0, .ref (th)), (1, .ref (vl))] := hl
  refine lv_aload_n hx hb dX1_init_0 rfl (lv_at hl 0 rfl) ?_
  refine W.objInit hx hb hown (hz _ wm_X1_1) (hz _ wOn) (hz _ wOc) rfl (hl.1.trans hml.symm) rfl dX1_init_1 (by show 1 ≤ _; exact Nat.le_of_ble_eq_true rfl) (by show _ ≤ _; exact Nat.le_of_ble_eq_true rfl) ?_
  refine W.eq (g2 := F0 m 4 ls ([])) rfl ?_
  refine lv_aload_n hx hb dX1_init_4 rfl (lv_at hl 0 rfl) ?_
  refine zx_new (C := RX6) (T := TX6) (N := 7) (ci := 5) (fs := [.int (nI (0)), .int (nI (0)), .null, .null, .null, .null, .null]) hx hb hz wo_X6 tyX6 tyX6_ok hown (hz _ wl_X1_7) (hz _ wa_X6) (hz _ wi_X6) hK rfl df_X6 (by show 0 + 1 ≤ 2; omega) (by show 0 + 7 ≤ 11; omega) hS dX1_init_5 (fun rt H he_rt hz9 hO_rt hk9 hS => ?_)
  have hO := hO.keep hk9 (by first | exact id | exact rfl | omega | (dsimp only; omega))
  have hV := hV.keep hk9 (by first | exact id | exact rfl | omega | (dsimp only; omega))
  refine lv_dup hx hb dX1_init_8 rfl ?_
  refine lv_iconst (v := nI 1) hx hb dX1_init_9 (by decide) ?_
  refine lv_iconst (v := nI 0) hx hb dX1_init_10 (by decide) ?_
  refine lv_aload_n hx hb dX1_init_11 rfl (lv_at hl 1 rfl) ?_
  refine lv_null hx hb dX1_init_12 ?_
  refine zx_IN (As := [.int (nI (1)), .int (nI (0)), .ref (vl), .null]) (rest := [.ref (rt), .ref (th)]) (b := rt) ⟨hx, hb, hml, hown, hts⟩ (c_rlinit_n l G rt 1 false vl 0) ⟨va_cnB 4 hts (zgN wc_X6_init) rfl rfl rfl (hK.2.1 _ wm_X1_9) (hz _ wi_X6) (by decide +kernel) ⟨Nat.le_of_ble_eq_true rfl, Nat.le_of_ble_eq_true rfl⟩, rfl, hz _ wn_X6_init⟩ hK hO_rt rfl hl.1 rfl (Nat.le_of_ble_eq_true rfl) dX1_init_13 ⟨by show 0 + 1 + 0 ≤ 2; omega, by show 0 + 7 + 0 ≤ 11; omega⟩ hS (by intro q hq; first | omega | (dsimp only at hq ⊢; omega)) (fun r9 H locs hPo hz9 hk9 hS => ?_)
  have hO := hO.keep hk9 (by first | exact id | exact rfl | omega | (dsimp only; omega))
  have hV := hV.keep hk9 (by first | exact id | exact rfl | omega | (dsimp only; omega))
  obtain ⟨rfl, hO_rt⟩ := hPo
  refine W.eq (g2 := F0 m 16 ls ([.ref (rt), .ref (th)])) rfl ?_
  refine zx_put (C := RX1) (T := TX1) (N := 2) (v := .ref (rt)) hx hb hz wo_X1 tyX1 tyX1_ok nmX1 hown hK hO rfl 0 (by decide) (hz _ wf_X1_12) (fun _ h9 => h9) (Or.inr ⟨rfl, (name_of_methodNamed B.named B.method).1, rfl⟩) rfl rfl (Nat.le_of_ble_eq_true rfl) (by first | exact rfl | omega | (dsimp only; omega)) hS dX1_init_16 (fun H locs hz9 hO hk9 hS => ?_)
  have hO : zO G H (th) 2 [.ref (rt), .null] := hO
  have hV := hV.keep hk9 (by first | exact id | exact rfl | omega | (dsimp only; omega))
  have hO_rt := hO_rt.keep hk9 (by first | exact id | exact rfl | omega | (dsimp only; omega))
  refine lv_aload_n hx hb dX1_init_19 rfl (lv_at hl 0 rfl) ?_
  refine lv_iconst (v := nI 4) hx hb dX1_init_20 (by decide) ?_
  refine zx_newA hx hb (hz _ wAi) hK (by omega) (by show 0 + 1 + 0 + 1 ≤ 2; omega) (by show 0 + 7 + 0 + 4 ≤ 11; omega) hS dX1_init_21 (fun ca H he_ca hz9 hA_ca hk9 hS => ?_)
  have hO := hO.keep hk9 (by first | exact id | exact rfl | omega | (dsimp only; omega))
  have hV := hV.keep hk9 (by first | exact id | exact rfl | omega | (dsimp only; omega))
  have hO_rt := hO_rt.keep hk9 (by first | exact id | exact rfl | omega | (dsimp only; omega))
  refine lv_dup hx hb dX1_init_23 rfl ?_
  refine lv_iconst (v := nI 0) hx hb dX1_init_24 (by decide) ?_
  refine lv_aload_n hx hb dX1_init_25 rfl (lv_at hl 1 rfl) ?_
  refine zi_getN (C := RX9) (T := TX9) (N := 9) (v := .int (nI (cnt))) hx hb hz wo_X9 hown hK hV rfl 8 (by decide) wf_X1_18 (fun _ h9 => h9) rfl dX1_init_26 ?_
  refine zx_ast (i := 0) (x := cnt) hx hb hK hA_ca (by omega) (by omega)  (by first | exact rfl | omega | (dsimp only; omega)) hS dX1_init_29 (fun H locs hz9 hA_ca hk9 hS => ?_)
  have hO := hO.keep hk9 (by first | exact id | exact rfl | omega | (dsimp only; omega))
  have hV := hV.keep hk9 (by first | exact id | exact rfl | omega | (dsimp only; omega))
  have hO_rt := hO_rt.keep hk9 (by first | exact id | exact rfl | omega | (dsimp only; omega))
  refine lv_dup hx hb dX1_init_30 rfl ?_
  refine lv_iconst (v := nI 1) hx hb dX1_init_31 (by decide) ?_
  refine lv_iconst (v := nI 0) hx hb dX1_init_32 (by decide) ?_
  refine zx_ast (i := 1) (x := 0) hx hb hK hA_ca (by omega) (by omega)  (by first | exact rfl | omega | (dsimp only; omega)) hS dX1_init_33 (fun H locs hz9 hA_ca hk9 hS => ?_)
  have hO := hO.keep hk9 (by first | exact id | exact rfl | omega | (dsimp only; omega))
  have hV := hV.keep hk9 (by first | exact id | exact rfl | omega | (dsimp only; omega))
  have hO_rt := hO_rt.keep hk9 (by first | exact id | exact rfl | omega | (dsimp only; omega))
  refine lv_dup hx hb dX1_init_34 rfl ?_
  refine lv_iconst (v := nI 2) hx hb dX1_init_35 (by decide) ?_
  refine lv_iconst (v := nI 0) hx hb dX1_init_36 (by decide) ?_
  refine zx_ast (i := 2) (x := 0) hx hb hK hA_ca (by omega) (by omega)  (by first | exact rfl | omega | (dsimp only; omega)) hS dX1_init_37 (fun H locs hz9 hA_ca hk9 hS => ?_)
  have hO := hO.keep hk9 (by first | exact id | exact rfl | omega | (dsimp only; omega))
  have hV := hV.keep hk9 (by first | exact id | exact rfl | omega | (dsimp only; omega))
  have hO_rt := hO_rt.keep hk9 (by first | exact id | exact rfl | omega | (dsimp only; omega))
  refine lv_dup hx hb dX1_init_38 rfl ?_
  refine lv_iconst (v := nI 3) hx hb dX1_init_39 (by decide) ?_
  refine lv_iconst (v := nI 0) hx hb dX1_init_40 (by decide) ?_
  refine zx_ast (i := 3) (x := 0) hx hb hK hA_ca (by omega) (by omega)  (by first | exact rfl | omega | (dsimp only; omega)) hS dX1_init_41 (fun H locs hz9 hA_ca hk9 hS => ?_)
  have hO := hO.keep hk9 (by first | exact id | exact rfl | omega | (dsimp only; omega))
  have hV := hV.keep hk9 (by first | exact id | exact rfl | omega | (dsimp only; omega))
  have hO_rt := hO_rt.keep hk9 (by first | exact id | exact rfl | omega | (dsimp only; omega))
  refine zx_put (C := RX1) (T := TX1) (N := 2) (v := .ref (ca)) hx hb hz wo_X1 tyX1 tyX1_ok nmX1 hown hK hO rfl 1 (by decide) (hz _ wf_X1_24) (fun _ h9 => h9) (Or.inr ⟨rfl, (name_of_methodNamed B.named B.method).1, rfl⟩) rfl rfl (Nat.le_of_ble_eq_true rfl) (by first | exact rfl | omega | (dsimp only; omega)) hS dX1_init_42 (fun H locs hz9 hO hk9 hS => ?_)
  have hO : zO G H (th) 2 [.ref (rt), .ref (ca)] := hO
  have hV := hV.keep hk9 (by first | exact id | exact rfl | omega | (dsimp only; omega))
  have hO_rt := hO_rt.keep hk9 (by first | exact id | exact rfl | omega | (dsimp only; omega))
  have hA_ca := hA_ca.keep hk9 (by first | exact id | exact rfl | omega | (dsimp only; omega))
  exact zx_v hx hb hr hlocks (by show 0 + 1 + 0 + 1 ≤ 2; omega) (by show 0 + 7 + 0 + 4 ≤ 11; omega) (⟨rfl, rt, ca, by omega, by omega, by omega, hO, hO_rt, hA_ca.ext cA4_0⟩) hS dX1_init_45

set_option maxHeartbeats 4000000 in
set_option maxRecDepth 100000 in
theorem c_fminit (l : Launch) (G : zG) (n0 th vl cnt wa : Nat) (pl : Int32) (nm tx : Nat) (num : Int64) (fst lst nxt : Option Nat) (hth : th < n0) (hne : vl < th) : Met l yX2_init wsX2_init ({ frames := 3, cells := 3, slots := 13, locals := 66 }) (zP G [.ref (th), .ref (vl)] (fun H => zO G H th 3 [.null, .int (nI 0), .int (nI 0)] ∧ zO G H vl 8 (vF 3 pl nm tx num fst lst nxt cnt) ∧ H.size = n0)) (zX (fun q => q = th ∨ n0 ≤ q) (fun r9 H => r9 = none ∧ ∃ fl rt ca : Nat, n0 ≤ fl ∧ fl < rt ∧ rt < ca ∧ ca < H.size ∧ zO G H th 3 [.ref fl, .int (nI 0), .int (-1)] ∧ zO G H fl 2 [.ref rt, .ref ca] ∧ zO G H rt 5 (rlF 1 false vl none none none none) ∧ zA G H ca 4 (cA4 cnt (0, wa, 0, 0, 0)))) (3) (13) (fun q => q = th ∨ n0 ≤ q) := by
  refine Met.ofW (cc := cX2_init) (maxL := 2) (ret := none) (by decide) rfl ?_
  intro p en s m args below meth c s₁ B hml hv
  obtain ⟨rfl, hP, hK⟩ := hv
  have hx := B.exec
  have hb := B.bytes
  have hr := B.returns
  have hts := atoms_spec (ws := wsX2_init) B.pre
  have hz : ∀ w ∈ zW, w.before _ s = true := fun w h => hts w (List.mem_cons_of_mem _ h)
  have hown : s.vm.findClass RX2 = some m.cls := findClass_of_methodNamed B.named
  have hlocks := B.notSynchronized
  obtain ⟨hO, hV, hn0⟩ := id hP
  have hS : va_S (fun q => q = th ∨ n0 ≤ q) s.heap s.heap [] := va_S.rf
  have hl := lv_entry ([.ref (th), .ref (vl)]) (n := 2) (Nat.le_of_ble_eq_true rfl)
  rw [lg_entry_eq]
  generalize (lg_sl ([.ref (th), .ref (vl)]) ++ List.replicate (2 - (lg_sl ([.ref (th), .ref (vl)])).length) Slot.unset).toArray = ls at hl ⊢
  have hl : lv_has ls 2 [(0, .ref (th)), (1, .ref (vl))] := hl
  refine lv_aload_n hx hb dX2_init_0 rfl (lv_at hl 0 rfl) ?_
  refine W.objInit hx hb hown (hz _ wm_X2_3) (hz _ wOn) (hz _ wOc) rfl (hl.1.trans hml.symm) rfl dX2_init_1 (by show 1 ≤ _; exact Nat.le_of_ble_eq_true rfl) (by show _ ≤ _; exact Nat.le_of_ble_eq_true rfl) ?_
  refine W.eq (g2 := F0 m 4 ls ([])) rfl ?_
  refine lv_aload_n hx hb dX2_init_4 rfl (lv_at hl 0 rfl) ?_
  refine lv_iconst (v := (-1)) hx hb dX2_init_5 (by decide) ?_
  refine zx_put (C := RX2) (T := TX2) (N := 3) (v := .int ((-1))) hx hb hz wo_X2 tyX2 tyX2_ok nmX2 hown hK hO rfl 2 (by decide) (hz _ wf_X2_9) (fun _ h9 => h9) (Or.inl rfl) rfl rfl (Nat.le_of_ble_eq_true rfl) (by first | exact rfl | omega | (dsimp only; omega)) hS dX2_init_6 (fun H locs hz9 hO hk9 hS => ?_)
  have hO : zO G H (th) 3 [.null, .int (nI (0)), .int ((-1))] := hO
  have hV := hV.keep hk9 (by first | exact id | exact rfl | omega | (dsimp only; omega))
  refine lv_aload_n hx hb dX2_init_9 rfl (lv_at hl 0 rfl) ?_
  refine zx_new (C := RX1) (T := TX1) (N := 2) (ci := 2) (fs := [.null, .null]) hx hb hz wo_X1 tyX1 tyX1_ok hown (hz _ wl_X2_15) (hz _ wa_X1) (hz _ wi_X1) hK rfl df_X1 (by show 0 + 1 ≤ 3; omega) (by show 0 + 2 ≤ 13; omega) hS dX2_init_10 (fun fl H he_fl hz9 hO_fl hk9 hS => ?_)
  have hO := hO.keep hk9 (by first | exact id | exact rfl | omega | (dsimp only; omega))
  have hV := hV.keep hk9 (by first | exact id | exact rfl | omega | (dsimp only; omega))
  refine lv_dup hx hb dX2_init_13 rfl ?_
  refine lv_aload_n hx hb dX2_init_14 rfl (lv_at hl 1 rfl) ?_
  refine zx_IN (As := [.ref (vl)]) (rest := [.ref (fl), .ref (th)]) (b := fl) ⟨hx, hb, hml, hown, hts⟩ (c_finit l G H.size fl vl cnt wa pl nm tx num fst lst nxt (by omega) (by omega) (by omega)) ⟨va_cnB 1 hts (zgN wc_X1_init) rfl rfl rfl (hK.2.1 _ wm_X2_17) (hz _ wi_X1) (by decide +kernel) ⟨Nat.le_of_ble_eq_true rfl, Nat.le_of_ble_eq_true rfl⟩, rfl, hz _ wn_X1_init⟩ hK ⟨hO_fl, hV, rfl⟩ rfl hl.1 rfl (Nat.le_of_ble_eq_true rfl) dX2_init_15 ⟨by show 0 + 1 + 2 ≤ 3; omega, by show 0 + 2 + 11 ≤ 13; omega⟩ hS (by intro q hq; first | omega | (dsimp only at hq ⊢; omega)) (fun r9 H locs hPo hz9 hk9 hS => ?_)
  have hO := hO.keep hk9 (by first | exact id | exact rfl | omega | (dsimp only; omega))
  have hV := hV.keep hk9 (by first | exact id | exact rfl | omega | (dsimp only; omega))
  obtain ⟨rfl, rt, ca, hr1, hr2, hr3, hO_fl, hO_rt, hA_ca⟩ := hPo
  refine W.eq (g2 := F0 m 18 ls ([.ref (fl), .ref (th)])) rfl ?_
  refine zx_put (C := RX2) (T := TX2) (N := 3) (v := .ref (fl)) hx hb hz wo_X2 tyX2 tyX2_ok nmX2 hown hK hO rfl 0 (by decide) (hz _ wf_X2_20) (fun _ h9 => h9) (Or.inr ⟨rfl, (name_of_methodNamed B.named B.method).1, rfl⟩) rfl rfl (Nat.le_of_ble_eq_true rfl) (by first | exact rfl | omega | (dsimp only; omega)) hS dX2_init_18 (fun H locs hz9 hO hk9 hS => ?_)
  have hO : zO G H (th) 3 [.ref (fl), .int (nI (0)), .int ((-1))] := hO
  have hV := hV.keep hk9 (by first | exact id | exact rfl | omega | (dsimp only; omega))
  have hO_fl := hO_fl.keep hk9 (by first | exact id | exact rfl | omega | (dsimp only; omega))
  have hO_rt := hO_rt.keep hk9 (by first | exact id | exact rfl | omega | (dsimp only; omega))
  have hA_ca := hA_ca.keep hk9 (by first | exact id | exact rfl | omega | (dsimp only; omega))
  exact zx_v hx hb hr hlocks (by show 0 + 1 + 2 ≤ 3; omega) (by show 0 + 2 + 11 ≤ 13; omega) (⟨rfl, fl, rt, ca, by omega, by omega, by omega, by omega, hO, hO_fl, hO_rt, hA_ca⟩) hS dX2_init_21

set_option maxHeartbeats 4000000 in
set_option maxRecDepth 100000 in
theorem c_make (l : Launch) (G : zG) (f : Nat → Nat) (pf : Nat → Int32) (Z : Nat → Prop) (h8 : ∀ i, f i < 256) (n0 mk fl rt ca c0 vl a0 nb wa : Nat) (hok : okV f 16 3 a0) (how : okW f 16 3 a0) (hZm : ∀ q, Z q ∨ q < cB G → q < mk) (hd1 : mk < fl) (hd2 : fl < rt) (hd3 : rt < ca) (hcn9 : ca < n0) (hc30 : cst 30 f 16 a0 ≤ 40 * nb) (hc80 : cst 80 f 16 a0 ≤ 40 * nb) : Met l yX2_make wsX2_make ({ frames := 101, cells := 40 * nb, slots := 40 * nb, locals := 2670 }) (zP G [.ref (mk)] (fun H => MKs G H mk fl rt ca c0 pf (0, wa, 0, 0, 0) ∧ zO G H rt 5 (rlF 1 false vl none none none none) ∧ VNr G H f pf Z vl a0 ∧ CH G H ∧ H.size = n0)) (zX (fun q => q = mk ∨ q = ca ∨ q = rt ∨ n0 ≤ q) (fun r9 H => r9 = none ∧ ∃ T : cS, MKs G H mk fl rt ca c0 pf T ∧ eqS T ((ckF f 16).2 a0 (0, wa, 0, 0, 0)) ∧ (T.1 = 0 → ∃ rs : List Nat, zO G H rt 5 (rlF 1 false vl none rs.head? rs.getLast? none) ∧ (RuL G H f pf Z 16).2 n0 H.size rs (els f a0)))) (40 * nb) (40 * nb) (fun q => q = mk ∨ q = ca ∨ q = rt ∨ n0 ≤ q) := by
  refine Met.ofW (cc := cX2_make) (maxL := 1) (ret := none) (by decide) rfl ?_
  intro p en s m args below meth c s₁ B hml hv
  obtain ⟨rfl, hP, hK⟩ := hv
  have hx := B.exec
  have hb := B.bytes
  have hr := B.returns
  have hts := atoms_spec (ws := wsX2_make) B.pre
  have hz : ∀ w ∈ zW, w.before _ s = true := fun w h => hts w (List.mem_cons_of_mem _ h)
  have hown : s.vm.findClass RX2 = some m.cls := findClass_of_methodNamed B.named
  have hlocks := B.notSynchronized
  obtain ⟨⟨hMk, hFl, hCa⟩, hH, hVN, hCH, hn0⟩ := id hP
  have hS : va_S (fun q => q = mk ∨ q = ca ∨ q = rt ∨ n0 ≤ q) s.heap s.heap [] := va_S.rf
  obtain ⟨IH1, IH2⟩ := c_make_all l G f pf Z h8 15
  have hl := lv_entry ([.ref (mk)]) (n := 1) (Nat.le_of_ble_eq_true rfl)
  rw [lg_entry_eq]
  generalize (lg_sl ([.ref (mk)]) ++ List.replicate (1 - (lg_sl ([.ref (mk)])).length) Slot.unset).toArray = ls at hl ⊢
  have hl : lv_has ls 1 [(0, .ref (mk))] := hl
  refine lv_aload_n hx hb dX2_make_0 rfl (lv_at hl 0 rfl) ?_
  refine lv_aload_n hx hb dX2_make_1 rfl (lv_at hl 0 rfl) ?_
  refine zi_get (C := RX2) (T := TX2) (N := 3) (v := .ref (fl)) hx hb hz wo_X2 hown hK hMk rfl 0 (by decide) (hz _ wf_X2_20) (fun _ h9 => h9) rfl dX2_make_2 ?_
  refine zi_getN (C := RX1) (T := TX1) (N := 2) (v := .ref (rt)) hx hb hz wo_X1 hown hK hFl rfl 0 (by decide) wf_X2_24 (fun _ h9 => h9) rfl dX2_make_5 ?_
  refine lv_iconst (v := nI 1) hx hb dX2_make_8 (by decide) ?_
  refine zx_V (As := [.ref (rt), .int (nI (1))]) (rest := []) ⟨hx, hb, hml, hown, hts⟩ (c_aClR l G f pf Z 15 IH1 IH2 n0 mk fl rt ca c0 rt 1 false vl none none a0 nb (0, wa, 0, 0, 0) 1 15 (by omega) hok how rfl ⟨by show 0 < 6; decide, by show 0 ≤ 102; decide, fun _ => by show 0 ≤ 100; decide⟩ hZm hd1 (by omega) (by omega) (by omega) (by omega) (by omega) (by omega) (by decide) hc30 hc80) (cwV 2 hts (zgV wm_X2_28 wv_X2_addClauses) rfl rfl rfl (by decide +kernel) ⟨show 5 * 16 + 20 + 1 ≤ 101 by omega, show 8 + (4 + 11) + (140 * 16 + 400) ≤ 2670 by omega⟩) hK hMk rfl ⟨⟨hMk, hFl, hCa⟩, hH, hVN, hCH, hn0⟩ rfl hl.1 rfl (Nat.le_of_ble_eq_true rfl) dX2_make_9 ⟨by show 0 + (40 * nb) ≤ 40 * nb; omega, by show 0 + (40 * nb) ≤ 40 * nb; omega⟩ hS (by intro q hq; first | omega | (dsimp only at hq ⊢; omega)) (fun r9 H locs hPo hz9 hk9 hS => ?_)
  obtain ⟨rfl, T, hMM, hEq, hRu⟩ := hPo
  refine W.eq (g2 := F0 m 12 ls ([])) rfl ?_
  exact zx_v hx hb hr hlocks (by show 0 + (40 * nb) ≤ 40 * nb; omega) (by show 0 + (40 * nb) ≤ 40 * nb; omega) (⟨rfl, T, hMM, hEq, hRu⟩) hS dX2_make_12
