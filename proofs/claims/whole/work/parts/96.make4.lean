set_option maxHeartbeats 4000000 in
set_option maxRecDepth 100000 in
theorem c_aJd (l : Launch) (G : zG) (f : Nat → Nat) (pf : Nat → Int32) (Z : Nat → Prop) (d : Nat) (IH2 : C_aF l G f pf Z d) (n0 mk fl rt ca c0 h sg : Nat) (ng : Bool) (vl : Nat) (pa nx : Option Nat) (x : Nat) (S : cS) (dp tv : Nat) (htd : tv ≤ d) (hfx : f x = 4) (hok : okV f (tv + 1) 4 (vo f x)) (how : okW f (tv + 1) 4 (vo f x)) (h0 : S.1 = 0) (hsi : sInv S) (hZm : ∀ q, Z q ∨ q < cB G → q < mk) (hd1 : mk < fl) (hd2 : fl < ca) (hmh : mk < h) (hhf : h ≠ fl) (hhc : h ≠ ca) (hhn : h < n0) (hcn9 : ca < n0) (hdp : dp + tv = 17) : Met l yX2_addJoined wsX2_addJoined (rMk 22 470 d (cst 30 f (tv + 1) (vo f x)) (cst 80 f (tv + 1) (vo f x))) (zP G [.ref (mk), .ref (h), .int (nI (dp))] (fun H => MKs G H mk fl rt ca c0 pf S ∧ zO G H h 5 (rlF sg ng vl pa none none nx) ∧ VNp G H f pf Z vl x ∧ CH G H ∧ H.size = n0)) (zX (fun q => q = mk ∨ q = ca ∨ q = h ∨ n0 ≤ q) (fun r9 H => r9 = none ∧ ∃ T : cS, MKs G H mk fl rt ca c0 pf T ∧ eqS T (foldS (gJ f d) (els f (vo f x)) S) ∧ (T.1 = 0 → ∃ rs : List Nat, zO G H h 5 (rlF sg ng vl pa rs.head? rs.getLast? nx) ∧ zR9 (rPk9 G f pf Z d) H n0 H.size rs (els f (vo f x))))) (cst 30 f (tv + 1) (vo f x)) (cst 80 f (tv + 1) (vo f x)) (fun q => q = mk ∨ q = ca ∨ q = h ∨ n0 ≤ q) := by
  refine Met.ofW (cc := cX2_addJoined) (maxL := 5) (ret := none) (by decide) rfl ?_
  intro p en s m args below meth c s₁ B hml hv
  obtain ⟨rfl, hP, hK⟩ := hv
  have hx := B.exec
  have hb := B.bytes
  have hr := B.returns
  have hts := atoms_spec (ws := wsX2_addJoined) B.pre
  have hz : ∀ w ∈ zW, w.before _ s = true := fun w h => hts w (List.mem_cons_of_mem _ h)
  have hown : s.vm.findClass RX2 = some m.cls := findClass_of_methodNamed B.named
  have hlocks := B.notSynchronized
  obtain ⟨⟨hMk, hFl, hCa⟩, hH, hVN, hCH, hn0⟩ := id hP
  have hS : va_S (fun q => q = mk ∨ q = ca ∨ q = h ∨ n0 ≤ q) s.heap s.heap [] := va_S.rf
  obtain ⟨nm, tx, vs, nxt, hO, hkv0, hvl0⟩ := hVN.kids (Or.inr hfx)
  have hl := lv_entry ([.ref (mk), .ref (h), .int (nI (dp))]) (n := 5) (Nat.le_of_ble_eq_true rfl)
  rw [lg_entry_eq]
  generalize (lg_sl ([.ref (mk), .ref (h), .int (nI (dp))]) ++ List.replicate (5 - (lg_sl ([.ref (mk), .ref (h), .int (nI (dp))])).length) Slot.unset).toArray = ls at hl ⊢
  have hl : lv_has ls 5 [(0, .ref (mk)), (1, .ref (h)), (2, .int (nI (dp)))] := hl
  refine lv_aload_n hx hb dX2_addJoined_0 rfl (lv_at hl 1 rfl) ?_
  refine zi_getN (C := RX6) (T := TX6) (N := 7) (v := .ref (vl)) hx hb hz wo_X6 hown hK hH rfl 2 (by decide) wf_X2_32 (fun _ h9 => h9) rfl dX2_addJoined_1 ?_
  refine zi_getN (C := RX9) (T := TX9) (N := 9) (v := va_rf (vs.head?)) hx hb hz wo_X9 hown hK hO rfl 5 (by decide) wf_X2_38 (fun _ h9 => h9) rfl dX2_addJoined_4 ?_
  refine zo_astore_n (lv' := [(3, va_rf (vs.head?)), (0, .ref (mk)), (1, .ref (h)), (2, .int (nI (dp)))]) hx hb dX2_addJoined_7 rfl hl (by decide) rfl (fun ls hl => ?_)
  have L8 : ∀ (n_ : Nat) (ws : List Nat) (us : List Nat) (rs : List Nat) (ts : List Nat) (T : cS) (cl sl : Nat), ws.length < n_ → (∀ z ∈ us, z ∈ els f (vo f x)) → (T.1 = 0 → foldS (gJ f d) (els f (vo f x)) S = foldS (gJ f d) us T ∧ els f (vo f x) = ts ++ us ∧ sInv T) → (T.1 ≠ 0 → eqS T (foldS (gJ f d) (els f (vo f x)) S)) → (T.1 < 6) → (cl + cstL 30 f (cst 30 f tv) us ≤ cst 30 f (tv + 1) (vo f x)) → (sl + cstL 80 f (cst 80 f tv) us ≤ cst 80 f (tv + 1) (vo f x)) → ∀ (H : Heap) (locs : List Loc), (MKs G H mk fl rt ca c0 pf T) → (kidV G H f pf Z ws us) → (CH G H) → (T.1 = 0 → zO G H h 5 (rlF sg ng vl pa rs.head? rs.getLast? nx) ∧ zR9 (rPk9 G f pf Z d) H n0 H.size rs ts) → (n0 ≤ H.size) → va_S (fun q => q = mk ∨ q = ca ∨ q = h ∨ n0 ≤ q) s.heap H locs → ∀ ls : Array Slot, lv_has ls 5 [(0, .ref (mk)), (1, .ref (h)), (2, .int (nI (dp))), (3, va_rf (ws.head?))] → W p l en (headSpec wsX2_addJoined (rMk 22 470 d (cst 30 f (tv + 1) (vo f x)) (cst 80 f (tv + 1) (vo f x)))).room s m ([.ref (mk), .ref (h), .int (nI (dp))] : List Value).toArray below meth c H locs cl sl (MQ below (zX (fun q => q = mk ∨ q = ca ∨ q = h ∨ n0 ≤ q) (fun r9 H => r9 = none ∧ ∃ T : cS, MKs G H mk fl rt ca c0 pf T ∧ eqS T (foldS (gJ f d) (els f (vo f x)) S) ∧ (T.1 = 0 → ∃ rs : List Nat, zO G H h 5 (rlF sg ng vl pa rs.head? rs.getLast? nx) ∧ zR9 (rPk9 G f pf Z d) H n0 H.size rs (els f (vo f x))))) ([.ref (mk), .ref (h), .int (nI (dp))] : List Value).toArray s (cst 30 f (tv + 1) (vo f x)) (cst 80 f (tv + 1) (vo f x)) (fun q => q = mk ∨ q = ca ∨ q = h ∨ n0 ≤ q)) (F0 m 8 ls []) := by
    intro n_
    induction n_ with
    | zero => intro ws us rs ts T cl sl hm_; exact absurd hm_ (Nat.not_lt_zero _)
    | succ n_ ih_ =>
      intro ws us rs ts T cl sl hm_ hXi hF1 hF2 hT6 hcl hsl H locs hMM hkv hCH hCnd hsz hS ls hl
      obtain ⟨hMk, hFl, hCa⟩ := id hMM
      obtain ⟨sz, hsze⟩ : ∃ z, H.size = z := ⟨_, rfl⟩
      refine zo_aload_n hx hb dX2_addJoined_8 rfl (lv_at hl 3 rfl) ?_
      rcases ws with _ | ⟨v1, vs1⟩
      · have hl : lv_has ls 5 [(0, .ref (mk)), (1, .ref (h)), (2, .int (nI (dp))), (3, .null)] := hl
        have hus := kidV_nil hkv
        subst hus
        refine W.eq (g2 := F0 m 9 ls ([.null])) rfl ?_
        refine lv_ifnullN (tgt := 70) hx hb dX2_addJoined_9 (by decide) ?_
        exact zx_v hx hb hr hlocks (by show cl ≤ cst 30 f (tv + 1) (vo f x); omega) (by show sl ≤ cst 80 f (tv + 1) (vo f x); omega) (⟨rfl, T, hMM, ac_end (f := f) (fun z => (hF1 z).1) hF2, fun z => ⟨rs, (hCnd z).1, by have h9 := (hF1 z).2.1; rw [List.append_nil] at h9; rw [h9]; exact (hCnd z).2⟩⟩) hS dX2_addJoined_70
      · have hl : lv_has ls 5 [(0, .ref (mk)), (1, .ref (h)), (2, .int (nI (dp))), (3, .ref (v1))] := hl
        obtain ⟨x1, xs1, rfl, hVq, hkv1⟩ := kidV_cons hkv
        refine W.eq (g2 := F0 m 9 ls ([.ref (v1)])) rfl ?_
        refine lv_ifnull hx hb dX2_addJoined_9 ?_
        refine lv_aload_n hx hb dX2_addJoined_12 rfl (lv_at hl 0 rfl) ?_
        refine zi_get (C := RX2) (T := TX2) (N := 3) (v := .int (nI (T.1))) hx hb hz wo_X2 hown hK hMk rfl 1 (by decide) (hz _ wf_X2_43) (fun _ h9 => h9) rfl dX2_addJoined_13 ?_
        refine zi_if_ne (tgt := 70) hx hb dX2_addJoined_16 (by decide) (by omega) (fun c_16 => ?_) (fun c_16 => ?_)
        · exact zx_v hx hb hr hlocks (by show cl ≤ cst 30 f (tv + 1) (vo f x); omega) (by show sl ≤ cst 80 f (tv + 1) (vo f x); omega) (⟨rfl, T, hMM, hF2 c_16, fun z => absurd z c_16⟩) hS dX2_addJoined_70
        · obtain ⟨hH, hR9⟩ := hCnd c_16
          rw [hsze] at hR9
          obtain ⟨hF1a, hF1b, hF1c⟩ := hF1 c_16
          have hxm := hXi x1 List.mem_cons_self
          have hok1 := (hok.2 (Or.inr rfl)).2 x1 hxm
          have how1 := how.2.2 (Or.inr rfl) x1 hxm
          have hfb := hok1.b.1
          have hcc3 := cstL_c (K := 30) (f := f) (sub := cst 30 f tv) (x := x1) (xs := xs1)
          have hcc8 := cstL_c (K := 80) (f := f) (sub := cst 80 f tv) (x := x1) (xs := xs1)
          have hce3 := cE1_ge (K := 30) (f := f) (sub := cst 30 f tv) (x := x1)
          have hce8 := cE1_ge (K := 80) (f := f) (sub := cst 80 f tv) (x := x1)
          have hv1m := hZm v1 (Or.inl hVq.p.z)
          have hVN := hVq.p
          obtain ⟨hv1, hN1, -⟩ := id hVq
          obtain ⟨nm1, tx1, f1, l1, n1, hO1, -⟩ := hN1.o
          refine lv_aload_n hx hb dX2_addJoined_19 rfl (lv_at hl 3 rfl) ?_
          refine zi_getN (C := RX9) (T := TX9) (N := 9) (v := .int (nI (f x1))) hx hb hz wo_X9 hown hK hO1 rfl 0 (by decide) wf_X2_72 (fun _ h9 => h9) rfl dX2_addJoined_20 ?_
          refine lv_iconst (v := nI 3) hx hb dX2_addJoined_23 (by decide) ?_
          refine zi_icmp_ne (tgt := 56) hx hb dX2_addJoined_24 (by decide) (by omega) (by omega) (fun c_24 => ?_) (fun c_24 => ?_)
          · have hk3 : f x1 ≠ 3 := by omega
            refine lv_aload_n hx hb dX2_addJoined_56 rfl (lv_at hl 0 rfl) ?_
            refine lv_iconst (v := nI 2) hx hb dX2_addJoined_57 (by decide) ?_
            refine lv_aload_n hx hb dX2_addJoined_58 rfl (lv_at hl 3 rfl) ?_
            refine zx_V (As := [.int (nI (2)), .ref (v1)]) (rest := []) ⟨hx, hb, hml, hown, hts⟩ (c_refuse l G mk fl rt ca c0 pf T f Z v1 x1 2 (by decide) c_16 hZm hd1 hd2) (cwV 2 hts (zgV wm_X2_68 wv_X2_refuse) rfl rfl rfl (by decide +kernel) ⟨by show 0 + 1 ≤ _; simp only [headSpec]; omega, by show 8 + (_ + 11) + 0 ≤ _; simp only [headSpec]; omega⟩) hK hMk rfl ⟨⟨hMk, hFl, hCa⟩, hVN⟩ rfl hl.1 rfl (Nat.le_of_ble_eq_true rfl) dX2_addJoined_59 ⟨by show cl + 0 ≤ cst 30 f (tv + 1) (vo f x); omega, by show sl + 0 ≤ cst 80 f (tv + 1) (vo f x); omega⟩ hS (by intro q hq; first | omega | (dsimp only at hq ⊢; omega)) (fun r9 H locs hPo hz9 hk9 hS => ?_)
            have hVN := hVN.keep hk9 (by intro q hq; have hq1 := hZm q hq; first | exact id | omega | (dsimp only; omega))
            have hO1 := hO1.keep hk9 (by first | exact id | exact rfl | omega | (dsimp only; omega))
            have hkv1 := hkv1.keep hk9 (by intro q hq; have hq1 := hZm q hq; first | exact id | omega | (dsimp only; omega))
            have hCH := hCH.keep hk9 ⟨by intro q hq; have hq1 := hZm q (Or.inr hq); first | exact id | omega | (dsimp only; omega), by omega⟩
            have hH := hH.keep hk9 (by first | exact id | exact rfl | omega | (dsimp only; omega))
            have hR9 := zR9.keep (rK_P G f pf Z d) hR9 hk9 (by intro q hq; exact hq.elim (fun hq => by first | exact id | omega | (dsimp only; omega)) (fun hq => by have hq1 := hZm q hq; first | exact id | omega | (dsimp only; omega)))
            obtain ⟨rfl, hMM1⟩ := hPo
            obtain ⟨T1, hT1⟩ : ∃ z, z = sSay T 2 x1 := ⟨_, rfl⟩
            rw [← hT1] at hMM1
            have hEq1 : eqS T1 (gJ f d x1 T) := by rw [gJ_n hk3, hT1]; exact eqS.rf _
            obtain ⟨rs1, hrs1⟩ : ∃ z, z = rs ++ [v1] := ⟨_, rfl⟩
            have hCnd1 : T1.1 = 0 → zO G H h 5 (rlF sg ng vl pa rs1.head? rs1.getLast? nx) ∧ zR9 (rPk9 G f pf Z d) H n0 H.size rs1 (ts ++ [x1]) := fun z => absurd z (by rw [hT1]; exact sSay_w (by decide))
            have hst := foldS_st c_16 hF1a hEq1
            refine W.eq (g2 := F0 m 62 ls ([])) rfl ?_
            refine lv_aload_n hx hb dX2_addJoined_62 rfl (lv_at hl 3 rfl) ?_
            refine zi_getN (C := RX9) (T := TX9) (N := 9) (v := va_rf (vs1.head?)) hx hb hz wo_X9 hown hK hO1 rfl 7 (by decide) wf_X2_61 (fun _ h9 => h9) rfl dX2_addJoined_63 ?_
            refine zo_astore_n (lv' := [(3, va_rf (vs1.head?)), (0, .ref (mk)), (1, .ref (h)), (2, .int (nI (dp)))]) hx hb dX2_addJoined_66 rfl hl (by decide) rfl (fun ls hl => ?_)
            refine lv_goto (tgt := 8) hx hb dX2_addJoined_67 (by decide) ?_
            exact ih_ vs1 xs1 rs1 (ts ++ [x1]) T1 (cl + 0) (sl + 0) (by simp only [List.length_cons] at hm_; omega) (fun z hz => hXi z (List.mem_cons_of_mem _ hz)) (fun z => ⟨hst.1 z, by rw [hF1b]; simp, by rw [hEq1.2.2 z]; exact gJ_inv f d x1 T hF1c c_16⟩) hst.2 (by rw [hEq1.1]; exact (gJ_inv f d x1 T hF1c c_16).1) (by omega) (by omega) _ _ hMM1 hkv1 hCH hCnd1 (by omega) hS ls (lv_sub hl [1, 2, 3, 0] rfl)
          · have hk3 : f x1 = 3 := by omega
            have hcb := cE1_b (K := 30) (sub := cst 30 f tv) (Or.inl hk3)
            have hcb8 := cE1_b (K := 80) (sub := cst 80 f tv) (Or.inl hk3)
            refine zx_new (C := RX6) (T := TX6) (N := 7) (ci := 5) (fs := [.int (nI (0)), .int (nI (0)), .null, .null, .null, .null, .null]) hx hb hz wo_X6 tyX6 tyX6_ok hown (hz _ wl_X2_33) (hz _ wa_X6) (hz _ wi_X6) hK rfl df_X6 (by show cl + 1 ≤ cst 30 f (tv + 1) (vo f x); omega) (by show sl + 7 ≤ cst 80 f (tv + 1) (vo f x); omega) hS dX2_addJoined_27 (fun r H he_r hz9 hO_r hk9 hS => ?_)
            have hMk := hMk.keep hk9 (by first | exact id | exact rfl | omega | (dsimp only; omega))
            have hFl := hFl.keep hk9 (by first | exact id | exact rfl | omega | (dsimp only; omega))
            have hCa := hCa.keep hk9 (by first | exact id | exact rfl | omega | (dsimp only; omega))
            have hVN := hVN.keep hk9 (by intro q hq; have hq1 := hZm q hq; first | exact id | omega | (dsimp only; omega))
            have hO1 := hO1.keep hk9 (by first | exact id | exact rfl | omega | (dsimp only; omega))
            have hkv1 := hkv1.keep hk9 (by intro q hq; have hq1 := hZm q hq; first | exact id | omega | (dsimp only; omega))
            have hCH := hCH.keep hk9 ⟨by intro q hq; have hq1 := hZm q (Or.inr hq); first | exact id | omega | (dsimp only; omega), by omega⟩
            have hH := hH.keep hk9 (by first | exact id | exact rfl | omega | (dsimp only; omega))
            have hR9 := zR9.keep (rK_P G f pf Z d) hR9 hk9 (by intro q hq; exact hq.elim (fun hq => by first | exact id | omega | (dsimp only; omega)) (fun hq => by have hq1 := hZm q hq; first | exact id | omega | (dsimp only; omega)))
            refine lv_dup hx hb dX2_addJoined_30 rfl ?_
            refine lv_iconst (v := nI 1) hx hb dX2_addJoined_31 (by decide) ?_
            refine lv_iconst (v := nI 0) hx hb dX2_addJoined_32 (by decide) ?_
            refine lv_aload_n hx hb dX2_addJoined_33 rfl (lv_at hl 3 rfl) ?_
            refine lv_null hx hb dX2_addJoined_34 ?_
            refine zx_IN (As := [.int (nI (1)), .int (nI (0)), .ref (v1), .null]) (rest := [.ref (r)]) (b := r) ⟨hx, hb, hml, hown, hts⟩ (c_rlinit_n l G r 1 false v1 0) ⟨va_cnB 4 hts (zgN wc_X6_init) rfl rfl rfl (hK.2.1 _ wm_X2_92) (hz _ wi_X6) (by decide +kernel) ⟨by show 1 + 1 ≤ _; simp only [headSpec]; omega, by show 8 + (_ + 11) + 21 ≤ _; simp only [headSpec]; omega⟩, rfl, hz _ wn_X6_init⟩ hK hO_r rfl hl.1 rfl (Nat.le_of_ble_eq_true rfl) dX2_addJoined_35 ⟨by show cl + 1 + 0 ≤ cst 30 f (tv + 1) (vo f x); omega, by show sl + 7 + 0 ≤ cst 80 f (tv + 1) (vo f x); omega⟩ hS (by intro q hq; first | omega | (dsimp only at hq ⊢; omega)) (fun r9 H locs hPo hz9 hk9 hS => ?_)
            have hMk := hMk.keep hk9 (by first | exact id | exact rfl | omega | (dsimp only; omega))
            have hFl := hFl.keep hk9 (by first | exact id | exact rfl | omega | (dsimp only; omega))
            have hCa := hCa.keep hk9 (by first | exact id | exact rfl | omega | (dsimp only; omega))
            have hVN := hVN.keep hk9 (by intro q hq; have hq1 := hZm q hq; first | exact id | omega | (dsimp only; omega))
            have hO1 := hO1.keep hk9 (by first | exact id | exact rfl | omega | (dsimp only; omega))
            have hkv1 := hkv1.keep hk9 (by intro q hq; have hq1 := hZm q hq; first | exact id | omega | (dsimp only; omega))
            have hCH := hCH.keep hk9 ⟨by intro q hq; have hq1 := hZm q (Or.inr hq); first | exact id | omega | (dsimp only; omega), by omega⟩
            have hH := hH.keep hk9 (by first | exact id | exact rfl | omega | (dsimp only; omega))
            have hR9 := zR9.keep (rK_P G f pf Z d) hR9 hk9 (by intro q hq; exact hq.elim (fun hq => by first | exact id | omega | (dsimp only; omega)) (fun hq => by have hq1 := hZm q hq; first | exact id | omega | (dsimp only; omega)))
            obtain ⟨rfl, hO_r⟩ := hPo
            refine W.eq (g2 := F0 m 38 ls ([.ref (r)])) rfl ?_
            refine lv_astore (lv' := [(4, .ref (r)), (0, .ref (mk)), (1, .ref (h)), (2, .int (nI (dp))), (3, .ref (v1))]) hx hb dX2_addJoined_38 hl (by decide) rfl (fun ls hl => ?_)
            refine lv_aload_n hx hb dX2_addJoined_40 rfl (lv_at hl 2 rfl) ?_
            refine lv_aload hx hb dX2_addJoined_41 (lv_at hl 0 rfl) ?_
            refine zx_VN (As := [.ref (r)]) (rest := []) ⟨hx, hb, hml, hown, hts⟩ (c_raddK l G Z (rPk9 G f pf Z d) (rK_P G f pf Z d) h r sg ng vl pa nx n0 sz rs ts hhn (fun q hq => by have hq1 := hZm q hq; omega)) ⟨va_cnB 1 hts (zgN wc_X6_add) rfl rfl rfl (hK.2.1 _ wm_X2_95) (hz _ wi_X6) (by decide +kernel) ⟨by show 0 + 1 ≤ _; simp only [headSpec]; omega, by show 8 + (_ + 11) + 0 ≤ _; simp only [headSpec]; omega⟩, hz _ wn_X6_add, hz _ we_X6_add⟩ hK hH rfl ⟨hH, hR9⟩ rfl hl.1 rfl (Nat.le_of_ble_eq_true rfl) dX2_addJoined_43 ⟨by show cl + 1 + 0 + 0 ≤ cst 30 f (tv + 1) (vo f x); omega, by show sl + 7 + 0 + 0 ≤ cst 80 f (tv + 1) (vo f x); omega⟩ hS (by intro q hq; first | omega | (dsimp only at hq ⊢; omega)) (fun r9 H locs hPo hz9 hk9 hS => ?_)
            have hMk := hMk.keep hk9 (by first | exact id | exact rfl | omega | (dsimp only; omega))
            have hFl := hFl.keep hk9 (by first | exact id | exact rfl | omega | (dsimp only; omega))
            have hCa := hCa.keep hk9 (by first | exact id | exact rfl | omega | (dsimp only; omega))
            have hVN := hVN.keep hk9 (by intro q hq; have hq1 := hZm q hq; first | exact id | omega | (dsimp only; omega))
            have hO1 := hO1.keep hk9 (by first | exact id | exact rfl | omega | (dsimp only; omega))
            have hkv1 := hkv1.keep hk9 (by intro q hq; have hq1 := hZm q hq; first | exact id | omega | (dsimp only; omega))
            have hCH := hCH.keep hk9 ⟨by intro q hq; have hq1 := hZm q (Or.inr hq); first | exact id | omega | (dsimp only; omega), by omega⟩
            have hO_r := hO_r.keep hk9 (by first | exact id | exact rfl | omega | (dsimp only; omega))
            obtain ⟨rfl, hH, hT9⟩ := hPo
            refine W.eq (g2 := F0 m 46 ls ([])) rfl ?_
            refine lv_aload_n hx hb dX2_addJoined_46 rfl (lv_at hl 1 rfl) ?_
            refine lv_aload hx hb dX2_addJoined_47 (lv_at hl 0 rfl) ?_
            refine lv_iload_n hx hb dX2_addJoined_49 rfl (lv_at hl 3 rfl) ?_
            refine zx_V (As := [.ref (r), .int (nI (dp))]) (rest := []) ⟨hx, hb, hml, hown, hts⟩ (IH2 H.size mk fl rt ca c0 r 1 false v1 none none x1 T dp tv htd hk3 (by rw [hk3] at hok1; exact hok1) (by rw [hk3] at how1; exact how1) c_16 hF1c hZm hd1 hd2 (by omega) (by omega) (by omega) (by omega) (by omega) hdp) (cwV 2 hts (zgV wm_X2_28 wv_X2_addClauses) rfl rfl rfl (by decide +kernel) ⟨show 5 * d + 20 + 1 ≤ 5 * d + 22 by omega, show 8 + (4 + 11) + (140 * d + 400) ≤ 140 * d + 470 by omega⟩) hK hMk rfl ⟨⟨hMk, hFl, hCa⟩, hO_r, hVN, hCH, rfl⟩ rfl hl.1 rfl (Nat.le_of_ble_eq_true rfl) dX2_addJoined_50 ⟨by show cl + 1 + 0 + 0 + (cst 30 f tv (vo f x1)) ≤ cst 30 f (tv + 1) (vo f x); omega, by show sl + 7 + 0 + 0 + (cst 80 f tv (vo f x1)) ≤ cst 80 f (tv + 1) (vo f x); omega⟩ hS (by intro q hq; first | omega | (dsimp only at hq ⊢; omega)) (fun r9 H locs hPo hz9 hk9 hS => ?_)
            have hVN := hVN.keep hk9 (by intro q hq; have hq1 := hZm q hq; first | exact id | omega | (dsimp only; omega))
            have hO1 := hO1.keep hk9 (by first | exact id | exact rfl | omega | (dsimp only; omega))
            have hkv1 := hkv1.keep hk9 (by intro q hq; have hq1 := hZm q hq; first | exact id | omega | (dsimp only; omega))
            have hCH := hCH.keep hk9 ⟨by intro q hq; have hq1 := hZm q (Or.inr hq); first | exact id | omega | (dsimp only; omega), by omega⟩
            have hH := hH.keep hk9 (by first | exact id | exact rfl | omega | (dsimp only; omega))
            have hT9 := zT9.keep (rK_P G f pf Z d) hT9 hk9 (by intro q hq; exact hq.elim (fun hq => by first | exact id | omega | (dsimp only; omega)) (fun hq => by have hq1 := hZm q hq; first | exact id | omega | (dsimp only; omega)))
            obtain ⟨rfl, T1, hMM1, hEq2, hRu⟩ := hPo
            have hEq1 : eqS T1 (gJ f d x1 T) := by rw [gJ_3 hk3]; exact hEq2
            obtain ⟨rs1, hrs1⟩ : ∃ z, z = rs ++ [r] := ⟨_, rfl⟩
            have hCnd1 : T1.1 = 0 → zO G H h 5 (rlF sg ng vl pa rs1.head? rs1.getLast? nx) ∧ zR9 (rPk9 G f pf Z d) H n0 H.size rs1 (ts ++ [x1]) := fun z => by subst hrs1; obtain ⟨rs2, g1, g2⟩ := hRu z; exact ⟨hH, jd_fin hT9 g1 (by omega) (by omega) hVN.v (RuF_lo g2 (by omega))⟩
            have hst := foldS_st c_16 hF1a hEq1
            refine W.eq (g2 := F0 m 53 ls ([])) rfl ?_
            refine lv_goto (tgt := 62) hx hb dX2_addJoined_53 (by decide) ?_
            refine lv_aload_n hx hb dX2_addJoined_62 rfl (lv_at hl 4 rfl) ?_
            refine zi_getN (C := RX9) (T := TX9) (N := 9) (v := va_rf (vs1.head?)) hx hb hz wo_X9 hown hK hO1 rfl 7 (by decide) wf_X2_61 (fun _ h9 => h9) rfl dX2_addJoined_63 ?_
            refine zo_astore_n (lv' := [(3, va_rf (vs1.head?)), (4, .ref (r)), (0, .ref (mk)), (1, .ref (h)), (2, .int (nI (dp)))]) hx hb dX2_addJoined_66 rfl hl (by decide) rfl (fun ls hl => ?_)
            refine lv_goto (tgt := 8) hx hb dX2_addJoined_67 (by decide) ?_
            exact ih_ vs1 xs1 rs1 (ts ++ [x1]) T1 (cl + 1 + 0 + 0 + (cst 30 f tv (vo f x1))) (sl + 7 + 0 + 0 + (cst 80 f tv (vo f x1))) (by simp only [List.length_cons] at hm_; omega) (fun z hz => hXi z (List.mem_cons_of_mem _ hz)) (fun z => ⟨hst.1 z, by rw [hF1b]; simp, by rw [hEq1.2.2 z]; exact gJ_inv f d x1 T hF1c c_16⟩) hst.2 (by rw [hEq1.1]; exact (gJ_inv f d x1 T hF1c c_16).1) (by omega) (by omega) _ _ hMM1 hkv1 hCH hCnd1 (by omega) hS ls (lv_sub hl [2, 3, 4, 0] rfl)
  exact L8 ((vs.length) + 1) vs (els f (vo f x)) ([]) ([]) S (0) (0) (Nat.lt_succ_self _) (fun _ z => z) (fun _ => ⟨rfl, rfl, hsi⟩) (fun z => absurd h0 z) hsi.1 (by show 0 + _ ≤ _; exact Nat.le_of_eq (Nat.zero_add _)) (by show 0 + _ ≤ _; exact Nat.le_of_eq (Nat.zero_add _)) _ _ ⟨hMk, hFl, hCa⟩ hkv0 hCH (fun _ => ⟨hH, by show n0 ≤ _; omega⟩) (by omega) hS ls (lv_sub hl [1, 2, 3, 0] rfl)
