section ZIO
variable {p : Program} {l : Launch} {e : Env} {R : Room} {s : State} {m : MethodId} {args : Array Value} {below : List Frame} {meth : Method} {c : Code} {H : Heap} {locs : List Loc} {cells slots : Nat} {Q : State → Prop}
variable {cc : ByteArray} {pc : Nat} {ls : Array Slot} {rest : List Value} {A : Nat → Prop} {H0 : Heap}
theorem zx_Io {y : MethodName} {bytes : ByteArray} {maxL nL n index b mc ms : Nat} {ws : List Cond} {rm : Room} {P : Heap → Prop} {Post : Option Value → Heap → Prop} {A1 : Nat → Prop} {Ts : List Cond} {own : String} {As st : List Value} {G : zG} (S : CallFix p m c cc nL s args Ts own) (hM : Met l y ws rm (zPo G (.ref b :: As) P) (zX A1 Post) mc ms A1) (cw : CallB R s args own index y bytes maxL none ws rm mc ms n ∧ y.name = "<init>" ∧ (Cond.instanceMethod y).before args s = true) (hK : zK G s) (hAV : va_AO "FilterReader$Value" s) (hAF : va_AO "FilterReader$Filter" s) (hP : P H)
    (hn : As.length = n) (hsize : ls.size = nL) (hstack : st = As.reverse ++ .ref b :: rest) (hW : (rest.map fun v => v.category).sum ≤ 8) (hdg : decode cc pc = .ok (.invokespecial index, 3)) (hf : cells + mc ≤ R.cells ∧ slots + ms ≤ R.slots) (hS : va_S A H0 H locs) (hA : ∀ q, A1 q → A q)
    (kk : ∀ (r : Option Value) (H1 : Heap) (locs1 : List Loc), Post r H1 → H.size ≤ H1.size → zKp A1 H H1 → va_S A H0 H1 locs1 → W p l e R s m args below meth c H1 locs1 (cells + mc) (slots + ms) Q (F0 m (pc + 3) ls (r.toList ++ rest))) : W p l e R s m args below meth c H locs cells slots Q (F0 m pc ls st) :=
  zx_run (W.runI (e := e) (below := below) (meth := meth) (H := H) (locs := locs) (cells := cells) (slots := slots) (b := b) (As := As) (rest := rest) (g := F0 m pc ls st) S hM cw ⟨zPo_blind, fun U hU hW => ⟨⟨rfl, by rw [hU]; exact hP, zK.warm hW hK⟩, hAV.moved hW.alike, hAF.moved hW.alike⟩⟩ rfl hn hsize hstack (lv_room hW) hdg hf) hS hA kk
end ZIO
theorem shB_8 {f : Nat → Nat} {c : Nat} (h0 : f c = 5) (h1 : f (c + 1) = 0) (h2 : f (c + 2) = 0) (h3 : f (c + 3) = 0) (h4 : f (c + 4) = 0) : shB gE0 f c 5 := by
  intro j hj
  have h5 : j = 0 ∨ j = 1 ∨ j = 2 ∨ j = 3 ∨ j = 4 := by omega
  rcases h5 with e | e | e | e | e <;> subst e
  · exact h0
  · exact h1
  · exact h2
  · exact h3
  · exact h4
theorem x0_1 : X0 1 = st8 := by unfold X0; rw [if_pos rfl]
theorem x0_4 : X0 4 = (fun _ => 0) := by unfold X0; rw [if_neg (by decide)]
theorem x0_5 : X0 5 = (fun _ => 0) := by unfold X0; rw [if_neg (by decide)]
theorem x0_6 : X0 6 = (fun _ => 0) := by unfold X0; rw [if_neg (by decide)]
theorem st8_hi (j : Nat) : X0 1 (16000 + j) = 0 := by
  rw [x0_1]
  unfold st8
  exact if_neg (by omega)
theorem st8_sh {k : Nat} (hk : k < 8) : shB gE0 st8 (2000 * k) 5 := by
  apply shB_8 <;> unfold st8
  · exact if_pos (by omega)
  · exact if_neg (by omega)
  · exact if_neg (by omega)
  · exact if_neg (by omega)
  · exact if_neg (by omega)
theorem Rst_new {G : zG} {H : Heap} {mt ms sl fa o : Nat} {sv fv : Nat → Nat} (hC : CH G H) (hMt : zO G H mt 4 [.ref ms]) (hMs : zO G H ms 8 (V0 G 0)) (h1 : sl < fa) (h2 : fa < o) (hSv : ∀ j, j < 4 → sl < sv j ∧ sv j < fa ∧ zO G H (sv j) 8 (V0 G 3)) (hFv : ∀ j, j < 4 → fa < fv j ∧ ∃ w rt ca, fv j < w ∧ w < rt ∧ rt < ca ∧ ca < o ∧ zO G H (fv j) 2 [.ref rt, .ref ca] ∧ zO G H rt 5 (rlF 1 false w none none none none) ∧ zA G H ca 4 (cA4 0 (0, 0, 0, 0, 0))) : Rst G mt ms sl fa o sv fv st8 (fun _ => 0) (fun _ => 0) (fun _ => 0) H := by
  refine ⟨hC, hMt, hMs, fun j hj => ?_, fun j hj => ?_⟩
  · obtain ⟨a1, a2, a3⟩ := hSv j hj
    exact ⟨gE0, 5, sv j + 1, by decide, dcB_emp, st8_sh (by omega), nod_emp a3 hC (Nat.lt_succ_self _), Or.inl ⟨a1, by omega⟩⟩
  · obtain ⟨a1, w, rt, ca, b1, b2, b3, b4, b5, b6, b7⟩ := hFv j hj
    refine ⟨gE0, 5, rt, ca, w, w + 1, ca + 1, ca + 1, fv j, ca + 1, _, by decide, dcB_emp, ?_, ⟨by omega, by omega, by omega, by omega, by omega, by omega, by omega, by omega, by omega, by omega, Or.inr (Or.inl ⟨a1, by omega⟩)⟩, b5, b7, ⟨?_, rfl, rfl, rfl⟩, fun f2 c s1 s2 s3 => ?_⟩
    · have h := st8_sh (k := 4 + j) (by omega)
      rw [show 2000 * (4 + j) = 8000 + 2000 * j by omega] at h
      exact h
    · rw [els_emp rfl]; rfl
    · have he : els f2 c = [] := els_emp (s1 4 (by decide))
      refine ⟨0, [], ?_, b6, ?_⟩
      · show (foldS _ (els f2 c) _).1 = 0
        rw [he]; rfl
      · rw [he]
        show ca + 1 ≤ ca + 1
        exact Nat.le_refl _
set_option maxHeartbeats 4000000 in
set_option maxRecDepth 100000 in
/-- THE LAW, from its entry -/
theorem whole_start {p : Program} {e : Env} {s : State} {m : MethodId} {below : List Frame} {meth : Method} {c : Code} (l : Launch) {b L : Nat} {xs : Nat → Int32} (hL : L ≤ 3072) (C0 : lw_At p s m meth c b L xs) : W p l e room_1 s m #[Value.ref b] below meth c s.heap [] 0 0 (lw_Z below #[Value.ref b] s) (entryFrame m ([Value.ref b] : List Value).toArray 4) := by
  have C1 := C0
  obtain ⟨hx, hb, hr, hml, hown, hts0, hXs, hbl, hlocks, hgv⟩ := C1
  have hown : s.vm.findClass RL = some m.cls := hown
  have hz : ∀ w ∈ zW, w.before #[Value.ref b] s = true := fun w h => hts0 w (List.mem_filter.mp h).1
  have hts : ∀ w ∈ wsL, w.before #[Value.ref b] s = true := fun w h => (List.mem_cons.mp h).elim (fun e => by rw [e]; exact hz _ wm_L_9) (hz w)
  obtain ⟨G, hK, hCH, hcb, hAV, hAF⟩ := st_all hts0 (flat_of_before _ hgv)
  have hS : va_S (fun q : Nat => s.heap.size ≤ q) s.heap s.heap [] := va_S.rf
  have hl := lv_entry ([.ref b]) (n := 4) (Nat.le_of_ble_eq_true rfl)
  rw [lg_entry_eq]
  generalize (lg_sl ([.ref b]) ++ List.replicate (4 - (lg_sl ([.ref b])).length) Slot.unset).toArray = ls at hl ⊢
  have hl : lv_has ls 4 [(0, .ref b)] := hl
  refine zx_new (C := RX10) (T := TX10) (N := 5) (ci := 9) (fs := [.null, .null, .null, .null, .int (nI (0))]) hx hb hz wo_X10 tyX10 tyX10_ok hown (hz _ wl_L_7) (hz _ wa_X10) (hz _ wi_X10) hK rfl df_X10 (by show 0 + 1 ≤ 600000; omega) (by show 0 + 5 ≤ 7302250; omega) hS dL_law_0 (fun x H he_x hz9 hO_x hk9 hS => ?_)
  have hCH := hCH.keep hk9 ⟨by intro q hq; first | exact id | omega | (dsimp only; omega), by omega⟩
  refine lv_dup hx hb dL_law_3 rfl ?_
  refine zx_Io (As := []) (rest := [.ref (x)]) (b := x) ⟨hx, hb, hml, hown, hts⟩ (c_cinit l G H.size x (by omega)) (cwI 0 hts (zgN wc_X10_init) rfl rfl rfl (hz _ wi_X10) (hz _ wm_L_9) (hz _ wn_X10_init) rfl (by decide +kernel) ⟨Nat.le_of_ble_eq_true rfl, Nat.le_of_ble_eq_true rfl⟩) hK hAV hAF ⟨hO_x, rfl⟩ rfl hl.1 rfl (Nat.le_of_ble_eq_true rfl) dL_law_4 ⟨by show 0 + 1 + 26 ≤ 600000; omega, by show 0 + 5 + 2144 ≤ 7302250; omega⟩ hS (by intro q hq; first | omega | (dsimp only at hq ⊢; omega)) (fun r9 H locs hPo hz9 hk9 hS => ?_)
  have hCH := hCH.keep hk9 ⟨by intro q hq; first | exact id | omega | (dsimp only; omega), by omega⟩
  obtain ⟨rfl, tp, qb, mt, ms, sl, fa, sv, fv, o1, o2, o3, o4, o5, o6, o7, hX, hT, hMt, hMs, hSl, hFa, hSv, hFv⟩ := hPo
  obtain ⟨o, ho⟩ : ∃ o, o = H.size := ⟨_, rfl⟩
  have hOrd : OrdI G x tp qb mt ms sl fa o := ⟨by omega, by omega, o2, o3, o4, o5, o6, by omega⟩
  have hRst : Rst G mt ms sl fa o sv fv st8 (fun _ => 0) (fun _ => 0) (fun _ => 0) H := Rst_new hCH hMt hMs (by omega) (by omega) hSv (fun j hj => by have h := hFv j hj; obtain ⟨w1, w2, w3, w4, w5, w6, w7, w8, w9⟩ := h; exact ⟨w1, w2, w3, w4, w5, w6, w7, by omega, w9⟩)
  refine W.eq (g2 := F0 m 7 ls ([.ref (x)])) rfl ?_
  refine lv_astore_n (lv' := [(1, .ref (x)), (0, .ref (b))]) hx hb dL_law_7 rfl hl (by decide) rfl (fun ls hl => ?_)
  refine zx_new (C := RX11) (T := TX11) (N := 23) (ci := 10) (fs := [.int (nI (0)), .null, .int (nI (0)), .int (nI (0)), .null, .null, .null, .int (nI (0)), .int (nI (0)), .int (nI (0)), .int (nI (0)), .int (nI (0)), .null, .int (nI (0)), .int (nI (0)), .null, .null, .null, .null, .null, .null, .null, .int (nI (0))]) hx hb hz wo_X11 tyX11 tyX11_ok hown (hz _ wl_L_10) (hz _ wa_X11) (hz _ wi_X11) hK rfl df_X11 (by show 0 + 1 + 26 + 1 ≤ 600000; omega) (by show 0 + 5 + 2144 + 23 ≤ 7302250; omega) hS dL_law_8 (fun q1 H he_q1 hz9 hO_q1 hk9 hS => ?_)
  have hCH := hCH.keep hk9 ⟨by intro q hq; first | exact id | omega | (dsimp only; omega), by omega⟩
  have hX := hX.keep hk9 (by first | exact id | exact rfl | omega | (dsimp only; omega))
  have hT := hT.keep hk9 ⟨by first | exact id | exact rfl | omega | (dsimp only; omega), by first | exact id | exact rfl | omega | (dsimp only; omega)⟩
  have hSl := hSl.keep hk9 (by first | exact id | exact rfl | omega | (dsimp only; omega))
  have hFa := hFa.keep hk9 (by first | exact id | exact rfl | omega | (dsimp only; omega))
  have hRst := hRst.keep (x := x) (tp := tp) (qb := qb) hk9 ⟨hOrd, by omega, fun q _ hq => hq.elim⟩
  have hq1o : q1 = o := by omega
  subst hq1o
  have hz8 : H.size = q1 + 1 := hz9
  refine lv_dup hx hb dL_law_11 rfl ?_
  refine zx_I (As := []) (rest := [.ref (q1)]) (b := q1) ⟨hx, hb, hml, hown, hts⟩ (c_xinit l G (q1 + 1) q1 (by omega)) (cwI 0 hts (zgN wc_X11_init) rfl rfl rfl (hz _ wi_X11) (hz _ wm_L_12) (hz _ wn_X11_init) rfl (by decide +kernel) ⟨Nat.le_of_ble_eq_true rfl, Nat.le_of_ble_eq_true rfl⟩) hK ⟨hO_q1, hz8⟩ rfl hl.1 rfl (Nat.le_of_ble_eq_true rfl) dL_law_12 ⟨by show 0 + 1 + 26 + 1 + 12 ≤ 600000; omega, by show 0 + 5 + 2144 + 23 + 23092 ≤ 7302250; omega⟩ hS (by intro q hq; first | omega | (dsimp only at hq ⊢; omega)) (fun r9 H locs hPo hz9 hk9 hS => ?_)
  have hCH := hCH.keep hk9 ⟨by intro q hq; first | exact id | omega | (dsimp only; omega), by omega⟩
  have hX := hX.keep hk9 (by first | exact id | exact rfl | omega | (dsimp only; omega))
  have hT := hT.keep hk9 ⟨by first | exact id | exact rfl | omega | (dsimp only; omega), by first | exact id | exact rfl | omega | (dsimp only; omega)⟩
  have hSl := hSl.keep hk9 (by first | exact id | exact rfl | omega | (dsimp only; omega))
  have hFa := hFa.keep hk9 (by first | exact id | exact rfl | omega | (dsimp only; omega))
  have hRst := hRst.keep hk9 ⟨hOrd, hz9, by intro q hq hq2; unfold Ex; first | omega | (dsimp only at hq2; omega)⟩
  obtain ⟨rfl, hs12, hR⟩ := hPo
  have hR : RS G q1 (qo q1) 0 (-1) 0 0 0 0 0 0 0 false X0 H := hR
  have hT : TP G tp qb 0 (fun j => X0 1 (16000 + j)) H := by rw [show (fun j => X0 1 (16000 + j)) = (fun _ => 0) from funext fun j => st8_hi j]; exact hT
  have hRst : Rst G mt ms sl fa q1 sv fv (X0 1) (X0 4) (X0 5) (X0 6) H := by rw [x0_1, x0_4, x0_5, x0_6]; exact hRst
  refine W.eq (g2 := F0 m 15 ls ([.ref (q1)])) rfl ?_
  refine lv_astore_n (lv' := [(2, .ref (q1)), (1, .ref (x)), (0, .ref (b))]) hx hb dL_law_15 rfl hl (by decide) rfl (fun ls hl => ?_)
  refine lv_iconst (v := nI 0) hx hb dL_law_16 (by decide) ?_
  refine lv_istore_n (lv' := [(3, .int (nI (0))), (2, .ref (q1)), (1, .ref (x)), (0, .ref (b))]) hx hb dL_law_17 rfl hl (by decide) rfl (fun ls hl => ?_)
  have hI : Inv G x tp qb mt ms sl fa q1 sv fv 0 (-1) X0 H := ⟨hOrd, by omega, by omega, ⟨0, 0, 0, 0, 0, 0, 0, false, hR⟩, hX, hT, hSl, hFa, hRst⟩
  exact law_loop hL C0 hK (by omega) (L + 1) 0 0 sv fv 0 (-1) X0 H _ _ _ ls rfl (Nat.zero_le _) (by omega) hI hS (by omega) (by omega) (lv_sub hl [3, 2, 1, 0] rfl)
