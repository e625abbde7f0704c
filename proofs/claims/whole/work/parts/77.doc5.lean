set_option maxHeartbeats 4000000 in
set_option maxRecDepth 100000 in
theorem c_add0 (l : Launch) (G : zG) (v p9 k : Nat) (pl : Int32) (nm tx : Nat) (num : Int64) (nxt : Option Nat) : Met l yX9_add wsX9_add ({ frames := 0, cells := 0, slots := 0, locals := 0 }) (zP G [.ref (v), .ref (p9)] (fun H => zO G H v 8 (vF k pl nm tx num none none nxt 0))) (zX (fun q => q = v) (fun r9 H => r9 = none ∧ zO G H v 8 (vF k pl nm tx num (some p9) (some p9) nxt 1))) (0) (0) (fun q => q = v) := by
  refine Met.ofW (cc := cX9_add) (maxL := 2) (ret := none) (by decide) rfl ?_
  intro p en s m args below meth c s₁ B hml hv
  obtain ⟨rfl, hP, hK⟩ := hv
  have hx := B.exec
  have hb := B.bytes
  have hr := B.returns
  have hts := atoms_spec (ws := wsX9_add) B.pre
  have hz : ∀ w ∈ zW, w.before _ s = true := fun w h => hts w (List.mem_cons_of_mem _ h)
  have hown : s.vm.findClass RX9 = some m.cls := findClass_of_methodNamed B.named
  have hlocks := B.notSynchronized
  have hS : va_S (fun q => q = v) s.heap s.heap [] := va_S.rf
  have hl := lv_entry ([.ref (v), .ref (p9)]) (n := 2) (Nat.le_of_ble_eq_true rfl)
  rw [lg_entry_eq]
  generalize (lg_sl ([.ref (v), .ref (p9)]) ++ List.replicate (2 - (lg_sl ([.ref (v), .ref (p9)])).length) Slot.unset).toArray = ls at hl ⊢
  have hl : lv_has ls 2 [(0, .ref (v)), (1, .ref (p9))] := hl
  refine lv_aload_n hx hb dX9_add_0 rfl (lv_at hl 0 rfl) ?_
  refine zi_get (C := RX9) (T := TX9) (N := 9) (v := .null) hx hb hz wo_X9 hown hK hP rfl 6 (by decide) (hz _ wf_X9_25) (fun _ h9 => h9) rfl dX9_add_1 ?_
  refine lv_ifnonnullN hx hb dX9_add_4 ?_
  refine lv_aload_n hx hb dX9_add_7 rfl (lv_at hl 0 rfl) ?_
  refine lv_aload_n hx hb dX9_add_8 rfl (lv_at hl 1 rfl) ?_
  refine zx_put (C := RX9) (T := TX9) (N := 9) (v := .ref (p9)) hx hb hz wo_X9 tyX9 tyX9_ok nmX9 hown hK hP rfl 5 (by decide) (hz _ wf_X9_29) (fun _ h9 => h9) (Or.inl rfl) rfl rfl (Nat.le_of_ble_eq_true rfl) (by first | exact rfl | omega | (dsimp only; omega)) hS dX9_add_9 (fun H locs hz9 hP hk9 hS => ?_)
  have hP : zO G H (v) 8 [.int (nI (k)), .int (pl), .ref (nm), .ref (tx), .long (num), .ref (p9), .null, va_rf (nxt), .int (nI (0))] := hP
  refine lv_goto (tgt := 23) hx hb dX9_add_12 (by decide) ?_
  refine lv_aload_n hx hb dX9_add_23 rfl (lv_at hl 0 rfl) ?_
  refine lv_aload_n hx hb dX9_add_24 rfl (lv_at hl 1 rfl) ?_
  refine zx_put (C := RX9) (T := TX9) (N := 9) (v := .ref (p9)) hx hb hz wo_X9 tyX9 tyX9_ok nmX9 hown hK hP rfl 6 (by decide) (hz _ wf_X9_25) (fun _ h9 => h9) (Or.inl rfl) rfl rfl (Nat.le_of_ble_eq_true rfl) (by first | exact rfl | omega | (dsimp only; omega)) hS dX9_add_25 (fun H locs hz9 hP hk9 hS => ?_)
  have hP : zO G H (v) 8 [.int (nI (k)), .int (pl), .ref (nm), .ref (tx), .long (num), .ref (p9), .ref (p9), va_rf (nxt), .int (nI (0))] := hP
  refine lv_aload_n hx hb dX9_add_28 rfl (lv_at hl 0 rfl) ?_
  refine lv_dup hx hb dX9_add_29 rfl ?_
  refine zi_get (C := RX9) (T := TX9) (N := 9) (v := .int (nI (0))) hx hb hz wo_X9 hown hK hP rfl 8 (by decide) (hz _ wf_X9_35) (fun _ h9 => h9) rfl dX9_add_30 ?_
  refine lv_iconst (v := nI 1) hx hb dX9_add_33 (by decide) ?_
  refine zi_add hx hb dX9_add_34 ?_
  refine zx_put (C := RX9) (T := TX9) (N := 9) (v := .int (nI (1))) hx hb hz wo_X9 tyX9 tyX9_ok nmX9 hown hK hP rfl 8 (by decide) (hz _ wf_X9_35) (fun _ h9 => h9) (Or.inl rfl) rfl rfl (Nat.le_of_ble_eq_true rfl) (by first | exact rfl | omega | (dsimp only; omega)) hS dX9_add_35 (fun H locs hz9 hP hk9 hS => ?_)
  have hP : zO G H (v) 8 [.int (nI (k)), .int (pl), .ref (nm), .ref (tx), .long (num), .ref (p9), .ref (p9), va_rf (nxt), .int (nI (1))] := hP
  exact zx_v hx hb hr hlocks (by show 0 ≤ 0; omega) (by show 0 ≤ 0; omega) (⟨rfl, hP⟩) hS dX9_add_38

set_option maxHeartbeats 4000000 in
set_option maxRecDepth 100000 in
theorem c_add1 (l : Launch) (G : zG) (v p9 lq k : Nat) (pl : Int32) (nm tx : Nat) (num : Int64) (fst nxt : Option Nat) (cnt : Nat) (fsL : List Value) (hlen : fsL.length = 9) (hne : v ≠ lq) : Met l yX9_add wsX9_add ({ frames := 0, cells := 0, slots := 0, locals := 0 }) (zP G [.ref (v), .ref (p9)] (fun H => zO G H v 8 (vF k pl nm tx num fst (some lq) nxt cnt) ∧ zO G H lq 8 fsL)) (zX (fun q => q = v ∨ q = lq) (fun r9 H => r9 = none ∧ zO G H v 8 (vF k pl nm tx num fst (some p9) nxt (cnt + 1)) ∧ zO G H lq 8 (fsL.set 7 (.ref p9)))) (0) (0) (fun q => q = v ∨ q = lq) := by
  refine Met.ofW (cc := cX9_add) (maxL := 2) (ret := none) (by decide) rfl ?_
  intro p en s m args below meth c s₁ B hml hv
  obtain ⟨rfl, hP, hK⟩ := hv
  have hx := B.exec
  have hb := B.bytes
  have hr := B.returns
  have hts := atoms_spec (ws := wsX9_add) B.pre
  have hz : ∀ w ∈ zW, w.before _ s = true := fun w h => hts w (List.mem_cons_of_mem _ h)
  have hown : s.vm.findClass RX9 = some m.cls := findClass_of_methodNamed B.named
  have hlocks := B.notSynchronized
  obtain ⟨hV, hL⟩ := id hP
  have hS : va_S (fun q => q = v ∨ q = lq) s.heap s.heap [] := va_S.rf
  have hl := lv_entry ([.ref (v), .ref (p9)]) (n := 2) (Nat.le_of_ble_eq_true rfl)
  rw [lg_entry_eq]
  generalize (lg_sl ([.ref (v), .ref (p9)]) ++ List.replicate (2 - (lg_sl ([.ref (v), .ref (p9)])).length) Slot.unset).toArray = ls at hl ⊢
  have hl : lv_has ls 2 [(0, .ref (v)), (1, .ref (p9))] := hl
  refine lv_aload_n hx hb dX9_add_0 rfl (lv_at hl 0 rfl) ?_
  refine zi_get (C := RX9) (T := TX9) (N := 9) (v := .ref (lq)) hx hb hz wo_X9 hown hK hV rfl 6 (by decide) (hz _ wf_X9_25) (fun _ h9 => h9) rfl dX9_add_1 ?_
  refine lv_ifnonnull (tgt := 15) hx hb dX9_add_4 (by decide) ?_
  refine lv_aload_n hx hb dX9_add_15 rfl (lv_at hl 0 rfl) ?_
  refine zi_get (C := RX9) (T := TX9) (N := 9) (v := .ref (lq)) hx hb hz wo_X9 hown hK hV rfl 6 (by decide) (hz _ wf_X9_25) (fun _ h9 => h9) rfl dX9_add_16 ?_
  refine lv_aload_n hx hb dX9_add_19 rfl (lv_at hl 1 rfl) ?_
  refine zx_put (C := RX9) (T := TX9) (N := 9) (v := .ref (p9)) hx hb hz wo_X9 tyX9 tyX9_ok nmX9 hown hK hL rfl 7 (by decide) (hz _ wf_X9_32) (fun _ h9 => h9) (Or.inl rfl) rfl rfl (by rw [hlen]; decide) (by first | exact rfl | omega | (dsimp only; omega)) hS dX9_add_20 (fun H locs hz9 hL hk9 hS => ?_)
  have hL : zO G H (lq) 8 (fsL.set 7 (.ref (p9))) := hL
  have hV := hV.keep hk9 (by first | exact id | exact rfl | omega | (dsimp only; omega))
  refine lv_aload_n hx hb dX9_add_23 rfl (lv_at hl 0 rfl) ?_
  refine lv_aload_n hx hb dX9_add_24 rfl (lv_at hl 1 rfl) ?_
  refine zx_put (C := RX9) (T := TX9) (N := 9) (v := .ref (p9)) hx hb hz wo_X9 tyX9 tyX9_ok nmX9 hown hK hV rfl 6 (by decide) (hz _ wf_X9_25) (fun _ h9 => h9) (Or.inl rfl) rfl rfl (Nat.le_of_ble_eq_true rfl) (by first | exact rfl | omega | (dsimp only; omega)) hS dX9_add_25 (fun H locs hz9 hV hk9 hS => ?_)
  have hV : zO G H (v) 8 [.int (nI (k)), .int (pl), .ref (nm), .ref (tx), .long (num), va_rf (fst), .ref (p9), va_rf (nxt), .int (nI (cnt))] := hV
  have hL := hL.keep hk9 (by first | exact id | exact rfl | omega | (dsimp only; omega))
  refine lv_aload_n hx hb dX9_add_28 rfl (lv_at hl 0 rfl) ?_
  refine lv_dup hx hb dX9_add_29 rfl ?_
  refine zi_get (C := RX9) (T := TX9) (N := 9) (v := .int (nI (cnt))) hx hb hz wo_X9 hown hK hV rfl 8 (by decide) (hz _ wf_X9_35) (fun _ h9 => h9) rfl dX9_add_30 ?_
  refine lv_iconst (v := nI 1) hx hb dX9_add_33 (by decide) ?_
  refine zi_add hx hb dX9_add_34 ?_
  refine zx_put (C := RX9) (T := TX9) (N := 9) (v := .int (nI (cnt + 1))) hx hb hz wo_X9 tyX9 tyX9_ok nmX9 hown hK hV rfl 8 (by decide) (hz _ wf_X9_35) (fun _ h9 => h9) (Or.inl rfl) rfl rfl (Nat.le_of_ble_eq_true rfl) (by first | exact rfl | omega | (dsimp only; omega)) hS dX9_add_35 (fun H locs hz9 hV hk9 hS => ?_)
  have hV : zO G H (v) 8 [.int (nI (k)), .int (pl), .ref (nm), .ref (tx), .long (num), va_rf (fst), .ref (p9), va_rf (nxt), .int (nI (cnt + 1))] := hV
  have hL := hL.keep hk9 (by first | exact id | exact rfl | omega | (dsimp only; omega))
  exact zx_v hx hb hr hlocks (by show 0 ≤ 0; omega) (by show 0 ≤ 0; omega) (⟨rfl, hV, hL⟩) hS dX9_add_38

/-- one more element at the end of a value's list -/
theorem c_addK (l : Launch) (G : zG) (v p9 k : Nat) (pl : Int32) (nm tx : Nat) (num : Int64) (nxt : Option Nat) (f : Nat → Nat) (pf : Nat → Int32) (d lo hi hi2 x : Nat) (vs xs : List Nat) (hv : v < lo) (hp : hi ≤ p9) (hcb : cB G ≤ v) (hlo : lo ≤ hi) : Met l yX9_add wsX9_add ({ frames := 0, cells := 0, slots := 0, locals := 0 }) (zP G [.ref (v), .ref (p9)] (fun H => zO G H v 8 (vF k pl nm tx num vs.head? vs.getLast? nxt vs.length) ∧ KL G H f pf d lo hi vs xs ∧ Nod G H f pf d p9 hi2 (f x) (vo f x) (nL f x) (pf x) none)) (zX (fun q => q = v ∨ (lo ≤ q ∧ q < hi)) (fun r9 H => r9 = none ∧ zO G H v 8 (vF k pl nm tx num (vs ++ [p9]).head? (vs ++ [p9]).getLast? nxt (vs ++ [p9]).length) ∧ KL G H f pf d lo hi2 (vs ++ [p9]) (xs ++ [x]))) 0 0 (fun q => q = v ∨ (lo ≤ q ∧ q < hi)) := by
  by_cases hvs : vs = []
  · subst hvs
    refine Met.toX (c_add0 l G v p9 k pl nm tx num nxt) (fun H h => h.1) (fun q h => Or.inl h) (fun r H H1 h hz hk hq => ?_)
    obtain ⟨h1, h2, h3⟩ := h
    have e := kidL_nil h2
    subst e
    exact ⟨hq.1, hq.2, KL.one (by omega) (h3.keep hk (fun q hq => by omega))⟩
  · obtain ⟨lq, hlq⟩ := getLast_some hvs
    by_cases hr : lo ≤ lq ∧ lq < hi
    · have h0 := Met.exX (fun i : {fsL : List Value // fsL.length = 9} => c_add1 l G v p9 lq k pl nm tx num vs.head? nxt vs.length i.1 i.2 (by omega))
      refine MetFree.mono h0 (fun a s h9 => ?_) (fun _ _ _ _ _ h9 => h9) (fun a s o t h9 hx => ?_)
      · obtain ⟨e, ⟨h1, h2, h3⟩, hK⟩ := h9
        obtain ⟨fsL, g1, g2, -, -⟩ := KL.last h2 hlq
        rw [hlq] at h1
        exact ⟨e, ⟨⟨fsL, g1⟩, h1, g2⟩, hK⟩
      · obtain ⟨⟨i, hpi, r, e, h1, h2⟩, L, hF, hL⟩ := hx
        obtain ⟨-, ⟨q1, q2, q3⟩, -⟩ := h9
        obtain ⟨w1, w2, w3⟩ := h1
        refine ⟨⟨r, e, ⟨w1, ?_, ?_⟩, h2.mono (fun q hq => by omega)⟩, L, hF, fun q hq => (hL q hq).elim (fun z => Or.inl z) (fun z => Or.inr (by have z : q.base = lq := z; rw [z]; exact hr))⟩
        · rw [head_app hvs, last_app, len_app]; exact w2
        · exact KL.app hpi.2 w3 i.2 h2.2 hcb q2 hlq (by omega) hp (q3.keep h2.2 (fun q hq => by omega))
    · refine Met.ofW (cc := cX9_add) (maxL := 2) (ret := none) (by decide) rfl ?_
      intro p en s m args below meth c s₁ B hml hv9
      obtain ⟨fsL, g1, g2, g3, g4⟩ := KL.last hv9.2.1.2.1 hlq
      exact absurd ⟨g3, g4⟩ hr

set_option maxHeartbeats 4000000 in
set_option maxRecDepth 100000 in
theorem c_rv_ (l : Launch) (G : zG) (tp qb cn : Nat) (f : Nat → Nat) (e : Nat) (he : e ≤ 15) (IH : C_rp l G tp qb cn f e) (n0 rd el k : Nat) (pl : Int32) (nm : Nat) (w : List Nat) (at9 e9 dp : Nat) (hk : k < 256) (htr : tp < rd) (hqr : qb < rd) (hre : rd < el) (hae : at9 ≤ e9) (he2 : e9 ≤ 2000) (hdp : dp = 16 - e) : Met l yX0_readValue wsX0_readValue (rRd 9 230 e (4 * useV f (16 - e) k at9 e9 + 3) (10 * useV f (16 - e) k at9 e9 + 4)) (zP G [.ref (rd), .ref (el), .int (nI (e9)), .int (nI (dp))] (fun H => zO G H rd 1 [.ref tp, .int (nI at9)] ∧ TP G tp qb cn f H ∧ zO G H el 8 (vF k pl nm (G.2.2 "") 0 none none none 0) ∧ StrZ G H (Zr G el n0) nm w ∧ CH G H ∧ H.size = n0 ∧ cB G ≤ rd)) (zX (fun q => q = rd ∨ q = el ∨ n0 ≤ q) (fun r9 H => r9 = some (.int (nI (nB (vOK f (16 - e) k at9 e9)))) ∧ (vOK f (16 - e) k at9 e9 = true → zO G H rd 1 [.ref tp, .int (nI (at9 + ln f k at9))] ∧ Nod G H f nI e el H.size k at9 w pl none))) (4 * useV f (16 - e) k at9 e9 + 3) (10 * useV f (16 - e) k at9 e9 + 4) (fun q => q = rd ∨ q = el ∨ n0 ≤ q) := by
  refine Met.ofW (cc := cX0_readValue) (maxL := 4) (ret := (some .boolean)) (by decide) rfl ?_
  intro p en s m args below meth c s₁ B hml hv
  obtain ⟨rfl, hP, hK⟩ := hv
  have hx := B.exec
  have hb := B.bytes
  have hr := B.returns
  have hts := atoms_spec (ws := wsX0_readValue) B.pre
  have hz : ∀ w ∈ zW, w.before _ s = true := fun w h => hts w (List.mem_cons_of_mem _ h)
  have hown : s.vm.findClass RX0 = some m.cls := findClass_of_methodNamed B.named
  have hlocks := B.notSynchronized
  obtain ⟨hRd, hT, hEl, hNm, hCH, hn0, hcr⟩ := id hP
  have hS : va_S (fun q => q = rd ∨ q = el ∨ n0 ≤ q) s.heap s.heap [] := va_S.rf
  have h8 := hT.2.2
  have hel := hEl.lt
  have htl := hT.1.lt
  have hql := hT.2.1.lt
  have hl := lv_entry ([.ref (rd), .ref (el), .int (nI (e9)), .int (nI (dp))]) (n := 4) (Nat.le_of_ble_eq_true rfl)
  rw [lg_entry_eq]
  generalize (lg_sl ([.ref (rd), .ref (el), .int (nI (e9)), .int (nI (dp))]) ++ List.replicate (4 - (lg_sl ([.ref (rd), .ref (el), .int (nI (e9)), .int (nI (dp))])).length) Slot.unset).toArray = ls at hl ⊢
  have hl : lv_has ls 4 [(0, .ref (rd)), (1, .ref (el)), (2, .int (nI (e9))), (3, .int (nI (dp)))] := hl
  refine lv_aload_n hx hb dX0_readValue_0 rfl (lv_at hl 1 rfl) ?_
  refine zi_getN (C := RX9) (T := TX9) (N := 9) (v := .int (nI (k))) hx hb hz wo_X9 hown hK hEl rfl 0 (by decide) wf_X0_69 (fun _ h9 => h9) rfl dX0_readValue_1 ?_
  by_cases c_4_2 : k = 2
  · refine zi_tab hx hb dX0_readValue_4 (by omega) 114 (by rw [c_4_2]; decide) ?_
    have hut := useV_txt (f := f) (dep := 16 - e) (a := at9) (last := e9)
    rw [← c_4_2] at hut
    refine lv_aload_n hx hb dX0_readValue_114 rfl (lv_at hl 0 rfl) ?_
    refine lv_aload_n hx hb dX0_readValue_115 rfl (lv_at hl 1 rfl) ?_
    refine lv_iload_n hx hb dX0_readValue_116 rfl (lv_at hl 2 rfl) ?_
    refine zx_V (As := [.ref (el), .int (nI (e9))]) (rest := []) ⟨hx, hb, hml, hown, hts⟩ (c_rtext l G n0 rd tp qb cn el f at9 e9 pl nm (G.2.2 "") ⟨by omega, by omega, by omega, by omega, by omega⟩ hae he2) (cwV 2 hts (zgV wm_X0_79 wv_X0_readText) rfl rfl rfl (by decide +kernel) ⟨by show 5 + 1 ≤ _; simp only [headSpec]; omega, by show 8 + (_ + 11) + 121 ≤ _; simp only [headSpec]; omega⟩) hK hRd rfl ⟨hRd, hT, by rw [c_4_2] at hEl; exact hEl, hCH, hn0, hcr, by omega⟩ rfl hl.1 rfl (Nat.le_of_ble_eq_true rfl) dX0_readValue_117 ⟨by show 0 + 3 ≤ 4 * useV f (16 - e) k at9 e9 + 3; omega, by show 0 + (2 * uT f at9 e9 + 4) ≤ 10 * useV f (16 - e) k at9 e9 + 4; omega⟩ hS (by intro q hq; first | omega | (dsimp only at hq ⊢; omega)) (fun r9 H locs hPo hz9 hk9 hS => ?_)
    have hT := hT.keep hk9 ⟨by first | exact id | exact rfl | omega | (dsimp only; omega), by first | exact id | exact rfl | omega | (dsimp only; omega)⟩
    have hNm := hNm.keep hk9 (by intro q hq; first | exact id | (simp only [Zr, zRg] at hq ⊢; omega))
    have hCH := hCH.keep hk9 ⟨by intro q hq; first | exact id | omega | (dsimp only; omega), by omega⟩
    obtain ⟨rfl, hVal⟩ := hPo
    refine W.eq (g2 := F0 m 120 ls ([.int (nI (nB (decide (vaF f 2 at9 e9 = 0))))])) rfl ?_
    exact zx_z hx hb hr hlocks (vOK f (16 - e) k at9 e9) (by rw [c_4_2, vOK_val rfl (by decide)]) (by show 0 + 3 ≤ 4 * useV f (16 - e) k at9 e9 + 3; omega) (by show 0 + (2 * uT f at9 e9 + 4) ≤ 10 * useV f (16 - e) k at9 e9 + 4; omega) (⟨rfl, fun hz0 => by
      rw [c_4_2] at hz0 ⊢
      rw [vOK_val rfl (by decide)] at hz0
      obtain ⟨tx1, g1, g2, g3⟩ := hVal (of_decide_eq_true hz0)
      exact ⟨g1, Nod.val (nm := nm) (tx := tx1) g2 (hNm.mono (fun q hq => by simp only [Zr] at hq ⊢; omega)) (g3.mono (fun q hq => by simp only [Zr, zRg] at hq ⊢; omega)) (by omega) (by decide)⟩⟩) hS dX0_readValue_120
  by_cases c_4_3 : k = 3
  · refine zi_tab hx hb dX0_readValue_4 (by omega) 121 (by rw [c_4_3]; decide) ?_
    refine lv_aload_n hx hb dX0_readValue_121 rfl (lv_at hl 0 rfl) ?_
    refine lv_aload_n hx hb dX0_readValue_122 rfl (lv_at hl 1 rfl) ?_
    refine lv_iload_n hx hb dX0_readValue_123 rfl (lv_at hl 2 rfl) ?_
    refine lv_iload_n hx hb dX0_readValue_124 rfl (lv_at hl 3 rfl) ?_
    refine lv_iconst (v := nI 1) hx hb dX0_readValue_125 (by decide) ?_
    refine zi_add hx hb dX0_readValue_126 ?_
    refine zx_V (As := [.ref (el), .int (nI (e9)), .int (nI (dp + 1))]) (rest := []) ⟨hx, hb, hml, hown, hts⟩ (IH n0 rd el k pl nm (G.2.2 "") at9 e9 (dp + 1) (by omega) htr hqr hre hae he2 (by omega)) (cwV 3 hts (zgV wm_X0_28 wv_X0_readParts) rfl rfl rfl (by decide +kernel) ⟨show 3 * e + 8 + 1 ≤ 3 * e + 9 by omega, show 8 + (9 + 11) + (80 * e + 200) ≤ 80 * e + 230 by omega⟩) hK hRd rfl ⟨hRd, hT, hEl, hCH, hn0, hcr⟩ rfl hl.1 rfl (Nat.le_of_ble_eq_true rfl) dX0_readValue_127 ⟨by show 0 + (4 * useV f (16 - e) k at9 e9) ≤ 4 * useV f (16 - e) k at9 e9 + 3; omega, by show 0 + (10 * useV f (16 - e) k at9 e9) ≤ 10 * useV f (16 - e) k at9 e9 + 4; omega⟩ hS (by intro q hq; first | omega | (dsimp only at hq ⊢; omega)) (fun r9 H locs hPo hz9 hk9 hS => ?_)
    have hT := hT.keep hk9 ⟨by first | exact id | exact rfl | omega | (dsimp only; omega), by first | exact id | exact rfl | omega | (dsimp only; omega)⟩
    have hNm := hNm.keep hk9 (by intro q hq; first | exact id | (simp only [Zr, zRg] at hq ⊢; omega))
    have hCH := hCH.keep hk9 ⟨by intro q hq; first | exact id | omega | (dsimp only; omega), by omega⟩
    obtain ⟨rfl, hVal⟩ := hPo
    refine W.eq (g2 := F0 m 130 ls ([.int (nI (nB (bOK f (16 - e) k at9 e9)))])) rfl ?_
    exact zx_z hx hb hr hlocks (vOK f (16 - e) k at9 e9) (by rw [vOK_box (by omega)]) (by show 0 + (4 * useV f (16 - e) k at9 e9) ≤ 4 * useV f (16 - e) k at9 e9 + 3; omega) (by show 0 + (10 * useV f (16 - e) k at9 e9) ≤ 10 * useV f (16 - e) k at9 e9 + 4; omega) (⟨rfl, fun hz0 => by
      have hk34 : k = 3 ∨ k = 4 := by omega
      rw [vOK_box hk34] at hz0
      obtain ⟨vs, g1, g2, g3⟩ := hVal hz0
      have he1 : e ≠ 0 := fun z => by have := (bOK_t hz0).2.2.1; omega
      obtain ⟨e, rfl⟩ : ∃ e1, e = e1 + 1 := ⟨e - 1, by omega⟩
      exact ⟨by rw [ln_box hk34]; exact g1, Nod.box (nm := nm) (tx := G.2.2 "") g2 (hNm.mono (fun q hq => by simp only [Zr] at hq ⊢; omega)) (hCH.emp (fun q hq => Or.inr hq)) (by omega) hk34 (g3.lo (by omega))⟩⟩) hS dX0_readValue_130
  by_cases c_4_4 : k = 4
  · refine zi_tab hx hb dX0_readValue_4 (by omega) 121 (by rw [c_4_4]; decide) ?_
    refine lv_aload_n hx hb dX0_readValue_121 rfl (lv_at hl 0 rfl) ?_
    refine lv_aload_n hx hb dX0_readValue_122 rfl (lv_at hl 1 rfl) ?_
    refine lv_iload_n hx hb dX0_readValue_123 rfl (lv_at hl 2 rfl) ?_
    refine lv_iload_n hx hb dX0_readValue_124 rfl (lv_at hl 3 rfl) ?_
    refine lv_iconst (v := nI 1) hx hb dX0_readValue_125 (by decide) ?_
    refine zi_add hx hb dX0_readValue_126 ?_
    refine zx_V (As := [.ref (el), .int (nI (e9)), .int (nI (dp + 1))]) (rest := []) ⟨hx, hb, hml, hown, hts⟩ (IH n0 rd el k pl nm (G.2.2 "") at9 e9 (dp + 1) (by omega) htr hqr hre hae he2 (by omega)) (cwV 3 hts (zgV wm_X0_28 wv_X0_readParts) rfl rfl rfl (by decide +kernel) ⟨show 3 * e + 8 + 1 ≤ 3 * e + 9 by omega, show 8 + (9 + 11) + (80 * e + 200) ≤ 80 * e + 230 by omega⟩) hK hRd rfl ⟨hRd, hT, hEl, hCH, hn0, hcr⟩ rfl hl.1 rfl (Nat.le_of_ble_eq_true rfl) dX0_readValue_127 ⟨by show 0 + (4 * useV f (16 - e) k at9 e9) ≤ 4 * useV f (16 - e) k at9 e9 + 3; omega, by show 0 + (10 * useV f (16 - e) k at9 e9) ≤ 10 * useV f (16 - e) k at9 e9 + 4; omega⟩ hS (by intro q hq; first | omega | (dsimp only at hq ⊢; omega)) (fun r9 H locs hPo hz9 hk9 hS => ?_)
    have hT := hT.keep hk9 ⟨by first | exact id | exact rfl | omega | (dsimp only; omega), by first | exact id | exact rfl | omega | (dsimp only; omega)⟩
    have hNm := hNm.keep hk9 (by intro q hq; first | exact id | (simp only [Zr, zRg] at hq ⊢; omega))
    have hCH := hCH.keep hk9 ⟨by intro q hq; first | exact id | omega | (dsimp only; omega), by omega⟩
    obtain ⟨rfl, hVal⟩ := hPo
    refine W.eq (g2 := F0 m 130 ls ([.int (nI (nB (bOK f (16 - e) k at9 e9)))])) rfl ?_
    exact zx_z hx hb hr hlocks (vOK f (16 - e) k at9 e9) (by rw [vOK_box (by omega)]) (by show 0 + (4 * useV f (16 - e) k at9 e9) ≤ 4 * useV f (16 - e) k at9 e9 + 3; omega) (by show 0 + (10 * useV f (16 - e) k at9 e9) ≤ 10 * useV f (16 - e) k at9 e9 + 4; omega) (⟨rfl, fun hz0 => by
      have hk34 : k = 3 ∨ k = 4 := by omega
      rw [vOK_box hk34] at hz0
      obtain ⟨vs, g1, g2, g3⟩ := hVal hz0
      have he1 : e ≠ 0 := fun z => by have := (bOK_t hz0).2.2.1; omega
      obtain ⟨e, rfl⟩ : ∃ e1, e = e1 + 1 := ⟨e - 1, by omega⟩
      exact ⟨by rw [ln_box hk34]; exact g1, Nod.box (nm := nm) (tx := G.2.2 "") g2 (hNm.mono (fun q hq => by simp only [Zr] at hq ⊢; omega)) (hCH.emp (fun q hq => Or.inr hq)) (by omega) hk34 (g3.lo (by omega))⟩⟩) hS dX0_readValue_130
  by_cases c_4_8 : k = 8
  · refine zi_tab hx hb dX0_readValue_4 (by omega) 90 (by rw [c_4_8]; decide) ?_
    refine lv_aload_n hx hb dX0_readValue_90 rfl (lv_at hl 0 rfl) ?_
    refine lv_aload_n hx hb dX0_readValue_91 rfl (lv_at hl 1 rfl) ?_
    refine lv_iload_n hx hb dX0_readValue_92 rfl (lv_at hl 2 rfl) ?_
    refine zx_V (As := [.ref (el), .int (nI (e9))]) (rest := []) ⟨hx, hb, hml, hown, hts⟩ (c_rtruth l G rd tp qb cn el f at9 e9 pl nm (G.2.2 "") ⟨by omega, by omega, by omega, by omega, by omega⟩ hae he2) (cwV 2 hts (zgV wm_X0_72 wv_X0_readTruth) rfl rfl rfl (by decide +kernel) ⟨by show 2 + 1 ≤ _; simp only [headSpec]; omega, by show 8 + (_ + 11) + 45 ≤ _; simp only [headSpec]; omega⟩) hK hRd rfl ⟨hRd, hT, by rw [c_4_8] at hEl; exact hEl⟩ rfl hl.1 rfl (Nat.le_of_ble_eq_true rfl) dX0_readValue_93 ⟨by show 0 + 0 ≤ 4 * useV f (16 - e) k at9 e9 + 3; omega, by show 0 + 0 ≤ 10 * useV f (16 - e) k at9 e9 + 4; omega⟩ hS (by intro q hq; first | omega | (dsimp only at hq ⊢; omega)) (fun r9 H locs hPo hz9 hk9 hS => ?_)
    have hT := hT.keep hk9 ⟨by first | exact id | exact rfl | omega | (dsimp only; omega), by first | exact id | exact rfl | omega | (dsimp only; omega)⟩
    have hNm := hNm.keep hk9 (by intro q hq; first | exact id | (simp only [Zr, zRg] at hq ⊢; omega))
    have hCH := hCH.keep hk9 ⟨by intro q hq; first | exact id | omega | (dsimp only; omega), by omega⟩
    obtain ⟨rfl, hVal⟩ := hPo
    refine W.eq (g2 := F0 m 96 ls ([.int (nI (nB (decide (vaF f 8 at9 e9 = 0))))])) rfl ?_
    exact zx_z hx hb hr hlocks (vOK f (16 - e) k at9 e9) (by rw [c_4_8, vOK_val rfl (by decide)]) (by show 0 + 0 ≤ 4 * useV f (16 - e) k at9 e9 + 3; omega) (by show 0 + 0 ≤ 10 * useV f (16 - e) k at9 e9 + 4; omega) (⟨rfl, fun hz0 => by
      rw [c_4_8] at hz0 ⊢
      rw [vOK_val rfl (by decide)] at hz0
      obtain ⟨g1, g2⟩ := hVal (of_decide_eq_true hz0)
      exact ⟨g1, Nod.val (nm := nm) (tx := G.2.2 "") g2 (hNm.mono (fun q hq => by simp only [Zr] at hq ⊢; omega)) (hCH.emp (fun q hq => Or.inr hq)) (by omega) (by decide)⟩⟩) hS dX0_readValue_96
  by_cases c_4_10 : k = 10
  · refine zi_tab hx hb dX0_readValue_4 (by omega) 88 (by rw [c_4_10]; decide) ?_
    refine lv_iconst (v := nI 1) hx hb dX0_readValue_88 (by decide) ?_
    exact zx_z hx hb hr hlocks (vOK f (16 - e) k at9 e9) (by rw [c_4_10]; rfl) (by show 0 ≤ 4 * useV f (16 - e) k at9 e9 + 3; omega) (by show 0 ≤ 10 * useV f (16 - e) k at9 e9 + 4; omega) (⟨rfl, fun _ => ⟨by rw [c_4_10]; exact hRd, Nod.val (nm := nm) (tx := G.2.2 "") (by rw [c_4_10] at hEl ⊢; exact hEl) (hNm.mono (fun q hq => by simp only [Zr] at hq ⊢; omega)) (by rw [c_4_10]; exact hCH.emp (fun q hq => Or.inr hq)) (by omega) (by omega)⟩⟩) hS dX0_readValue_89
  by_cases c_4_16 : k = 16
  · refine zi_tab hx hb dX0_readValue_4 (by omega) 97 (by rw [c_4_16]; decide) ?_
    refine lv_aload_n hx hb dX0_readValue_97 rfl (lv_at hl 0 rfl) ?_
    refine lv_aload_n hx hb dX0_readValue_98 rfl (lv_at hl 1 rfl) ?_
    refine lv_iconst (v := nI 4) hx hb dX0_readValue_99 (by decide) ?_
    refine lv_iload_n hx hb dX0_readValue_100 rfl (lv_at hl 2 rfl) ?_
    refine zx_V (As := [.ref (el), .int (nI (4)), .int (nI (e9))]) (rest := []) ⟨hx, hb, hml, hown, hts⟩ (c_rwn16 l G rd tp qb cn el f at9 e9 pl nm (G.2.2 "") ⟨by omega, by omega, by omega, by omega, by omega⟩ hae he2) (cwV 3 hts (zgV wm_X0_76 wv_X0_readWholeNumber) rfl rfl rfl (by decide +kernel) ⟨by show 2 + 1 ≤ _; simp only [headSpec]; omega, by show 8 + (_ + 11) + 45 ≤ _; simp only [headSpec]; omega⟩) hK hRd rfl ⟨hRd, hT, by rw [c_4_16] at hEl; exact hEl⟩ rfl hl.1 rfl (Nat.le_of_ble_eq_true rfl) dX0_readValue_101 ⟨by show 0 + 0 ≤ 4 * useV f (16 - e) k at9 e9 + 3; omega, by show 0 + 0 ≤ 10 * useV f (16 - e) k at9 e9 + 4; omega⟩ hS (by intro q hq; first | omega | (dsimp only at hq ⊢; omega)) (fun r9 H locs hPo hz9 hk9 hS => ?_)
    have hT := hT.keep hk9 ⟨by first | exact id | exact rfl | omega | (dsimp only; omega), by first | exact id | exact rfl | omega | (dsimp only; omega)⟩
    have hNm := hNm.keep hk9 (by intro q hq; first | exact id | (simp only [Zr, zRg] at hq ⊢; omega))
    have hCH := hCH.keep hk9 ⟨by intro q hq; first | exact id | omega | (dsimp only; omega), by omega⟩
    obtain ⟨rfl, hVal⟩ := hPo
    refine W.eq (g2 := F0 m 104 ls ([.int (nI (nB (decide (vaF f 16 at9 e9 = 0))))])) rfl ?_
    exact zx_z hx hb hr hlocks (vOK f (16 - e) k at9 e9) (by rw [c_4_16, vOK_val rfl (by decide)]) (by show 0 + 0 ≤ 4 * useV f (16 - e) k at9 e9 + 3; omega) (by show 0 + 0 ≤ 10 * useV f (16 - e) k at9 e9 + 4; omega) (⟨rfl, fun hz0 => by
      rw [c_4_16] at hz0 ⊢
      rw [vOK_val rfl (by decide)] at hz0
      obtain ⟨g1, g2⟩ := hVal (of_decide_eq_true hz0)
      exact ⟨g1, Nod.val (nm := nm) (tx := G.2.2 "") g2 (hNm.mono (fun q hq => by simp only [Zr] at hq ⊢; omega)) (hCH.emp (fun q hq => Or.inr hq)) (by omega) (by decide)⟩⟩) hS dX0_readValue_104
  by_cases c_4_18 : k = 18
  · refine zi_tab hx hb dX0_readValue_4 (by omega) 105 (by rw [c_4_18]; decide) ?_
    refine lv_aload_n hx hb dX0_readValue_105 rfl (lv_at hl 0 rfl) ?_
    refine lv_aload_n hx hb dX0_readValue_106 rfl (lv_at hl 1 rfl) ?_
    refine lv_bipush (v := nI 8) hx hb dX0_readValue_107 (by decide) ?_
    refine lv_iload_n hx hb dX0_readValue_109 rfl (lv_at hl 2 rfl) ?_
    refine zx_V (As := [.ref (el), .int (nI (8)), .int (nI (e9))]) (rest := []) ⟨hx, hb, hml, hown, hts⟩ (c_rwn18 l G rd tp qb cn el f at9 e9 pl nm (G.2.2 "") ⟨by omega, by omega, by omega, by omega, by omega⟩ hae he2) (cwV 3 hts (zgV wm_X0_76 wv_X0_readWholeNumber) rfl rfl rfl (by decide +kernel) ⟨by show 2 + 1 ≤ _; simp only [headSpec]; omega, by show 8 + (_ + 11) + 45 ≤ _; simp only [headSpec]; omega⟩) hK hRd rfl ⟨hRd, hT, by rw [c_4_18] at hEl; exact hEl⟩ rfl hl.1 rfl (Nat.le_of_ble_eq_true rfl) dX0_readValue_110 ⟨by show 0 + 0 ≤ 4 * useV f (16 - e) k at9 e9 + 3; omega, by show 0 + 0 ≤ 10 * useV f (16 - e) k at9 e9 + 4; omega⟩ hS (by intro q hq; first | omega | (dsimp only at hq ⊢; omega)) (fun r9 H locs hPo hz9 hk9 hS => ?_)
    have hT := hT.keep hk9 ⟨by first | exact id | exact rfl | omega | (dsimp only; omega), by first | exact id | exact rfl | omega | (dsimp only; omega)⟩
    have hNm := hNm.keep hk9 (by intro q hq; first | exact id | (simp only [Zr, zRg] at hq ⊢; omega))
    have hCH := hCH.keep hk9 ⟨by intro q hq; first | exact id | omega | (dsimp only; omega), by omega⟩
    obtain ⟨rfl, hVal⟩ := hPo
    refine W.eq (g2 := F0 m 113 ls ([.int (nI (nB (decide (vaF f 18 at9 e9 = 0))))])) rfl ?_
    exact zx_z hx hb hr hlocks (vOK f (16 - e) k at9 e9) (by rw [c_4_18, vOK_val rfl (by decide)]) (by show 0 + 0 ≤ 4 * useV f (16 - e) k at9 e9 + 3; omega) (by show 0 + 0 ≤ 10 * useV f (16 - e) k at9 e9 + 4; omega) (⟨rfl, fun hz0 => by
      rw [c_4_18] at hz0 ⊢
      rw [vOK_val rfl (by decide)] at hz0
      obtain ⟨g1, g2⟩ := hVal (of_decide_eq_true hz0)
      exact ⟨g1, Nod.val (nm := nm) (tx := G.2.2 "") g2 (hNm.mono (fun q hq => by simp only [Zr] at hq ⊢; omega)) (hCH.emp (fun q hq => Or.inr hq)) (by omega) (by decide)⟩⟩) hS dX0_readValue_113
  refine zi_tab hx hb dX0_readValue_4 (by omega) 131 ((zTab_d [2, 3, 4, 8, 10, 16, 18] (by decide +kernel) (by simp only [List.mem_cons, List.not_mem_nil, or_false, not_or]; exact ⟨c_4_2, c_4_3, c_4_4, c_4_8, c_4_10, c_4_16, c_4_18⟩)).trans (by decide)) ?_
  refine lv_iconst (v := nI 0) hx hb dX0_readValue_131 (by decide) ?_
  exact zx_z hx hb hr hlocks (vOK f (16 - e) k at9 e9) (by rw [vOK_no (decide_eq_false (by omega))]; rfl) (by show 0 ≤ 4 * useV f (16 - e) k at9 e9 + 3; omega) (by show 0 ≤ 10 * useV f (16 - e) k at9 e9 + 4; omega) (⟨rfl, fun hz0 => by rw [vOK_no (decide_eq_false (by omega))] at hz0; cases hz0⟩) hS dX0_readValue_132
