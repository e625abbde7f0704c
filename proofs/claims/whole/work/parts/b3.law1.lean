/-- how the law goes on behind a turn -/
def LwK (p : Program) (l : Launch) (en : Env) (s : State) (m : MethodId) (below : List Frame) (meth : Method) (c : Code) (b : Nat) (G : zG) (x tp qb mt ms sl fa o i0 cn cells slots : Nat) : Prop := ∀ (sv1 fv1 : Nat → Nat) (cn1 : Nat) (pl1 : Int32) (X1 : Nat → Nat → Nat) (H1 : Heap) (locs1 : List Loc) (c1 s1 : Nat) (ls1 : Array Slot), Inv G x tp qb mt ms sl fa o sv1 fv1 cn1 pl1 X1 H1 → va_S (fun q => s.heap.size ≤ q) s.heap H1 locs1 → c1 + 44 * cn1 ≤ cells + 44 * cn + 886 → s1 + 50 * cn1 ≤ slots + 50 * cn + 1027 → lv_has ls1 4 [(0, .ref b), (1, .ref x), (2, .ref o), (3, .int (nI i0))] → W p l en room_1 s m #[Value.ref b] below meth c H1 locs1 c1 s1 (lw_Z below #[Value.ref b] s) (F0 m 344 ls1 [])
def wsL : List Cond := Cond.methodLink RL 9 yX10_init :: zW
set_option maxHeartbeats 4000000 in
set_option maxRecDepth 100000 in
theorem law_feed {p : Program} {l : Launch} {en : Env} {s : State} {m : MethodId} {below : List Frame} {meth : Method} {c : Code} {b L : Nat} {xs : Nat → Int32} (hL : L ≤ 3072) (C0 : lw_At p s m meth c b L xs) {G : zG} (hK : zK G s) {x tp qb mt ms sl fa o : Nat} {sv fv : Nat → Nat} {cn : Nat} {pl : Int32} {X : Nat → Nat → Nat} {H : Heap} {locs : List Loc} {cells slots i0 : Nat} (hI : Inv G x tp qb mt ms sl fa o sv fv cn pl X H) (hi0 : i0 + 6 ≤ L) (hns : s.heap.size ≤ x) (hS : va_S (fun q => s.heap.size ≤ q) s.heap H locs) (hcc : cells + 44 * cn + 886 ≤ 600000) (hss : slots + 50 * cn + 1027 ≤ 7302250) {ls : Array Slot} (hl : lv_has ls 4 [(0, .ref b), (1, .ref x), (2, .ref o), (3, .int (nI i0))]) (hc : cn + 20 ≤ 2000) (kk : LwK p l en s m below meth c b G x tp qb mt ms sl fa o i0 cn cells slots) : W p l en room_1 s m #[Value.ref b] below meth c H locs cells slots (lw_Z below #[Value.ref b] s) (F0 m 80 ls []) := by
  obtain ⟨hx, hb, hr, hml, hown, hts0, hXs, hbl, hlocks, hgv⟩ := C0
  have hown : s.vm.findClass RL = some m.cls := hown
  have hz : ∀ w ∈ zW, w.before #[Value.ref b] s = true := fun w h => hts0 w (List.mem_filter.mp h).1
  have hts : ∀ w ∈ wsL, w.before #[Value.ref b] s = true := fun w h => (List.mem_cons.mp h).elim (fun e => by rw [e]; exact hz _ wm_L_9) (hz w)
  have hbA : ¬ (fun q : Nat => s.heap.size ≤ q) b := Nat.not_le.mpr hbl
  obtain ⟨hOrd, hsz, hcn, ⟨wr, wa, nc, np, ns, f9, nd, u, hR⟩, hX, hT, hSl, hFa, hRst⟩ := hI
  have hord := hOrd
  unfold OrdI at hord
  refine lv_aload_n hx hb dL_law_80 rfl (lv_at hl 1 rfl) ?_
  refine lv_aload_n hx hb dL_law_81 rfl (lv_at hl 0 rfl) ?_
  refine lv_iload_n hx hb dL_law_82 rfl (lv_at hl 3 rfl) ?_
  refine lv_iconst (v := nI 1) hx hb dL_law_83 (by decide) ?_
  refine zi_add hx hb dL_law_84 ?_
  refine zl_ald (v := xs (i0 + 1)) hx hb hXs hbl hbA hS (show i0 + 1 < L by omega) hL rfl dL_law_85 ?_
  refine lv_aload_n hx hb dL_law_86 rfl (lv_at hl 0 rfl) ?_
  refine lv_iload_n hx hb dL_law_87 rfl (lv_at hl 3 rfl) ?_
  refine lv_iconst (v := nI 2) hx hb dL_law_88 (by decide) ?_
  refine zi_add hx hb dL_law_89 ?_
  refine zl_ald (v := xs (i0 + 2)) hx hb hXs hbl hbA hS (show i0 + 2 < L by omega) hL rfl dL_law_90 ?_
  refine lv_aload_n hx hb dL_law_91 rfl (lv_at hl 0 rfl) ?_
  refine lv_iload_n hx hb dL_law_92 rfl (lv_at hl 3 rfl) ?_
  refine lv_iconst (v := nI 3) hx hb dL_law_93 (by decide) ?_
  refine zi_add hx hb dL_law_94 ?_
  refine zl_ald (v := xs (i0 + 3)) hx hb hXs hbl hbA hS (show i0 + 3 < L by omega) hL rfl dL_law_95 ?_
  refine lv_aload_n hx hb dL_law_96 rfl (lv_at hl 0 rfl) ?_
  refine lv_iload_n hx hb dL_law_97 rfl (lv_at hl 3 rfl) ?_
  refine lv_iconst (v := nI 4) hx hb dL_law_98 (by decide) ?_
  refine zi_add hx hb dL_law_99 ?_
  refine zl_ald (v := xs (i0 + 4)) hx hb hXs hbl hbA hS (show i0 + 4 < L by omega) hL rfl dL_law_100 ?_
  refine lv_aload_n hx hb dL_law_101 rfl (lv_at hl 0 rfl) ?_
  refine lv_iload_n hx hb dL_law_102 rfl (lv_at hl 3 rfl) ?_
  refine lv_iconst (v := nI 5) hx hb dL_law_103 (by decide) ?_
  refine zi_add hx hb dL_law_104 ?_
  refine zl_ald (v := xs (i0 + 5)) hx hb hXs hbl hbA hS (show i0 + 5 < L by omega) hL rfl dL_law_105 ?_
  refine zx_V (As := [.int (xs (i0 + 1)), .int (xs (i0 + 2)), .int (xs (i0 + 3)), .int (xs (i0 + 4)), .int (xs (i0 + 5))]) (rest := []) ⟨hx, hb, hml, hown, hts⟩ (c_feed l G x tp mt sl fa pl qb cn (fun j => X 1 (16000 + j)) (xs (i0 + 1)) (xs (i0 + 2)) (xs (i0 + 3)) (xs (i0 + 4)) (xs (i0 + 5)) hc (by omega) (by omega) (by omega)) (cwV 5 hts (zgV wm_L_13 wv_X10_feed) rfl rfl rfl (by decide +kernel) ⟨Nat.le_of_ble_eq_true rfl, Nat.le_of_ble_eq_true rfl⟩) hK hX rfl ⟨hX, hT⟩ rfl hl.1 rfl (Nat.le_of_ble_eq_true rfl) dL_law_106 ⟨by show cells + 0 ≤ 600000; omega, by show slots + 0 ≤ 7302250; omega⟩ hS (by intro q hq; first | omega | (dsimp only at hq ⊢; omega)) (fun r9 H locs hPo hz9 hk9 hS => ?_)
  have hX := hX.keep hk9 (by first | exact id | exact rfl | omega | (dsimp only; omega))
  have hSl := hSl.keep hk9 (by first | exact id | exact rfl | omega | (dsimp only; omega))
  have hFa := hFa.keep hk9 (by first | exact id | exact rfl | omega | (dsimp only; omega))
  have hR := hR.keep hk9 (by intro a ha hq; have ha := rAx_o ha; first | omega | (dsimp only at hq; omega))
  have hRst := hRst.keep hk9 ⟨hOrd, by omega, by intro q hq hq2; first | exact Or.inr (Or.inr (Or.inr (Or.inr (Or.inr (rAx_o hq2))))) | (unfold Ex; omega) | (unfold Ex; dsimp only at hq2; omega)⟩
  obtain ⟨rfl, hT⟩ := hPo
  refine W.eq (g2 := F0 m 109 ls ([.int (nI (cn + 20))])) rfl ?_
  refine lv_aload_n hx hb dL_law_109 rfl (lv_at hl 2 rfl) ?_
  refine lv_aload_n hx hb dL_law_110 rfl (lv_at hl 0 rfl) ?_
  refine lv_iload_n hx hb dL_law_111 rfl (lv_at hl 3 rfl) ?_
  refine lv_iconst (v := nI 1) hx hb dL_law_112 (by decide) ?_
  refine zi_add hx hb dL_law_113 ?_
  refine zl_ald (v := xs (i0 + 1)) hx hb hXs hbl hbA hS (show i0 + 1 < L by omega) hL rfl dL_law_114 ?_
  refine lv_aload_n hx hb dL_law_115 rfl (lv_at hl 0 rfl) ?_
  refine lv_iload_n hx hb dL_law_116 rfl (lv_at hl 3 rfl) ?_
  refine lv_iconst (v := nI 2) hx hb dL_law_117 (by decide) ?_
  refine zi_add hx hb dL_law_118 ?_
  refine zl_ald (v := xs (i0 + 2)) hx hb hXs hbl hbA hS (show i0 + 2 < L by omega) hL rfl dL_law_119 ?_
  refine lv_aload_n hx hb dL_law_120 rfl (lv_at hl 0 rfl) ?_
  refine lv_iload_n hx hb dL_law_121 rfl (lv_at hl 3 rfl) ?_
  refine lv_iconst (v := nI 3) hx hb dL_law_122 (by decide) ?_
  refine zi_add hx hb dL_law_123 ?_
  refine zl_ald (v := xs (i0 + 3)) hx hb hXs hbl hbA hS (show i0 + 3 < L by omega) hL rfl dL_law_124 ?_
  refine lv_aload_n hx hb dL_law_125 rfl (lv_at hl 0 rfl) ?_
  refine lv_iload_n hx hb dL_law_126 rfl (lv_at hl 3 rfl) ?_
  refine lv_iconst (v := nI 4) hx hb dL_law_127 (by decide) ?_
  refine zi_add hx hb dL_law_128 ?_
  refine zl_ald (v := xs (i0 + 4)) hx hb hXs hbl hbA hS (show i0 + 4 < L by omega) hL rfl dL_law_129 ?_
  refine lv_aload_n hx hb dL_law_130 rfl (lv_at hl 0 rfl) ?_
  refine lv_iload_n hx hb dL_law_131 rfl (lv_at hl 3 rfl) ?_
  refine lv_iconst (v := nI 5) hx hb dL_law_132 (by decide) ?_
  refine zi_add hx hb dL_law_133 ?_
  refine zl_ald (v := xs (i0 + 5)) hx hb hXs hbl hbA hS (show i0 + 5 < L by omega) hL rfl dL_law_134 ?_
  refine zx_V (As := [.int (xs (i0 + 1)), .int (xs (i0 + 2)), .int (xs (i0 + 3)), .int (xs (i0 + 4)), .int (xs (i0 + 5))]) (rest := [.int (nI (cn + 20))]) ⟨hx, hb, hml, hown, hts⟩ (Met.qx (m_feed l G o (qo o 1) (rw_ (qo o) cn pl wr wa nc np ns f9 nd u) (X 1) cn (xs (i0 + 1)) (xs (i0 + 2)) (xs (i0 + 3)) (xs (i0 + 4)) (xs (i0 + 5)) hc)) (cwV 5 hts (zgV wm_L_17 wv_X11_feed) rfl rfl rfl (by decide +kernel) ⟨Nat.le_of_ble_eq_true rfl, Nat.le_of_ble_eq_true rfl⟩) hK hR.1 rfl hR.mt rfl hl.1 rfl (Nat.le_of_ble_eq_true rfl) dL_law_135 ⟨by show cells + 0 + 0 ≤ 600000; omega, by show slots + 0 + 0 ≤ 7302250; omega⟩ hS (by intro q hq; have hq := rAx_o (show rAx o (qo o) q from hq.elim Or.inl (fun e => Or.inr ⟨1, by decide, e⟩)); first | omega | (dsimp only; omega)) (fun r9 H locs hPo hz9 hk9 hS => ?_)
  have hk0 := hk9
  have hk9 : zKp (rAx o (qo o)) _ _ := hk9.wk (fun q _ hq => hq.elim Or.inl (fun e => Or.inr ⟨1, by decide, e⟩))
  have hX := hX.keep hk9 (by intro ha; have ha := rAx_o ha; omega)
  have hT := hT.keep hk9 ⟨by intro ha; have ha := rAx_o ha; omega, by intro ha; have ha := rAx_o ha; omega⟩
  have hSl := hSl.keep hk9 (by intro ha; have ha := rAx_o ha; omega)
  have hFa := hFa.keep hk9 (by intro ha; have ha := rAx_o ha; omega)
  have hRst := hRst.keep hk9 ⟨hOrd, by omega, by intro q hq hq2; first | exact Or.inr (Or.inr (Or.inr (Or.inr (Or.inr (rAx_o hq2))))) | (unfold Ex; omega) | (unfold Ex; dsimp only at hq2; omega)⟩
  obtain ⟨rfl, hM⟩ := hPo
  rw [show cn + 4 + 4 + 4 + 4 + 4 = cn + 20 by omega] at hM
  have h8 := hR.2.2.2.2.1
  have hR := hR.ofMT hM (put4_b (put4_b (put4_b (put4_b (put4_b h8))))) (fun q h1 h2 => hk0 q h1 h2)
  have hRst := hRst.to (F1 := put4 (put4 (put4 (put4 (put4 (X 1) (16000 + cn) (xs (i0 + 1))) (16000 + (cn + 4)) (xs (i0 + 2))) (16000 + (cn + 4 + 4)) (xs (i0 + 3))) (16000 + (cn + 4 + 4 + 4)) (xs (i0 + 4))) (16000 + (cn + 4 + 4 + 4 + 4)) (xs (i0 + 5))) (fun a ha => by rw [put4_lo (by omega), put4_lo (by omega), put4_lo (by omega), put4_lo (by omega), put4_lo (by omega)])
  have hT : TP G tp qb (cn + 20) (fun j => (put4 (put4 (put4 (put4 (put4 (X 1) (16000 + cn) (xs (i0 + 1))) (16000 + (cn + 4)) (xs (i0 + 2))) (16000 + (cn + 4 + 4)) (xs (i0 + 3))) (16000 + (cn + 4 + 4 + 4)) (xs (i0 + 4))) (16000 + (cn + 4 + 4 + 4 + 4)) (xs (i0 + 5))) (16000 + j)) H := by rw [put4_sh, put4_sh, put4_sh, put4_sh, put4_sh]; exact hT
  refine W.eq (g2 := F0 m 138 ls ([.int (nI (cn + 20)), .int (nI (cn + 20))])) rfl ?_
  refine lv_icmp_eq (tgt := 344) hx hb dL_law_138 (by decide) (fun _ => ?_) (fun c_9 => absurd (rfl) c_9)
  exact kk sv fv (cn + 20) pl (upX X 1 (put4 (put4 (put4 (put4 (put4 (X 1) (16000 + cn) (xs (i0 + 1))) (16000 + (cn + 4)) (xs (i0 + 2))) (16000 + (cn + 4 + 4)) (xs (i0 + 3))) (16000 + (cn + 4 + 4 + 4)) (xs (i0 + 4))) (16000 + (cn + 4 + 4 + 4 + 4)) (xs (i0 + 5)))) _ _ _ _ _ ⟨hOrd, by omega, by omega, ⟨_, _, _, _, _, _, _, _, hR⟩, hX, hT, hSl, hFa, hRst⟩ hS (by omega) (by omega) (lv_sub hl [0, 1, 2, 3] rfl)

set_option maxHeartbeats 4000000 in
set_option maxRecDepth 100000 in
theorem law_feed_n {p : Program} {l : Launch} {en : Env} {s : State} {m : MethodId} {below : List Frame} {meth : Method} {c : Code} {b L : Nat} {xs : Nat → Int32} (hL : L ≤ 3072) (C0 : lw_At p s m meth c b L xs) {G : zG} (hK : zK G s) {x tp qb mt ms sl fa o : Nat} {sv fv : Nat → Nat} {cn : Nat} {pl : Int32} {X : Nat → Nat → Nat} {H : Heap} {locs : List Loc} {cells slots i0 : Nat} (hI : Inv G x tp qb mt ms sl fa o sv fv cn pl X H) (hi0 : i0 + 6 ≤ L) (hns : s.heap.size ≤ x) (hS : va_S (fun q => s.heap.size ≤ q) s.heap H locs) (hcc : cells + 44 * cn + 886 ≤ 600000) (hss : slots + 50 * cn + 1027 ≤ 7302250) {ls : Array Slot} (hl : lv_has ls 4 [(0, .ref b), (1, .ref x), (2, .ref o), (3, .int (nI i0))]) (hc : ¬ cn + 20 ≤ 2000) (kk : LwK p l en s m below meth c b G x tp qb mt ms sl fa o i0 cn cells slots) : W p l en room_1 s m #[Value.ref b] below meth c H locs cells slots (lw_Z below #[Value.ref b] s) (F0 m 80 ls []) := by
  obtain ⟨hx, hb, hr, hml, hown, hts0, hXs, hbl, hlocks, hgv⟩ := C0
  have hown : s.vm.findClass RL = some m.cls := hown
  have hz : ∀ w ∈ zW, w.before #[Value.ref b] s = true := fun w h => hts0 w (List.mem_filter.mp h).1
  have hts : ∀ w ∈ wsL, w.before #[Value.ref b] s = true := fun w h => (List.mem_cons.mp h).elim (fun e => by rw [e]; exact hz _ wm_L_9) (hz w)
  have hbA : ¬ (fun q : Nat => s.heap.size ≤ q) b := Nat.not_le.mpr hbl
  obtain ⟨hOrd, hsz, hcn, ⟨wr, wa, nc, np, ns, f9, nd, u, hR⟩, hX, hT, hSl, hFa, hRst⟩ := hI
  have hord := hOrd
  unfold OrdI at hord
  refine lv_aload_n hx hb dL_law_80 rfl (lv_at hl 1 rfl) ?_
  refine lv_aload_n hx hb dL_law_81 rfl (lv_at hl 0 rfl) ?_
  refine lv_iload_n hx hb dL_law_82 rfl (lv_at hl 3 rfl) ?_
  refine lv_iconst (v := nI 1) hx hb dL_law_83 (by decide) ?_
  refine zi_add hx hb dL_law_84 ?_
  refine zl_ald (v := xs (i0 + 1)) hx hb hXs hbl hbA hS (show i0 + 1 < L by omega) hL rfl dL_law_85 ?_
  refine lv_aload_n hx hb dL_law_86 rfl (lv_at hl 0 rfl) ?_
  refine lv_iload_n hx hb dL_law_87 rfl (lv_at hl 3 rfl) ?_
  refine lv_iconst (v := nI 2) hx hb dL_law_88 (by decide) ?_
  refine zi_add hx hb dL_law_89 ?_
  refine zl_ald (v := xs (i0 + 2)) hx hb hXs hbl hbA hS (show i0 + 2 < L by omega) hL rfl dL_law_90 ?_
  refine lv_aload_n hx hb dL_law_91 rfl (lv_at hl 0 rfl) ?_
  refine lv_iload_n hx hb dL_law_92 rfl (lv_at hl 3 rfl) ?_
  refine lv_iconst (v := nI 3) hx hb dL_law_93 (by decide) ?_
  refine zi_add hx hb dL_law_94 ?_
  refine zl_ald (v := xs (i0 + 3)) hx hb hXs hbl hbA hS (show i0 + 3 < L by omega) hL rfl dL_law_95 ?_
  refine lv_aload_n hx hb dL_law_96 rfl (lv_at hl 0 rfl) ?_
  refine lv_iload_n hx hb dL_law_97 rfl (lv_at hl 3 rfl) ?_
  refine lv_iconst (v := nI 4) hx hb dL_law_98 (by decide) ?_
  refine zi_add hx hb dL_law_99 ?_
  refine zl_ald (v := xs (i0 + 4)) hx hb hXs hbl hbA hS (show i0 + 4 < L by omega) hL rfl dL_law_100 ?_
  refine lv_aload_n hx hb dL_law_101 rfl (lv_at hl 0 rfl) ?_
  refine lv_iload_n hx hb dL_law_102 rfl (lv_at hl 3 rfl) ?_
  refine lv_iconst (v := nI 5) hx hb dL_law_103 (by decide) ?_
  refine zi_add hx hb dL_law_104 ?_
  refine zl_ald (v := xs (i0 + 5)) hx hb hXs hbl hbA hS (show i0 + 5 < L by omega) hL rfl dL_law_105 ?_
  refine zc_V (As := [.int (xs (i0 + 1)), .int (xs (i0 + 2)), .int (xs (i0 + 3)), .int (xs (i0 + 4)), .int (xs (i0 + 5))]) (rest := []) ⟨hx, hb, hml, hown, hts⟩ (c_feed_n l G x tp mt sl fa pl qb cn (fun j => X 1 (16000 + j)) (xs (i0 + 1)) (xs (i0 + 2)) (xs (i0 + 3)) (xs (i0 + 4)) (xs (i0 + 5)) hc hcn) (cwV 5 hts (zgV wm_L_13 wv_X10_feed) rfl rfl rfl (by decide +kernel) ⟨Nat.le_of_ble_eq_true rfl, Nat.le_of_ble_eq_true rfl⟩) hK hX rfl ⟨hX, hT⟩ rfl hl.1 rfl (Nat.le_of_ble_eq_true rfl) dL_law_106 ⟨by show cells ≤ 600000; omega, by show slots ≤ 7302250; omega⟩ ?_
  refine lv_aload_n hx hb dL_law_109 rfl (lv_at hl 2 rfl) ?_
  refine lv_aload_n hx hb dL_law_110 rfl (lv_at hl 0 rfl) ?_
  refine lv_iload_n hx hb dL_law_111 rfl (lv_at hl 3 rfl) ?_
  refine lv_iconst (v := nI 1) hx hb dL_law_112 (by decide) ?_
  refine zi_add hx hb dL_law_113 ?_
  refine zl_ald (v := xs (i0 + 1)) hx hb hXs hbl hbA hS (show i0 + 1 < L by omega) hL rfl dL_law_114 ?_
  refine lv_aload_n hx hb dL_law_115 rfl (lv_at hl 0 rfl) ?_
  refine lv_iload_n hx hb dL_law_116 rfl (lv_at hl 3 rfl) ?_
  refine lv_iconst (v := nI 2) hx hb dL_law_117 (by decide) ?_
  refine zi_add hx hb dL_law_118 ?_
  refine zl_ald (v := xs (i0 + 2)) hx hb hXs hbl hbA hS (show i0 + 2 < L by omega) hL rfl dL_law_119 ?_
  refine lv_aload_n hx hb dL_law_120 rfl (lv_at hl 0 rfl) ?_
  refine lv_iload_n hx hb dL_law_121 rfl (lv_at hl 3 rfl) ?_
  refine lv_iconst (v := nI 3) hx hb dL_law_122 (by decide) ?_
  refine zi_add hx hb dL_law_123 ?_
  refine zl_ald (v := xs (i0 + 3)) hx hb hXs hbl hbA hS (show i0 + 3 < L by omega) hL rfl dL_law_124 ?_
  refine lv_aload_n hx hb dL_law_125 rfl (lv_at hl 0 rfl) ?_
  refine lv_iload_n hx hb dL_law_126 rfl (lv_at hl 3 rfl) ?_
  refine lv_iconst (v := nI 4) hx hb dL_law_127 (by decide) ?_
  refine zi_add hx hb dL_law_128 ?_
  refine zl_ald (v := xs (i0 + 4)) hx hb hXs hbl hbA hS (show i0 + 4 < L by omega) hL rfl dL_law_129 ?_
  refine lv_aload_n hx hb dL_law_130 rfl (lv_at hl 0 rfl) ?_
  refine lv_iload_n hx hb dL_law_131 rfl (lv_at hl 3 rfl) ?_
  refine lv_iconst (v := nI 5) hx hb dL_law_132 (by decide) ?_
  refine zi_add hx hb dL_law_133 ?_
  refine zl_ald (v := xs (i0 + 5)) hx hb hXs hbl hbA hS (show i0 + 5 < L by omega) hL rfl dL_law_134 ?_
  refine zx_V (As := [.int (xs (i0 + 1)), .int (xs (i0 + 2)), .int (xs (i0 + 3)), .int (xs (i0 + 4)), .int (xs (i0 + 5))]) (rest := [.int ((-1))]) ⟨hx, hb, hml, hown, hts⟩ (Met.qx (m_feed_full l G o (qo o 1) (rw_ (qo o) cn pl wr wa nc np ns f9 nd u) (X 1) cn (xs (i0 + 1)) (xs (i0 + 2)) (xs (i0 + 3)) (xs (i0 + 4)) (xs (i0 + 5)) (by omega) hcn)) (cwV 5 hts (zgV wm_L_17 wv_X11_feed) rfl rfl rfl (by decide +kernel) ⟨Nat.le_of_ble_eq_true rfl, Nat.le_of_ble_eq_true rfl⟩) hK hR.1 rfl hR.mt rfl hl.1 rfl (Nat.le_of_ble_eq_true rfl) dL_law_135 ⟨by show cells + 0 ≤ 600000; omega, by show slots + 0 ≤ 7302250; omega⟩ hS (by intro q hq; have hq := rAx_o (show rAx o (qo o) q from hq.elim Or.inl (fun e => Or.inr ⟨1, by decide, e⟩)); first | omega | (dsimp only; omega)) (fun r9 H locs hPo hz9 hk9 hS => ?_)
  have hk0 := hk9
  have hk9 : zKp (rAx o (qo o)) _ _ := hk9.wk (fun q _ hq => hq.elim Or.inl (fun e => Or.inr ⟨1, by decide, e⟩))
  have hX := hX.keep hk9 (by intro ha; have ha := rAx_o ha; omega)
  have hT := hT.keep hk9 ⟨by intro ha; have ha := rAx_o ha; omega, by intro ha; have ha := rAx_o ha; omega⟩
  have hSl := hSl.keep hk9 (by intro ha; have ha := rAx_o ha; omega)
  have hFa := hFa.keep hk9 (by intro ha; have ha := rAx_o ha; omega)
  have hRst := hRst.keep hk9 ⟨hOrd, by omega, by intro q hq hq2; first | exact Or.inr (Or.inr (Or.inr (Or.inr (Or.inr (rAx_o hq2))))) | (unfold Ex; omega) | (unfold Ex; dsimp only at hq2; omega)⟩
  obtain ⟨rfl, hM⟩ := hPo
  have h8 := hR.2.2.2.2.1
  have hR := hR.ofMT hM h8 (fun q h1 h2 => hk0 q h1 h2)
  refine W.eq (g2 := F0 m 138 ls ([.int ((-1)), .int ((-1))])) rfl ?_
  refine lv_icmp_eq (tgt := 344) hx hb dL_law_138 (by decide) (fun _ => ?_) (fun c_9 => absurd (rfl) c_9)
  exact kk sv fv cn pl (upX X 1 (X 1)) _ _ _ _ _ ⟨hOrd, by omega, hcn, ⟨_, _, _, _, _, _, _, _, hR⟩, hX, hT, hSl, hFa, hRst⟩ hS (by omega) (by omega) (lv_sub hl [0, 1, 2, 3] rfl)

set_option maxHeartbeats 4000000 in
set_option maxRecDepth 100000 in
theorem law_place {p : Program} {l : Launch} {en : Env} {s : State} {m : MethodId} {below : List Frame} {meth : Method} {c : Code} {b L : Nat} {xs : Nat → Int32} (hL : L ≤ 3072) (C0 : lw_At p s m meth c b L xs) {G : zG} (hK : zK G s) {x tp qb mt ms sl fa o : Nat} {sv fv : Nat → Nat} {cn : Nat} {pl : Int32} {X : Nat → Nat → Nat} {H : Heap} {locs : List Loc} {cells slots i0 : Nat} (hI : Inv G x tp qb mt ms sl fa o sv fv cn pl X H) (hi0 : i0 + 6 ≤ L) (hns : s.heap.size ≤ x) (hS : va_S (fun q => s.heap.size ≤ q) s.heap H locs) (hcc : cells + 44 * cn + 886 ≤ 600000) (hss : slots + 50 * cn + 1027 ≤ 7302250) {ls : Array Slot} (hl : lv_has ls 4 [(0, .ref b), (1, .ref x), (2, .ref o), (3, .int (nI i0))])  (kk : LwK p l en s m below meth c b G x tp qb mt ms sl fa o i0 cn cells slots) : W p l en room_1 s m #[Value.ref b] below meth c H locs cells slots (lw_Z below #[Value.ref b] s) (F0 m 209 ls []) := by
  obtain ⟨hx, hb, hr, hml, hown, hts0, hXs, hbl, hlocks, hgv⟩ := C0
  have hown : s.vm.findClass RL = some m.cls := hown
  have hz : ∀ w ∈ zW, w.before #[Value.ref b] s = true := fun w h => hts0 w (List.mem_filter.mp h).1
  have hts : ∀ w ∈ wsL, w.before #[Value.ref b] s = true := fun w h => (List.mem_cons.mp h).elim (fun e => by rw [e]; exact hz _ wm_L_9) (hz w)
  have hbA : ¬ (fun q : Nat => s.heap.size ≤ q) b := Nat.not_le.mpr hbl
  obtain ⟨hOrd, hsz, hcn, ⟨wr, wa, nc, np, ns, f9, nd, u, hR⟩, hX, hT, hSl, hFa, hRst⟩ := hI
  have hord := hOrd
  unfold OrdI at hord
  refine lv_aload_n hx hb dL_law_209 rfl (lv_at hl 1 rfl) ?_
  refine zc_V (As := []) (rest := []) ⟨hx, hb, hml, hown, hts⟩ (c_place l G x tp mt sl fa pl) (cwV 0 hts (zgV wm_L_27 wv_X10_place) rfl rfl rfl (by decide +kernel) ⟨Nat.le_of_ble_eq_true rfl, Nat.le_of_ble_eq_true rfl⟩) hK hX rfl hX rfl hl.1 rfl (Nat.le_of_ble_eq_true rfl) dL_law_210 ⟨by show cells ≤ 600000; omega, by show slots ≤ 7302250; omega⟩ ?_
  refine lv_aload_n hx hb dL_law_213 rfl (lv_at hl 2 rfl) ?_
  refine zc_V (As := []) (rest := [.int (pl)]) ⟨hx, hb, hml, hown, hts⟩ (m_place l G o _ pl rfl) (cwV 0 hts (zgV wm_L_31 wv_X11_place) rfl rfl rfl (by decide +kernel) ⟨Nat.le_of_ble_eq_true rfl, Nat.le_of_ble_eq_true rfl⟩) hK hR.1 rfl hR.1 rfl hl.1 rfl (Nat.le_of_ble_eq_true rfl) dL_law_214 ⟨by show cells ≤ 600000; omega, by show slots ≤ 7302250; omega⟩ ?_
  refine lv_icmp_eq (tgt := 344) hx hb dL_law_217 (by decide) (fun _ => ?_) (fun c_9 => absurd (rfl) c_9)
  exact kk sv fv cn pl X _ _ _ _ _ ⟨hOrd, by omega, hcn, ⟨_, _, _, _, _, _, _, _, hR⟩, hX, hT, hSl, hFa, hRst⟩ hS (by omega) (by omega) (lv_sub hl [0, 1, 2, 3] rfl)

set_option maxHeartbeats 4000000 in
set_option maxRecDepth 100000 in
theorem law_many_n1 {p : Program} {l : Launch} {en : Env} {s : State} {m : MethodId} {below : List Frame} {meth : Method} {c : Code} {b L : Nat} {xs : Nat → Int32} (hL : L ≤ 3072) (C0 : lw_At p s m meth c b L xs) {G : zG} (hK : zK G s) {x tp qb mt ms sl fa o : Nat} {sv fv : Nat → Nat} {cn : Nat} {pl : Int32} {X : Nat → Nat → Nat} {H : Heap} {locs : List Loc} {cells slots i0 : Nat} (hI : Inv G x tp qb mt ms sl fa o sv fv cn pl X H) (hi0 : i0 + 6 ≤ L) (hns : s.heap.size ≤ x) (hS : va_S (fun q => s.heap.size ≤ q) s.heap H locs) (hcc : cells + 44 * cn + 886 ≤ 600000) (hss : slots + 50 * cn + 1027 ≤ 7302250) {ls : Array Slot} (hl : lv_has ls 4 [(0, .ref b), (1, .ref x), (2, .ref o), (3, .int (nI i0))]) (hy : is4i (xs (i0 + 1)) = false) (kk : LwK p l en s m below meth c b G x tp qb mt ms sl fa o i0 cn cells slots) : W p l en room_1 s m #[Value.ref b] below meth c H locs cells slots (lw_Z below #[Value.ref b] s) (F0 m 222 ls []) := by
  obtain ⟨hx, hb, hr, hml, hown, hts0, hXs, hbl, hlocks, hgv⟩ := C0
  have hown : s.vm.findClass RL = some m.cls := hown
  have hz : ∀ w ∈ zW, w.before #[Value.ref b] s = true := fun w h => hts0 w (List.mem_filter.mp h).1
  have hts : ∀ w ∈ wsL, w.before #[Value.ref b] s = true := fun w h => (List.mem_cons.mp h).elim (fun e => by rw [e]; exact hz _ wm_L_9) (hz w)
  have hbA : ¬ (fun q : Nat => s.heap.size ≤ q) b := Nat.not_le.mpr hbl
  obtain ⟨hOrd, hsz, hcn, ⟨wr, wa, nc, np, ns, f9, nd, u, hR⟩, hX, hT, hSl, hFa, hRst⟩ := hI
  have hord := hOrd
  unfold OrdI at hord
  refine lv_aload_n hx hb dL_law_222 rfl (lv_at hl 1 rfl) ?_
  refine lv_aload_n hx hb dL_law_223 rfl (lv_at hl 0 rfl) ?_
  refine lv_iload_n hx hb dL_law_224 rfl (lv_at hl 3 rfl) ?_
  refine lv_iconst (v := nI 1) hx hb dL_law_225 (by decide) ?_
  refine zi_add hx hb dL_law_226 ?_
  refine zl_ald (v := xs (i0 + 1)) hx hb hXs hbl hbA hS (show i0 + 1 < L by omega) hL rfl dL_law_227 ?_
  refine lv_aload_n hx hb dL_law_228 rfl (lv_at hl 0 rfl) ?_
  refine lv_iload_n hx hb dL_law_229 rfl (lv_at hl 3 rfl) ?_
  refine lv_iconst (v := nI 2) hx hb dL_law_230 (by decide) ?_
  refine zi_add hx hb dL_law_231 ?_
  refine zl_ald (v := xs (i0 + 2)) hx hb hXs hbl hbA hS (show i0 + 2 < L by omega) hL rfl dL_law_232 ?_
  refine zc_V (As := [.int (xs (i0 + 1)), .int (xs (i0 + 2))]) (rest := []) ⟨hx, hb, hml, hown, hts⟩ (c_many_n1 l G x tp mt sl fa pl fv (xs (i0 + 1)) (xs (i0 + 2)) hy) (cwV 2 hts (zgV wm_L_32 wv_X10_many) rfl rfl rfl (by decide +kernel) ⟨Nat.le_of_ble_eq_true rfl, Nat.le_of_ble_eq_true rfl⟩) hK hX rfl ⟨hX, hFa⟩ rfl hl.1 rfl (Nat.le_of_ble_eq_true rfl) dL_law_233 ⟨by show cells ≤ 600000; omega, by show slots ≤ 7302250; omega⟩ ?_
  refine lv_aload_n hx hb dL_law_236 rfl (lv_at hl 2 rfl) ?_
  refine lv_aload_n hx hb dL_law_237 rfl (lv_at hl 0 rfl) ?_
  refine lv_iload_n hx hb dL_law_238 rfl (lv_at hl 3 rfl) ?_
  refine lv_iconst (v := nI 1) hx hb dL_law_239 (by decide) ?_
  refine zi_add hx hb dL_law_240 ?_
  refine zl_ald (v := xs (i0 + 1)) hx hb hXs hbl hbA hS (show i0 + 1 < L by omega) hL rfl dL_law_241 ?_
  refine lv_aload_n hx hb dL_law_242 rfl (lv_at hl 0 rfl) ?_
  refine lv_iload_n hx hb dL_law_243 rfl (lv_at hl 3 rfl) ?_
  refine lv_iconst (v := nI 2) hx hb dL_law_244 (by decide) ?_
  refine zi_add hx hb dL_law_245 ?_
  refine zl_ald (v := xs (i0 + 2)) hx hb hXs hbl hbA hS (show i0 + 2 < L by omega) hL rfl dL_law_246 ?_
  refine zc_V (As := [.int (xs (i0 + 1)), .int (xs (i0 + 2))]) (rest := [.int ((-1))]) ⟨hx, hb, hml, hown, hts⟩ (m_many_no l G o (qo o) cn pl wr wa nc np ns f9 nd u X (xs (i0 + 1)) (xs (i0 + 2)) (fun h => by rw [hy] at h; exact absurd h.1 (by decide))) (cwV 2 hts (zgV wm_L_35 wv_X11_many) rfl rfl rfl (by decide +kernel) ⟨Nat.le_of_ble_eq_true rfl, Nat.le_of_ble_eq_true rfl⟩) hK hR.1 rfl hR rfl hl.1 rfl (Nat.le_of_ble_eq_true rfl) dL_law_247 ⟨by show cells ≤ 600000; omega, by show slots ≤ 7302250; omega⟩ ?_
  refine lv_icmp_eq (tgt := 344) hx hb dL_law_250 (by decide) (fun _ => ?_) (fun c_9 => absurd (rfl) c_9)
  exact kk sv fv cn pl X _ _ _ _ _ ⟨hOrd, by omega, hcn, ⟨_, _, _, _, _, _, _, _, hR⟩, hX, hT, hSl, hFa, hRst⟩ hS (by omega) (by omega) (lv_sub hl [0, 1, 2, 3] rfl)

set_option maxHeartbeats 4000000 in
set_option maxRecDepth 100000 in
theorem law_many_n2 {p : Program} {l : Launch} {en : Env} {s : State} {m : MethodId} {below : List Frame} {meth : Method} {c : Code} {b L : Nat} {xs : Nat → Int32} (hL : L ≤ 3072) (C0 : lw_At p s m meth c b L xs) {G : zG} (hK : zK G s) {x tp qb mt ms sl fa o : Nat} {sv fv : Nat → Nat} {cn : Nat} {pl : Int32} {X : Nat → Nat → Nat} {H : Heap} {locs : List Loc} {cells slots i0 : Nat} (hI : Inv G x tp qb mt ms sl fa o sv fv cn pl X H) (hi0 : i0 + 6 ≤ L) (hns : s.heap.size ≤ x) (hS : va_S (fun q => s.heap.size ≤ q) s.heap H locs) (hcc : cells + 44 * cn + 886 ≤ 600000) (hss : slots + 50 * cn + 1027 ≤ 7302250) {ls : Array Slot} (hl : lv_has ls 4 [(0, .ref b), (1, .ref x), (2, .ref o), (3, .int (nI i0))]) (i : Nat) (hi : i < 4) (e1 : xs (i0 + 1) = nI i) (hz9 : ¬ (¬ xs (i0 + 2) < 0 ∧ xs (i0 + 2) ≤ 3)) (kk : LwK p l en s m below meth c b G x tp qb mt ms sl fa o i0 cn cells slots) : W p l en room_1 s m #[Value.ref b] below meth c H locs cells slots (lw_Z below #[Value.ref b] s) (F0 m 222 ls []) := by
  obtain ⟨hx, hb, hr, hml, hown, hts0, hXs, hbl, hlocks, hgv⟩ := C0
  have hown : s.vm.findClass RL = some m.cls := hown
  have hz : ∀ w ∈ zW, w.before #[Value.ref b] s = true := fun w h => hts0 w (List.mem_filter.mp h).1
  have hts : ∀ w ∈ wsL, w.before #[Value.ref b] s = true := fun w h => (List.mem_cons.mp h).elim (fun e => by rw [e]; exact hz _ wm_L_9) (hz w)
  have hbA : ¬ (fun q : Nat => s.heap.size ≤ q) b := Nat.not_le.mpr hbl
  obtain ⟨hOrd, hsz, hcn, ⟨wr, wa, nc, np, ns, f9, nd, u, hR⟩, hX, hT, hSl, hFa, hRst⟩ := hI
  have hord := hOrd
  unfold OrdI at hord
  obtain ⟨rt, ca, cc, hFl, hCa, ⟨hc0, hc1, hc2, hc3⟩, hBx⟩ := (hRst.2.2.2.2 i hi).cnt (by omega)
  refine lv_aload_n hx hb dL_law_222 rfl (lv_at hl 1 rfl) ?_
  refine lv_aload_n hx hb dL_law_223 rfl (lv_at hl 0 rfl) ?_
  refine lv_iload_n hx hb dL_law_224 rfl (lv_at hl 3 rfl) ?_
  refine lv_iconst (v := nI 1) hx hb dL_law_225 (by decide) ?_
  refine zi_add hx hb dL_law_226 ?_
  refine zl_ald (v := nI (i)) hx hb hXs hbl hbA hS (show i0 + 1 < L by omega) hL e1 dL_law_227 ?_
  refine lv_aload_n hx hb dL_law_228 rfl (lv_at hl 0 rfl) ?_
  refine lv_iload_n hx hb dL_law_229 rfl (lv_at hl 3 rfl) ?_
  refine lv_iconst (v := nI 2) hx hb dL_law_230 (by decide) ?_
  refine zi_add hx hb dL_law_231 ?_
  refine zl_ald (v := xs (i0 + 2)) hx hb hXs hbl hbA hS (show i0 + 2 < L by omega) hL rfl dL_law_232 ?_
  refine zc_V (As := [.int (nI (i)), .int (xs (i0 + 2))]) (rest := []) ⟨hx, hb, hml, hown, hts⟩ (c_many_n2 l G x tp mt sl fa pl fv i rt ca cc hi (xs (i0 + 2)) hz9) (cwV 2 hts (zgV wm_L_32 wv_X10_many) rfl rfl rfl (by decide +kernel) ⟨Nat.le_of_ble_eq_true rfl, Nat.le_of_ble_eq_true rfl⟩) hK hX rfl ⟨hX, hFa, hFl, hCa⟩ rfl hl.1 rfl (Nat.le_of_ble_eq_true rfl) dL_law_233 ⟨by show cells ≤ 600000; omega, by show slots ≤ 7302250; omega⟩ ?_
  refine lv_aload_n hx hb dL_law_236 rfl (lv_at hl 2 rfl) ?_
  refine lv_aload_n hx hb dL_law_237 rfl (lv_at hl 0 rfl) ?_
  refine lv_iload_n hx hb dL_law_238 rfl (lv_at hl 3 rfl) ?_
  refine lv_iconst (v := nI 1) hx hb dL_law_239 (by decide) ?_
  refine zi_add hx hb dL_law_240 ?_
  refine zl_ald (v := nI (i)) hx hb hXs hbl hbA hS (show i0 + 1 < L by omega) hL e1 dL_law_241 ?_
  refine lv_aload_n hx hb dL_law_242 rfl (lv_at hl 0 rfl) ?_
  refine lv_iload_n hx hb dL_law_243 rfl (lv_at hl 3 rfl) ?_
  refine lv_iconst (v := nI 2) hx hb dL_law_244 (by decide) ?_
  refine zi_add hx hb dL_law_245 ?_
  refine zl_ald (v := xs (i0 + 2)) hx hb hXs hbl hbA hS (show i0 + 2 < L by omega) hL rfl dL_law_246 ?_
  refine zc_V (As := [.int (nI (i)), .int (xs (i0 + 2))]) (rest := [.int ((-1))]) ⟨hx, hb, hml, hown, hts⟩ (m_many_no l G o (qo o) cn pl wr wa nc np ns f9 nd u X (nI i) (xs (i0 + 2)) (fun h => hz9 h.2)) (cwV 2 hts (zgV wm_L_35 wv_X11_many) rfl rfl rfl (by decide +kernel) ⟨Nat.le_of_ble_eq_true rfl, Nat.le_of_ble_eq_true rfl⟩) hK hR.1 rfl hR rfl hl.1 rfl (Nat.le_of_ble_eq_true rfl) dL_law_247 ⟨by show cells ≤ 600000; omega, by show slots ≤ 7302250; omega⟩ ?_
  refine lv_icmp_eq (tgt := 344) hx hb dL_law_250 (by decide) (fun _ => ?_) (fun c_9 => absurd (rfl) c_9)
  exact kk sv fv cn pl X _ _ _ _ _ ⟨hOrd, by omega, hcn, ⟨_, _, _, _, _, _, _, _, hR⟩, hX, hT, hSl, hFa, hRst⟩ hS (by omega) (by omega) (lv_sub hl [0, 1, 2, 3] rfl)

set_option maxHeartbeats 4000000 in
set_option maxRecDepth 100000 in
theorem law_many {p : Program} {l : Launch} {en : Env} {s : State} {m : MethodId} {below : List Frame} {meth : Method} {c : Code} {b L : Nat} {xs : Nat → Int32} (hL : L ≤ 3072) (C0 : lw_At p s m meth c b L xs) {G : zG} (hK : zK G s) {x tp qb mt ms sl fa o : Nat} {sv fv : Nat → Nat} {cn : Nat} {pl : Int32} {X : Nat → Nat → Nat} {H : Heap} {locs : List Loc} {cells slots i0 : Nat} (hI : Inv G x tp qb mt ms sl fa o sv fv cn pl X H) (hi0 : i0 + 6 ≤ L) (hns : s.heap.size ≤ x) (hS : va_S (fun q => s.heap.size ≤ q) s.heap H locs) (hcc : cells + 44 * cn + 886 ≤ 600000) (hss : slots + 50 * cn + 1027 ≤ 7302250) {ls : Array Slot} (hl : lv_has ls 4 [(0, .ref b), (1, .ref x), (2, .ref o), (3, .int (nI i0))]) (i y : Nat) (hi : i < 4) (hy : y < 4) (e1 : xs (i0 + 1) = nI i) (e2 : xs (i0 + 2) = nI y) (kk : LwK p l en s m below meth c b G x tp qb mt ms sl fa o i0 cn cells slots) : W p l en room_1 s m #[Value.ref b] below meth c H locs cells slots (lw_Z below #[Value.ref b] s) (F0 m 222 ls []) := by
  obtain ⟨hx, hb, hr, hml, hown, hts0, hXs, hbl, hlocks, hgv⟩ := C0
  have hown : s.vm.findClass RL = some m.cls := hown
  have hz : ∀ w ∈ zW, w.before #[Value.ref b] s = true := fun w h => hts0 w (List.mem_filter.mp h).1
  have hts : ∀ w ∈ wsL, w.before #[Value.ref b] s = true := fun w h => (List.mem_cons.mp h).elim (fun e => by rw [e]; exact hz _ wm_L_9) (hz w)
  have hbA : ¬ (fun q : Nat => s.heap.size ≤ q) b := Nat.not_le.mpr hbl
  obtain ⟨hOrd, hsz, hcn, ⟨wr, wa, nc, np, ns, f9, nd, u, hR⟩, hX, hT, hSl, hFa, hRst⟩ := hI
  have hord := hOrd
  unfold OrdI at hord
  obtain ⟨rt, ca, cc, hFl, hCa, ⟨hc0, hc1, hc2, hc3⟩, hBx⟩ := (hRst.2.2.2.2 i hi).cnt (by omega)
  have hcy : cc y = if y = 0 then (els (X 1) (8000 + 2000 * i)).length else X (3 + y) i := by
    have h4 : y = 0 ∨ y = 1 ∨ y = 2 ∨ y = 3 := by omega
    rcases h4 with e | e | e | e <;> subst e
    · rw [if_pos rfl]; exact hc0
    · rw [if_neg (by decide)]; exact hc1
    · rw [if_neg (by decide)]; exact hc2
    · rw [if_neg (by decide)]; exact hc3
  refine lv_aload_n hx hb dL_law_222 rfl (lv_at hl 1 rfl) ?_
  refine lv_aload_n hx hb dL_law_223 rfl (lv_at hl 0 rfl) ?_
  refine lv_iload_n hx hb dL_law_224 rfl (lv_at hl 3 rfl) ?_
  refine lv_iconst (v := nI 1) hx hb dL_law_225 (by decide) ?_
  refine zi_add hx hb dL_law_226 ?_
  refine zl_ald (v := nI (i)) hx hb hXs hbl hbA hS (show i0 + 1 < L by omega) hL e1 dL_law_227 ?_
  refine lv_aload_n hx hb dL_law_228 rfl (lv_at hl 0 rfl) ?_
  refine lv_iload_n hx hb dL_law_229 rfl (lv_at hl 3 rfl) ?_
  refine lv_iconst (v := nI 2) hx hb dL_law_230 (by decide) ?_
  refine zi_add hx hb dL_law_231 ?_
  refine zl_ald (v := nI (y)) hx hb hXs hbl hbA hS (show i0 + 2 < L by omega) hL e2 dL_law_232 ?_
  refine zc_V (As := [.int (nI (i)), .int (nI (y))]) (rest := []) ⟨hx, hb, hml, hown, hts⟩ (c_many_y l G x tp mt sl fa pl fv i rt ca cc hi y hy) (cwV 2 hts (zgV wm_L_32 wv_X10_many) rfl rfl rfl (by decide +kernel) ⟨Nat.le_of_ble_eq_true rfl, Nat.le_of_ble_eq_true rfl⟩) hK hX rfl ⟨hX, hFa, hFl, hCa⟩ rfl hl.1 rfl (Nat.le_of_ble_eq_true rfl) dL_law_233 ⟨by show cells ≤ 600000; omega, by show slots ≤ 7302250; omega⟩ ?_
  refine lv_aload_n hx hb dL_law_236 rfl (lv_at hl 2 rfl) ?_
  refine lv_aload_n hx hb dL_law_237 rfl (lv_at hl 0 rfl) ?_
  refine lv_iload_n hx hb dL_law_238 rfl (lv_at hl 3 rfl) ?_
  refine lv_iconst (v := nI 1) hx hb dL_law_239 (by decide) ?_
  refine zi_add hx hb dL_law_240 ?_
  refine zl_ald (v := nI (i)) hx hb hXs hbl hbA hS (show i0 + 1 < L by omega) hL e1 dL_law_241 ?_
  refine lv_aload_n hx hb dL_law_242 rfl (lv_at hl 0 rfl) ?_
  refine lv_iload_n hx hb dL_law_243 rfl (lv_at hl 3 rfl) ?_
  refine lv_iconst (v := nI 2) hx hb dL_law_244 (by decide) ?_
  refine zi_add hx hb dL_law_245 ?_
  refine zl_ald (v := nI (y)) hx hb hXs hbl hbA hS (show i0 + 2 < L by omega) hL e2 dL_law_246 ?_
  refine zc_V (As := [.int (nI (i)), .int (nI (y))]) (rest := [.int (nI (cc y))]) ⟨hx, hb, hml, hown, hts⟩ (m_many l G o (qo o) cn pl wr wa nc np ns f9 nd u X i y hi hy hBx) (cwV 2 hts (zgV wm_L_35 wv_X11_many) rfl rfl rfl (by decide +kernel) ⟨Nat.le_of_ble_eq_true rfl, Nat.le_of_ble_eq_true rfl⟩) hK hR.1 rfl hR rfl hl.1 rfl (Nat.le_of_ble_eq_true rfl) dL_law_247 ⟨by show cells ≤ 600000; omega, by show slots ≤ 7302250; omega⟩ ?_
  refine lv_icmp_eq (tgt := 344) hx hb dL_law_250 (by decide) (fun _ => ?_) (fun c_9 => absurd (by rw [hcy]) c_9)
  exact kk sv fv cn pl X _ _ _ _ _ ⟨hOrd, by omega, hcn, ⟨_, _, _, _, _, _, _, _, hR⟩, hX, hT, hSl, hFa, hRst⟩ hS (by omega) (by omega) (lv_sub hl [0, 1, 2, 3] rfl)

set_option maxHeartbeats 4000000 in
set_option maxRecDepth 100000 in
theorem law_holds_n1 {p : Program} {l : Launch} {en : Env} {s : State} {m : MethodId} {below : List Frame} {meth : Method} {c : Code} {b L : Nat} {xs : Nat → Int32} (hL : L ≤ 3072) (C0 : lw_At p s m meth c b L xs) {G : zG} (hK : zK G s) {x tp qb mt ms sl fa o : Nat} {sv fv : Nat → Nat} {cn : Nat} {pl : Int32} {X : Nat → Nat → Nat} {H : Heap} {locs : List Loc} {cells slots i0 : Nat} (hI : Inv G x tp qb mt ms sl fa o sv fv cn pl X H) (hi0 : i0 + 6 ≤ L) (hns : s.heap.size ≤ x) (hS : va_S (fun q => s.heap.size ≤ q) s.heap H locs) (hcc : cells + 44 * cn + 886 ≤ 600000) (hss : slots + 50 * cn + 1027 ≤ 7302250) {ls : Array Slot} (hl : lv_has ls 4 [(0, .ref b), (1, .ref x), (2, .ref o), (3, .int (nI i0))]) (j : Nat) (hj : j < 4) (hy : is4i (xs (i0 + 1)) = false) (e2 : xs (i0 + 2) = nI j) (kk : LwK p l en s m below meth c b G x tp qb mt ms sl fa o i0 cn cells slots) : W p l en room_1 s m #[Value.ref b] below meth c H locs cells slots (lw_Z below #[Value.ref b] s) (F0 m 255 ls []) := by
  obtain ⟨hx, hb, hr, hml, hown, hts0, hXs, hbl, hlocks, hgv⟩ := C0
  have hown : s.vm.findClass RL = some m.cls := hown
  have hz : ∀ w ∈ zW, w.before #[Value.ref b] s = true := fun w h => hts0 w (List.mem_filter.mp h).1
  have hts : ∀ w ∈ wsL, w.before #[Value.ref b] s = true := fun w h => (List.mem_cons.mp h).elim (fun e => by rw [e]; exact hz _ wm_L_9) (hz w)
  have hbA : ¬ (fun q : Nat => s.heap.size ≤ q) b := Nat.not_le.mpr hbl
  obtain ⟨hOrd, hsz, hcn, ⟨wr, wa, nc, np, ns, f9, nd, u, hR⟩, hX, hT, hSl, hFa, hRst⟩ := hI
  have hord := hOrd
  unfold OrdI at hord
  refine lv_aload_n hx hb dL_law_255 rfl (lv_at hl 1 rfl) ?_
  refine lv_aload_n hx hb dL_law_256 rfl (lv_at hl 0 rfl) ?_
  refine lv_iload_n hx hb dL_law_257 rfl (lv_at hl 3 rfl) ?_
  refine lv_iconst (v := nI 1) hx hb dL_law_258 (by decide) ?_
  refine zi_add hx hb dL_law_259 ?_
  refine zl_ald (v := xs (i0 + 1)) hx hb hXs hbl hbA hS (show i0 + 1 < L by omega) hL rfl dL_law_260 ?_
  refine lv_aload_n hx hb dL_law_261 rfl (lv_at hl 0 rfl) ?_
  refine lv_iload_n hx hb dL_law_262 rfl (lv_at hl 3 rfl) ?_
  refine lv_iconst (v := nI 2) hx hb dL_law_263 (by decide) ?_
  refine zi_add hx hb dL_law_264 ?_
  refine zl_ald (v := nI (j)) hx hb hXs hbl hbA hS (show i0 + 2 < L by omega) hL e2 dL_law_265 ?_
  refine zc_V (As := [.int (xs (i0 + 1)), .int (nI (j))]) (rest := []) ⟨hx, hb, hml, hown, hts⟩ (c_holds_n1 l G x tp mt sl fa pl sv fv (xs (i0 + 1)) j hy hj) (cwV 2 hts (zgV wm_L_36 wv_X10_holds) rfl rfl rfl (by decide +kernel) ⟨Nat.le_of_ble_eq_true rfl, Nat.le_of_ble_eq_true rfl⟩) hK hX rfl ⟨hX, hSl, hFa⟩ rfl hl.1 rfl (Nat.le_of_ble_eq_true rfl) dL_law_266 ⟨by show cells ≤ 600000; omega, by show slots ≤ 7302250; omega⟩ ?_
  refine lv_aload_n hx hb dL_law_269 rfl (lv_at hl 2 rfl) ?_
  refine lv_aload_n hx hb dL_law_270 rfl (lv_at hl 0 rfl) ?_
  refine lv_iload_n hx hb dL_law_271 rfl (lv_at hl 3 rfl) ?_
  refine lv_iconst (v := nI 1) hx hb dL_law_272 (by decide) ?_
  refine zi_add hx hb dL_law_273 ?_
  refine zl_ald (v := xs (i0 + 1)) hx hb hXs hbl hbA hS (show i0 + 1 < L by omega) hL rfl dL_law_274 ?_
  refine lv_aload_n hx hb dL_law_275 rfl (lv_at hl 0 rfl) ?_
  refine lv_iload_n hx hb dL_law_276 rfl (lv_at hl 3 rfl) ?_
  refine lv_iconst (v := nI 2) hx hb dL_law_277 (by decide) ?_
  refine zi_add hx hb dL_law_278 ?_
  refine zl_ald (v := nI (j)) hx hb hXs hbl hbA hS (show i0 + 2 < L by omega) hL e2 dL_law_279 ?_
  refine zx_V (As := [.int (xs (i0 + 1)), .int (nI (j))]) (rest := [.int ((-1))]) ⟨hx, hb, hml, hown, hts⟩ (Met.qx (m_holds_no l G o (qo o 1) (rF (qo o) cn pl wr wa nc np ns f9 nd u) (X 1) (xs (i0 + 1)) (nI j) u (fun h => by rw [hy] at h; exact absurd h.1 (by decide)))) (cwV 2 hts (zgV wm_L_39 wv_X11_holds) rfl rfl rfl (by decide +kernel) ⟨Nat.le_of_ble_eq_true rfl, Nat.le_of_ble_eq_true rfl⟩) hK hR.1 rfl hR.mm rfl hl.1 rfl (Nat.le_of_ble_eq_true rfl) dL_law_280 ⟨by show cells + 0 ≤ 600000; omega, by show slots + 0 ≤ 7302250; omega⟩ hS (by intro q hq; have hq : q = o := hq; first | omega | (dsimp only; omega)) (fun r9 H locs hPo hz9 hk9 hS => ?_)
  have hk0 := hk9
  have hk9 : zKp (rAx o (qo o)) _ _ := hk9.wk (fun q _ hq => Or.inl hq)
  have hX := hX.keep hk9 (by intro ha; have ha := rAx_o ha; omega)
  have hT := hT.keep hk9 ⟨by intro ha; have ha := rAx_o ha; omega, by intro ha; have ha := rAx_o ha; omega⟩
  have hSl := hSl.keep hk9 (by intro ha; have ha := rAx_o ha; omega)
  have hFa := hFa.keep hk9 (by intro ha; have ha := rAx_o ha; omega)
  have hRst := hRst.keep hk9 ⟨hOrd, by omega, by intro q hq hq2; first | exact Or.inr (Or.inr (Or.inr (Or.inr (Or.inr (rAx_o hq2))))) | (unfold Ex; omega) | (unfold Ex; dsimp only at hq2; omega)⟩
  obtain ⟨rfl, hM⟩ := hPo
  have hR := hR.ofMM hM (fun q h1 h2 => hk0 q h1 h2)
  refine W.eq (g2 := F0 m 283 ls ([.int ((-1)), .int ((-1))])) rfl ?_
  refine lv_icmp_eq (tgt := 344) hx hb dL_law_283 (by decide) (fun _ => ?_) (fun c_9 => absurd (rfl) c_9)
  exact kk sv fv cn pl X _ _ _ _ _ ⟨hOrd, by omega, hcn, ⟨_, _, _, _, _, _, _, _, hR⟩, hX, hT, hSl, hFa, hRst⟩ hS (by omega) (by omega) (lv_sub hl [0, 1, 2, 3] rfl)

set_option maxHeartbeats 4000000 in
set_option maxRecDepth 100000 in
theorem law_holds_n2 {p : Program} {l : Launch} {en : Env} {s : State} {m : MethodId} {below : List Frame} {meth : Method} {c : Code} {b L : Nat} {xs : Nat → Int32} (hL : L ≤ 3072) (C0 : lw_At p s m meth c b L xs) {G : zG} (hK : zK G s) {x tp qb mt ms sl fa o : Nat} {sv fv : Nat → Nat} {cn : Nat} {pl : Int32} {X : Nat → Nat → Nat} {H : Heap} {locs : List Loc} {cells slots i0 : Nat} (hI : Inv G x tp qb mt ms sl fa o sv fv cn pl X H) (hi0 : i0 + 6 ≤ L) (hns : s.heap.size ≤ x) (hS : va_S (fun q => s.heap.size ≤ q) s.heap H locs) (hcc : cells + 44 * cn + 886 ≤ 600000) (hss : slots + 50 * cn + 1027 ≤ 7302250) {ls : Array Slot} (hl : lv_has ls 4 [(0, .ref b), (1, .ref x), (2, .ref o), (3, .int (nI i0))]) (i : Nat) (hi : i < 4) (e1 : xs (i0 + 1) = nI i) (hz9 : is4i (xs (i0 + 2)) = false) (kk : LwK p l en s m below meth c b G x tp qb mt ms sl fa o i0 cn cells slots) : W p l en room_1 s m #[Value.ref b] below meth c H locs cells slots (lw_Z below #[Value.ref b] s) (F0 m 255 ls []) := by
  obtain ⟨hx, hb, hr, hml, hown, hts0, hXs, hbl, hlocks, hgv⟩ := C0
  have hown : s.vm.findClass RL = some m.cls := hown
  have hz : ∀ w ∈ zW, w.before #[Value.ref b] s = true := fun w h => hts0 w (List.mem_filter.mp h).1
  have hts : ∀ w ∈ wsL, w.before #[Value.ref b] s = true := fun w h => (List.mem_cons.mp h).elim (fun e => by rw [e]; exact hz _ wm_L_9) (hz w)
  have hbA : ¬ (fun q : Nat => s.heap.size ≤ q) b := Nat.not_le.mpr hbl
  obtain ⟨hOrd, hsz, hcn, ⟨wr, wa, nc, np, ns, f9, nd, u, hR⟩, hX, hT, hSl, hFa, hRst⟩ := hI
  have hord := hOrd
  unfold OrdI at hord
  refine lv_aload_n hx hb dL_law_255 rfl (lv_at hl 1 rfl) ?_
  refine lv_aload_n hx hb dL_law_256 rfl (lv_at hl 0 rfl) ?_
  refine lv_iload_n hx hb dL_law_257 rfl (lv_at hl 3 rfl) ?_
  refine lv_iconst (v := nI 1) hx hb dL_law_258 (by decide) ?_
  refine zi_add hx hb dL_law_259 ?_
  refine zl_ald (v := nI (i)) hx hb hXs hbl hbA hS (show i0 + 1 < L by omega) hL e1 dL_law_260 ?_
  refine lv_aload_n hx hb dL_law_261 rfl (lv_at hl 0 rfl) ?_
  refine lv_iload_n hx hb dL_law_262 rfl (lv_at hl 3 rfl) ?_
  refine lv_iconst (v := nI 2) hx hb dL_law_263 (by decide) ?_
  refine zi_add hx hb dL_law_264 ?_
  refine zl_ald (v := xs (i0 + 2)) hx hb hXs hbl hbA hS (show i0 + 2 < L by omega) hL rfl dL_law_265 ?_
  refine zc_V (As := [.int (nI (i)), .int (xs (i0 + 2))]) (rest := []) ⟨hx, hb, hml, hown, hts⟩ (c_holds_n2 l G x tp mt sl fa pl sv fv i (xs (i0 + 2)) hi hz9) (cwV 2 hts (zgV wm_L_36 wv_X10_holds) rfl rfl rfl (by decide +kernel) ⟨Nat.le_of_ble_eq_true rfl, Nat.le_of_ble_eq_true rfl⟩) hK hX rfl ⟨hX, hSl, hFa⟩ rfl hl.1 rfl (Nat.le_of_ble_eq_true rfl) dL_law_266 ⟨by show cells ≤ 600000; omega, by show slots ≤ 7302250; omega⟩ ?_
  refine lv_aload_n hx hb dL_law_269 rfl (lv_at hl 2 rfl) ?_
  refine lv_aload_n hx hb dL_law_270 rfl (lv_at hl 0 rfl) ?_
  refine lv_iload_n hx hb dL_law_271 rfl (lv_at hl 3 rfl) ?_
  refine lv_iconst (v := nI 1) hx hb dL_law_272 (by decide) ?_
  refine zi_add hx hb dL_law_273 ?_
  refine zl_ald (v := nI (i)) hx hb hXs hbl hbA hS (show i0 + 1 < L by omega) hL e1 dL_law_274 ?_
  refine lv_aload_n hx hb dL_law_275 rfl (lv_at hl 0 rfl) ?_
  refine lv_iload_n hx hb dL_law_276 rfl (lv_at hl 3 rfl) ?_
  refine lv_iconst (v := nI 2) hx hb dL_law_277 (by decide) ?_
  refine zi_add hx hb dL_law_278 ?_
  refine zl_ald (v := xs (i0 + 2)) hx hb hXs hbl hbA hS (show i0 + 2 < L by omega) hL rfl dL_law_279 ?_
  refine zx_V (As := [.int (nI (i)), .int (xs (i0 + 2))]) (rest := [.int ((-1))]) ⟨hx, hb, hml, hown, hts⟩ (Met.qx (m_holds_no l G o (qo o 1) (rF (qo o) cn pl wr wa nc np ns f9 nd u) (X 1) (nI i) (xs (i0 + 2)) u (fun h => by rw [hz9] at h; exact absurd h.2 (by decide)))) (cwV 2 hts (zgV wm_L_39 wv_X11_holds) rfl rfl rfl (by decide +kernel) ⟨Nat.le_of_ble_eq_true rfl, Nat.le_of_ble_eq_true rfl⟩) hK hR.1 rfl hR.mm rfl hl.1 rfl (Nat.le_of_ble_eq_true rfl) dL_law_280 ⟨by show cells + 0 ≤ 600000; omega, by show slots + 0 ≤ 7302250; omega⟩ hS (by intro q hq; have hq : q = o := hq; first | omega | (dsimp only; omega)) (fun r9 H locs hPo hz9 hk9 hS => ?_)
  have hk0 := hk9
  have hk9 : zKp (rAx o (qo o)) _ _ := hk9.wk (fun q _ hq => Or.inl hq)
  have hX := hX.keep hk9 (by intro ha; have ha := rAx_o ha; omega)
  have hT := hT.keep hk9 ⟨by intro ha; have ha := rAx_o ha; omega, by intro ha; have ha := rAx_o ha; omega⟩
  have hSl := hSl.keep hk9 (by intro ha; have ha := rAx_o ha; omega)
  have hFa := hFa.keep hk9 (by intro ha; have ha := rAx_o ha; omega)
  have hRst := hRst.keep hk9 ⟨hOrd, by omega, by intro q hq hq2; first | exact Or.inr (Or.inr (Or.inr (Or.inr (Or.inr (rAx_o hq2))))) | (unfold Ex; omega) | (unfold Ex; dsimp only at hq2; omega)⟩
  obtain ⟨rfl, hM⟩ := hPo
  have hR := hR.ofMM hM (fun q h1 h2 => hk0 q h1 h2)
  refine W.eq (g2 := F0 m 283 ls ([.int ((-1)), .int ((-1))])) rfl ?_
  refine lv_icmp_eq (tgt := 344) hx hb dL_law_283 (by decide) (fun _ => ?_) (fun c_9 => absurd (rfl) c_9)
  exact kk sv fv cn pl X _ _ _ _ _ ⟨hOrd, by omega, hcn, ⟨_, _, _, _, _, _, _, _, hR⟩, hX, hT, hSl, hFa, hRst⟩ hS (by omega) (by omega) (lv_sub hl [0, 1, 2, 3] rfl)

set_option maxHeartbeats 4000000 in
set_option maxRecDepth 100000 in
theorem law_holds_n3 {p : Program} {l : Launch} {en : Env} {s : State} {m : MethodId} {below : List Frame} {meth : Method} {c : Code} {b L : Nat} {xs : Nat → Int32} (hL : L ≤ 3072) (C0 : lw_At p s m meth c b L xs) {G : zG} (hK : zK G s) {x tp qb mt ms sl fa o : Nat} {sv fv : Nat → Nat} {cn : Nat} {pl : Int32} {X : Nat → Nat → Nat} {H : Heap} {locs : List Loc} {cells slots i0 : Nat} (hI : Inv G x tp qb mt ms sl fa o sv fv cn pl X H) (hi0 : i0 + 6 ≤ L) (hns : s.heap.size ≤ x) (hS : va_S (fun q => s.heap.size ≤ q) s.heap H locs) (hcc : cells + 44 * cn + 886 ≤ 600000) (hss : slots + 50 * cn + 1027 ≤ 7302250) {ls : Array Slot} (hl : lv_has ls 4 [(0, .ref b), (1, .ref x), (2, .ref o), (3, .int (nI i0))]) (hy : is4i (xs (i0 + 1)) = false) (hz9 : is4i (xs (i0 + 2)) = false) (kk : LwK p l en s m below meth c b G x tp qb mt ms sl fa o i0 cn cells slots) : W p l en room_1 s m #[Value.ref b] below meth c H locs cells slots (lw_Z below #[Value.ref b] s) (F0 m 255 ls []) := by
  obtain ⟨hx, hb, hr, hml, hown, hts0, hXs, hbl, hlocks, hgv⟩ := C0
  have hown : s.vm.findClass RL = some m.cls := hown
  have hz : ∀ w ∈ zW, w.before #[Value.ref b] s = true := fun w h => hts0 w (List.mem_filter.mp h).1
  have hts : ∀ w ∈ wsL, w.before #[Value.ref b] s = true := fun w h => (List.mem_cons.mp h).elim (fun e => by rw [e]; exact hz _ wm_L_9) (hz w)
  have hbA : ¬ (fun q : Nat => s.heap.size ≤ q) b := Nat.not_le.mpr hbl
  obtain ⟨hOrd, hsz, hcn, ⟨wr, wa, nc, np, ns, f9, nd, u, hR⟩, hX, hT, hSl, hFa, hRst⟩ := hI
  have hord := hOrd
  unfold OrdI at hord
  refine lv_aload_n hx hb dL_law_255 rfl (lv_at hl 1 rfl) ?_
  refine lv_aload_n hx hb dL_law_256 rfl (lv_at hl 0 rfl) ?_
  refine lv_iload_n hx hb dL_law_257 rfl (lv_at hl 3 rfl) ?_
  refine lv_iconst (v := nI 1) hx hb dL_law_258 (by decide) ?_
  refine zi_add hx hb dL_law_259 ?_
  refine zl_ald (v := xs (i0 + 1)) hx hb hXs hbl hbA hS (show i0 + 1 < L by omega) hL rfl dL_law_260 ?_
  refine lv_aload_n hx hb dL_law_261 rfl (lv_at hl 0 rfl) ?_
  refine lv_iload_n hx hb dL_law_262 rfl (lv_at hl 3 rfl) ?_
  refine lv_iconst (v := nI 2) hx hb dL_law_263 (by decide) ?_
  refine zi_add hx hb dL_law_264 ?_
  refine zl_ald (v := xs (i0 + 2)) hx hb hXs hbl hbA hS (show i0 + 2 < L by omega) hL rfl dL_law_265 ?_
  refine zc_V (As := [.int (xs (i0 + 1)), .int (xs (i0 + 2))]) (rest := []) ⟨hx, hb, hml, hown, hts⟩ (c_holds_n3 l G x tp mt sl fa pl sv fv (xs (i0 + 1)) (xs (i0 + 2)) hy hz9) (cwV 2 hts (zgV wm_L_36 wv_X10_holds) rfl rfl rfl (by decide +kernel) ⟨Nat.le_of_ble_eq_true rfl, Nat.le_of_ble_eq_true rfl⟩) hK hX rfl ⟨hX, hSl, hFa⟩ rfl hl.1 rfl (Nat.le_of_ble_eq_true rfl) dL_law_266 ⟨by show cells ≤ 600000; omega, by show slots ≤ 7302250; omega⟩ ?_
  refine lv_aload_n hx hb dL_law_269 rfl (lv_at hl 2 rfl) ?_
  refine lv_aload_n hx hb dL_law_270 rfl (lv_at hl 0 rfl) ?_
  refine lv_iload_n hx hb dL_law_271 rfl (lv_at hl 3 rfl) ?_
  refine lv_iconst (v := nI 1) hx hb dL_law_272 (by decide) ?_
  refine zi_add hx hb dL_law_273 ?_
  refine zl_ald (v := xs (i0 + 1)) hx hb hXs hbl hbA hS (show i0 + 1 < L by omega) hL rfl dL_law_274 ?_
  refine lv_aload_n hx hb dL_law_275 rfl (lv_at hl 0 rfl) ?_
  refine lv_iload_n hx hb dL_law_276 rfl (lv_at hl 3 rfl) ?_
  refine lv_iconst (v := nI 2) hx hb dL_law_277 (by decide) ?_
  refine zi_add hx hb dL_law_278 ?_
  refine zl_ald (v := xs (i0 + 2)) hx hb hXs hbl hbA hS (show i0 + 2 < L by omega) hL rfl dL_law_279 ?_
  refine zx_V (As := [.int (xs (i0 + 1)), .int (xs (i0 + 2))]) (rest := [.int ((-1))]) ⟨hx, hb, hml, hown, hts⟩ (Met.qx (m_holds_no l G o (qo o 1) (rF (qo o) cn pl wr wa nc np ns f9 nd u) (X 1) (xs (i0 + 1)) (xs (i0 + 2)) u (fun h => by rw [hy] at h; exact absurd h.1 (by decide)))) (cwV 2 hts (zgV wm_L_39 wv_X11_holds) rfl rfl rfl (by decide +kernel) ⟨Nat.le_of_ble_eq_true rfl, Nat.le_of_ble_eq_true rfl⟩) hK hR.1 rfl hR.mm rfl hl.1 rfl (Nat.le_of_ble_eq_true rfl) dL_law_280 ⟨by show cells + 0 ≤ 600000; omega, by show slots + 0 ≤ 7302250; omega⟩ hS (by intro q hq; have hq : q = o := hq; first | omega | (dsimp only; omega)) (fun r9 H locs hPo hz9 hk9 hS => ?_)
  have hk0 := hk9
  have hk9 : zKp (rAx o (qo o)) _ _ := hk9.wk (fun q _ hq => Or.inl hq)
  have hX := hX.keep hk9 (by intro ha; have ha := rAx_o ha; omega)
  have hT := hT.keep hk9 ⟨by intro ha; have ha := rAx_o ha; omega, by intro ha; have ha := rAx_o ha; omega⟩
  have hSl := hSl.keep hk9 (by intro ha; have ha := rAx_o ha; omega)
  have hFa := hFa.keep hk9 (by intro ha; have ha := rAx_o ha; omega)
  have hRst := hRst.keep hk9 ⟨hOrd, by omega, by intro q hq hq2; first | exact Or.inr (Or.inr (Or.inr (Or.inr (Or.inr (rAx_o hq2))))) | (unfold Ex; omega) | (unfold Ex; dsimp only at hq2; omega)⟩
  obtain ⟨rfl, hM⟩ := hPo
  have hR := hR.ofMM hM (fun q h1 h2 => hk0 q h1 h2)
  refine W.eq (g2 := F0 m 283 ls ([.int ((-1)), .int ((-1))])) rfl ?_
  refine lv_icmp_eq (tgt := 344) hx hb dL_law_283 (by decide) (fun _ => ?_) (fun c_9 => absurd (rfl) c_9)
  exact kk sv fv cn pl X _ _ _ _ _ ⟨hOrd, by omega, hcn, ⟨_, _, _, _, _, _, _, _, hR⟩, hX, hT, hSl, hFa, hRst⟩ hS (by omega) (by omega) (lv_sub hl [0, 1, 2, 3] rfl)

set_option maxHeartbeats 4000000 in
set_option maxRecDepth 100000 in
theorem law_holds {p : Program} {l : Launch} {en : Env} {s : State} {m : MethodId} {below : List Frame} {meth : Method} {c : Code} {b L : Nat} {xs : Nat → Int32} (hL : L ≤ 3072) (C0 : lw_At p s m meth c b L xs) {G : zG} (hK : zK G s) {x tp qb mt ms sl fa o : Nat} {sv fv : Nat → Nat} {cn : Nat} {pl : Int32} {X : Nat → Nat → Nat} {H : Heap} {locs : List Loc} {cells slots i0 : Nat} (hI : Inv G x tp qb mt ms sl fa o sv fv cn pl X H) (hi0 : i0 + 6 ≤ L) (hns : s.heap.size ≤ x) (hS : va_S (fun q => s.heap.size ≤ q) s.heap H locs) (hcc : cells + 44 * cn + 886 ≤ 600000) (hss : slots + 50 * cn + 1027 ≤ 7302250) {ls : Array Slot} (hl : lv_has ls 4 [(0, .ref b), (1, .ref x), (2, .ref o), (3, .int (nI i0))]) (i j : Nat) (hi : i < 4) (hj : j < 4) (e1 : xs (i0 + 1) = nI i) (e2 : xs (i0 + 2) = nI j) (kk : LwK p l en s m below meth c b G x tp qb mt ms sl fa o i0 cn cells slots) : W p l en room_1 s m #[Value.ref b] below meth c H locs cells slots (lw_Z below #[Value.ref b] s) (F0 m 255 ls []) := by
  obtain ⟨hx, hb, hr, hml, hown, hts0, hXs, hbl, hlocks, hgv⟩ := C0
  have hown : s.vm.findClass RL = some m.cls := hown
  have hz : ∀ w ∈ zW, w.before #[Value.ref b] s = true := fun w h => hts0 w (List.mem_filter.mp h).1
  have hts : ∀ w ∈ wsL, w.before #[Value.ref b] s = true := fun w h => (List.mem_cons.mp h).elim (fun e => by rw [e]; exact hz _ wm_L_9) (hz w)
  have hbA : ¬ (fun q : Nat => s.heap.size ≤ q) b := Nat.not_le.mpr hbl
  obtain ⟨hOrd, hsz, hcn, ⟨wr, wa, nc, np, ns, f9, nd, u, hR⟩, hX, hT, hSl, hFa, hRst⟩ := hI
  have hord := hOrd
  unfold OrdI at hord
  obtain ⟨rt, ca, vl, lo, hi9, Z, rs, hFl, hRt, hRu, hok17, hbw⟩ := (hRst.2.2.2.2 i hi).at (by omega) hR.2.2.2.2.1
  obtain ⟨hv, hN, hokj, howj⟩ := (hRst.2.2.2.1 j hj).at (by omega)
  refine lv_aload_n hx hb dL_law_255 rfl (lv_at hl 1 rfl) ?_
  refine lv_aload_n hx hb dL_law_256 rfl (lv_at hl 0 rfl) ?_
  refine lv_iload_n hx hb dL_law_257 rfl (lv_at hl 3 rfl) ?_
  refine lv_iconst (v := nI 1) hx hb dL_law_258 (by decide) ?_
  refine zi_add hx hb dL_law_259 ?_
  refine zl_ald (v := nI (i)) hx hb hXs hbl hbA hS (show i0 + 1 < L by omega) hL e1 dL_law_260 ?_
  refine lv_aload_n hx hb dL_law_261 rfl (lv_at hl 0 rfl) ?_
  refine lv_iload_n hx hb dL_law_262 rfl (lv_at hl 3 rfl) ?_
  refine lv_iconst (v := nI 2) hx hb dL_law_263 (by decide) ?_
  refine zi_add hx hb dL_law_264 ?_
  refine zl_ald (v := nI (j)) hx hb hXs hbl hbA hS (show i0 + 2 < L by omega) hL e2 dL_law_265 ?_
  refine zc_V (As := [.int (nI (i)), .int (nI (j))]) (rest := []) ⟨hx, hb, hml, hown, hts⟩ (c_holds l G x tp mt sl fa pl sv fv (X 1) (pfc (8000 + 2000 * i)) Z i rt ca ms vl lo hi9 (8000 + 2000 * i) rs hi j (2000 * j) hv (pfc (2000 * j)) hj hokj howj) (cwV 2 hts (zgV wm_L_36 wv_X10_holds) rfl rfl rfl (by decide +kernel) ⟨Nat.le_of_ble_eq_true rfl, Nat.le_of_ble_eq_true rfl⟩) hK hX rfl ⟨hX, hSl, hFa, hFl, hRst.2.1, hRst.2.2.1, hRst.1, hRt, hRu, hN⟩ rfl hl.1 rfl (Nat.le_of_ble_eq_true rfl) dL_law_266 ⟨by show cells ≤ 600000; omega, by show slots ≤ 7302250; omega⟩ ?_
  refine lv_aload_n hx hb dL_law_269 rfl (lv_at hl 2 rfl) ?_
  refine lv_aload_n hx hb dL_law_270 rfl (lv_at hl 0 rfl) ?_
  refine lv_iload_n hx hb dL_law_271 rfl (lv_at hl 3 rfl) ?_
  refine lv_iconst (v := nI 1) hx hb dL_law_272 (by decide) ?_
  refine zi_add hx hb dL_law_273 ?_
  refine zl_ald (v := nI (i)) hx hb hXs hbl hbA hS (show i0 + 1 < L by omega) hL e1 dL_law_274 ?_
  refine lv_aload_n hx hb dL_law_275 rfl (lv_at hl 0 rfl) ?_
  refine lv_iload_n hx hb dL_law_276 rfl (lv_at hl 3 rfl) ?_
  refine lv_iconst (v := nI 2) hx hb dL_law_277 (by decide) ?_
  refine zi_add hx hb dL_law_278 ?_
  refine zl_ald (v := nI (j)) hx hb hXs hbl hbA hS (show i0 + 2 < L by omega) hL e2 dL_law_279 ?_
  refine zx_V (As := [.int (nI (i)), .int (nI (j))]) (rest := [.int (nI (nB ((els (X 1) (8000 + 2000 * i)).all (fun e => clS (X 1) (ecF (X 1) (17 - 1)).1 (ecF (X 1) (17 - 1)).2 e (2000 * j)))))]) ⟨hx, hb, hml, hown, hts⟩ (Met.qx (m_holds l G o (qo o 1) (rF (qo o) cn pl wr wa nc np ns f9 nd u) (X 1) i j u hi hj hok17 hokj)) (cwV 2 hts (zgV wm_L_39 wv_X11_holds) rfl rfl rfl (by decide +kernel) ⟨Nat.le_of_ble_eq_true rfl, Nat.le_of_ble_eq_true rfl⟩) hK hR.1 rfl hR.mm rfl hl.1 rfl (Nat.le_of_ble_eq_true rfl) dL_law_280 ⟨by show cells + 0 ≤ 600000; omega, by show slots + 0 ≤ 7302250; omega⟩ hS (by intro q hq; have hq : q = o := hq; first | omega | (dsimp only; omega)) (fun r9 H locs hPo hz9 hk9 hS => ?_)
  have hk0 := hk9
  have hk9 : zKp (rAx o (qo o)) _ _ := hk9.wk (fun q _ hq => Or.inl hq)
  have hX := hX.keep hk9 (by intro ha; have ha := rAx_o ha; omega)
  have hT := hT.keep hk9 ⟨by intro ha; have ha := rAx_o ha; omega, by intro ha; have ha := rAx_o ha; omega⟩
  have hSl := hSl.keep hk9 (by intro ha; have ha := rAx_o ha; omega)
  have hFa := hFa.keep hk9 (by intro ha; have ha := rAx_o ha; omega)
  have hRst := hRst.keep hk9 ⟨hOrd, by omega, by intro q hq hq2; first | exact Or.inr (Or.inr (Or.inr (Or.inr (Or.inr (rAx_o hq2))))) | (unfold Ex; omega) | (unfold Ex; dsimp only at hq2; omega)⟩
  obtain ⟨rfl, hM⟩ := hPo
  have hR := hR.ofMM hM (fun q h1 h2 => hk0 q h1 h2)
  refine W.eq (g2 := F0 m 283 ls ([.int (nI (nB ((evF (X 1) 17).2 (8000 + 2000 * i) (2000 * j)))), .int (nI (nB ((els (X 1) (8000 + 2000 * i)).all (fun e => clS (X 1) (ecF (X 1) (17 - 1)).1 (ecF (X 1) (17 - 1)).2 e (2000 * j)))))])) rfl ?_
  refine lv_icmp_eq (tgt := 344) hx hb dL_law_283 (by decide) (fun _ => ?_) (fun c_9 => absurd (by rw [ho_ev hok17 hbw hokj]) c_9)
  exact kk sv fv cn pl X _ _ _ _ _ ⟨hOrd, by omega, hcn, ⟨_, _, _, _, _, _, _, _, hR⟩, hX, hT, hSl, hFa, hRst⟩ hS (by omega) (by omega) (lv_sub hl [0, 1, 2, 3] rfl)

set_option maxHeartbeats 4000000 in
set_option maxRecDepth 100000 in
theorem law_fails_n1 {p : Program} {l : Launch} {en : Env} {s : State} {m : MethodId} {below : List Frame} {meth : Method} {c : Code} {b L : Nat} {xs : Nat → Int32} (hL : L ≤ 3072) (C0 : lw_At p s m meth c b L xs) {G : zG} (hK : zK G s) {x tp qb mt ms sl fa o : Nat} {sv fv : Nat → Nat} {cn : Nat} {pl : Int32} {X : Nat → Nat → Nat} {H : Heap} {locs : List Loc} {cells slots i0 : Nat} (hI : Inv G x tp qb mt ms sl fa o sv fv cn pl X H) (hi0 : i0 + 6 ≤ L) (hns : s.heap.size ≤ x) (hS : va_S (fun q => s.heap.size ≤ q) s.heap H locs) (hcc : cells + 44 * cn + 886 ≤ 600000) (hss : slots + 50 * cn + 1027 ≤ 7302250) {ls : Array Slot} (hl : lv_has ls 4 [(0, .ref b), (1, .ref x), (2, .ref o), (3, .int (nI i0))]) (j : Nat) (hj : j < 4) (hy : is4i (xs (i0 + 1)) = false) (e2 : xs (i0 + 2) = nI j) (kk : LwK p l en s m below meth c b G x tp qb mt ms sl fa o i0 cn cells slots) : W p l en room_1 s m #[Value.ref b] below meth c H locs cells slots (lw_Z below #[Value.ref b] s) (F0 m 288 ls []) := by
  obtain ⟨hx, hb, hr, hml, hown, hts0, hXs, hbl, hlocks, hgv⟩ := C0
  have hown : s.vm.findClass RL = some m.cls := hown
  have hz : ∀ w ∈ zW, w.before #[Value.ref b] s = true := fun w h => hts0 w (List.mem_filter.mp h).1
  have hts : ∀ w ∈ wsL, w.before #[Value.ref b] s = true := fun w h => (List.mem_cons.mp h).elim (fun e => by rw [e]; exact hz _ wm_L_9) (hz w)
  have hbA : ¬ (fun q : Nat => s.heap.size ≤ q) b := Nat.not_le.mpr hbl
  obtain ⟨hOrd, hsz, hcn, ⟨wr, wa, nc, np, ns, f9, nd, u, hR⟩, hX, hT, hSl, hFa, hRst⟩ := hI
  have hord := hOrd
  unfold OrdI at hord
  refine lv_aload_n hx hb dL_law_288 rfl (lv_at hl 1 rfl) ?_
  refine lv_aload_n hx hb dL_law_289 rfl (lv_at hl 0 rfl) ?_
  refine lv_iload_n hx hb dL_law_290 rfl (lv_at hl 3 rfl) ?_
  refine lv_iconst (v := nI 1) hx hb dL_law_291 (by decide) ?_
  refine zi_add hx hb dL_law_292 ?_
  refine zl_ald (v := xs (i0 + 1)) hx hb hXs hbl hbA hS (show i0 + 1 < L by omega) hL rfl dL_law_293 ?_
  refine lv_aload_n hx hb dL_law_294 rfl (lv_at hl 0 rfl) ?_
  refine lv_iload_n hx hb dL_law_295 rfl (lv_at hl 3 rfl) ?_
  refine lv_iconst (v := nI 2) hx hb dL_law_296 (by decide) ?_
  refine zi_add hx hb dL_law_297 ?_
  refine zl_ald (v := nI (j)) hx hb hXs hbl hbA hS (show i0 + 2 < L by omega) hL e2 dL_law_298 ?_
  refine zc_V (As := [.int (xs (i0 + 1)), .int (nI (j))]) (rest := []) ⟨hx, hb, hml, hown, hts⟩ (c_fails_n1 l G x tp mt sl fa pl sv fv (xs (i0 + 1)) j hy hj) (cwV 2 hts (zgV wm_L_40 wv_X10_fails) rfl rfl rfl (by decide +kernel) ⟨Nat.le_of_ble_eq_true rfl, Nat.le_of_ble_eq_true rfl⟩) hK hX rfl ⟨hX, hSl, hFa⟩ rfl hl.1 rfl (Nat.le_of_ble_eq_true rfl) dL_law_299 ⟨by show cells ≤ 600000; omega, by show slots ≤ 7302250; omega⟩ ?_
  refine lv_aload_n hx hb dL_law_302 rfl (lv_at hl 2 rfl) ?_
  refine lv_aload_n hx hb dL_law_303 rfl (lv_at hl 0 rfl) ?_
  refine lv_iload_n hx hb dL_law_304 rfl (lv_at hl 3 rfl) ?_
  refine lv_iconst (v := nI 1) hx hb dL_law_305 (by decide) ?_
  refine zi_add hx hb dL_law_306 ?_
  refine zl_ald (v := xs (i0 + 1)) hx hb hXs hbl hbA hS (show i0 + 1 < L by omega) hL rfl dL_law_307 ?_
  refine lv_aload_n hx hb dL_law_308 rfl (lv_at hl 0 rfl) ?_
  refine lv_iload_n hx hb dL_law_309 rfl (lv_at hl 3 rfl) ?_
  refine lv_iconst (v := nI 2) hx hb dL_law_310 (by decide) ?_
  refine zi_add hx hb dL_law_311 ?_
  refine zl_ald (v := nI (j)) hx hb hXs hbl hbA hS (show i0 + 2 < L by omega) hL e2 dL_law_312 ?_
  refine zx_V (As := [.int (xs (i0 + 1)), .int (nI (j))]) (rest := [.int ((-2))]) ⟨hx, hb, hml, hown, hts⟩ (Met.qx (m_fails_no l G o (qo o 1) (rF (qo o) cn pl wr wa nc np ns f9 nd u) (X 1) (xs (i0 + 1)) (nI j) u (fun h => by rw [hy] at h; exact absurd h.1 (by decide)))) (cwV 2 hts (zgV wm_L_43 wv_X11_fails) rfl rfl rfl (by decide +kernel) ⟨Nat.le_of_ble_eq_true rfl, Nat.le_of_ble_eq_true rfl⟩) hK hR.1 rfl hR.mm rfl hl.1 rfl (Nat.le_of_ble_eq_true rfl) dL_law_313 ⟨by show cells + 0 ≤ 600000; omega, by show slots + 0 ≤ 7302250; omega⟩ hS (by intro q hq; have hq : q = o := hq; first | omega | (dsimp only; omega)) (fun r9 H locs hPo hz9 hk9 hS => ?_)
  have hk0 := hk9
  have hk9 : zKp (rAx o (qo o)) _ _ := hk9.wk (fun q _ hq => Or.inl hq)
  have hX := hX.keep hk9 (by intro ha; have ha := rAx_o ha; omega)
  have hT := hT.keep hk9 ⟨by intro ha; have ha := rAx_o ha; omega, by intro ha; have ha := rAx_o ha; omega⟩
  have hSl := hSl.keep hk9 (by intro ha; have ha := rAx_o ha; omega)
  have hFa := hFa.keep hk9 (by intro ha; have ha := rAx_o ha; omega)
  have hRst := hRst.keep hk9 ⟨hOrd, by omega, by intro q hq hq2; first | exact Or.inr (Or.inr (Or.inr (Or.inr (Or.inr (rAx_o hq2))))) | (unfold Ex; omega) | (unfold Ex; dsimp only at hq2; omega)⟩
  obtain ⟨rfl, hM⟩ := hPo
  have hR := hR.ofMM hM (fun q h1 h2 => hk0 q h1 h2)
  refine W.eq (g2 := F0 m 316 ls ([.int ((-2)), .int ((-2))])) rfl ?_
  refine lv_icmp_eq (tgt := 344) hx hb dL_law_316 (by decide) (fun _ => ?_) (fun c_9 => absurd (rfl) c_9)
  exact kk sv fv cn pl X _ _ _ _ _ ⟨hOrd, by omega, hcn, ⟨_, _, _, _, _, _, _, _, hR⟩, hX, hT, hSl, hFa, hRst⟩ hS (by omega) (by omega) (lv_sub hl [0, 1, 2, 3] rfl)

set_option maxHeartbeats 4000000 in
set_option maxRecDepth 100000 in
theorem law_fails_n2 {p : Program} {l : Launch} {en : Env} {s : State} {m : MethodId} {below : List Frame} {meth : Method} {c : Code} {b L : Nat} {xs : Nat → Int32} (hL : L ≤ 3072) (C0 : lw_At p s m meth c b L xs) {G : zG} (hK : zK G s) {x tp qb mt ms sl fa o : Nat} {sv fv : Nat → Nat} {cn : Nat} {pl : Int32} {X : Nat → Nat → Nat} {H : Heap} {locs : List Loc} {cells slots i0 : Nat} (hI : Inv G x tp qb mt ms sl fa o sv fv cn pl X H) (hi0 : i0 + 6 ≤ L) (hns : s.heap.size ≤ x) (hS : va_S (fun q => s.heap.size ≤ q) s.heap H locs) (hcc : cells + 44 * cn + 886 ≤ 600000) (hss : slots + 50 * cn + 1027 ≤ 7302250) {ls : Array Slot} (hl : lv_has ls 4 [(0, .ref b), (1, .ref x), (2, .ref o), (3, .int (nI i0))]) (i : Nat) (hi : i < 4) (e1 : xs (i0 + 1) = nI i) (hz9 : is4i (xs (i0 + 2)) = false) (kk : LwK p l en s m below meth c b G x tp qb mt ms sl fa o i0 cn cells slots) : W p l en room_1 s m #[Value.ref b] below meth c H locs cells slots (lw_Z below #[Value.ref b] s) (F0 m 288 ls []) := by
  obtain ⟨hx, hb, hr, hml, hown, hts0, hXs, hbl, hlocks, hgv⟩ := C0
  have hown : s.vm.findClass RL = some m.cls := hown
  have hz : ∀ w ∈ zW, w.before #[Value.ref b] s = true := fun w h => hts0 w (List.mem_filter.mp h).1
  have hts : ∀ w ∈ wsL, w.before #[Value.ref b] s = true := fun w h => (List.mem_cons.mp h).elim (fun e => by rw [e]; exact hz _ wm_L_9) (hz w)
  have hbA : ¬ (fun q : Nat => s.heap.size ≤ q) b := Nat.not_le.mpr hbl
  obtain ⟨hOrd, hsz, hcn, ⟨wr, wa, nc, np, ns, f9, nd, u, hR⟩, hX, hT, hSl, hFa, hRst⟩ := hI
  have hord := hOrd
  unfold OrdI at hord
  refine lv_aload_n hx hb dL_law_288 rfl (lv_at hl 1 rfl) ?_
  refine lv_aload_n hx hb dL_law_289 rfl (lv_at hl 0 rfl) ?_
  refine lv_iload_n hx hb dL_law_290 rfl (lv_at hl 3 rfl) ?_
  refine lv_iconst (v := nI 1) hx hb dL_law_291 (by decide) ?_
  refine zi_add hx hb dL_law_292 ?_
  refine zl_ald (v := nI (i)) hx hb hXs hbl hbA hS (show i0 + 1 < L by omega) hL e1 dL_law_293 ?_
  refine lv_aload_n hx hb dL_law_294 rfl (lv_at hl 0 rfl) ?_
  refine lv_iload_n hx hb dL_law_295 rfl (lv_at hl 3 rfl) ?_
  refine lv_iconst (v := nI 2) hx hb dL_law_296 (by decide) ?_
  refine zi_add hx hb dL_law_297 ?_
  refine zl_ald (v := xs (i0 + 2)) hx hb hXs hbl hbA hS (show i0 + 2 < L by omega) hL rfl dL_law_298 ?_
  refine zc_V (As := [.int (nI (i)), .int (xs (i0 + 2))]) (rest := []) ⟨hx, hb, hml, hown, hts⟩ (c_fails_n2 l G x tp mt sl fa pl sv fv i (xs (i0 + 2)) hi hz9) (cwV 2 hts (zgV wm_L_40 wv_X10_fails) rfl rfl rfl (by decide +kernel) ⟨Nat.le_of_ble_eq_true rfl, Nat.le_of_ble_eq_true rfl⟩) hK hX rfl ⟨hX, hSl, hFa⟩ rfl hl.1 rfl (Nat.le_of_ble_eq_true rfl) dL_law_299 ⟨by show cells ≤ 600000; omega, by show slots ≤ 7302250; omega⟩ ?_
  refine lv_aload_n hx hb dL_law_302 rfl (lv_at hl 2 rfl) ?_
  refine lv_aload_n hx hb dL_law_303 rfl (lv_at hl 0 rfl) ?_
  refine lv_iload_n hx hb dL_law_304 rfl (lv_at hl 3 rfl) ?_
  refine lv_iconst (v := nI 1) hx hb dL_law_305 (by decide) ?_
  refine zi_add hx hb dL_law_306 ?_
  refine zl_ald (v := nI (i)) hx hb hXs hbl hbA hS (show i0 + 1 < L by omega) hL e1 dL_law_307 ?_
  refine lv_aload_n hx hb dL_law_308 rfl (lv_at hl 0 rfl) ?_
  refine lv_iload_n hx hb dL_law_309 rfl (lv_at hl 3 rfl) ?_
  refine lv_iconst (v := nI 2) hx hb dL_law_310 (by decide) ?_
  refine zi_add hx hb dL_law_311 ?_
  refine zl_ald (v := xs (i0 + 2)) hx hb hXs hbl hbA hS (show i0 + 2 < L by omega) hL rfl dL_law_312 ?_
  refine zx_V (As := [.int (nI (i)), .int (xs (i0 + 2))]) (rest := [.int ((-2))]) ⟨hx, hb, hml, hown, hts⟩ (Met.qx (m_fails_no l G o (qo o 1) (rF (qo o) cn pl wr wa nc np ns f9 nd u) (X 1) (nI i) (xs (i0 + 2)) u (fun h => by rw [hz9] at h; exact absurd h.2 (by decide)))) (cwV 2 hts (zgV wm_L_43 wv_X11_fails) rfl rfl rfl (by decide +kernel) ⟨Nat.le_of_ble_eq_true rfl, Nat.le_of_ble_eq_true rfl⟩) hK hR.1 rfl hR.mm rfl hl.1 rfl (Nat.le_of_ble_eq_true rfl) dL_law_313 ⟨by show cells + 0 ≤ 600000; omega, by show slots + 0 ≤ 7302250; omega⟩ hS (by intro q hq; have hq : q = o := hq; first | omega | (dsimp only; omega)) (fun r9 H locs hPo hz9 hk9 hS => ?_)
  have hk0 := hk9
  have hk9 : zKp (rAx o (qo o)) _ _ := hk9.wk (fun q _ hq => Or.inl hq)
  have hX := hX.keep hk9 (by intro ha; have ha := rAx_o ha; omega)
  have hT := hT.keep hk9 ⟨by intro ha; have ha := rAx_o ha; omega, by intro ha; have ha := rAx_o ha; omega⟩
  have hSl := hSl.keep hk9 (by intro ha; have ha := rAx_o ha; omega)
  have hFa := hFa.keep hk9 (by intro ha; have ha := rAx_o ha; omega)
  have hRst := hRst.keep hk9 ⟨hOrd, by omega, by intro q hq hq2; first | exact Or.inr (Or.inr (Or.inr (Or.inr (Or.inr (rAx_o hq2))))) | (unfold Ex; omega) | (unfold Ex; dsimp only at hq2; omega)⟩
  obtain ⟨rfl, hM⟩ := hPo
  have hR := hR.ofMM hM (fun q h1 h2 => hk0 q h1 h2)
  refine W.eq (g2 := F0 m 316 ls ([.int ((-2)), .int ((-2))])) rfl ?_
  refine lv_icmp_eq (tgt := 344) hx hb dL_law_316 (by decide) (fun _ => ?_) (fun c_9 => absurd (rfl) c_9)
  exact kk sv fv cn pl X _ _ _ _ _ ⟨hOrd, by omega, hcn, ⟨_, _, _, _, _, _, _, _, hR⟩, hX, hT, hSl, hFa, hRst⟩ hS (by omega) (by omega) (lv_sub hl [0, 1, 2, 3] rfl)

set_option maxHeartbeats 4000000 in
set_option maxRecDepth 100000 in
theorem law_fails_n3 {p : Program} {l : Launch} {en : Env} {s : State} {m : MethodId} {below : List Frame} {meth : Method} {c : Code} {b L : Nat} {xs : Nat → Int32} (hL : L ≤ 3072) (C0 : lw_At p s m meth c b L xs) {G : zG} (hK : zK G s) {x tp qb mt ms sl fa o : Nat} {sv fv : Nat → Nat} {cn : Nat} {pl : Int32} {X : Nat → Nat → Nat} {H : Heap} {locs : List Loc} {cells slots i0 : Nat} (hI : Inv G x tp qb mt ms sl fa o sv fv cn pl X H) (hi0 : i0 + 6 ≤ L) (hns : s.heap.size ≤ x) (hS : va_S (fun q => s.heap.size ≤ q) s.heap H locs) (hcc : cells + 44 * cn + 886 ≤ 600000) (hss : slots + 50 * cn + 1027 ≤ 7302250) {ls : Array Slot} (hl : lv_has ls 4 [(0, .ref b), (1, .ref x), (2, .ref o), (3, .int (nI i0))]) (hy : is4i (xs (i0 + 1)) = false) (hz9 : is4i (xs (i0 + 2)) = false) (kk : LwK p l en s m below meth c b G x tp qb mt ms sl fa o i0 cn cells slots) : W p l en room_1 s m #[Value.ref b] below meth c H locs cells slots (lw_Z below #[Value.ref b] s) (F0 m 288 ls []) := by
  obtain ⟨hx, hb, hr, hml, hown, hts0, hXs, hbl, hlocks, hgv⟩ := C0
  have hown : s.vm.findClass RL = some m.cls := hown
  have hz : ∀ w ∈ zW, w.before #[Value.ref b] s = true := fun w h => hts0 w (List.mem_filter.mp h).1
  have hts : ∀ w ∈ wsL, w.before #[Value.ref b] s = true := fun w h => (List.mem_cons.mp h).elim (fun e => by rw [e]; exact hz _ wm_L_9) (hz w)
  have hbA : ¬ (fun q : Nat => s.heap.size ≤ q) b := Nat.not_le.mpr hbl
  obtain ⟨hOrd, hsz, hcn, ⟨wr, wa, nc, np, ns, f9, nd, u, hR⟩, hX, hT, hSl, hFa, hRst⟩ := hI
  have hord := hOrd
  unfold OrdI at hord
  refine lv_aload_n hx hb dL_law_288 rfl (lv_at hl 1 rfl) ?_
  refine lv_aload_n hx hb dL_law_289 rfl (lv_at hl 0 rfl) ?_
  refine lv_iload_n hx hb dL_law_290 rfl (lv_at hl 3 rfl) ?_
  refine lv_iconst (v := nI 1) hx hb dL_law_291 (by decide) ?_
  refine zi_add hx hb dL_law_292 ?_
  refine zl_ald (v := xs (i0 + 1)) hx hb hXs hbl hbA hS (show i0 + 1 < L by omega) hL rfl dL_law_293 ?_
  refine lv_aload_n hx hb dL_law_294 rfl (lv_at hl 0 rfl) ?_
  refine lv_iload_n hx hb dL_law_295 rfl (lv_at hl 3 rfl) ?_
  refine lv_iconst (v := nI 2) hx hb dL_law_296 (by decide) ?_
  refine zi_add hx hb dL_law_297 ?_
  refine zl_ald (v := xs (i0 + 2)) hx hb hXs hbl hbA hS (show i0 + 2 < L by omega) hL rfl dL_law_298 ?_
  refine zc_V (As := [.int (xs (i0 + 1)), .int (xs (i0 + 2))]) (rest := []) ⟨hx, hb, hml, hown, hts⟩ (c_fails_n3 l G x tp mt sl fa pl sv fv (xs (i0 + 1)) (xs (i0 + 2)) hy hz9) (cwV 2 hts (zgV wm_L_40 wv_X10_fails) rfl rfl rfl (by decide +kernel) ⟨Nat.le_of_ble_eq_true rfl, Nat.le_of_ble_eq_true rfl⟩) hK hX rfl ⟨hX, hSl, hFa⟩ rfl hl.1 rfl (Nat.le_of_ble_eq_true rfl) dL_law_299 ⟨by show cells ≤ 600000; omega, by show slots ≤ 7302250; omega⟩ ?_
  refine lv_aload_n hx hb dL_law_302 rfl (lv_at hl 2 rfl) ?_
  refine lv_aload_n hx hb dL_law_303 rfl (lv_at hl 0 rfl) ?_
  refine lv_iload_n hx hb dL_law_304 rfl (lv_at hl 3 rfl) ?_
  refine lv_iconst (v := nI 1) hx hb dL_law_305 (by decide) ?_
  refine zi_add hx hb dL_law_306 ?_
  refine zl_ald (v := xs (i0 + 1)) hx hb hXs hbl hbA hS (show i0 + 1 < L by omega) hL rfl dL_law_307 ?_
  refine lv_aload_n hx hb dL_law_308 rfl (lv_at hl 0 rfl) ?_
  refine lv_iload_n hx hb dL_law_309 rfl (lv_at hl 3 rfl) ?_
  refine lv_iconst (v := nI 2) hx hb dL_law_310 (by decide) ?_
  refine zi_add hx hb dL_law_311 ?_
  refine zl_ald (v := xs (i0 + 2)) hx hb hXs hbl hbA hS (show i0 + 2 < L by omega) hL rfl dL_law_312 ?_
  refine zx_V (As := [.int (xs (i0 + 1)), .int (xs (i0 + 2))]) (rest := [.int ((-2))]) ⟨hx, hb, hml, hown, hts⟩ (Met.qx (m_fails_no l G o (qo o 1) (rF (qo o) cn pl wr wa nc np ns f9 nd u) (X 1) (xs (i0 + 1)) (xs (i0 + 2)) u (fun h => by rw [hy] at h; exact absurd h.1 (by decide)))) (cwV 2 hts (zgV wm_L_43 wv_X11_fails) rfl rfl rfl (by decide +kernel) ⟨Nat.le_of_ble_eq_true rfl, Nat.le_of_ble_eq_true rfl⟩) hK hR.1 rfl hR.mm rfl hl.1 rfl (Nat.le_of_ble_eq_true rfl) dL_law_313 ⟨by show cells + 0 ≤ 600000; omega, by show slots + 0 ≤ 7302250; omega⟩ hS (by intro q hq; have hq : q = o := hq; first | omega | (dsimp only; omega)) (fun r9 H locs hPo hz9 hk9 hS => ?_)
  have hk0 := hk9
  have hk9 : zKp (rAx o (qo o)) _ _ := hk9.wk (fun q _ hq => Or.inl hq)
  have hX := hX.keep hk9 (by intro ha; have ha := rAx_o ha; omega)
  have hT := hT.keep hk9 ⟨by intro ha; have ha := rAx_o ha; omega, by intro ha; have ha := rAx_o ha; omega⟩
  have hSl := hSl.keep hk9 (by intro ha; have ha := rAx_o ha; omega)
  have hFa := hFa.keep hk9 (by intro ha; have ha := rAx_o ha; omega)
  have hRst := hRst.keep hk9 ⟨hOrd, by omega, by intro q hq hq2; first | exact Or.inr (Or.inr (Or.inr (Or.inr (Or.inr (rAx_o hq2))))) | (unfold Ex; omega) | (unfold Ex; dsimp only at hq2; omega)⟩
  obtain ⟨rfl, hM⟩ := hPo
  have hR := hR.ofMM hM (fun q h1 h2 => hk0 q h1 h2)
  refine W.eq (g2 := F0 m 316 ls ([.int ((-2)), .int ((-2))])) rfl ?_
  refine lv_icmp_eq (tgt := 344) hx hb dL_law_316 (by decide) (fun _ => ?_) (fun c_9 => absurd (rfl) c_9)
  exact kk sv fv cn pl X _ _ _ _ _ ⟨hOrd, by omega, hcn, ⟨_, _, _, _, _, _, _, _, hR⟩, hX, hT, hSl, hFa, hRst⟩ hS (by omega) (by omega) (lv_sub hl [0, 1, 2, 3] rfl)

set_option maxHeartbeats 4000000 in
set_option maxRecDepth 100000 in
theorem law_fails {p : Program} {l : Launch} {en : Env} {s : State} {m : MethodId} {below : List Frame} {meth : Method} {c : Code} {b L : Nat} {xs : Nat → Int32} (hL : L ≤ 3072) (C0 : lw_At p s m meth c b L xs) {G : zG} (hK : zK G s) {x tp qb mt ms sl fa o : Nat} {sv fv : Nat → Nat} {cn : Nat} {pl : Int32} {X : Nat → Nat → Nat} {H : Heap} {locs : List Loc} {cells slots i0 : Nat} (hI : Inv G x tp qb mt ms sl fa o sv fv cn pl X H) (hi0 : i0 + 6 ≤ L) (hns : s.heap.size ≤ x) (hS : va_S (fun q => s.heap.size ≤ q) s.heap H locs) (hcc : cells + 44 * cn + 886 ≤ 600000) (hss : slots + 50 * cn + 1027 ≤ 7302250) {ls : Array Slot} (hl : lv_has ls 4 [(0, .ref b), (1, .ref x), (2, .ref o), (3, .int (nI i0))]) (i j : Nat) (hi : i < 4) (hj : j < 4) (e1 : xs (i0 + 1) = nI i) (e2 : xs (i0 + 2) = nI j) (kk : LwK p l en s m below meth c b G x tp qb mt ms sl fa o i0 cn cells slots) : W p l en room_1 s m #[Value.ref b] below meth c H locs cells slots (lw_Z below #[Value.ref b] s) (F0 m 288 ls []) := by
  obtain ⟨hx, hb, hr, hml, hown, hts0, hXs, hbl, hlocks, hgv⟩ := C0
  have hown : s.vm.findClass RL = some m.cls := hown
  have hz : ∀ w ∈ zW, w.before #[Value.ref b] s = true := fun w h => hts0 w (List.mem_filter.mp h).1
  have hts : ∀ w ∈ wsL, w.before #[Value.ref b] s = true := fun w h => (List.mem_cons.mp h).elim (fun e => by rw [e]; exact hz _ wm_L_9) (hz w)
  have hbA : ¬ (fun q : Nat => s.heap.size ≤ q) b := Nat.not_le.mpr hbl
  obtain ⟨hOrd, hsz, hcn, ⟨wr, wa, nc, np, ns, f9, nd, u, hR⟩, hX, hT, hSl, hFa, hRst⟩ := hI
  have hord := hOrd
  unfold OrdI at hord
  obtain ⟨rt, ca, vl, lo, hi9, Z, rs, hFl, hRt, hRu, hok17, hbw⟩ := (hRst.2.2.2.2 i hi).at (by omega) hR.2.2.2.2.1
  obtain ⟨hv, hN, hokj, howj⟩ := (hRst.2.2.2.1 j hj).at (by omega)
  refine lv_aload_n hx hb dL_law_288 rfl (lv_at hl 1 rfl) ?_
  refine lv_aload_n hx hb dL_law_289 rfl (lv_at hl 0 rfl) ?_
  refine lv_iload_n hx hb dL_law_290 rfl (lv_at hl 3 rfl) ?_
  refine lv_iconst (v := nI 1) hx hb dL_law_291 (by decide) ?_
  refine zi_add hx hb dL_law_292 ?_
  refine zl_ald (v := nI (i)) hx hb hXs hbl hbA hS (show i0 + 1 < L by omega) hL e1 dL_law_293 ?_
  refine lv_aload_n hx hb dL_law_294 rfl (lv_at hl 0 rfl) ?_
  refine lv_iload_n hx hb dL_law_295 rfl (lv_at hl 3 rfl) ?_
  refine lv_iconst (v := nI 2) hx hb dL_law_296 (by decide) ?_
  refine zi_add hx hb dL_law_297 ?_
  refine zl_ald (v := nI (j)) hx hb hXs hbl hbA hS (show i0 + 2 < L by omega) hL e2 dL_law_298 ?_
  refine zc_V (As := [.int (nI (i)), .int (nI (j))]) (rest := []) ⟨hx, hb, hml, hown, hts⟩ (c_fails l G x tp mt sl fa pl sv fv (X 1) (pfc (8000 + 2000 * i)) Z i rt ca ms vl lo hi9 (8000 + 2000 * i) rs hi j (2000 * j) hv (pfc (2000 * j)) hj hokj howj) (cwV 2 hts (zgV wm_L_40 wv_X10_fails) rfl rfl rfl (by decide +kernel) ⟨Nat.le_of_ble_eq_true rfl, Nat.le_of_ble_eq_true rfl⟩) hK hX rfl ⟨hX, hSl, hFa, hFl, hRst.2.1, hRst.2.2.1, hRst.1, hRt, hRu, hN⟩ rfl hl.1 rfl (Nat.le_of_ble_eq_true rfl) dL_law_299 ⟨by show cells ≤ 600000; omega, by show slots ≤ 7302250; omega⟩ ?_
  refine lv_aload_n hx hb dL_law_302 rfl (lv_at hl 2 rfl) ?_
  refine lv_aload_n hx hb dL_law_303 rfl (lv_at hl 0 rfl) ?_
  refine lv_iload_n hx hb dL_law_304 rfl (lv_at hl 3 rfl) ?_
  refine lv_iconst (v := nI 1) hx hb dL_law_305 (by decide) ?_
  refine zi_add hx hb dL_law_306 ?_
  refine zl_ald (v := nI (i)) hx hb hXs hbl hbA hS (show i0 + 1 < L by omega) hL e1 dL_law_307 ?_
  refine lv_aload_n hx hb dL_law_308 rfl (lv_at hl 0 rfl) ?_
  refine lv_iload_n hx hb dL_law_309 rfl (lv_at hl 3 rfl) ?_
  refine lv_iconst (v := nI 2) hx hb dL_law_310 (by decide) ?_
  refine zi_add hx hb dL_law_311 ?_
  refine zl_ald (v := nI (j)) hx hb hXs hbl hbA hS (show i0 + 2 < L by omega) hL e2 dL_law_312 ?_
  refine zx_V (As := [.int (nI (i)), .int (nI (j))]) (rest := [.int (fI (fun e => clS (X 1) (ecF (X 1) (17 - 1)).1 (ecF (X 1) (17 - 1)).2 e (2000 * j)) (els (X 1) (8000 + 2000 * i)) 0)]) ⟨hx, hb, hml, hown, hts⟩ (Met.qx (m_fails l G o (qo o 1) (rF (qo o) cn pl wr wa nc np ns f9 nd u) (X 1) i j u hi hj hok17 hokj)) (cwV 2 hts (zgV wm_L_43 wv_X11_fails) rfl rfl rfl (by decide +kernel) ⟨Nat.le_of_ble_eq_true rfl, Nat.le_of_ble_eq_true rfl⟩) hK hR.1 rfl hR.mm rfl hl.1 rfl (Nat.le_of_ble_eq_true rfl) dL_law_313 ⟨by show cells + 0 ≤ 600000; omega, by show slots + 0 ≤ 7302250; omega⟩ hS (by intro q hq; have hq : q = o := hq; first | omega | (dsimp only; omega)) (fun r9 H locs hPo hz9 hk9 hS => ?_)
  have hk0 := hk9
  have hk9 : zKp (rAx o (qo o)) _ _ := hk9.wk (fun q _ hq => Or.inl hq)
  have hX := hX.keep hk9 (by intro ha; have ha := rAx_o ha; omega)
  have hT := hT.keep hk9 ⟨by intro ha; have ha := rAx_o ha; omega, by intro ha; have ha := rAx_o ha; omega⟩
  have hSl := hSl.keep hk9 (by intro ha; have ha := rAx_o ha; omega)
  have hFa := hFa.keep hk9 (by intro ha; have ha := rAx_o ha; omega)
  have hRst := hRst.keep hk9 ⟨hOrd, by omega, by intro q hq hq2; first | exact Or.inr (Or.inr (Or.inr (Or.inr (Or.inr (rAx_o hq2))))) | (unfold Ex; omega) | (unfold Ex; dsimp only at hq2; omega)⟩
  obtain ⟨rfl, hM⟩ := hPo
  have hR := hR.ofMM hM (fun q h1 h2 => hk0 q h1 h2)
  refine W.eq (g2 := F0 m 316 ls ([.int (fI (fun e => EH (X 1) (evF (X 1) 16).1 (evF (X 1) 16).2 e (2000 * j)) (els (X 1) (8000 + 2000 * i)) 0), .int (fI (fun e => clS (X 1) (ecF (X 1) (17 - 1)).1 (ecF (X 1) (17 - 1)).2 e (2000 * j)) (els (X 1) (8000 + 2000 * i)) 0)])) rfl ?_
  refine lv_icmp_eq (tgt := 344) hx hb dL_law_316 (by decide) (fun _ => ?_) (fun c_9 => absurd (fI_ev hok17 hbw hokj) c_9)
  exact kk sv fv cn pl X _ _ _ _ _ ⟨hOrd, by omega, hcn, ⟨_, _, _, _, _, _, _, _, hR⟩, hX, hT, hSl, hFa, hRst⟩ hS (by omega) (by omega) (lv_sub hl [0, 1, 2, 3] rfl)

set_option maxHeartbeats 4000000 in
set_option maxRecDepth 100000 in
theorem law_which_n {p : Program} {l : Launch} {en : Env} {s : State} {m : MethodId} {below : List Frame} {meth : Method} {c : Code} {b L : Nat} {xs : Nat → Int32} (hL : L ≤ 3072) (C0 : lw_At p s m meth c b L xs) {G : zG} (hK : zK G s) {x tp qb mt ms sl fa o : Nat} {sv fv : Nat → Nat} {cn : Nat} {pl : Int32} {X : Nat → Nat → Nat} {H : Heap} {locs : List Loc} {cells slots i0 : Nat} (hI : Inv G x tp qb mt ms sl fa o sv fv cn pl X H) (hi0 : i0 + 6 ≤ L) (hns : s.heap.size ≤ x) (hS : va_S (fun q => s.heap.size ≤ q) s.heap H locs) (hcc : cells + 44 * cn + 886 ≤ 600000) (hss : slots + 50 * cn + 1027 ≤ 7302250) {ls : Array Slot} (hl : lv_has ls 4 [(0, .ref b), (1, .ref x), (2, .ref o), (3, .int (nI i0))]) (hy : is4i (xs (i0 + 1)) = false) (kk : LwK p l en s m below meth c b G x tp qb mt ms sl fa o i0 cn cells slots) : W p l en room_1 s m #[Value.ref b] below meth c H locs cells slots (lw_Z below #[Value.ref b] s) (F0 m 321 ls []) := by
  obtain ⟨hx, hb, hr, hml, hown, hts0, hXs, hbl, hlocks, hgv⟩ := C0
  have hown : s.vm.findClass RL = some m.cls := hown
  have hz : ∀ w ∈ zW, w.before #[Value.ref b] s = true := fun w h => hts0 w (List.mem_filter.mp h).1
  have hts : ∀ w ∈ wsL, w.before #[Value.ref b] s = true := fun w h => (List.mem_cons.mp h).elim (fun e => by rw [e]; exact hz _ wm_L_9) (hz w)
  have hbA : ¬ (fun q : Nat => s.heap.size ≤ q) b := Nat.not_le.mpr hbl
  obtain ⟨hOrd, hsz, hcn, ⟨wr, wa, nc, np, ns, f9, nd, u, hR⟩, hX, hT, hSl, hFa, hRst⟩ := hI
  have hord := hOrd
  unfold OrdI at hord
  refine lv_aload_n hx hb dL_law_321 rfl (lv_at hl 1 rfl) ?_
  refine lv_aload_n hx hb dL_law_322 rfl (lv_at hl 0 rfl) ?_
  refine lv_iload_n hx hb dL_law_323 rfl (lv_at hl 3 rfl) ?_
  refine lv_iconst (v := nI 1) hx hb dL_law_324 (by decide) ?_
  refine zi_add hx hb dL_law_325 ?_
  refine zl_ald (v := xs (i0 + 1)) hx hb hXs hbl hbA hS (show i0 + 1 < L by omega) hL rfl dL_law_326 ?_
  refine zc_V (As := [.int (xs (i0 + 1))]) (rest := []) ⟨hx, hb, hml, hown, hts⟩ (c_which_n l G x tp mt sl fa pl sv fv (xs (i0 + 1)) hy) (cwV 1 hts (zgV wm_L_44 wv_X10_which) rfl rfl rfl (by decide +kernel) ⟨Nat.le_of_ble_eq_true rfl, Nat.le_of_ble_eq_true rfl⟩) hK hX rfl ⟨hX, hSl, hFa⟩ rfl hl.1 rfl (Nat.le_of_ble_eq_true rfl) dL_law_327 ⟨by show cells ≤ 600000; omega, by show slots ≤ 7302250; omega⟩ ?_
  refine lv_aload_n hx hb dL_law_330 rfl (lv_at hl 2 rfl) ?_
  refine lv_aload_n hx hb dL_law_331 rfl (lv_at hl 0 rfl) ?_
  refine lv_iload_n hx hb dL_law_332 rfl (lv_at hl 3 rfl) ?_
  refine lv_iconst (v := nI 1) hx hb dL_law_333 (by decide) ?_
  refine zi_add hx hb dL_law_334 ?_
  refine zl_ald (v := xs (i0 + 1)) hx hb hXs hbl hbA hS (show i0 + 1 < L by omega) hL rfl dL_law_335 ?_
  refine zx_V (As := [.int (xs (i0 + 1))]) (rest := [.int ((-1))]) ⟨hx, hb, hml, hown, hts⟩ (Met.qx (m_which_no l G o (qo o 1) (rF (qo o) cn pl wr wa nc np ns f9 nd u) (X 1) (xs (i0 + 1)) u hy)) (cwV 1 hts (zgV wm_L_48 wv_X11_which) rfl rfl rfl (by decide +kernel) ⟨Nat.le_of_ble_eq_true rfl, Nat.le_of_ble_eq_true rfl⟩) hK hR.1 rfl hR.mm rfl hl.1 rfl (Nat.le_of_ble_eq_true rfl) dL_law_336 ⟨by show cells + 0 ≤ 600000; omega, by show slots + 0 ≤ 7302250; omega⟩ hS (by intro q hq; have hq : q = o := hq; first | omega | (dsimp only; omega)) (fun r9 H locs hPo hz9 hk9 hS => ?_)
  have hk0 := hk9
  have hk9 : zKp (rAx o (qo o)) _ _ := hk9.wk (fun q _ hq => Or.inl hq)
  have hX := hX.keep hk9 (by intro ha; have ha := rAx_o ha; omega)
  have hT := hT.keep hk9 ⟨by intro ha; have ha := rAx_o ha; omega, by intro ha; have ha := rAx_o ha; omega⟩
  have hSl := hSl.keep hk9 (by intro ha; have ha := rAx_o ha; omega)
  have hFa := hFa.keep hk9 (by intro ha; have ha := rAx_o ha; omega)
  have hRst := hRst.keep hk9 ⟨hOrd, by omega, by intro q hq hq2; first | exact Or.inr (Or.inr (Or.inr (Or.inr (Or.inr (rAx_o hq2))))) | (unfold Ex; omega) | (unfold Ex; dsimp only at hq2; omega)⟩
  obtain ⟨rfl, hM⟩ := hPo
  have hR := hR.ofMM hM (fun q h1 h2 => hk0 q h1 h2)
  refine W.eq (g2 := F0 m 339 ls ([.int ((-1)), .int ((-1))])) rfl ?_
  refine lv_icmp_eq (tgt := 344) hx hb dL_law_339 (by decide) (fun _ => ?_) (fun c_9 => absurd (rfl) c_9)
  exact kk sv fv cn pl X _ _ _ _ _ ⟨hOrd, by omega, hcn, ⟨_, _, _, _, _, _, _, _, hR⟩, hX, hT, hSl, hFa, hRst⟩ hS (by omega) (by omega) (lv_sub hl [0, 1, 2, 3] rfl)

set_option maxHeartbeats 4000000 in
set_option maxRecDepth 100000 in
theorem law_which {p : Program} {l : Launch} {en : Env} {s : State} {m : MethodId} {below : List Frame} {meth : Method} {c : Code} {b L : Nat} {xs : Nat → Int32} (hL : L ≤ 3072) (C0 : lw_At p s m meth c b L xs) {G : zG} (hK : zK G s) {x tp qb mt ms sl fa o : Nat} {sv fv : Nat → Nat} {cn : Nat} {pl : Int32} {X : Nat → Nat → Nat} {H : Heap} {locs : List Loc} {cells slots i0 : Nat} (hI : Inv G x tp qb mt ms sl fa o sv fv cn pl X H) (hi0 : i0 + 6 ≤ L) (hns : s.heap.size ≤ x) (hS : va_S (fun q => s.heap.size ≤ q) s.heap H locs) (hcc : cells + 44 * cn + 886 ≤ 600000) (hss : slots + 50 * cn + 1027 ≤ 7302250) {ls : Array Slot} (hl : lv_has ls 4 [(0, .ref b), (1, .ref x), (2, .ref o), (3, .int (nI i0))]) (i : Nat) (hi : i < 4) (e1 : xs (i0 + 1) = nI i) (kk : LwK p l en s m below meth c b G x tp qb mt ms sl fa o i0 cn cells slots) : W p l en room_1 s m #[Value.ref b] below meth c H locs cells slots (lw_Z below #[Value.ref b] s) (F0 m 321 ls []) := by
  obtain ⟨hx, hb, hr, hml, hown, hts0, hXs, hbl, hlocks, hgv⟩ := C0
  have hown : s.vm.findClass RL = some m.cls := hown
  have hz : ∀ w ∈ zW, w.before #[Value.ref b] s = true := fun w h => hts0 w (List.mem_filter.mp h).1
  have hts : ∀ w ∈ wsL, w.before #[Value.ref b] s = true := fun w h => (List.mem_cons.mp h).elim (fun e => by rw [e]; exact hz _ wm_L_9) (hz w)
  have hbA : ¬ (fun q : Nat => s.heap.size ≤ q) b := Nat.not_le.mpr hbl
  obtain ⟨hOrd, hsz, hcn, ⟨wr, wa, nc, np, ns, f9, nd, u, hR⟩, hX, hT, hSl, hFa, hRst⟩ := hI
  have hord := hOrd
  unfold OrdI at hord
  obtain ⟨rt, ca, vl, lo, hi9, Z, rs, hFl, hRt, hRu, hok17, hbw⟩ := (hRst.2.2.2.2 i hi).at (by omega) hR.2.2.2.2.1
  obtain ⟨hvs, hvs1⟩ : ∃ hvs : Nat → Nat, ∀ j, j < 4 → Nod G H (X 1) (pfc (2000 * j)) 16 (sv j) (hvs j) 3 (2000 * j) [] (-1) none ∧ okV (X 1) 16 3 (2000 * j) ∧ okW (X 1) 16 3 (2000 * j) := by
    have h0 := fun j (hj : j < 4) => (hRst.2.2.2.1 j hj).at (by omega)
    obtain ⟨v0, w0⟩ := h0 0 (by decide)
    obtain ⟨v1, w1⟩ := h0 1 (by decide)
    obtain ⟨v2, w2⟩ := h0 2 (by decide)
    obtain ⟨v3, w3⟩ := h0 3 (by decide)
    refine ⟨f4 v0 v1 v2 v3, fun j hj => ?_⟩
    have h4 : j = 0 ∨ j = 1 ∨ j = 2 ∨ j = 3 := by omega
    rcases h4 with e | e | e | e <;> subst e
    · exact w0
    · exact w1
    · exact w2
    · exact w3
  have hNs := fun j hj => (hvs1 j hj).1
  have hoks := fun j hj => (hvs1 j hj).2.1
  have hows := fun j hj => (hvs1 j hj).2.2
  refine lv_aload_n hx hb dL_law_321 rfl (lv_at hl 1 rfl) ?_
  refine lv_aload_n hx hb dL_law_322 rfl (lv_at hl 0 rfl) ?_
  refine lv_iload_n hx hb dL_law_323 rfl (lv_at hl 3 rfl) ?_
  refine lv_iconst (v := nI 1) hx hb dL_law_324 (by decide) ?_
  refine zi_add hx hb dL_law_325 ?_
  refine zl_ald (v := nI (i)) hx hb hXs hbl hbA hS (show i0 + 1 < L by omega) hL e1 dL_law_326 ?_
  refine zc_V (As := [.int (nI (i))]) (rest := []) ⟨hx, hb, hml, hown, hts⟩ (c_which l G x tp mt sl fa pl sv fv (X 1) (pfc (8000 + 2000 * i)) Z i rt ca ms vl lo hi9 (8000 + 2000 * i) rs hi hvs (fun j => pfc (2000 * j)) hoks hows) (cwV 1 hts (zgV wm_L_44 wv_X10_which) rfl rfl rfl (by decide +kernel) ⟨Nat.le_of_ble_eq_true rfl, Nat.le_of_ble_eq_true rfl⟩) hK hX rfl ⟨hX, hSl, hFa, hFl, hRst.2.1, hRst.2.2.1, hRst.1, hRt, hRu, hNs⟩ rfl hl.1 rfl (Nat.le_of_ble_eq_true rfl) dL_law_327 ⟨by show cells ≤ 600000; omega, by show slots ≤ 7302250; omega⟩ ?_
  refine lv_aload_n hx hb dL_law_330 rfl (lv_at hl 2 rfl) ?_
  refine lv_aload_n hx hb dL_law_331 rfl (lv_at hl 0 rfl) ?_
  refine lv_iload_n hx hb dL_law_332 rfl (lv_at hl 3 rfl) ?_
  refine lv_iconst (v := nI 1) hx hb dL_law_333 (by decide) ?_
  refine zi_add hx hb dL_law_334 ?_
  refine zl_ald (v := nI (i)) hx hb hXs hbl hbA hS (show i0 + 1 < L by omega) hL e1 dL_law_335 ?_
  refine zx_V (As := [.int (nI (i))]) (rest := [.int (nI (wB (fun j => (els (X 1) (8000 + 2000 * i)).all (fun e => clS (X 1) (ecF (X 1) (17 - 1)).1 (ecF (X 1) (17 - 1)).2 e (2000 * j)))))]) ⟨hx, hb, hml, hown, hts⟩ (Met.qx (m_which l G o (qo o 1) (rF (qo o) cn pl wr wa nc np ns f9 nd u) (X 1) i u hi hok17 hoks)) (cwV 1 hts (zgV wm_L_48 wv_X11_which) rfl rfl rfl (by decide +kernel) ⟨Nat.le_of_ble_eq_true rfl, Nat.le_of_ble_eq_true rfl⟩) hK hR.1 rfl hR.mm rfl hl.1 rfl (Nat.le_of_ble_eq_true rfl) dL_law_336 ⟨by show cells + 0 ≤ 600000; omega, by show slots + 0 ≤ 7302250; omega⟩ hS (by intro q hq; have hq : q = o := hq; first | omega | (dsimp only; omega)) (fun r9 H locs hPo hz9 hk9 hS => ?_)
  have hk0 := hk9
  have hk9 : zKp (rAx o (qo o)) _ _ := hk9.wk (fun q _ hq => Or.inl hq)
  have hX := hX.keep hk9 (by intro ha; have ha := rAx_o ha; omega)
  have hT := hT.keep hk9 ⟨by intro ha; have ha := rAx_o ha; omega, by intro ha; have ha := rAx_o ha; omega⟩
  have hSl := hSl.keep hk9 (by intro ha; have ha := rAx_o ha; omega)
  have hFa := hFa.keep hk9 (by intro ha; have ha := rAx_o ha; omega)
  have hRst := hRst.keep hk9 ⟨hOrd, by omega, by intro q hq hq2; first | exact Or.inr (Or.inr (Or.inr (Or.inr (Or.inr (rAx_o hq2))))) | (unfold Ex; omega) | (unfold Ex; dsimp only at hq2; omega)⟩
  obtain ⟨rfl, hM⟩ := hPo
  have hR := hR.ofMM hM (fun q h1 h2 => hk0 q h1 h2)
  refine W.eq (g2 := F0 m 339 ls ([.int (nI (wB (fun j => (evF (X 1) 17).2 (8000 + 2000 * i) (2000 * j)))), .int (nI (wB (fun j => (els (X 1) (8000 + 2000 * i)).all (fun e => clS (X 1) (ecF (X 1) (17 - 1)).1 (ecF (X 1) (17 - 1)).2 e (2000 * j)))))])) rfl ?_
  refine lv_icmp_eq (tgt := 344) hx hb dL_law_339 (by decide) (fun _ => ?_) (fun c_9 => absurd (by rw [wB_cg (fun j hj => ho_ev hok17 hbw (hoks j hj))]) c_9)
  exact kk sv fv cn pl X _ _ _ _ _ ⟨hOrd, by omega, hcn, ⟨_, _, _, _, _, _, _, _, hR⟩, hX, hT, hSl, hFa, hRst⟩ hS (by omega) (by omega) (lv_sub hl [0, 1, 2, 3] rfl)

set_option maxHeartbeats 4000000 in
set_option maxRecDepth 100000 in
theorem law_read_n1 {p : Program} {l : Launch} {en : Env} {s : State} {m : MethodId} {below : List Frame} {meth : Method} {c : Code} {b L : Nat} {xs : Nat → Int32} (hL : L ≤ 3072) (C0 : lw_At p s m meth c b L xs) {G : zG} (hK : zK G s) {x tp qb mt ms sl fa o : Nat} {sv fv : Nat → Nat} {cn : Nat} {pl : Int32} {X : Nat → Nat → Nat} {H : Heap} {locs : List Loc} {cells slots i0 : Nat} (hI : Inv G x tp qb mt ms sl fa o sv fv cn pl X H) (hi0 : i0 + 6 ≤ L) (hns : s.heap.size ≤ x) (hS : va_S (fun q => s.heap.size ≤ q) s.heap H locs) (hcc : cells + 44 * cn + 886 ≤ 600000) (hss : slots + 50 * cn + 1027 ≤ 7302250) {ls : Array Slot} (hl : lv_has ls 4 [(0, .ref b), (1, .ref x), (2, .ref o), (3, .int (nI i0))]) (hy : is4i (xs (i0 + 1)) = false) (kk : LwK p l en s m below meth c b G x tp qb mt ms sl fa o i0 cn cells slots) : W p l en room_1 s m #[Value.ref b] below meth c H locs cells slots (lw_Z below #[Value.ref b] s) (F0 m 143 ls []) := by
  obtain ⟨hx, hb, hr, hml, hown, hts0, hXs, hbl, hlocks, hgv⟩ := C0
  have hown : s.vm.findClass RL = some m.cls := hown
  have hz : ∀ w ∈ zW, w.before #[Value.ref b] s = true := fun w h => hts0 w (List.mem_filter.mp h).1
  have hts : ∀ w ∈ wsL, w.before #[Value.ref b] s = true := fun w h => (List.mem_cons.mp h).elim (fun e => by rw [e]; exact hz _ wm_L_9) (hz w)
  have hbA : ¬ (fun q : Nat => s.heap.size ≤ q) b := Nat.not_le.mpr hbl
  obtain ⟨hOrd, hsz, hcn, ⟨wr, wa, nc, np, ns, f9, nd, u, hR⟩, hX, hT, hSl, hFa, hRst⟩ := hI
  have hord := hOrd
  unfold OrdI at hord
  refine lv_aload_n hx hb dL_law_143 rfl (lv_at hl 1 rfl) ?_
  refine lv_aload_n hx hb dL_law_144 rfl (lv_at hl 0 rfl) ?_
  refine lv_iload_n hx hb dL_law_145 rfl (lv_at hl 3 rfl) ?_
  refine lv_iconst (v := nI 1) hx hb dL_law_146 (by decide) ?_
  refine zi_add hx hb dL_law_147 ?_
  refine zl_ald (v := xs (i0 + 1)) hx hb hXs hbl hbA hS (show i0 + 1 < L by omega) hL rfl dL_law_148 ?_
  refine lv_aload_n hx hb dL_law_149 rfl (lv_at hl 0 rfl) ?_
  refine lv_iload_n hx hb dL_law_150 rfl (lv_at hl 3 rfl) ?_
  refine lv_iconst (v := nI 2) hx hb dL_law_151 (by decide) ?_
  refine zi_add hx hb dL_law_152 ?_
  refine zl_ald (v := xs (i0 + 2)) hx hb hXs hbl hbA hS (show i0 + 2 < L by omega) hL rfl dL_law_153 ?_
  refine zc_V (As := [.int (xs (i0 + 1)), .int (xs (i0 + 2))]) (rest := []) ⟨hx, hb, hml, hown, hts⟩ (c_read_n1 l G x tp mt sl fa pl sv fv qb cn (fun j => X 1 (16000 + j)) (xs (i0 + 1)) (xs (i0 + 2)) hy) (cwV 2 hts (zgV wm_L_18 wv_X10_read) rfl rfl rfl (by decide +kernel) ⟨Nat.le_of_ble_eq_true rfl, Nat.le_of_ble_eq_true rfl⟩) hK hX rfl ⟨hX, hT, hSl, hFa⟩ rfl hl.1 rfl (Nat.le_of_ble_eq_true rfl) dL_law_154 ⟨by show cells ≤ 600000; omega, by show slots ≤ 7302250; omega⟩ ?_
  refine lv_aload_n hx hb dL_law_157 rfl (lv_at hl 2 rfl) ?_
  refine lv_aload_n hx hb dL_law_158 rfl (lv_at hl 0 rfl) ?_
  refine lv_iload_n hx hb dL_law_159 rfl (lv_at hl 3 rfl) ?_
  refine lv_iconst (v := nI 1) hx hb dL_law_160 (by decide) ?_
  refine zi_add hx hb dL_law_161 ?_
  refine zl_ald (v := xs (i0 + 1)) hx hb hXs hbl hbA hS (show i0 + 1 < L by omega) hL rfl dL_law_162 ?_
  refine lv_aload_n hx hb dL_law_163 rfl (lv_at hl 0 rfl) ?_
  refine lv_iload_n hx hb dL_law_164 rfl (lv_at hl 3 rfl) ?_
  refine lv_iconst (v := nI 2) hx hb dL_law_165 (by decide) ?_
  refine zi_add hx hb dL_law_166 ?_
  refine zl_ald (v := xs (i0 + 2)) hx hb hXs hbl hbA hS (show i0 + 2 < L by omega) hL rfl dL_law_167 ?_
  refine zc_V (As := [.int (xs (i0 + 1)), .int (xs (i0 + 2))]) (rest := [.int ((-2))]) ⟨hx, hb, hml, hown, hts⟩ (m_read_no l G o (qo o) cn pl wr wa nc np ns f9 nd u X (xs (i0 + 1)) (xs (i0 + 2)) (fun h => by rw [hy] at h; exact absurd h.1 (by decide))) (cwV 2 hts (zgV wm_L_22 wv_X11_read) rfl rfl rfl (by decide +kernel) ⟨Nat.le_of_ble_eq_true rfl, Nat.le_of_ble_eq_true rfl⟩) hK hR.1 rfl hR rfl hl.1 rfl (Nat.le_of_ble_eq_true rfl) dL_law_168 ⟨by show cells ≤ 600000; omega, by show slots ≤ 7302250; omega⟩ ?_
  refine lv_icmp_eq (tgt := 344) hx hb dL_law_171 (by decide) (fun _ => ?_) (fun c_9 => absurd (rfl) c_9)
  exact kk sv fv cn pl X _ _ _ _ _ ⟨hOrd, by omega, hcn, ⟨_, _, _, _, _, _, _, _, hR⟩, hX, hT, hSl, hFa, hRst⟩ hS (by omega) (by omega) (lv_sub hl [0, 1, 2, 3] rfl)

set_option maxHeartbeats 4000000 in
set_option maxRecDepth 100000 in
theorem law_read_n2 {p : Program} {l : Launch} {en : Env} {s : State} {m : MethodId} {below : List Frame} {meth : Method} {c : Code} {b L : Nat} {xs : Nat → Int32} (hL : L ≤ 3072) (C0 : lw_At p s m meth c b L xs) {G : zG} (hK : zK G s) {x tp qb mt ms sl fa o : Nat} {sv fv : Nat → Nat} {cn : Nat} {pl : Int32} {X : Nat → Nat → Nat} {H : Heap} {locs : List Loc} {cells slots i0 : Nat} (hI : Inv G x tp qb mt ms sl fa o sv fv cn pl X H) (hi0 : i0 + 6 ≤ L) (hns : s.heap.size ≤ x) (hS : va_S (fun q => s.heap.size ≤ q) s.heap H locs) (hcc : cells + 44 * cn + 886 ≤ 600000) (hss : slots + 50 * cn + 1027 ≤ 7302250) {ls : Array Slot} (hl : lv_has ls 4 [(0, .ref b), (1, .ref x), (2, .ref o), (3, .int (nI i0))]) (i : Nat) (hi : i < 4) (e1 : xs (i0 + 1) = nI i) (hz9 : ¬ (¬ xs (i0 + 2) < 0 ∧ xs (i0 + 2) ≤ nI cn)) (kk : LwK p l en s m below meth c b G x tp qb mt ms sl fa o i0 cn cells slots) : W p l en room_1 s m #[Value.ref b] below meth c H locs cells slots (lw_Z below #[Value.ref b] s) (F0 m 143 ls []) := by
  obtain ⟨hx, hb, hr, hml, hown, hts0, hXs, hbl, hlocks, hgv⟩ := C0
  have hown : s.vm.findClass RL = some m.cls := hown
  have hz : ∀ w ∈ zW, w.before #[Value.ref b] s = true := fun w h => hts0 w (List.mem_filter.mp h).1
  have hts : ∀ w ∈ wsL, w.before #[Value.ref b] s = true := fun w h => (List.mem_cons.mp h).elim (fun e => by rw [e]; exact hz _ wm_L_9) (hz w)
  have hbA : ¬ (fun q : Nat => s.heap.size ≤ q) b := Nat.not_le.mpr hbl
  obtain ⟨hOrd, hsz, hcn, ⟨wr, wa, nc, np, ns, f9, nd, u, hR⟩, hX, hT, hSl, hFa, hRst⟩ := hI
  have hord := hOrd
  unfold OrdI at hord
  refine lv_aload_n hx hb dL_law_143 rfl (lv_at hl 1 rfl) ?_
  refine lv_aload_n hx hb dL_law_144 rfl (lv_at hl 0 rfl) ?_
  refine lv_iload_n hx hb dL_law_145 rfl (lv_at hl 3 rfl) ?_
  refine lv_iconst (v := nI 1) hx hb dL_law_146 (by decide) ?_
  refine zi_add hx hb dL_law_147 ?_
  refine zl_ald (v := nI (i)) hx hb hXs hbl hbA hS (show i0 + 1 < L by omega) hL e1 dL_law_148 ?_
  refine lv_aload_n hx hb dL_law_149 rfl (lv_at hl 0 rfl) ?_
  refine lv_iload_n hx hb dL_law_150 rfl (lv_at hl 3 rfl) ?_
  refine lv_iconst (v := nI 2) hx hb dL_law_151 (by decide) ?_
  refine zi_add hx hb dL_law_152 ?_
  refine zl_ald (v := xs (i0 + 2)) hx hb hXs hbl hbA hS (show i0 + 2 < L by omega) hL rfl dL_law_153 ?_
  refine zc_V (As := [.int (nI (i)), .int (xs (i0 + 2))]) (rest := []) ⟨hx, hb, hml, hown, hts⟩ (c_read_n2 l G x tp mt sl fa pl sv fv qb cn (fun j => X 1 (16000 + j)) i (xs (i0 + 2)) hi hz9) (cwV 2 hts (zgV wm_L_18 wv_X10_read) rfl rfl rfl (by decide +kernel) ⟨Nat.le_of_ble_eq_true rfl, Nat.le_of_ble_eq_true rfl⟩) hK hX rfl ⟨hX, hT, hSl, hFa⟩ rfl hl.1 rfl (Nat.le_of_ble_eq_true rfl) dL_law_154 ⟨by show cells ≤ 600000; omega, by show slots ≤ 7302250; omega⟩ ?_
  refine lv_aload_n hx hb dL_law_157 rfl (lv_at hl 2 rfl) ?_
  refine lv_aload_n hx hb dL_law_158 rfl (lv_at hl 0 rfl) ?_
  refine lv_iload_n hx hb dL_law_159 rfl (lv_at hl 3 rfl) ?_
  refine lv_iconst (v := nI 1) hx hb dL_law_160 (by decide) ?_
  refine zi_add hx hb dL_law_161 ?_
  refine zl_ald (v := nI (i)) hx hb hXs hbl hbA hS (show i0 + 1 < L by omega) hL e1 dL_law_162 ?_
  refine lv_aload_n hx hb dL_law_163 rfl (lv_at hl 0 rfl) ?_
  refine lv_iload_n hx hb dL_law_164 rfl (lv_at hl 3 rfl) ?_
  refine lv_iconst (v := nI 2) hx hb dL_law_165 (by decide) ?_
  refine zi_add hx hb dL_law_166 ?_
  refine zl_ald (v := xs (i0 + 2)) hx hb hXs hbl hbA hS (show i0 + 2 < L by omega) hL rfl dL_law_167 ?_
  refine zc_V (As := [.int (nI (i)), .int (xs (i0 + 2))]) (rest := [.int ((-2))]) ⟨hx, hb, hml, hown, hts⟩ (m_read_no l G o (qo o) cn pl wr wa nc np ns f9 nd u X (nI i) (xs (i0 + 2)) (fun h => hz9 h.2)) (cwV 2 hts (zgV wm_L_22 wv_X11_read) rfl rfl rfl (by decide +kernel) ⟨Nat.le_of_ble_eq_true rfl, Nat.le_of_ble_eq_true rfl⟩) hK hR.1 rfl hR rfl hl.1 rfl (Nat.le_of_ble_eq_true rfl) dL_law_168 ⟨by show cells ≤ 600000; omega, by show slots ≤ 7302250; omega⟩ ?_
  refine lv_icmp_eq (tgt := 344) hx hb dL_law_171 (by decide) (fun _ => ?_) (fun c_9 => absurd (rfl) c_9)
  exact kk sv fv cn pl X _ _ _ _ _ ⟨hOrd, by omega, hcn, ⟨_, _, _, _, _, _, _, _, hR⟩, hX, hT, hSl, hFa, hRst⟩ hS (by omega) (by omega) (lv_sub hl [0, 1, 2, 3] rfl)

set_option maxHeartbeats 4000000 in
set_option maxRecDepth 100000 in
theorem law_filter_n1 {p : Program} {l : Launch} {en : Env} {s : State} {m : MethodId} {below : List Frame} {meth : Method} {c : Code} {b L : Nat} {xs : Nat → Int32} (hL : L ≤ 3072) (C0 : lw_At p s m meth c b L xs) {G : zG} (hK : zK G s) {x tp qb mt ms sl fa o : Nat} {sv fv : Nat → Nat} {cn : Nat} {pl : Int32} {X : Nat → Nat → Nat} {H : Heap} {locs : List Loc} {cells slots i0 : Nat} (hI : Inv G x tp qb mt ms sl fa o sv fv cn pl X H) (hi0 : i0 + 6 ≤ L) (hns : s.heap.size ≤ x) (hS : va_S (fun q => s.heap.size ≤ q) s.heap H locs) (hcc : cells + 44 * cn + 886 ≤ 600000) (hss : slots + 50 * cn + 1027 ≤ 7302250) {ls : Array Slot} (hl : lv_has ls 4 [(0, .ref b), (1, .ref x), (2, .ref o), (3, .int (nI i0))]) (hy : is4i (xs (i0 + 1)) = false) (kk : LwK p l en s m below meth c b G x tp qb mt ms sl fa o i0 cn cells slots) : W p l en room_1 s m #[Value.ref b] below meth c H locs cells slots (lw_Z below #[Value.ref b] s) (F0 m 176 ls []) := by
  obtain ⟨hx, hb, hr, hml, hown, hts0, hXs, hbl, hlocks, hgv⟩ := C0
  have hown : s.vm.findClass RL = some m.cls := hown
  have hz : ∀ w ∈ zW, w.before #[Value.ref b] s = true := fun w h => hts0 w (List.mem_filter.mp h).1
  have hts : ∀ w ∈ wsL, w.before #[Value.ref b] s = true := fun w h => (List.mem_cons.mp h).elim (fun e => by rw [e]; exact hz _ wm_L_9) (hz w)
  have hbA : ¬ (fun q : Nat => s.heap.size ≤ q) b := Nat.not_le.mpr hbl
  obtain ⟨hOrd, hsz, hcn, ⟨wr, wa, nc, np, ns, f9, nd, u, hR⟩, hX, hT, hSl, hFa, hRst⟩ := hI
  have hord := hOrd
  unfold OrdI at hord
  refine lv_aload_n hx hb dL_law_176 rfl (lv_at hl 1 rfl) ?_
  refine lv_aload_n hx hb dL_law_177 rfl (lv_at hl 0 rfl) ?_
  refine lv_iload_n hx hb dL_law_178 rfl (lv_at hl 3 rfl) ?_
  refine lv_iconst (v := nI 1) hx hb dL_law_179 (by decide) ?_
  refine zi_add hx hb dL_law_180 ?_
  refine zl_ald (v := xs (i0 + 1)) hx hb hXs hbl hbA hS (show i0 + 1 < L by omega) hL rfl dL_law_181 ?_
  refine lv_aload_n hx hb dL_law_182 rfl (lv_at hl 0 rfl) ?_
  refine lv_iload_n hx hb dL_law_183 rfl (lv_at hl 3 rfl) ?_
  refine lv_iconst (v := nI 2) hx hb dL_law_184 (by decide) ?_
  refine zi_add hx hb dL_law_185 ?_
  refine zl_ald (v := xs (i0 + 2)) hx hb hXs hbl hbA hS (show i0 + 2 < L by omega) hL rfl dL_law_186 ?_
  refine zc_V (As := [.int (xs (i0 + 1)), .int (xs (i0 + 2))]) (rest := []) ⟨hx, hb, hml, hown, hts⟩ (c_filter_n1 l G x tp mt sl fa pl sv fv qb cn (fun j => X 1 (16000 + j)) (xs (i0 + 1)) (xs (i0 + 2)) hy) (cwV 2 hts (zgV wm_L_23 wv_X10_filter) rfl rfl rfl (by decide +kernel) ⟨Nat.le_of_ble_eq_true rfl, Nat.le_of_ble_eq_true rfl⟩) hK hX rfl ⟨hX, hT, hSl, hFa⟩ rfl hl.1 rfl (Nat.le_of_ble_eq_true rfl) dL_law_187 ⟨by show cells ≤ 600000; omega, by show slots ≤ 7302250; omega⟩ ?_
  refine lv_aload_n hx hb dL_law_190 rfl (lv_at hl 2 rfl) ?_
  refine lv_aload_n hx hb dL_law_191 rfl (lv_at hl 0 rfl) ?_
  refine lv_iload_n hx hb dL_law_192 rfl (lv_at hl 3 rfl) ?_
  refine lv_iconst (v := nI 1) hx hb dL_law_193 (by decide) ?_
  refine zi_add hx hb dL_law_194 ?_
  refine zl_ald (v := xs (i0 + 1)) hx hb hXs hbl hbA hS (show i0 + 1 < L by omega) hL rfl dL_law_195 ?_
  refine lv_aload_n hx hb dL_law_196 rfl (lv_at hl 0 rfl) ?_
  refine lv_iload_n hx hb dL_law_197 rfl (lv_at hl 3 rfl) ?_
  refine lv_iconst (v := nI 2) hx hb dL_law_198 (by decide) ?_
  refine zi_add hx hb dL_law_199 ?_
  refine zl_ald (v := xs (i0 + 2)) hx hb hXs hbl hbA hS (show i0 + 2 < L by omega) hL rfl dL_law_200 ?_
  refine zc_V (As := [.int (xs (i0 + 1)), .int (xs (i0 + 2))]) (rest := [.int ((-2))]) ⟨hx, hb, hml, hown, hts⟩ (m_filter_no l G o (qo o) cn pl wr wa nc np ns f9 nd u X (xs (i0 + 1)) (xs (i0 + 2)) (fun h => by rw [hy] at h; exact absurd h.1 (by decide))) (cwV 2 hts (zgV wm_L_26 wv_X11_filter) rfl rfl rfl (by decide +kernel) ⟨Nat.le_of_ble_eq_true rfl, Nat.le_of_ble_eq_true rfl⟩) hK hR.1 rfl hR rfl hl.1 rfl (Nat.le_of_ble_eq_true rfl) dL_law_201 ⟨by show cells ≤ 600000; omega, by show slots ≤ 7302250; omega⟩ ?_
  refine lv_icmp_eq (tgt := 344) hx hb dL_law_204 (by decide) (fun _ => ?_) (fun c_9 => absurd (rfl) c_9)
  exact kk sv fv cn pl X _ _ _ _ _ ⟨hOrd, by omega, hcn, ⟨_, _, _, _, _, _, _, _, hR⟩, hX, hT, hSl, hFa, hRst⟩ hS (by omega) (by omega) (lv_sub hl [0, 1, 2, 3] rfl)

set_option maxHeartbeats 4000000 in
set_option maxRecDepth 100000 in
theorem law_filter_n2 {p : Program} {l : Launch} {en : Env} {s : State} {m : MethodId} {below : List Frame} {meth : Method} {c : Code} {b L : Nat} {xs : Nat → Int32} (hL : L ≤ 3072) (C0 : lw_At p s m meth c b L xs) {G : zG} (hK : zK G s) {x tp qb mt ms sl fa o : Nat} {sv fv : Nat → Nat} {cn : Nat} {pl : Int32} {X : Nat → Nat → Nat} {H : Heap} {locs : List Loc} {cells slots i0 : Nat} (hI : Inv G x tp qb mt ms sl fa o sv fv cn pl X H) (hi0 : i0 + 6 ≤ L) (hns : s.heap.size ≤ x) (hS : va_S (fun q => s.heap.size ≤ q) s.heap H locs) (hcc : cells + 44 * cn + 886 ≤ 600000) (hss : slots + 50 * cn + 1027 ≤ 7302250) {ls : Array Slot} (hl : lv_has ls 4 [(0, .ref b), (1, .ref x), (2, .ref o), (3, .int (nI i0))]) (i : Nat) (hi : i < 4) (e1 : xs (i0 + 1) = nI i) (hz9 : ¬ (¬ xs (i0 + 2) < 0 ∧ xs (i0 + 2) ≤ nI cn)) (kk : LwK p l en s m below meth c b G x tp qb mt ms sl fa o i0 cn cells slots) : W p l en room_1 s m #[Value.ref b] below meth c H locs cells slots (lw_Z below #[Value.ref b] s) (F0 m 176 ls []) := by
  obtain ⟨hx, hb, hr, hml, hown, hts0, hXs, hbl, hlocks, hgv⟩ := C0
  have hown : s.vm.findClass RL = some m.cls := hown
  have hz : ∀ w ∈ zW, w.before #[Value.ref b] s = true := fun w h => hts0 w (List.mem_filter.mp h).1
  have hts : ∀ w ∈ wsL, w.before #[Value.ref b] s = true := fun w h => (List.mem_cons.mp h).elim (fun e => by rw [e]; exact hz _ wm_L_9) (hz w)
  have hbA : ¬ (fun q : Nat => s.heap.size ≤ q) b := Nat.not_le.mpr hbl
  obtain ⟨hOrd, hsz, hcn, ⟨wr, wa, nc, np, ns, f9, nd, u, hR⟩, hX, hT, hSl, hFa, hRst⟩ := hI
  have hord := hOrd
  unfold OrdI at hord
  refine lv_aload_n hx hb dL_law_176 rfl (lv_at hl 1 rfl) ?_
  refine lv_aload_n hx hb dL_law_177 rfl (lv_at hl 0 rfl) ?_
  refine lv_iload_n hx hb dL_law_178 rfl (lv_at hl 3 rfl) ?_
  refine lv_iconst (v := nI 1) hx hb dL_law_179 (by decide) ?_
  refine zi_add hx hb dL_law_180 ?_
  refine zl_ald (v := nI (i)) hx hb hXs hbl hbA hS (show i0 + 1 < L by omega) hL e1 dL_law_181 ?_
  refine lv_aload_n hx hb dL_law_182 rfl (lv_at hl 0 rfl) ?_
  refine lv_iload_n hx hb dL_law_183 rfl (lv_at hl 3 rfl) ?_
  refine lv_iconst (v := nI 2) hx hb dL_law_184 (by decide) ?_
  refine zi_add hx hb dL_law_185 ?_
  refine zl_ald (v := xs (i0 + 2)) hx hb hXs hbl hbA hS (show i0 + 2 < L by omega) hL rfl dL_law_186 ?_
  refine zc_V (As := [.int (nI (i)), .int (xs (i0 + 2))]) (rest := []) ⟨hx, hb, hml, hown, hts⟩ (c_filter_n2 l G x tp mt sl fa pl sv fv qb cn (fun j => X 1 (16000 + j)) i (xs (i0 + 2)) hi hz9) (cwV 2 hts (zgV wm_L_23 wv_X10_filter) rfl rfl rfl (by decide +kernel) ⟨Nat.le_of_ble_eq_true rfl, Nat.le_of_ble_eq_true rfl⟩) hK hX rfl ⟨hX, hT, hSl, hFa⟩ rfl hl.1 rfl (Nat.le_of_ble_eq_true rfl) dL_law_187 ⟨by show cells ≤ 600000; omega, by show slots ≤ 7302250; omega⟩ ?_
  refine lv_aload_n hx hb dL_law_190 rfl (lv_at hl 2 rfl) ?_
  refine lv_aload_n hx hb dL_law_191 rfl (lv_at hl 0 rfl) ?_
  refine lv_iload_n hx hb dL_law_192 rfl (lv_at hl 3 rfl) ?_
  refine lv_iconst (v := nI 1) hx hb dL_law_193 (by decide) ?_
  refine zi_add hx hb dL_law_194 ?_
  refine zl_ald (v := nI (i)) hx hb hXs hbl hbA hS (show i0 + 1 < L by omega) hL e1 dL_law_195 ?_
  refine lv_aload_n hx hb dL_law_196 rfl (lv_at hl 0 rfl) ?_
  refine lv_iload_n hx hb dL_law_197 rfl (lv_at hl 3 rfl) ?_
  refine lv_iconst (v := nI 2) hx hb dL_law_198 (by decide) ?_
  refine zi_add hx hb dL_law_199 ?_
  refine zl_ald (v := xs (i0 + 2)) hx hb hXs hbl hbA hS (show i0 + 2 < L by omega) hL rfl dL_law_200 ?_
  refine zc_V (As := [.int (nI (i)), .int (xs (i0 + 2))]) (rest := [.int ((-2))]) ⟨hx, hb, hml, hown, hts⟩ (m_filter_no l G o (qo o) cn pl wr wa nc np ns f9 nd u X (nI i) (xs (i0 + 2)) (fun h => hz9 h.2)) (cwV 2 hts (zgV wm_L_26 wv_X11_filter) rfl rfl rfl (by decide +kernel) ⟨Nat.le_of_ble_eq_true rfl, Nat.le_of_ble_eq_true rfl⟩) hK hR.1 rfl hR rfl hl.1 rfl (Nat.le_of_ble_eq_true rfl) dL_law_201 ⟨by show cells ≤ 600000; omega, by show slots ≤ 7302250; omega⟩ ?_
  refine lv_icmp_eq (tgt := 344) hx hb dL_law_204 (by decide) (fun _ => ?_) (fun c_9 => absurd (rfl) c_9)
  exact kk sv fv cn pl X _ _ _ _ _ ⟨hOrd, by omega, hcn, ⟨_, _, _, _, _, _, _, _, hR⟩, hX, hT, hSl, hFa, hRst⟩ hS (by omega) (by omega) (lv_sub hl [0, 1, 2, 3] rfl)

set_option maxHeartbeats 4000000 in
set_option maxRecDepth 100000 in
theorem law_read_f {p : Program} {l : Launch} {en : Env} {s : State} {m : MethodId} {below : List Frame} {meth : Method} {c : Code} {b L : Nat} {xs : Nat → Int32} (hL : L ≤ 3072) (C0 : lw_At p s m meth c b L xs) {G : zG} (hK : zK G s) {x tp qb mt ms sl fa o : Nat} {sv fv : Nat → Nat} {cn : Nat} {pl : Int32} {X : Nat → Nat → Nat} {H : Heap} {locs : List Loc} {cells slots i0 : Nat} (hI : Inv G x tp qb mt ms sl fa o sv fv cn pl X H) (hi0 : i0 + 6 ≤ L) (hns : s.heap.size ≤ x) (hS : va_S (fun q => s.heap.size ≤ q) s.heap H locs) (hcc : cells + 44 * cn + 886 ≤ 600000) (hss : slots + 50 * cn + 1027 ≤ 7302250) {ls : Array Slot} (hl : lv_has ls 4 [(0, .ref b), (1, .ref x), (2, .ref o), (3, .int (nI i0))]) (i nn : Nat) (hi : i < 4) (hnn : nn ≤ cn) (e1 : xs (i0 + 1) = nI i) (e2 : xs (i0 + 2) = nI nn) (hdc : dcB (fun j => X 1 (16000 + j)) 0 nn = false) (kk : LwK p l en s m below meth c b G x tp qb mt ms sl fa o i0 cn cells slots) : W p l en room_1 s m #[Value.ref b] below meth c H locs cells slots (lw_Z below #[Value.ref b] s) (F0 m 143 ls []) := by
  obtain ⟨hx, hb, hr, hml, hown, hts0, hXs, hbl, hlocks, hgv⟩ := C0
  have hown : s.vm.findClass RL = some m.cls := hown
  have hz : ∀ w ∈ zW, w.before #[Value.ref b] s = true := fun w h => hts0 w (List.mem_filter.mp h).1
  have hts : ∀ w ∈ wsL, w.before #[Value.ref b] s = true := fun w h => (List.mem_cons.mp h).elim (fun e => by rw [e]; exact hz _ wm_L_9) (hz w)
  have hbA : ¬ (fun q : Nat => s.heap.size ≤ q) b := Nat.not_le.mpr hbl
  obtain ⟨hOrd, hsz, hcn, ⟨wr, wa, nc, np, ns, f9, nd, u, hR⟩, hX, hT, hSl, hFa, hRst⟩ := hI
  have hord := hOrd
  unfold OrdI at hord
  have hsh : dcB (X 1) 16000 nn = dcB (fun j => X 1 (16000 + j)) 0 nn := dcB_sh (fun j _ => rfl) (by omega) (by omega)
  refine lv_aload_n hx hb dL_law_143 rfl (lv_at hl 1 rfl) ?_
  refine lv_aload_n hx hb dL_law_144 rfl (lv_at hl 0 rfl) ?_
  refine lv_iload_n hx hb dL_law_145 rfl (lv_at hl 3 rfl) ?_
  refine lv_iconst (v := nI 1) hx hb dL_law_146 (by decide) ?_
  refine zi_add hx hb dL_law_147 ?_
  refine zl_ald (v := nI (i)) hx hb hXs hbl hbA hS (show i0 + 1 < L by omega) hL e1 dL_law_148 ?_
  refine lv_aload_n hx hb dL_law_149 rfl (lv_at hl 0 rfl) ?_
  refine lv_iload_n hx hb dL_law_150 rfl (lv_at hl 3 rfl) ?_
  refine lv_iconst (v := nI 2) hx hb dL_law_151 (by decide) ?_
  refine zi_add hx hb dL_law_152 ?_
  refine zl_ald (v := nI (nn)) hx hb hXs hbl hbA hS (show i0 + 2 < L by omega) hL e2 dL_law_153 ?_
  refine zx_V (As := [.int (nI (i)), .int (nI (nn))]) (rest := []) ⟨hx, hb, hml, hown, hts⟩ (c_read l G x tp mt sl fa pl sv fv qb cn (fun j => X 1 (16000 + j)) H.size i nn hi hnn hcn (by omega) (by omega) (by omega) (by omega) (by omega) (by omega) (by omega) (by omega) (by omega) (by omega) (by omega) ⟨by omega, by omega, by omega⟩ ⟨by omega, by omega, by omega, by omega⟩ (by omega)) (cwV 2 hts (zgV wm_L_18 wv_X10_read) rfl rfl rfl (by decide +kernel) ⟨Nat.le_of_ble_eq_true rfl, Nat.le_of_ble_eq_true rfl⟩) hK hX rfl ⟨hX, hT, hSl, hFa, hRst.1, rfl⟩ rfl hl.1 rfl (Nat.le_of_ble_eq_true rfl) dL_law_154 ⟨by show cells + (4 * nn + 2) ≤ 600000; omega, by show slots + (10 * nn + 11) ≤ 7302250; omega⟩ hS (by intro q hq; first | omega | (dsimp only at hq ⊢; omega)) (fun r9 H locs hPo hz9 hk9 hS => ?_)
  have hX := hX.keep hk9 (by first | exact id | exact rfl | omega | (dsimp only; omega))
  have hFa := hFa.keep hk9 (by first | exact id | exact rfl | omega | (dsimp only; omega))
  have hR := hR.keep hk9 (by intro a ha hq; have ha := rAx_o ha; first | omega | (dsimp only at hq; omega))
  have hRst := hRst.keep hk9 ⟨hOrd, by omega, by intro q hq hq2; first | exact Or.inr (Or.inr (Or.inr (Or.inr (Or.inr (rAx_o hq2))))) | (unfold Ex; omega) | (unfold Ex; dsimp only at hq2; omega)⟩
  obtain ⟨hT, hOr⟩ := hPo
  obtain ⟨hd0, rfl, hSl⟩ : dcB (fun j => X 1 (16000 + j)) 0 nn = false ∧ _ := hOr.resolve_right (fun h => absurd (h.1.symm.trans hdc) (by decide))
  refine W.eq (g2 := F0 m 157 ls ([.int ((-1))])) rfl ?_
  refine lv_aload_n hx hb dL_law_157 rfl (lv_at hl 2 rfl) ?_
  refine lv_aload_n hx hb dL_law_158 rfl (lv_at hl 0 rfl) ?_
  refine lv_iload_n hx hb dL_law_159 rfl (lv_at hl 3 rfl) ?_
  refine lv_iconst (v := nI 1) hx hb dL_law_160 (by decide) ?_
  refine zi_add hx hb dL_law_161 ?_
  refine zl_ald (v := nI (i)) hx hb hXs hbl hbA hS (show i0 + 1 < L by omega) hL e1 dL_law_162 ?_
  refine lv_aload_n hx hb dL_law_163 rfl (lv_at hl 0 rfl) ?_
  refine lv_iload_n hx hb dL_law_164 rfl (lv_at hl 3 rfl) ?_
  refine lv_iconst (v := nI 2) hx hb dL_law_165 (by decide) ?_
  refine zi_add hx hb dL_law_166 ?_
  refine zl_ald (v := nI (nn)) hx hb hXs hbl hbA hS (show i0 + 2 < L by omega) hL e2 dL_law_167 ?_
  refine zx_V (As := [.int (nI (i)), .int (nI (nn))]) (rest := [.int ((-1))]) ⟨hx, hb, hml, hown, hts⟩ (Met.qx (m_read l G o (qo o) cn pl wr wa nc np ns f9 nd u X i nn hi hnn hcn)) (cwV 2 hts (zgV wm_L_22 wv_X11_read) rfl rfl rfl (by decide +kernel) ⟨Nat.le_of_ble_eq_true rfl, Nat.le_of_ble_eq_true rfl⟩) hK hR.1 rfl hR rfl hl.1 rfl (Nat.le_of_ble_eq_true rfl) dL_law_168 ⟨by show cells + (4 * nn + 2) + 0 ≤ 600000; omega, by show slots + (10 * nn + 11) + 0 ≤ 7302250; omega⟩ hS (by intro q hq; have hq := rAx_o hq; first | omega | (dsimp only; omega)) (fun r9 H locs hPo hz9 hk9 hS => ?_)
  have hk0 := hk9
  have hX := hX.keep hk9 (by intro ha; have ha := rAx_o ha; omega)
  have hT := hT.keep hk9 ⟨by intro ha; have ha := rAx_o ha; omega, by intro ha; have ha := rAx_o ha; omega⟩
  have hSl := hSl.keep hk9 (by intro ha; have ha := rAx_o ha; omega)
  have hFa := hFa.keep hk9 (by intro ha; have ha := rAx_o ha; omega)
  have hRst := hRst.keep hk9 ⟨hOrd, by omega, by intro q hq hq2; first | exact Or.inr (Or.inr (Or.inr (Or.inr (Or.inr (rAx_o hq2))))) | (unfold Ex; omega) | (unfold Ex; dsimp only at hq2; omega)⟩
  obtain ⟨rfl, hM⟩ := hPo
  obtain ⟨fa1, nd1, X1, hR, x1, x4, x5, x6⟩ := hM
  rw [if_neg (by rw [hsh]; rw [hdc]; decide)] at x1
  have hT : TP G tp qb 0 (fun j => X1 1 (16000 + j)) H := by rw [x1]; exact hT
  rw [← x1, ← x4, ← x5, ← x6] at hRst
  refine W.eq (g2 := F0 m 171 ls ([.int (if dcB (X 1) 16000 nn = true then nI 0 else -1), .int ((-1))])) rfl ?_
  refine lv_icmp_eq (tgt := 344) hx hb dL_law_171 (by decide) (fun _ => ?_) (fun c_9 => absurd (by rw [if_neg (by rw [hsh]; rw [hdc]; decide)]) c_9)
  exact kk sv fv 0 pl X1 _ _ _ _ _ ⟨hOrd, by omega, by omega, ⟨_, _, _, _, _, _, _, _, hR⟩, hX, hT, hSl, hFa, hRst⟩ hS (by omega) (by omega) (lv_sub hl [0, 1, 2, 3] rfl)

set_option maxHeartbeats 4000000 in
set_option maxRecDepth 100000 in
theorem law_read_t {p : Program} {l : Launch} {en : Env} {s : State} {m : MethodId} {below : List Frame} {meth : Method} {c : Code} {b L : Nat} {xs : Nat → Int32} (hL : L ≤ 3072) (C0 : lw_At p s m meth c b L xs) {G : zG} (hK : zK G s) {x tp qb mt ms sl fa o : Nat} {sv fv : Nat → Nat} {cn : Nat} {pl : Int32} {X : Nat → Nat → Nat} {H : Heap} {locs : List Loc} {cells slots i0 : Nat} (hI : Inv G x tp qb mt ms sl fa o sv fv cn pl X H) (hi0 : i0 + 6 ≤ L) (hns : s.heap.size ≤ x) (hS : va_S (fun q => s.heap.size ≤ q) s.heap H locs) (hcc : cells + 44 * cn + 886 ≤ 600000) (hss : slots + 50 * cn + 1027 ≤ 7302250) {ls : Array Slot} (hl : lv_has ls 4 [(0, .ref b), (1, .ref x), (2, .ref o), (3, .int (nI i0))]) (i nn : Nat) (hi : i < 4) (hnn : nn ≤ cn) (e1 : xs (i0 + 1) = nI i) (e2 : xs (i0 + 2) = nI nn) (hdc : dcB (fun j => X 1 (16000 + j)) 0 nn = true) (kk : LwK p l en s m below meth c b G x tp qb mt ms sl fa o i0 cn cells slots) : W p l en room_1 s m #[Value.ref b] below meth c H locs cells slots (lw_Z below #[Value.ref b] s) (F0 m 143 ls []) := by
  obtain ⟨hx, hb, hr, hml, hown, hts0, hXs, hbl, hlocks, hgv⟩ := C0
  have hown : s.vm.findClass RL = some m.cls := hown
  have hz : ∀ w ∈ zW, w.before #[Value.ref b] s = true := fun w h => hts0 w (List.mem_filter.mp h).1
  have hts : ∀ w ∈ wsL, w.before #[Value.ref b] s = true := fun w h => (List.mem_cons.mp h).elim (fun e => by rw [e]; exact hz _ wm_L_9) (hz w)
  have hbA : ¬ (fun q : Nat => s.heap.size ≤ q) b := Nat.not_le.mpr hbl
  obtain ⟨hOrd, hsz, hcn, ⟨wr, wa, nc, np, ns, f9, nd, u, hR⟩, hX, hT, hSl, hFa, hRst⟩ := hI
  have hord := hOrd
  unfold OrdI at hord
  have hsh : dcB (X 1) 16000 nn = dcB (fun j => X 1 (16000 + j)) 0 nn := dcB_sh (fun j _ => rfl) (by omega) (by omega)
  refine lv_aload_n hx hb dL_law_143 rfl (lv_at hl 1 rfl) ?_
  refine lv_aload_n hx hb dL_law_144 rfl (lv_at hl 0 rfl) ?_
  refine lv_iload_n hx hb dL_law_145 rfl (lv_at hl 3 rfl) ?_
  refine lv_iconst (v := nI 1) hx hb dL_law_146 (by decide) ?_
  refine zi_add hx hb dL_law_147 ?_
  refine zl_ald (v := nI (i)) hx hb hXs hbl hbA hS (show i0 + 1 < L by omega) hL e1 dL_law_148 ?_
  refine lv_aload_n hx hb dL_law_149 rfl (lv_at hl 0 rfl) ?_
  refine lv_iload_n hx hb dL_law_150 rfl (lv_at hl 3 rfl) ?_
  refine lv_iconst (v := nI 2) hx hb dL_law_151 (by decide) ?_
  refine zi_add hx hb dL_law_152 ?_
  refine zl_ald (v := nI (nn)) hx hb hXs hbl hbA hS (show i0 + 2 < L by omega) hL e2 dL_law_153 ?_
  refine zx_V (As := [.int (nI (i)), .int (nI (nn))]) (rest := []) ⟨hx, hb, hml, hown, hts⟩ (c_read l G x tp mt sl fa pl sv fv qb cn (fun j => X 1 (16000 + j)) H.size i nn hi hnn hcn (by omega) (by omega) (by omega) (by omega) (by omega) (by omega) (by omega) (by omega) (by omega) (by omega) (by omega) ⟨by omega, by omega, by omega⟩ ⟨by omega, by omega, by omega, by omega⟩ (by omega)) (cwV 2 hts (zgV wm_L_18 wv_X10_read) rfl rfl rfl (by decide +kernel) ⟨Nat.le_of_ble_eq_true rfl, Nat.le_of_ble_eq_true rfl⟩) hK hX rfl ⟨hX, hT, hSl, hFa, hRst.1, rfl⟩ rfl hl.1 rfl (Nat.le_of_ble_eq_true rfl) dL_law_154 ⟨by show cells + (4 * nn + 2) ≤ 600000; omega, by show slots + (10 * nn + 11) ≤ 7302250; omega⟩ hS (by intro q hq; first | omega | (dsimp only at hq ⊢; omega)) (fun r9 H locs hPo hz9 hk9 hS => ?_)
  have hX := hX.keep hk9 (by first | exact id | exact rfl | omega | (dsimp only; omega))
  have hFa := hFa.keep hk9 (by first | exact id | exact rfl | omega | (dsimp only; omega))
  have hR := hR.keep hk9 (by intro a ha hq; have ha := rAx_o ha; first | omega | (dsimp only at hq; omega))
  have hRst := hRst.keep hk9 ⟨hOrd, by omega, by intro q hq hq2; first | exact Or.inr (Or.inr (Or.inr (Or.inr (Or.inr (rAx_o hq2))))) | (unfold Ex; omega) | (unfold Ex; dsimp only at hq2; omega)⟩
  obtain ⟨hT, hOr⟩ := hPo
  obtain ⟨hd0, rfl, v, hv, hnv, hhv, hSl, hN⟩ : dcB (fun j => X 1 (16000 + j)) 0 nn = true ∧ _ := hOr.resolve_left (fun h => absurd (h.1.symm.trans hdc) (by decide))
  have hs9 : SlI G H (cpW (X 1) (fun j => X 1 (16000 + j)) (2000 * i) nn) sl fa o v (2000 * i) := ⟨(fun j => X 1 (16000 + j)), nn, hv, by omega, hdc, cpW_sh (by omega) (fun j _ => rfl), hN, Or.inr (Or.inr (by omega))⟩
  have hRst := hRst.slot hi (by omega) hs9
  refine W.eq (g2 := F0 m 157 ls ([.int (nI (0))])) rfl ?_
  refine lv_aload_n hx hb dL_law_157 rfl (lv_at hl 2 rfl) ?_
  refine lv_aload_n hx hb dL_law_158 rfl (lv_at hl 0 rfl) ?_
  refine lv_iload_n hx hb dL_law_159 rfl (lv_at hl 3 rfl) ?_
  refine lv_iconst (v := nI 1) hx hb dL_law_160 (by decide) ?_
  refine zi_add hx hb dL_law_161 ?_
  refine zl_ald (v := nI (i)) hx hb hXs hbl hbA hS (show i0 + 1 < L by omega) hL e1 dL_law_162 ?_
  refine lv_aload_n hx hb dL_law_163 rfl (lv_at hl 0 rfl) ?_
  refine lv_iload_n hx hb dL_law_164 rfl (lv_at hl 3 rfl) ?_
  refine lv_iconst (v := nI 2) hx hb dL_law_165 (by decide) ?_
  refine zi_add hx hb dL_law_166 ?_
  refine zl_ald (v := nI (nn)) hx hb hXs hbl hbA hS (show i0 + 2 < L by omega) hL e2 dL_law_167 ?_
  refine zx_V (As := [.int (nI (i)), .int (nI (nn))]) (rest := [.int (nI (0))]) ⟨hx, hb, hml, hown, hts⟩ (Met.qx (m_read l G o (qo o) cn pl wr wa nc np ns f9 nd u X i nn hi hnn hcn)) (cwV 2 hts (zgV wm_L_22 wv_X11_read) rfl rfl rfl (by decide +kernel) ⟨Nat.le_of_ble_eq_true rfl, Nat.le_of_ble_eq_true rfl⟩) hK hR.1 rfl hR rfl hl.1 rfl (Nat.le_of_ble_eq_true rfl) dL_law_168 ⟨by show cells + (4 * nn + 2) + 0 ≤ 600000; omega, by show slots + (10 * nn + 11) + 0 ≤ 7302250; omega⟩ hS (by intro q hq; have hq := rAx_o hq; first | omega | (dsimp only; omega)) (fun r9 H locs hPo hz9 hk9 hS => ?_)
  have hk0 := hk9
  have hX := hX.keep hk9 (by intro ha; have ha := rAx_o ha; omega)
  have hT := hT.keep hk9 ⟨by intro ha; have ha := rAx_o ha; omega, by intro ha; have ha := rAx_o ha; omega⟩
  have hSl := hSl.keep hk9 (by intro ha; have ha := rAx_o ha; omega)
  have hFa := hFa.keep hk9 (by intro ha; have ha := rAx_o ha; omega)
  have hRst := hRst.keep hk9 ⟨hOrd, by omega, by intro q hq hq2; first | exact Or.inr (Or.inr (Or.inr (Or.inr (Or.inr (rAx_o hq2))))) | (unfold Ex; omega) | (unfold Ex; dsimp only at hq2; omega)⟩
  obtain ⟨rfl, hM⟩ := hPo
  obtain ⟨fa1, nd1, X1, hR, x1, x4, x5, x6⟩ := hM
  rw [if_pos (by rw [hsh]; exact hdc)] at x1
  have hT : TP G tp qb 0 (fun j => X1 1 (16000 + j)) H := by rw [x1, show (fun j => cpW (X 1) (fun j => X 1 (16000 + j)) (2000 * i) nn (16000 + j)) = (fun j => X 1 (16000 + j)) from funext (fun j => cpW_ne (by omega))]; exact hT
  rw [← x1, ← x4, ← x5, ← x6] at hRst
  refine W.eq (g2 := F0 m 171 ls ([.int (if dcB (X 1) 16000 nn = true then nI 0 else -1), .int (nI (0))])) rfl ?_
  refine lv_icmp_eq (tgt := 344) hx hb dL_law_171 (by decide) (fun _ => ?_) (fun c_9 => absurd (by rw [if_pos (by rw [hsh]; exact hdc)]) c_9)
  exact kk (upN sv i v) fv 0 pl X1 _ _ _ _ _ ⟨hOrd, by omega, by omega, ⟨_, _, _, _, _, _, _, _, hR⟩, hX, hT, hSl, hFa, hRst⟩ hS (by omega) (by omega) (lv_sub hl [0, 1, 2, 3] rfl)

set_option maxHeartbeats 4000000 in
set_option maxRecDepth 100000 in
theorem law_filter_f {p : Program} {l : Launch} {en : Env} {s : State} {m : MethodId} {below : List Frame} {meth : Method} {c : Code} {b L : Nat} {xs : Nat → Int32} (hL : L ≤ 3072) (C0 : lw_At p s m meth c b L xs) {G : zG} (hK : zK G s) {x tp qb mt ms sl fa o : Nat} {sv fv : Nat → Nat} {cn : Nat} {pl : Int32} {X : Nat → Nat → Nat} {H : Heap} {locs : List Loc} {cells slots i0 : Nat} (hI : Inv G x tp qb mt ms sl fa o sv fv cn pl X H) (hi0 : i0 + 6 ≤ L) (hns : s.heap.size ≤ x) (hS : va_S (fun q => s.heap.size ≤ q) s.heap H locs) (hcc : cells + 44 * cn + 886 ≤ 600000) (hss : slots + 50 * cn + 1027 ≤ 7302250) {ls : Array Slot} (hl : lv_has ls 4 [(0, .ref b), (1, .ref x), (2, .ref o), (3, .int (nI i0))]) (i nn : Nat) (hi : i < 4) (hnn : nn ≤ cn) (e1 : xs (i0 + 1) = nI i) (e2 : xs (i0 + 2) = nI nn) (hdc : dcB (fun j => X 1 (16000 + j)) 0 nn = false) (kk : LwK p l en s m below meth c b G x tp qb mt ms sl fa o i0 cn cells slots) : W p l en room_1 s m #[Value.ref b] below meth c H locs cells slots (lw_Z below #[Value.ref b] s) (F0 m 176 ls []) := by
  obtain ⟨hx, hb, hr, hml, hown, hts0, hXs, hbl, hlocks, hgv⟩ := C0
  have hown : s.vm.findClass RL = some m.cls := hown
  have hz : ∀ w ∈ zW, w.before #[Value.ref b] s = true := fun w h => hts0 w (List.mem_filter.mp h).1
  have hts : ∀ w ∈ wsL, w.before #[Value.ref b] s = true := fun w h => (List.mem_cons.mp h).elim (fun e => by rw [e]; exact hz _ wm_L_9) (hz w)
  have hbA : ¬ (fun q : Nat => s.heap.size ≤ q) b := Nat.not_le.mpr hbl
  obtain ⟨hOrd, hsz, hcn, ⟨wr, wa, nc, np, ns, f9, nd, u, hR⟩, hX, hT, hSl, hFa, hRst⟩ := hI
  have hord := hOrd
  unfold OrdI at hord
  have hsh : dcB (X 1) 16000 nn = dcB (fun j => X 1 (16000 + j)) 0 nn := dcB_sh (fun j _ => rfl) (by omega) (by omega)
  refine lv_aload_n hx hb dL_law_176 rfl (lv_at hl 1 rfl) ?_
  refine lv_aload_n hx hb dL_law_177 rfl (lv_at hl 0 rfl) ?_
  refine lv_iload_n hx hb dL_law_178 rfl (lv_at hl 3 rfl) ?_
  refine lv_iconst (v := nI 1) hx hb dL_law_179 (by decide) ?_
  refine zi_add hx hb dL_law_180 ?_
  refine zl_ald (v := nI (i)) hx hb hXs hbl hbA hS (show i0 + 1 < L by omega) hL e1 dL_law_181 ?_
  refine lv_aload_n hx hb dL_law_182 rfl (lv_at hl 0 rfl) ?_
  refine lv_iload_n hx hb dL_law_183 rfl (lv_at hl 3 rfl) ?_
  refine lv_iconst (v := nI 2) hx hb dL_law_184 (by decide) ?_
  refine zi_add hx hb dL_law_185 ?_
  refine zl_ald (v := nI (nn)) hx hb hXs hbl hbA hS (show i0 + 2 < L by omega) hL e2 dL_law_186 ?_
  refine zx_V (As := [.int (nI (i)), .int (nI (nn))]) (rest := []) ⟨hx, hb, hml, hown, hts⟩ (c_filter l G x tp mt sl fa pl sv fv qb cn (fun j => X 1 (16000 + j)) H.size i nn hi hnn hcn (by omega) (by omega) (by omega) (by omega) (by omega) (by omega) (by omega) (by omega) (by omega) (by omega) (by omega) ⟨by omega, by omega, by omega⟩ ⟨by omega, by omega, by omega, by omega⟩ (by omega) wa) (cwV 2 hts (zgV wm_L_23 wv_X10_filter) rfl rfl rfl (by decide +kernel) ⟨Nat.le_of_ble_eq_true rfl, Nat.le_of_ble_eq_true rfl⟩) hK hX rfl ⟨hX, hT, hSl, hFa, hRst.1, rfl⟩ rfl hl.1 rfl (Nat.le_of_ble_eq_true rfl) dL_law_187 ⟨by show cells + (44 * nn + 6) ≤ 600000; omega, by show slots + (50 * nn + 27) ≤ 7302250; omega⟩ hS (by intro q hq; first | omega | (dsimp only at hq ⊢; omega)) (fun r9 H locs hPo hz9 hk9 hS => ?_)
  have hSl := hSl.keep hk9 (by first | exact id | exact rfl | omega | (dsimp only; omega))
  have hR := hR.keep hk9 (by intro a ha hq; have ha := rAx_o ha; first | omega | (dsimp only at hq; omega))
  have hRst := hRst.keep hk9 ⟨hOrd, by omega, by intro q hq hq2; first | exact Or.inr (Or.inr (Or.inr (Or.inr (Or.inr (rAx_o hq2))))) | (unfold Ex; omega) | (unfold Ex; dsimp only at hq2; omega)⟩
  obtain ⟨hT, hOr⟩ := hPo
  obtain ⟨hd0, rfl, hX, hFa⟩ : dcB (fun j => X 1 (16000 + j)) 0 nn = false ∧ _ := hOr.resolve_right (fun h => absurd (h.1.symm.trans hdc) (by decide))
  refine W.eq (g2 := F0 m 190 ls ([.int ((-1))])) rfl ?_
  refine lv_aload_n hx hb dL_law_190 rfl (lv_at hl 2 rfl) ?_
  refine lv_aload_n hx hb dL_law_191 rfl (lv_at hl 0 rfl) ?_
  refine lv_iload_n hx hb dL_law_192 rfl (lv_at hl 3 rfl) ?_
  refine lv_iconst (v := nI 1) hx hb dL_law_193 (by decide) ?_
  refine zi_add hx hb dL_law_194 ?_
  refine zl_ald (v := nI (i)) hx hb hXs hbl hbA hS (show i0 + 1 < L by omega) hL e1 dL_law_195 ?_
  refine lv_aload_n hx hb dL_law_196 rfl (lv_at hl 0 rfl) ?_
  refine lv_iload_n hx hb dL_law_197 rfl (lv_at hl 3 rfl) ?_
  refine lv_iconst (v := nI 2) hx hb dL_law_198 (by decide) ?_
  refine zi_add hx hb dL_law_199 ?_
  refine zl_ald (v := nI (nn)) hx hb hXs hbl hbA hS (show i0 + 2 < L by omega) hL e2 dL_law_200 ?_
  refine zx_V (As := [.int (nI (i)), .int (nI (nn))]) (rest := [.int ((-1))]) ⟨hx, hb, hml, hown, hts⟩ (Met.qx (m_filter_bad l G o (qo o) cn pl wr wa nc np ns f9 nd u X i nn hi hnn hcn (by rw [hsh]; exact hdc))) (cwV 2 hts (zgV wm_L_26 wv_X11_filter) rfl rfl rfl (by decide +kernel) ⟨Nat.le_of_ble_eq_true rfl, Nat.le_of_ble_eq_true rfl⟩) hK hR.1 rfl hR rfl hl.1 rfl (Nat.le_of_ble_eq_true rfl) dL_law_201 ⟨by show cells + (44 * nn + 6) + 0 ≤ 600000; omega, by show slots + (50 * nn + 27) + 0 ≤ 7302250; omega⟩ hS (by intro q hq; have hq := rAx_o hq; first | omega | (dsimp only; omega)) (fun r9 H locs hPo hz9 hk9 hS => ?_)
  have hk0 := hk9
  have hX := hX.keep hk9 (by intro ha; have ha := rAx_o ha; omega)
  have hT := hT.keep hk9 ⟨by intro ha; have ha := rAx_o ha; omega, by intro ha; have ha := rAx_o ha; omega⟩
  have hSl := hSl.keep hk9 (by intro ha; have ha := rAx_o ha; omega)
  have hFa := hFa.keep hk9 (by intro ha; have ha := rAx_o ha; omega)
  have hRst := hRst.keep hk9 ⟨hOrd, by omega, by intro q hq hq2; first | exact Or.inr (Or.inr (Or.inr (Or.inr (Or.inr (rAx_o hq2))))) | (unfold Ex; omega) | (unfold Ex; dsimp only at hq2; omega)⟩
  obtain ⟨rfl, hM⟩ := hPo
  obtain ⟨fa1, nd1, X1, hR, x1, x4, x5, x6⟩ := hM
  have hT : TP G tp qb 0 (fun j => X1 1 (16000 + j)) H := by rw [x1]; exact hT
  rw [← x1, ← x4, ← x5, ← x6] at hRst
  refine W.eq (g2 := F0 m 204 ls ([.int ((-1)), .int ((-1))])) rfl ?_
  refine lv_icmp_eq (tgt := 344) hx hb dL_law_204 (by decide) (fun _ => ?_) (fun c_9 => absurd (rfl) c_9)
  exact kk sv fv 0 (-1) X1 _ _ _ _ _ ⟨hOrd, by omega, by omega, ⟨_, _, _, _, _, _, _, _, hR⟩, hX, hT, hSl, hFa, hRst⟩ hS (by omega) (by omega) (lv_sub hl [0, 1, 2, 3] rfl)

set_option maxHeartbeats 4000000 in
set_option maxRecDepth 100000 in
theorem law_filter_t {p : Program} {l : Launch} {en : Env} {s : State} {m : MethodId} {below : List Frame} {meth : Method} {c : Code} {b L : Nat} {xs : Nat → Int32} (hL : L ≤ 3072) (C0 : lw_At p s m meth c b L xs) {G : zG} (hK : zK G s) {x tp qb mt ms sl fa o : Nat} {sv fv : Nat → Nat} {cn : Nat} {pl : Int32} {X : Nat → Nat → Nat} {H : Heap} {locs : List Loc} {cells slots i0 : Nat} (hI : Inv G x tp qb mt ms sl fa o sv fv cn pl X H) (hi0 : i0 + 6 ≤ L) (hns : s.heap.size ≤ x) (hS : va_S (fun q => s.heap.size ≤ q) s.heap H locs) (hcc : cells + 44 * cn + 886 ≤ 600000) (hss : slots + 50 * cn + 1027 ≤ 7302250) {ls : Array Slot} (hl : lv_has ls 4 [(0, .ref b), (1, .ref x), (2, .ref o), (3, .int (nI i0))]) (i nn : Nat) (hi : i < 4) (hnn : nn ≤ cn) (e1 : xs (i0 + 1) = nI i) (e2 : xs (i0 + 2) = nI nn) (hdc : dcB (fun j => X 1 (16000 + j)) 0 nn = true) (kk : LwK p l en s m below meth c b G x tp qb mt ms sl fa o i0 cn cells slots) : W p l en room_1 s m #[Value.ref b] below meth c H locs cells slots (lw_Z below #[Value.ref b] s) (F0 m 176 ls []) := by
  obtain ⟨hx, hb, hr, hml, hown, hts0, hXs, hbl, hlocks, hgv⟩ := C0
  have hown : s.vm.findClass RL = some m.cls := hown
  have hz : ∀ w ∈ zW, w.before #[Value.ref b] s = true := fun w h => hts0 w (List.mem_filter.mp h).1
  have hts : ∀ w ∈ wsL, w.before #[Value.ref b] s = true := fun w h => (List.mem_cons.mp h).elim (fun e => by rw [e]; exact hz _ wm_L_9) (hz w)
  have hbA : ¬ (fun q : Nat => s.heap.size ≤ q) b := Nat.not_le.mpr hbl
  obtain ⟨hOrd, hsz, hcn, ⟨wr, wa, nc, np, ns, f9, nd, u, hR⟩, hX, hT, hSl, hFa, hRst⟩ := hI
  have hord := hOrd
  unfold OrdI at hord
  have hsh : dcB (X 1) 16000 nn = dcB (fun j => X 1 (16000 + j)) 0 nn := dcB_sh (fun j _ => rfl) (by omega) (by omega)
  by_cases hw : ((ckF (X 1) 16).2 16000 (0, wa, 0, 0, 0)).1 = 0
  · refine lv_aload_n hx hb dL_law_176 rfl (lv_at hl 1 rfl) ?_
    refine lv_aload_n hx hb dL_law_177 rfl (lv_at hl 0 rfl) ?_
    refine lv_iload_n hx hb dL_law_178 rfl (lv_at hl 3 rfl) ?_
    refine lv_iconst (v := nI 1) hx hb dL_law_179 (by decide) ?_
    refine zi_add hx hb dL_law_180 ?_
    refine zl_ald (v := nI (i)) hx hb hXs hbl hbA hS (show i0 + 1 < L by omega) hL e1 dL_law_181 ?_
    refine lv_aload_n hx hb dL_law_182 rfl (lv_at hl 0 rfl) ?_
    refine lv_iload_n hx hb dL_law_183 rfl (lv_at hl 3 rfl) ?_
    refine lv_iconst (v := nI 2) hx hb dL_law_184 (by decide) ?_
    refine zi_add hx hb dL_law_185 ?_
    refine zl_ald (v := nI (nn)) hx hb hXs hbl hbA hS (show i0 + 2 < L by omega) hL e2 dL_law_186 ?_
    refine zx_V (As := [.int (nI (i)), .int (nI (nn))]) (rest := []) ⟨hx, hb, hml, hown, hts⟩ (c_filter l G x tp mt sl fa pl sv fv qb cn (fun j => X 1 (16000 + j)) H.size i nn hi hnn hcn (by omega) (by omega) (by omega) (by omega) (by omega) (by omega) (by omega) (by omega) (by omega) (by omega) (by omega) ⟨by omega, by omega, by omega⟩ ⟨by omega, by omega, by omega, by omega⟩ (by omega) wa) (cwV 2 hts (zgV wm_L_23 wv_X10_filter) rfl rfl rfl (by decide +kernel) ⟨Nat.le_of_ble_eq_true rfl, Nat.le_of_ble_eq_true rfl⟩) hK hX rfl ⟨hX, hT, hSl, hFa, hRst.1, rfl⟩ rfl hl.1 rfl (Nat.le_of_ble_eq_true rfl) dL_law_187 ⟨by show cells + (44 * nn + 6) ≤ 600000; omega, by show slots + (50 * nn + 27) ≤ 7302250; omega⟩ hS (by intro q hq; first | omega | (dsimp only at hq ⊢; omega)) (fun r9 H locs hPo hz9 hk9 hS => ?_)
    have hSl := hSl.keep hk9 (by first | exact id | exact rfl | omega | (dsimp only; omega))
    have hR := hR.keep hk9 (by intro a ha hq; have ha := rAx_o ha; first | omega | (dsimp only at hq; omega))
    have hRst := hRst.keep hk9 ⟨hOrd, by omega, by intro q hq hq2; first | exact Or.inr (Or.inr (Or.inr (Or.inr (Or.inr (rAx_o hq2))))) | (unfold Ex; omega) | (unfold Ex; dsimp only at hq2; omega)⟩
    obtain ⟨hT, hOr⟩ := hPo
    obtain ⟨hd0, mk, fl, rt, ca, vl, hv, lo, hi9, fa0, pl0, hnv, hhi, hMk, hO9, h69, rfl, hX, hFa⟩ : dcB (fun j => X 1 (16000 + j)) 0 nn = true ∧ _ := hOr.resolve_left (fun h => absurd (h.1.symm.trans hdc) (by decide))
    have h8 := hR.2.2.2.2.1
    obtain ⟨r1, r2, r3⟩ := Mk_at (f2 := X 1) (c := 16000) hMk hO9 h69 (fun j _ => rfl) (Nat.le_refl _) h8
    have hf0 : fa0 = 0 := by rw [r1]; exact hw
    subst hf0
    have hFa := hFa.ext (g := fun j => some (upN fv i fl j)) (fun j => by rw [if_pos rfl])
    obtain ⟨hpl, -⟩ := r3 rfl
    subst hpl
    have hRst := hRst.filt hi (show nn ≤ 2000 by omega) (Mk_fi hMk hO9 hi (by omega) h8 hdc (by omega))
    refine W.eq (g2 := F0 m 190 ls ([.int (nI (0))])) rfl ?_
    refine lv_aload_n hx hb dL_law_190 rfl (lv_at hl 2 rfl) ?_
    refine lv_aload_n hx hb dL_law_191 rfl (lv_at hl 0 rfl) ?_
    refine lv_iload_n hx hb dL_law_192 rfl (lv_at hl 3 rfl) ?_
    refine lv_iconst (v := nI 1) hx hb dL_law_193 (by decide) ?_
    refine zi_add hx hb dL_law_194 ?_
    refine zl_ald (v := nI (i)) hx hb hXs hbl hbA hS (show i0 + 1 < L by omega) hL e1 dL_law_195 ?_
    refine lv_aload_n hx hb dL_law_196 rfl (lv_at hl 0 rfl) ?_
    refine lv_iload_n hx hb dL_law_197 rfl (lv_at hl 3 rfl) ?_
    refine lv_iconst (v := nI 2) hx hb dL_law_198 (by decide) ?_
    refine zi_add hx hb dL_law_199 ?_
    refine zl_ald (v := nI (nn)) hx hb hXs hbl hbA hS (show i0 + 2 < L by omega) hL e2 dL_law_200 ?_
    refine zx_V (As := [.int (nI (i)), .int (nI (nn))]) (rest := [.int (nI (0))]) ⟨hx, hb, hml, hown, hts⟩ (Met.qx (m_filter_ok l G o (qo o) cn pl wr wa nc np ns f9 nd u X i nn hi hnn hcn (by rw [hsh]; exact hdc) hw)) (cwV 2 hts (zgV wm_L_26 wv_X11_filter) rfl rfl rfl (by decide +kernel) ⟨Nat.le_of_ble_eq_true rfl, Nat.le_of_ble_eq_true rfl⟩) hK hR.1 rfl hR rfl hl.1 rfl (Nat.le_of_ble_eq_true rfl) dL_law_201 ⟨by show cells + (44 * nn + 6) + 0 ≤ 600000; omega, by show slots + (50 * nn + 27) + 0 ≤ 7302250; omega⟩ hS (by intro q hq; have hq := rAx_o hq; first | omega | (dsimp only; omega)) (fun r9 H locs hPo hz9 hk9 hS => ?_)
    have hk0 := hk9
    have hX := hX.keep hk9 (by intro ha; have ha := rAx_o ha; omega)
    have hT := hT.keep hk9 ⟨by intro ha; have ha := rAx_o ha; omega, by intro ha; have ha := rAx_o ha; omega⟩
    have hSl := hSl.keep hk9 (by intro ha; have ha := rAx_o ha; omega)
    have hFa := hFa.keep hk9 (by intro ha; have ha := rAx_o ha; omega)
    have hRst := hRst.keep hk9 ⟨hOrd, by omega, by intro q hq hq2; first | exact Or.inr (Or.inr (Or.inr (Or.inr (Or.inr (rAx_o hq2))))) | (unfold Ex; omega) | (unfold Ex; dsimp only at hq2; omega)⟩
    obtain ⟨rfl, hM⟩ := hPo
    obtain ⟨fa1, nd1, wr1, wa1, nc1, np1, ns1, X1, hR, x1, x4, x5, x6⟩ := hM
    have hT : TP G tp qb 0 (fun j => X1 1 (16000 + j)) H := by rw [x1, show (fun j => cpW (X 1) (fun j => X 1 (16000 + j)) (8000 + 2000 * i) nn (16000 + j)) = (fun j => X 1 (16000 + j)) from funext (fun j => cpW_ne (by omega))]; exact hT
    rw [← x1, ← x4, ← x5, ← x6] at hRst
    refine W.eq (g2 := F0 m 204 ls ([.int (nI (0)), .int (nI (0))])) rfl ?_
    refine lv_icmp_eq (tgt := 344) hx hb dL_law_204 (by decide) (fun _ => ?_) (fun c_9 => absurd (rfl) c_9)
    exact kk sv (upN fv i fl) 0 (-1) X1 _ _ _ _ _ ⟨hOrd, by omega, by omega, ⟨_, _, _, _, _, _, _, _, hR⟩, hX, hT, hSl, hFa, hRst⟩ hS (by omega) (by omega) (lv_sub hl [0, 1, 2, 3] rfl)
  · refine lv_aload_n hx hb dL_law_176 rfl (lv_at hl 1 rfl) ?_
    refine lv_aload_n hx hb dL_law_177 rfl (lv_at hl 0 rfl) ?_
    refine lv_iload_n hx hb dL_law_178 rfl (lv_at hl 3 rfl) ?_
    refine lv_iconst (v := nI 1) hx hb dL_law_179 (by decide) ?_
    refine zi_add hx hb dL_law_180 ?_
    refine zl_ald (v := nI (i)) hx hb hXs hbl hbA hS (show i0 + 1 < L by omega) hL e1 dL_law_181 ?_
    refine lv_aload_n hx hb dL_law_182 rfl (lv_at hl 0 rfl) ?_
    refine lv_iload_n hx hb dL_law_183 rfl (lv_at hl 3 rfl) ?_
    refine lv_iconst (v := nI 2) hx hb dL_law_184 (by decide) ?_
    refine zi_add hx hb dL_law_185 ?_
    refine zl_ald (v := nI (nn)) hx hb hXs hbl hbA hS (show i0 + 2 < L by omega) hL e2 dL_law_186 ?_
    refine zx_V (As := [.int (nI (i)), .int (nI (nn))]) (rest := []) ⟨hx, hb, hml, hown, hts⟩ (c_filter l G x tp mt sl fa pl sv fv qb cn (fun j => X 1 (16000 + j)) H.size i nn hi hnn hcn (by omega) (by omega) (by omega) (by omega) (by omega) (by omega) (by omega) (by omega) (by omega) (by omega) (by omega) ⟨by omega, by omega, by omega⟩ ⟨by omega, by omega, by omega, by omega⟩ (by omega) wa) (cwV 2 hts (zgV wm_L_23 wv_X10_filter) rfl rfl rfl (by decide +kernel) ⟨Nat.le_of_ble_eq_true rfl, Nat.le_of_ble_eq_true rfl⟩) hK hX rfl ⟨hX, hT, hSl, hFa, hRst.1, rfl⟩ rfl hl.1 rfl (Nat.le_of_ble_eq_true rfl) dL_law_187 ⟨by show cells + (44 * nn + 6) ≤ 600000; omega, by show slots + (50 * nn + 27) ≤ 7302250; omega⟩ hS (by intro q hq; first | omega | (dsimp only at hq ⊢; omega)) (fun r9 H locs hPo hz9 hk9 hS => ?_)
    have hSl := hSl.keep hk9 (by first | exact id | exact rfl | omega | (dsimp only; omega))
    have hR := hR.keep hk9 (by intro a ha hq; have ha := rAx_o ha; first | omega | (dsimp only at hq; omega))
    have hRst := hRst.keep hk9 ⟨hOrd, by omega, by intro q hq hq2; first | exact Or.inr (Or.inr (Or.inr (Or.inr (Or.inr (rAx_o hq2))))) | (unfold Ex; omega) | (unfold Ex; dsimp only at hq2; omega)⟩
    obtain ⟨hT, hOr⟩ := hPo
    obtain ⟨hd0, mk, fl, rt, ca, vl, hv, lo, hi9, fa0, pl0, hnv, hhi, hMk, hO9, h69, rfl, hX, hFa⟩ : dcB (fun j => X 1 (16000 + j)) 0 nn = true ∧ _ := hOr.resolve_left (fun h => absurd (h.1.symm.trans hdc) (by decide))
    have h8 := hR.2.2.2.2.1
    obtain ⟨r1, r2, r3⟩ := Mk_at (f2 := X 1) (c := 16000) hMk hO9 h69 (fun j _ => rfl) (Nat.le_refl _) h8
    have hf0 : fa0 ≠ 0 := by rw [r1]; exact hw
    have hFa := hFa.ext (g := fun j => some (fv j)) (fun j => by rw [if_neg hf0])
    have hpl := r2 hf0
    refine W.eq (g2 := F0 m 190 ls ([.int (nI fa0)])) rfl ?_
    refine lv_aload_n hx hb dL_law_190 rfl (lv_at hl 2 rfl) ?_
    refine lv_aload_n hx hb dL_law_191 rfl (lv_at hl 0 rfl) ?_
    refine lv_iload_n hx hb dL_law_192 rfl (lv_at hl 3 rfl) ?_
    refine lv_iconst (v := nI 1) hx hb dL_law_193 (by decide) ?_
    refine zi_add hx hb dL_law_194 ?_
    refine zl_ald (v := nI (i)) hx hb hXs hbl hbA hS (show i0 + 1 < L by omega) hL e1 dL_law_195 ?_
    refine lv_aload_n hx hb dL_law_196 rfl (lv_at hl 0 rfl) ?_
    refine lv_iload_n hx hb dL_law_197 rfl (lv_at hl 3 rfl) ?_
    refine lv_iconst (v := nI 2) hx hb dL_law_198 (by decide) ?_
    refine zi_add hx hb dL_law_199 ?_
    refine zl_ald (v := nI (nn)) hx hb hXs hbl hbA hS (show i0 + 2 < L by omega) hL e2 dL_law_200 ?_
    refine zx_V (As := [.int (nI (i)), .int (nI (nn))]) (rest := [.int (nI fa0)]) ⟨hx, hb, hml, hown, hts⟩ (Met.qx (m_filter_wrong l G o (qo o) cn pl wr wa nc np ns f9 nd u X i nn hi hnn hcn (by rw [hsh]; exact hdc) hw)) (cwV 2 hts (zgV wm_L_26 wv_X11_filter) rfl rfl rfl (by decide +kernel) ⟨Nat.le_of_ble_eq_true rfl, Nat.le_of_ble_eq_true rfl⟩) hK hR.1 rfl hR rfl hl.1 rfl (Nat.le_of_ble_eq_true rfl) dL_law_201 ⟨by show cells + (44 * nn + 6) + 0 ≤ 600000; omega, by show slots + (50 * nn + 27) + 0 ≤ 7302250; omega⟩ hS (by intro q hq; have hq := rAx_o hq; first | omega | (dsimp only; omega)) (fun r9 H locs hPo hz9 hk9 hS => ?_)
    have hk0 := hk9
    have hX := hX.keep hk9 (by intro ha; have ha := rAx_o ha; omega)
    have hT := hT.keep hk9 ⟨by intro ha; have ha := rAx_o ha; omega, by intro ha; have ha := rAx_o ha; omega⟩
    have hSl := hSl.keep hk9 (by intro ha; have ha := rAx_o ha; omega)
    have hFa := hFa.keep hk9 (by intro ha; have ha := rAx_o ha; omega)
    have hRst := hRst.keep hk9 ⟨hOrd, by omega, by intro q hq hq2; first | exact Or.inr (Or.inr (Or.inr (Or.inr (Or.inr (rAx_o hq2))))) | (unfold Ex; omega) | (unfold Ex; dsimp only at hq2; omega)⟩
    obtain ⟨rfl, hM⟩ := hPo
    obtain ⟨fa1, nd1, wr1, wa1, nc1, np1, ns1, X1, hR, x1, x4, x5, x6⟩ := hM
    have hT : TP G tp qb 0 (fun j => X1 1 (16000 + j)) H := by rw [x1]; exact hT
    rw [← x1, ← x4, ← x5, ← x6] at hRst
    rw [← hpl] at hR
    refine W.eq (g2 := F0 m 204 ls ([.int (nI ((ckF (X 1) 16).2 16000 (0, wa, 0, 0, 0)).1), .int (nI fa0)])) rfl ?_
    refine lv_icmp_eq (tgt := 344) hx hb dL_law_204 (by decide) (fun _ => ?_) (fun c_9 => absurd (by rw [r1]) c_9)
    exact kk sv fv 0 pl0 X1 _ _ _ _ _ ⟨hOrd, by omega, by omega, ⟨_, _, _, _, _, _, _, _, hR⟩, hX, hT, hSl, hFa, hRst⟩ hS (by omega) (by omega) (lv_sub hl [0, 1, 2, 3] rfl)
