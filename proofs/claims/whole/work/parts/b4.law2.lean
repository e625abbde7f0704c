/-! ===== the law's loop ===== -/
theorem sub6 {L a : Nat} (hL : L ≤ 3072) (ha : a ≤ 3072) (h : ¬ nI L - nI 6 < nI a) : a + 6 ≤ L := by
  have e : (nI L - nI 6).toInt = (L : Int) - 6 := by
    rw [Int32.toInt_sub, nI_toInt (show L < 2 ^ 31 by omega), nI_toInt (show 6 < 2 ^ 31 by decide)]
    apply Int.bmod_eq_of_le <;> omega
  rw [Int32.lt_iff_toInt_lt, e, nI_toInt (show a < 2 ^ 31 by omega)] at h
  omega
set_option maxHeartbeats 4000000 in
set_option maxRecDepth 100000 in
theorem law_loop {p : Program} {l : Launch} {en : Env} {s : State} {m : MethodId} {below : List Frame} {meth : Method} {c : Code} {b L : Nat} {xs : Nat → Int32} (hL : L ≤ 3072) (C0 : lw_At p s m meth c b L xs) {G : zG} (hK : zK G s) {x tp qb mt ms sl fa o : Nat} (hns : s.heap.size ≤ x) :
    ∀ (n k i0 : Nat) (sv fv : Nat → Nat) (cn : Nat) (pl : Int32) (X : Nat → Nat → Nat) (H : Heap) (locs : List Loc) (cells slots : Nat) (ls : Array Slot), i0 = 6 * k → i0 ≤ L → L < i0 + 6 * n → Inv G x tp qb mt ms sl fa o sv fv cn pl X H → va_S (fun q => s.heap.size ≤ q) s.heap H locs → cells + 44 * cn ≤ 50 + 886 * k → slots + 50 * cn ≤ 26000 + 1027 * k → lv_has ls 4 [(0, .ref b), (1, .ref x), (2, .ref o), (3, .int (nI i0))] → W p l en room_1 s m #[Value.ref b] below meth c H locs cells slots (lw_Z below #[Value.ref b] s) (F0 m 18 ls []) := by
  intro n
  induction n with
  | zero =>
    intro k i0 sv fv cn pl X H locs cells slots ls h1 h2 h3
    exact absurd h3 (by omega)
  | succ n ih =>
    intro k i0 sv fv cn pl X H locs cells slots ls hk0 hi0 hn hI hS hcc hss hl
    have C1 := C0
    obtain ⟨hx, hb, hr, hml, hown, hts0, hXs, hbl, hlocks, hgv⟩ := C1
    have hbA : ¬ (fun q : Nat => s.heap.size ≤ q) b := Nat.not_le.mpr hbl
    have hcn : cn ≤ 2000 := hI.2.2.1
    refine lv_iload_n hx hb dL_law_18 rfl (lv_at hl 3 rfl) ?_
    refine lv_aload_n hx hb dL_law_19 rfl (lv_at hl 0 rfl) ?_
    refine va_slen hx hb hXs hbl hbA hS dL_law_20 ?_
    refine lv_bipush (v := nI 6) hx hb dL_law_21 (by decide) ?_
    refine lv_isub hx hb dL_law_23 ?_
    refine lv_icmp_gt (tgt := 350) hx hb dL_law_24 (by decide) (fun c_24 => ?_) (fun c_24 => ?_)
    · refine lv_iconst (v := 1) hx hb dL_law_350 (by decide) ?_
      refine va_forget (fun q hq => hS.2.2 q hq) ?_
      refine W.widen (k := 600000) (n := 7302250) (by omega) (by omega) ?_
      exact lw_ret hx hb hr hlocks dL_law_351
    · have hi6 : i0 + 6 ≤ L := sub6 hL (by omega) c_24
      have kk : LwK p l en s m below meth c b G x tp qb mt ms sl fa o i0 cn cells slots := by
        intro sv1 fv1 cn1 pl1 X1 H1 locs1 c1 s1 ls1 hI1 hS1 hc1 hs1 hl1
        refine lv_iinc (v := nI (i0 + 6)) (lv' := [(3, .int (nI (i0 + 6))), (0, .ref b), (1, .ref x), (2, .ref o)]) hx hb dL_law_344 hl1 (k := 3) rfl (nI_add _ _) (by decide) rfl (fun ls hl => ?_)
        refine lv_goto (tgt := 18) hx hb dL_law_347 (by decide) ?_
        exact ih (k + 1) (i0 + 6) sv1 fv1 cn1 pl1 X1 H1 locs1 c1 s1 ls (by omega) (by omega) (by omega) hI1 hS1 (by omega) (by omega) (lv_sub hl [1, 2, 3, 0] rfl)
      have g1 : cells + 44 * cn + 886 ≤ 600000 := by omega
      have g2 : slots + 50 * cn + 1027 ≤ 7302250 := by omega
      refine lv_aload_n hx hb dL_law_27 rfl (lv_at hl 0 rfl) ?_
      refine lv_iload_n hx hb dL_law_28 rfl (lv_at hl 3 rfl) ?_
      refine zl_ald (v := xs i0) hx hb hXs hbl hbA hS (show i0 < L by omega) hL rfl dL_law_29 ?_
      refine lv_bipush (v := nI 7) hx hb dL_law_30 (by decide) ?_
      refine lv_iand hx hb dL_law_32 ?_
      obtain ⟨t, ht, et⟩ := and7 (xs i0)
      rw [show xs i0 &&& nI 7 = nI t from et]
      have ht31 : t < 2 ^ 31 := by omega
      have h8 : t = 0 ∨ t = 1 ∨ t = 2 ∨ t = 3 ∨ t = 4 ∨ t = 5 ∨ t = 6 ∨ t = 7 := by omega
      rcases h8 with e | e | e | e | e | e | e | e
      · refine zi_tab hx hb dL_law_33 ht31 80 (by rw [e]; decide) ?_
        by_cases hc : cn + 20 ≤ 2000
        · exact law_feed hL C0 hK hI hi6 hns hS g1 g2 hl hc kk
        · exact law_feed_n hL C0 hK hI hi6 hns hS g1 g2 hl hc kk
      · refine zi_tab hx hb dL_law_33 ht31 143 (by rw [e]; decide) ?_
        cases h4 : is4i (xs (i0 + 1)) with
        | false => exact law_read_n1 hL C0 hK hI hi6 hns hS g1 g2 hl h4 kk
        | true =>
          obtain ⟨i, hi, e1⟩ := is4_nat h4
          by_cases hz : ¬ xs (i0 + 2) < 0 ∧ xs (i0 + 2) ≤ nI cn
          · obtain ⟨nn, hnn, e2⟩ := le_nat hcn hz
            cases hd : dcB (fun j => X 1 (16000 + j)) 0 nn with
            | false => exact law_read_f hL C0 hK hI hi6 hns hS g1 g2 hl i nn hi hnn e1 e2 hd kk
            | true => exact law_read_t hL C0 hK hI hi6 hns hS g1 g2 hl i nn hi hnn e1 e2 hd kk
          · exact law_read_n2 hL C0 hK hI hi6 hns hS g1 g2 hl i hi e1 hz kk
      · refine zi_tab hx hb dL_law_33 ht31 176 (by rw [e]; decide) ?_
        cases h4 : is4i (xs (i0 + 1)) with
        | false => exact law_filter_n1 hL C0 hK hI hi6 hns hS g1 g2 hl h4 kk
        | true =>
          obtain ⟨i, hi, e1⟩ := is4_nat h4
          by_cases hz : ¬ xs (i0 + 2) < 0 ∧ xs (i0 + 2) ≤ nI cn
          · obtain ⟨nn, hnn, e2⟩ := le_nat hcn hz
            cases hd : dcB (fun j => X 1 (16000 + j)) 0 nn with
            | false => exact law_filter_f hL C0 hK hI hi6 hns hS g1 g2 hl i nn hi hnn e1 e2 hd kk
            | true => exact law_filter_t hL C0 hK hI hi6 hns hS g1 g2 hl i nn hi hnn e1 e2 hd kk
          · exact law_filter_n2 hL C0 hK hI hi6 hns hS g1 g2 hl i hi e1 hz kk
      · refine zi_tab hx hb dL_law_33 ht31 209 (by rw [e]; decide) ?_
        exact law_place hL C0 hK hI hi6 hns hS g1 g2 hl kk
      · refine zi_tab hx hb dL_law_33 ht31 222 (by rw [e]; decide) ?_
        cases h4 : is4i (xs (i0 + 1)) with
        | false => exact law_many_n1 hL C0 hK hI hi6 hns hS g1 g2 hl h4 kk
        | true =>
          obtain ⟨i, hi, e1⟩ := is4_nat h4
          by_cases hz : ¬ xs (i0 + 2) < 0 ∧ xs (i0 + 2) ≤ 3
          · obtain ⟨y, hy, e2⟩ := nI_of2 (M := 3) (n := 3) (by decide) hz.1 hz.2
            exact law_many hL C0 hK hI hi6 hns hS g1 g2 hl i y hi (by omega) e1 e2 kk
          · exact law_many_n2 hL C0 hK hI hi6 hns hS g1 g2 hl i hi e1 hz kk
      · refine zi_tab hx hb dL_law_33 ht31 255 (by rw [e]; decide) ?_
        cases h4 : is4i (xs (i0 + 1)) with
        | false =>
          cases h5 : is4i (xs (i0 + 2)) with
          | false => exact law_holds_n3 hL C0 hK hI hi6 hns hS g1 g2 hl h4 h5 kk
          | true =>
            obtain ⟨j, hj, e2⟩ := is4_nat h5
            exact law_holds_n1 hL C0 hK hI hi6 hns hS g1 g2 hl j hj h4 e2 kk
        | true =>
          obtain ⟨i, hi, e1⟩ := is4_nat h4
          cases h5 : is4i (xs (i0 + 2)) with
          | false => exact law_holds_n2 hL C0 hK hI hi6 hns hS g1 g2 hl i hi e1 h5 kk
          | true =>
            obtain ⟨j, hj, e2⟩ := is4_nat h5
            exact law_holds hL C0 hK hI hi6 hns hS g1 g2 hl i j hi hj e1 e2 kk
      · refine zi_tab hx hb dL_law_33 ht31 288 (by rw [e]; decide) ?_
        cases h4 : is4i (xs (i0 + 1)) with
        | false =>
          cases h5 : is4i (xs (i0 + 2)) with
          | false => exact law_fails_n3 hL C0 hK hI hi6 hns hS g1 g2 hl h4 h5 kk
          | true =>
            obtain ⟨j, hj, e2⟩ := is4_nat h5
            exact law_fails_n1 hL C0 hK hI hi6 hns hS g1 g2 hl j hj h4 e2 kk
        | true =>
          obtain ⟨i, hi, e1⟩ := is4_nat h4
          cases h5 : is4i (xs (i0 + 2)) with
          | false => exact law_fails_n2 hL C0 hK hI hi6 hns hS g1 g2 hl i hi e1 h5 kk
          | true =>
            obtain ⟨j, hj, e2⟩ := is4_nat h5
            exact law_fails hL C0 hK hI hi6 hns hS g1 g2 hl i j hi hj e1 e2 kk
      · refine zi_tab hx hb dL_law_33 ht31 321 (by rw [e]; decide) ?_
        cases h4 : is4i (xs (i0 + 1)) with
        | false => exact law_which_n hL C0 hK hI hi6 hns hS g1 g2 hl h4 kk
        | true =>
          obtain ⟨i, hi, e1⟩ := is4_nat h4
          exact law_which hL C0 hK hI hi6 hns hS g1 g2 hl i hi e1 kk
