set_option maxHeartbeats 4000000 in
set_option maxRecDepth 100000 in
theorem m_classOf (l : Launch) (G : zG)  (k : Nat) (hk : k < 2 ^ 31) : Met l yX11_classOf wsX11_classOf ({ frames := 0, cells := 0, slots := 0, locals := 0 }) (zP G [.int (nI (k))] (fun H => True)) (zR (.int (nI (clO k)))) 0 0 (fun _ => False) := by
  refine Met.ofW (cc := cX11_classOf) (maxL := 1) (ret := (some .int)) (by decide) rfl ?_
  intro p en s m args below meth c s₁ B hml hv
  obtain ⟨rfl, hP, hK⟩ := hv
  have hx := B.exec
  have hb := B.bytes
  have hr := B.returns
  have hts := atoms_spec (ws := wsX11_classOf) B.pre
  have hz : ∀ w ∈ zW, w.before _ s = true := fun w h => hts w (List.mem_cons_of_mem _ h)
  have hown : s.vm.findClass RX11 = some m.cls := findClass_of_methodNamed B.named
  have hlocks := B.notSynchronized
  have hl := lv_entry ([.int (nI (k))]) (n := 1) (Nat.le_of_ble_eq_true rfl)
  rw [lg_entry_eq]
  generalize (lg_sl ([.int (nI (k))]) ++ List.replicate (1 - (lg_sl ([.int (nI (k))])).length) Slot.unset).toArray = ls at hl ⊢
  have hl : lv_has ls 1 [(0, .int (nI (k)))] := hl
  refine lv_iload_n hx hb dX11_classOf_0 rfl (lv_at hl 0 rfl) ?_
  by_cases c_1_2 : k = 2
  · refine zi_tab hx hb dX11_classOf_1 (by omega) 88 (by rw [c_1_2]; decide) ?_
    refine lv_iconst (v := nI 3) hx hb dX11_classOf_88 (by decide) ?_
    exact zr_i hx hb hr hlocks (by simp [clO, *]) dX11_classOf_89
  by_cases c_1_3 : k = 3
  · refine zi_tab hx hb dX11_classOf_1 (by omega) 90 (by rw [c_1_3]; decide) ?_
    refine lv_iconst (v := nI 4) hx hb dX11_classOf_90 (by decide) ?_
    exact zr_i hx hb hr hlocks (by simp [clO, *]) dX11_classOf_91
  by_cases c_1_4 : k = 4
  · refine zi_tab hx hb dX11_classOf_1 (by omega) 92 (by rw [c_1_4]; decide) ?_
    refine lv_iconst (v := nI 5) hx hb dX11_classOf_92 (by decide) ?_
    exact zr_i hx hb hr hlocks (by simp [clO, *]) dX11_classOf_93
  by_cases c_1_8 : k = 8
  · refine zi_tab hx hb dX11_classOf_1 (by omega) 94 (by rw [c_1_8]; decide) ?_
    refine lv_bipush (v := nI 6) hx hb dX11_classOf_94 (by decide) ?_
    exact zr_i hx hb hr hlocks (by simp [clO, *]) dX11_classOf_96
  by_cases c_1_10 : k = 10
  · refine zi_tab hx hb dX11_classOf_1 (by omega) 84 (by rw [c_1_10]; decide) ?_
    refine lv_iconst (v := nI 1) hx hb dX11_classOf_84 (by decide) ?_
    exact zr_i hx hb hr hlocks (by simp [clO, *]) dX11_classOf_85
  by_cases c_1_16 : k = 16
  · refine zi_tab hx hb dX11_classOf_1 (by omega) 86 (by rw [c_1_16]; decide) ?_
    refine lv_iconst (v := nI 2) hx hb dX11_classOf_86 (by decide) ?_
    exact zr_i hx hb hr hlocks (by simp [clO, *]) dX11_classOf_87
  by_cases c_1_18 : k = 18
  · refine zi_tab hx hb dX11_classOf_1 (by omega) 86 (by rw [c_1_18]; decide) ?_
    refine lv_iconst (v := nI 2) hx hb dX11_classOf_86 (by decide) ?_
    exact zr_i hx hb hr hlocks (by simp [clO, *]) dX11_classOf_87
  refine zi_tab hx hb dX11_classOf_1 (by omega) 97 ((zTab_d [2, 3, 4, 8, 10, 16, 18] (by decide +kernel) (by simp only [List.mem_cons, List.not_mem_nil, or_false, not_or]; exact ⟨c_1_2, c_1_3, c_1_4, c_1_8, c_1_10, c_1_16, c_1_18⟩)).trans (by decide)) ?_
  refine lv_iconst (v := nI 0) hx hb dX11_classOf_97 (by decide) ?_
  exact zr_i hx hb hr hlocks (by simp [clO, *]) dX11_classOf_98

set_option maxHeartbeats 4000000 in
set_option maxRecDepth 100000 in
theorem m_isFour (l : Launch) (G : zG)  (x : Int32) : Met l yX11_isFour wsX11_isFour ({ frames := 0, cells := 0, slots := 0, locals := 0 }) (zP G [.int (x)] (fun H => True)) (zR (.int (nI (nB (decide (¬ x < 0 ∧ x < 4)))))) 0 0 (fun _ => False) := by
  refine Met.ofW (cc := cX11_isFour) (maxL := 1) (ret := (some .boolean)) (by decide) rfl ?_
  intro p en s m args below meth c s₁ B hml hv
  obtain ⟨rfl, hP, hK⟩ := hv
  have hx := B.exec
  have hb := B.bytes
  have hr := B.returns
  have hts := atoms_spec (ws := wsX11_isFour) B.pre
  have hz : ∀ w ∈ zW, w.before _ s = true := fun w h => hts w (List.mem_cons_of_mem _ h)
  have hown : s.vm.findClass RX11 = some m.cls := findClass_of_methodNamed B.named
  have hlocks := B.notSynchronized
  have hl := lv_entry ([.int (x)]) (n := 1) (Nat.le_of_ble_eq_true rfl)
  rw [lg_entry_eq]
  generalize (lg_sl ([.int (x)]) ++ List.replicate (1 - (lg_sl ([.int (x)])).length) Slot.unset).toArray = ls at hl ⊢
  have hl : lv_has ls 1 [(0, .int (x))] := hl
  refine lv_iload_n hx hb dX11_isFour_0 rfl (lv_at hl 0 rfl) ?_
  refine lv_if_lt (tgt := 13) hx hb dX11_isFour_1 (by decide) (fun c_1 => ?_) (fun c_1 => ?_)
  · refine lv_iconst (v := nI 0) hx hb dX11_isFour_13 (by decide) ?_
    exact zr_z hx hb hr hlocks (by first | (rw [show nI 4 = (4 : Int32) by decide] at c_6; simp_all [nB, ← Int32.not_le]; done) | (simp_all [nB, ← Int32.not_le]; done)) dX11_isFour_14
  · refine lv_iload_n hx hb dX11_isFour_4 rfl (lv_at hl 0 rfl) ?_
    refine lv_iconst (v := nI 4) hx hb dX11_isFour_5 (by decide) ?_
    refine lv_icmp_ge (tgt := 13) hx hb dX11_isFour_6 (by decide) (fun c_6 => ?_) (fun c_6 => ?_)
    · refine lv_iconst (v := nI 0) hx hb dX11_isFour_13 (by decide) ?_
      exact zr_z hx hb hr hlocks (by first | (rw [show nI 4 = (4 : Int32) by decide] at c_6; simp_all [nB, ← Int32.not_le]; done) | (simp_all [nB, ← Int32.not_le]; done)) dX11_isFour_14
    · refine lv_iconst (v := nI 1) hx hb dX11_isFour_9 (by decide) ?_
      refine lv_goto (tgt := 14) hx hb dX11_isFour_10 (by decide) ?_
      exact zr_z hx hb hr hlocks (by first | (rw [show nI 4 = (4 : Int32) by decide] at c_6; simp_all [nB, ← Int32.not_le]; done) | (simp_all [nB, ← Int32.not_le]; done)) dX11_isFour_14

set_option maxHeartbeats 4000000 in
set_option maxRecDepth 100000 in
theorem m_digits (l : Launch) (G : zG)  (v : Nat) (hv : v < 2 ^ 31) : Met l yX11_digits wsX11_digits ({ frames := 0, cells := 0, slots := 0, locals := 0 }) (zP G [.int (nI (v))] (fun H => True)) (zR (.int (nI (dgs v)))) 0 0 (fun _ => False) := by
  refine Met.ofW (cc := cX11_digits) (maxL := 1) (ret := (some .int)) (by decide) rfl ?_
  intro p en s m args below meth c s₁ B hml hv
  obtain ⟨rfl, hP, hK⟩ := hv
  have hx := B.exec
  have hb := B.bytes
  have hr := B.returns
  have hts := atoms_spec (ws := wsX11_digits) B.pre
  have hz : ∀ w ∈ zW, w.before _ s = true := fun w h => hts w (List.mem_cons_of_mem _ h)
  have hown : s.vm.findClass RX11 = some m.cls := findClass_of_methodNamed B.named
  have hlocks := B.notSynchronized
  have hl := lv_entry ([.int (nI (v))]) (n := 1) (Nat.le_of_ble_eq_true rfl)
  rw [lg_entry_eq]
  generalize (lg_sl ([.int (nI (v))]) ++ List.replicate (1 - (lg_sl ([.int (nI (v))])).length) Slot.unset).toArray = ls at hl ⊢
  have hl : lv_has ls 1 [(0, .int (nI (v)))] := hl
  refine lv_iload_n hx hb dX11_digits_0 rfl (lv_at hl 0 rfl) ?_
  refine lv_sipush (v := nI 999) hx hb dX11_digits_1 (by decide) ?_
  refine zi_icmp_le (tgt := 11) hx hb dX11_digits_4 (by decide) (by omega) (by omega) (fun c_4 => ?_) (fun c_4 => ?_)
  · refine lv_iload_n hx hb dX11_digits_11 rfl (lv_at hl 0 rfl) ?_
    refine lv_bipush (v := nI 99) hx hb dX11_digits_12 (by decide) ?_
    refine zi_icmp_le (tgt := 21) hx hb dX11_digits_14 (by decide) (by omega) (by omega) (fun c_14 => ?_) (fun c_14 => ?_)
    · refine lv_iload_n hx hb dX11_digits_21 rfl (lv_at hl 0 rfl) ?_
      refine lv_bipush (v := nI 9) hx hb dX11_digits_22 (by decide) ?_
      refine zi_icmp_le (tgt := 31) hx hb dX11_digits_24 (by decide) (by omega) (by omega) (fun c_24 => ?_) (fun c_24 => ?_)
      · refine lv_iconst (v := nI 1) hx hb dX11_digits_31 (by decide) ?_
        exact zr_i hx hb hr hlocks (by unfold dgs; (repeat' split) <;> first | rfl | (exfalso; omega)) dX11_digits_32
      · refine lv_iconst (v := nI 2) hx hb dX11_digits_27 (by decide) ?_
        refine lv_goto (tgt := 32) hx hb dX11_digits_28 (by decide) ?_
        exact zr_i hx hb hr hlocks (by unfold dgs; (repeat' split) <;> first | rfl | (exfalso; omega)) dX11_digits_32
    · refine lv_iconst (v := nI 3) hx hb dX11_digits_17 (by decide) ?_
      refine lv_goto (tgt := 32) hx hb dX11_digits_18 (by decide) ?_
      exact zr_i hx hb hr hlocks (by unfold dgs; (repeat' split) <;> first | rfl | (exfalso; omega)) dX11_digits_32
  · refine lv_iconst (v := nI 4) hx hb dX11_digits_7 (by decide) ?_
    refine lv_goto (tgt := 32) hx hb dX11_digits_8 (by decide) ?_
    exact zr_i hx hb hr hlocks (by unfold dgs; (repeat' split) <;> first | rfl | (exfalso; omega)) dX11_digits_32

set_option maxHeartbeats 4000000 in
set_option maxRecDepth 100000 in
theorem m_isKind (l : Launch) (G : zG) (o qs : Nat) (fs : List Value) (f : Nat → Nat) (k : Nat) (hk : k < 2 ^ 31) : Met l yX11_isKind wsX11_isKind ({ frames := 0, cells := 0, slots := 0, locals := 0 }) (zP G [.ref (o), .int (nI (k))] (fun H => MV G o qs fs f H)) (zR (.int (nI (nB (decide (k = 2 ∨ k = 3 ∨ k = 4 ∨ k = 8 ∨ k = 10 ∨ k = 16 ∨ k = 18)))))) 0 0 (fun _ => False) := by
  refine Met.ofW (cc := cX11_isKind) (maxL := 2) (ret := (some .boolean)) (by decide) rfl ?_
  intro p en s m args below meth c s₁ B hml hv
  obtain ⟨rfl, hP, hK⟩ := hv
  have hx := B.exec
  have hb := B.bytes
  have hr := B.returns
  have hts := atoms_spec (ws := wsX11_isKind) B.pre
  have hz : ∀ w ∈ zW, w.before _ s = true := fun w h => hts w (List.mem_cons_of_mem _ h)
  have hown : s.vm.findClass RX11 = some m.cls := findClass_of_methodNamed B.named
  have hlocks := B.notSynchronized
  obtain ⟨hO, hA, hS1, h8⟩ := id hP
  have hl := lv_entry ([.ref (o), .int (nI (k))]) (n := 2) (Nat.le_of_ble_eq_true rfl)
  rw [lg_entry_eq]
  generalize (lg_sl ([.ref (o), .int (nI (k))]) ++ List.replicate (2 - (lg_sl ([.ref (o), .int (nI (k))])).length) Slot.unset).toArray = ls at hl ⊢
  have hl : lv_has ls 2 [(0, .ref (o)), (1, .int (nI (k)))] := hl
  refine lv_iload_n hx hb dX11_isKind_0 rfl (lv_at hl 1 rfl) ?_
  refine lv_iconst (v := nI 2) hx hb dX11_isKind_1 (by decide) ?_
  refine zi_icmp_eq (tgt := 39) hx hb dX11_isKind_2 (by decide) (by omega) (by omega) (fun c_2 => ?_) (fun c_2 => ?_)
  · refine lv_iconst (v := nI 1) hx hb dX11_isKind_39 (by decide) ?_
    refine lv_goto (tgt := 44) hx hb dX11_isKind_40 (by decide) ?_
    exact zr_z hx hb hr hlocks (by simp_all [nB]) dX11_isKind_44
  · refine lv_iload_n hx hb dX11_isKind_5 rfl (lv_at hl 1 rfl) ?_
    refine lv_iconst (v := nI 3) hx hb dX11_isKind_6 (by decide) ?_
    refine zi_icmp_eq (tgt := 39) hx hb dX11_isKind_7 (by decide) (by omega) (by omega) (fun c_7 => ?_) (fun c_7 => ?_)
    · refine lv_iconst (v := nI 1) hx hb dX11_isKind_39 (by decide) ?_
      refine lv_goto (tgt := 44) hx hb dX11_isKind_40 (by decide) ?_
      exact zr_z hx hb hr hlocks (by simp_all [nB]) dX11_isKind_44
    · refine lv_iload_n hx hb dX11_isKind_10 rfl (lv_at hl 1 rfl) ?_
      refine lv_iconst (v := nI 4) hx hb dX11_isKind_11 (by decide) ?_
      refine zi_icmp_eq (tgt := 39) hx hb dX11_isKind_12 (by decide) (by omega) (by omega) (fun c_12 => ?_) (fun c_12 => ?_)
      · refine lv_iconst (v := nI 1) hx hb dX11_isKind_39 (by decide) ?_
        refine lv_goto (tgt := 44) hx hb dX11_isKind_40 (by decide) ?_
        exact zr_z hx hb hr hlocks (by simp_all [nB]) dX11_isKind_44
      · refine lv_iload_n hx hb dX11_isKind_15 rfl (lv_at hl 1 rfl) ?_
        refine lv_bipush (v := nI 8) hx hb dX11_isKind_16 (by decide) ?_
        refine zi_icmp_eq (tgt := 39) hx hb dX11_isKind_18 (by decide) (by omega) (by omega) (fun c_18 => ?_) (fun c_18 => ?_)
        · refine lv_iconst (v := nI 1) hx hb dX11_isKind_39 (by decide) ?_
          refine lv_goto (tgt := 44) hx hb dX11_isKind_40 (by decide) ?_
          exact zr_z hx hb hr hlocks (by simp_all [nB]) dX11_isKind_44
        · refine lv_iload_n hx hb dX11_isKind_21 rfl (lv_at hl 1 rfl) ?_
          refine lv_bipush (v := nI 10) hx hb dX11_isKind_22 (by decide) ?_
          refine zi_icmp_eq (tgt := 39) hx hb dX11_isKind_24 (by decide) (by omega) (by omega) (fun c_24 => ?_) (fun c_24 => ?_)
          · refine lv_iconst (v := nI 1) hx hb dX11_isKind_39 (by decide) ?_
            refine lv_goto (tgt := 44) hx hb dX11_isKind_40 (by decide) ?_
            exact zr_z hx hb hr hlocks (by simp_all [nB]) dX11_isKind_44
          · refine lv_iload_n hx hb dX11_isKind_27 rfl (lv_at hl 1 rfl) ?_
            refine lv_bipush (v := nI 16) hx hb dX11_isKind_28 (by decide) ?_
            refine zi_icmp_eq (tgt := 39) hx hb dX11_isKind_30 (by decide) (by omega) (by omega) (fun c_30 => ?_) (fun c_30 => ?_)
            · refine lv_iconst (v := nI 1) hx hb dX11_isKind_39 (by decide) ?_
              refine lv_goto (tgt := 44) hx hb dX11_isKind_40 (by decide) ?_
              exact zr_z hx hb hr hlocks (by simp_all [nB]) dX11_isKind_44
            · refine lv_iload_n hx hb dX11_isKind_33 rfl (lv_at hl 1 rfl) ?_
              refine lv_bipush (v := nI 18) hx hb dX11_isKind_34 (by decide) ?_
              refine zi_icmp_ne (tgt := 43) hx hb dX11_isKind_36 (by decide) (by omega) (by omega) (fun c_36 => ?_) (fun c_36 => ?_)
              · refine lv_iconst (v := nI 0) hx hb dX11_isKind_43 (by decide) ?_
                exact zr_z hx hb hr hlocks (by simp_all [nB]) dX11_isKind_44
              · refine lv_iconst (v := nI 1) hx hb dX11_isKind_39 (by decide) ?_
                refine lv_goto (tgt := 44) hx hb dX11_isKind_40 (by decide) ?_
                exact zr_z hx hb hr hlocks (by simp_all [nB]) dX11_isKind_44

set_option maxHeartbeats 4000000 in
set_option maxRecDepth 100000 in
theorem m_isRight (l : Launch) (G : zG) (o qs : Nat) (fs : List Value) (f : Nat → Nat) (k kd v : Nat) (hk : k < 2 ^ 31) (hkd : kd < 2 ^ 31) (ha4 : kd = 16 → v + 4 ≤ 18000) (ha8 : kd = 18 → v + 8 ≤ 18000) (ha5 : kd = 3 → v + 5 < 18000) : Met l yX11_isRight wsX11_isRight ({ frames := 2, cells := 0, slots := 0, locals := 46 }) (zP G [.ref (o), .int (nI (k)), .int (nI (kd)), .int (nI (v))] (fun H => MV G o qs fs f H)) (zR (.int (nI (nB (isR f k kd v))))) 0 0 (fun _ => False) := by
  refine Met.ofW (cc := cX11_isRight) (maxL := 4) (ret := (some .boolean)) (by decide) rfl ?_
  intro p en s m args below meth c s₁ B hml hv
  obtain ⟨rfl, hP, hK⟩ := hv
  have hx := B.exec
  have hb := B.bytes
  have hr := B.returns
  have hts := atoms_spec (ws := wsX11_isRight) B.pre
  have hz : ∀ w ∈ zW, w.before _ s = true := fun w h => hts w (List.mem_cons_of_mem _ h)
  have hown : s.vm.findClass RX11 = some m.cls := findClass_of_methodNamed B.named
  have hlocks := B.notSynchronized
  obtain ⟨hO, hA, hS1, h8⟩ := id hP
  have hl := lv_entry ([.ref (o), .int (nI (k)), .int (nI (kd)), .int (nI (v))]) (n := 4) (Nat.le_of_ble_eq_true rfl)
  rw [lg_entry_eq]
  generalize (lg_sl ([.ref (o), .int (nI (k)), .int (nI (kd)), .int (nI (v))]) ++ List.replicate (4 - (lg_sl ([.ref (o), .int (nI (k)), .int (nI (kd)), .int (nI (v))])).length) Slot.unset).toArray = ls at hl ⊢
  have hl : lv_has ls 4 [(0, .ref (o)), (1, .int (nI (k))), (2, .int (nI (kd))), (3, .int (nI (v)))] := hl
  refine lv_iload_n hx hb dX11_isRight_0 rfl (lv_at hl 1 rfl) ?_
  by_cases c_1_3 : k = 3
  · refine zi_tab hx hb dX11_isRight_1 (by omega) 56 (by rw [c_1_3]; decide) ?_
    refine lv_iload_n hx hb dX11_isRight_56 rfl (lv_at hl 2 rfl) ?_
    refine lv_iconst (v := nI 4) hx hb dX11_isRight_57 (by decide) ?_
    refine zi_icmp_ne (tgt := 65) hx hb dX11_isRight_58 (by decide) (by omega) (by omega) (fun c_58 => ?_) (fun c_58 => ?_)
    · refine lv_iconst (v := nI 0) hx hb dX11_isRight_65 (by decide) ?_
      exact zr_z hx hb hr hlocks (by simp [isR, nB, *]) dX11_isRight_66
    · refine lv_iconst (v := nI 1) hx hb dX11_isRight_61 (by decide) ?_
      refine lv_goto (tgt := 66) hx hb dX11_isRight_62 (by decide) ?_
      exact zr_z hx hb hr hlocks (by simp [isR, nB, *]) dX11_isRight_66
  by_cases c_1_4 : k = 4
  · refine zi_tab hx hb dX11_isRight_1 (by omega) 56 (by rw [c_1_4]; decide) ?_
    refine lv_iload_n hx hb dX11_isRight_56 rfl (lv_at hl 2 rfl) ?_
    refine lv_iconst (v := nI 4) hx hb dX11_isRight_57 (by decide) ?_
    refine zi_icmp_ne (tgt := 65) hx hb dX11_isRight_58 (by decide) (by omega) (by omega) (fun c_58 => ?_) (fun c_58 => ?_)
    · refine lv_iconst (v := nI 0) hx hb dX11_isRight_65 (by decide) ?_
      exact zr_z hx hb hr hlocks (by simp [isR, nB, *]) dX11_isRight_66
    · refine lv_iconst (v := nI 1) hx hb dX11_isRight_61 (by decide) ?_
      refine lv_goto (tgt := 66) hx hb dX11_isRight_62 (by decide) ?_
      exact zr_z hx hb hr hlocks (by simp [isR, nB, *]) dX11_isRight_66
  by_cases c_1_9 : k = 9
  · refine zi_tab hx hb dX11_isRight_1 (by omega) 67 (by rw [c_1_9]; decide) ?_
    refine lv_iload_n hx hb dX11_isRight_67 rfl (lv_at hl 2 rfl) ?_
    refine lv_bipush (v := nI 8) hx hb dX11_isRight_68 (by decide) ?_
    refine zi_icmp_ne (tgt := 77) hx hb dX11_isRight_70 (by decide) (by omega) (by omega) (fun c_70 => ?_) (fun c_70 => ?_)
    · refine lv_iconst (v := nI 0) hx hb dX11_isRight_77 (by decide) ?_
      exact zr_z hx hb hr hlocks (by simp [isR, nB, *]) dX11_isRight_78
    · refine lv_iconst (v := nI 1) hx hb dX11_isRight_73 (by decide) ?_
      refine lv_goto (tgt := 78) hx hb dX11_isRight_74 (by decide) ?_
      exact zr_z hx hb hr hlocks (by simp [isR, nB, *]) dX11_isRight_78
  by_cases c_1_10 : k = 10
  · refine zi_tab hx hb dX11_isRight_1 (by omega) 79 (by rw [c_1_10]; decide) ?_
    refine lv_iload_n hx hb dX11_isRight_79 rfl (lv_at hl 2 rfl) ?_
    refine lv_bipush (v := nI 16) hx hb dX11_isRight_80 (by decide) ?_
    refine zi_icmp_eq (tgt := 91) hx hb dX11_isRight_82 (by decide) (by omega) (by omega) (fun c_82 => ?_) (fun c_82 => ?_)
    · refine lv_aload_n hx hb dX11_isRight_91 rfl (lv_at hl 0 rfl) ?_
      refine lv_iload_n hx hb dX11_isRight_92 rfl (lv_at hl 2 rfl) ?_
      refine lv_iload_n hx hb dX11_isRight_93 rfl (lv_at hl 3 rfl) ?_
      refine zc_V (As := [.int (nI (kd)), .int (nI (v))]) (rest := []) ⟨hx, hb, hml, hown, hts⟩ (m_number l G o qs fs f kd v hkd (fun q => by omega) (fun q => ha4 q) (fun q1 q2 => ha8 (by omega))) (cwV 2 hts (zgV wm_X11_243 wv_X11_number) rfl rfl rfl (by decide +kernel) ⟨Nat.le_of_ble_eq_true rfl, Nat.le_of_ble_eq_true rfl⟩) hK hO rfl hP rfl hl.1 rfl (Nat.le_of_ble_eq_true rfl) dX11_isRight_94 ⟨Nat.zero_le _, Nat.zero_le _⟩ ?_
      refine lv_lconst (v := 0) hx hb dX11_isRight_97 (by decide) ?_
      refine W.lcmp hx hb dX11_isRight_98 ?_
      refine lv_if_lt (tgt := 106) hx hb dX11_isRight_99 (by decide) (fun c_99 => ?_) (fun c_99 => ?_)
      · have c9 : decide (0 ≤ nuM f kd v) = false := decide_eq_false (fun q => Int64.not_le.mpr ((lg_cmp_lt _ _).mp c_99) q)
        refine lv_iconst (v := nI 0) hx hb dX11_isRight_106 (by decide) ?_
        exact zr_z hx hb hr hlocks (by first | (rw [show isR f k kd v = (decide (kd = 16 ∨ kd = 18) && decide (0 ≤ nuM f kd v)) by subst c_1_10; rfl, c9]; first | (simp [nB]; done) | (rw [decide_eq_true (by omega)]; rfl)) | (simp [isR, nB, *]; done)) dX11_isRight_107
      · have c9 : decide (0 ≤ nuM f kd v) = true := decide_eq_true (Int64.not_lt.mp (fun q => c_99 ((lg_cmp_lt _ _).mpr q)))
        refine lv_iconst (v := nI 1) hx hb dX11_isRight_102 (by decide) ?_
        refine lv_goto (tgt := 107) hx hb dX11_isRight_103 (by decide) ?_
        exact zr_z hx hb hr hlocks (by first | (rw [show isR f k kd v = (decide (kd = 16 ∨ kd = 18) && decide (0 ≤ nuM f kd v)) by subst c_1_10; rfl, c9]; first | (simp [nB]; done) | (rw [decide_eq_true (by omega)]; rfl)) | (simp [isR, nB, *]; done)) dX11_isRight_107
    · refine lv_iload_n hx hb dX11_isRight_85 rfl (lv_at hl 2 rfl) ?_
      refine lv_bipush (v := nI 18) hx hb dX11_isRight_86 (by decide) ?_
      refine zi_icmp_ne (tgt := 106) hx hb dX11_isRight_88 (by decide) (by omega) (by omega) (fun c_88 => ?_) (fun c_88 => ?_)
      · refine lv_iconst (v := nI 0) hx hb dX11_isRight_106 (by decide) ?_
        exact zr_z hx hb hr hlocks (by first | (rw [show isR f k kd v = (decide (kd = 16 ∨ kd = 18) && decide (0 ≤ nuM f kd v)) by subst c_1_10; rfl, c9]; first | (simp [nB]; done) | (rw [decide_eq_true (by omega)]; rfl)) | (simp [isR, nB, *]; done)) dX11_isRight_107
      · refine lv_aload_n hx hb dX11_isRight_91 rfl (lv_at hl 0 rfl) ?_
        refine lv_iload_n hx hb dX11_isRight_92 rfl (lv_at hl 2 rfl) ?_
        refine lv_iload_n hx hb dX11_isRight_93 rfl (lv_at hl 3 rfl) ?_
        refine zc_V (As := [.int (nI (kd)), .int (nI (v))]) (rest := []) ⟨hx, hb, hml, hown, hts⟩ (m_number l G o qs fs f kd v hkd (fun q => by omega) (fun q => ha4 q) (fun q1 q2 => ha8 (by omega))) (cwV 2 hts (zgV wm_X11_243 wv_X11_number) rfl rfl rfl (by decide +kernel) ⟨Nat.le_of_ble_eq_true rfl, Nat.le_of_ble_eq_true rfl⟩) hK hO rfl hP rfl hl.1 rfl (Nat.le_of_ble_eq_true rfl) dX11_isRight_94 ⟨Nat.zero_le _, Nat.zero_le _⟩ ?_
        refine lv_lconst (v := 0) hx hb dX11_isRight_97 (by decide) ?_
        refine W.lcmp hx hb dX11_isRight_98 ?_
        refine lv_if_lt (tgt := 106) hx hb dX11_isRight_99 (by decide) (fun c_99 => ?_) (fun c_99 => ?_)
        · have c9 : decide (0 ≤ nuM f kd v) = false := decide_eq_false (fun q => Int64.not_le.mpr ((lg_cmp_lt _ _).mp c_99) q)
          refine lv_iconst (v := nI 0) hx hb dX11_isRight_106 (by decide) ?_
          exact zr_z hx hb hr hlocks (by first | (rw [show isR f k kd v = (decide (kd = 16 ∨ kd = 18) && decide (0 ≤ nuM f kd v)) by subst c_1_10; rfl, c9]; first | (simp [nB]; done) | (rw [decide_eq_true (by omega)]; rfl)) | (simp [isR, nB, *]; done)) dX11_isRight_107
        · have c9 : decide (0 ≤ nuM f kd v) = true := decide_eq_true (Int64.not_lt.mp (fun q => c_99 ((lg_cmp_lt _ _).mpr q)))
          refine lv_iconst (v := nI 1) hx hb dX11_isRight_102 (by decide) ?_
          refine lv_goto (tgt := 107) hx hb dX11_isRight_103 (by decide) ?_
          exact zr_z hx hb hr hlocks (by first | (rw [show isR f k kd v = (decide (kd = 16 ∨ kd = 18) && decide (0 ≤ nuM f kd v)) by subst c_1_10; rfl, c9]; first | (simp [nB]; done) | (rw [decide_eq_true (by omega)]; rfl)) | (simp [isR, nB, *]; done)) dX11_isRight_107
  by_cases c_1_11 : k = 11
  · refine zi_tab hx hb dX11_isRight_1 (by omega) 108 (by rw [c_1_11]; decide) ?_
    refine lv_iload_n hx hb dX11_isRight_108 rfl (lv_at hl 2 rfl) ?_
    refine lv_iconst (v := nI 3) hx hb dX11_isRight_109 (by decide) ?_
    refine zi_icmp_ne (tgt := 117) hx hb dX11_isRight_110 (by decide) (by omega) (by omega) (fun c_110 => ?_) (fun c_110 => ?_)
    · refine lv_iconst (v := nI 0) hx hb dX11_isRight_117 (by decide) ?_
      exact zr_z hx hb hr hlocks (by simp [isR, nB, *]) dX11_isRight_118
    · refine lv_iconst (v := nI 1) hx hb dX11_isRight_113 (by decide) ?_
      refine lv_goto (tgt := 118) hx hb dX11_isRight_114 (by decide) ?_
      exact zr_z hx hb hr hlocks (by simp [isR, nB, *]) dX11_isRight_118
  by_cases c_1_12 : k = 12
  · refine zi_tab hx hb dX11_isRight_1 (by omega) 119 (by rw [c_1_12]; decide) ?_
    refine lv_aload_n hx hb dX11_isRight_119 rfl (lv_at hl 0 rfl) ?_
    refine lv_iload_n hx hb dX11_isRight_120 rfl (lv_at hl 2 rfl) ?_
    refine lv_iload_n hx hb dX11_isRight_121 rfl (lv_at hl 3 rfl) ?_
    refine zc_V (As := [.int (nI (kd)), .int (nI (v))]) (rest := []) ⟨hx, hb, hml, hown, hts⟩ (m_isConditions l G o qs fs f kd v hkd ha5) (cwV 2 hts (zgV wm_X11_227 wv_X11_isConditions) rfl rfl rfl (by decide +kernel) ⟨Nat.le_of_ble_eq_true rfl, Nat.le_of_ble_eq_true rfl⟩) hK hO rfl hP rfl hl.1 rfl (Nat.le_of_ble_eq_true rfl) dX11_isRight_122 ⟨Nat.zero_le _, Nat.zero_le _⟩ ?_
    exact zr_z hx hb hr hlocks (by simp [isR, nB, *]) dX11_isRight_125
  refine zi_tab hx hb dX11_isRight_1 (by omega) 126 ((zTab_d [3, 4, 9, 10, 11, 12] (by decide +kernel) (by simp only [List.mem_cons, List.not_mem_nil, or_false, not_or]; exact ⟨c_1_3, c_1_4, c_1_9, c_1_10, c_1_11, c_1_12⟩)).trans (by decide)) ?_
  refine lv_iconst (v := nI 1) hx hb dX11_isRight_126 (by decide) ?_
  exact zr_z hx hb hr hlocks (by simp [isR, nB, *]) dX11_isRight_127

set_option maxHeartbeats 4000000 in
set_option maxRecDepth 100000 in
theorem m_orderBytes (l : Launch) (G : zG) (o qs : Nat) (fs : List Value) (f : Nat → Nat) (a x b y : Nat) (ha : a + x ≤ 18000) (hb9 : b + y ≤ 18000) : Met l yX11_orderBytes wsX11_orderBytes ({ frames := 0, cells := 0, slots := 0, locals := 0 }) (zP G [.ref (o), .int (nI (a)), .int (nI (x)), .int (nI (b)), .int (nI (y))] (fun H => MV G o qs fs f H)) (zR (.int (oI (lx (sg f a x) (sg f b y))))) 0 0 (fun _ => False) := by
  refine Met.ofW (cc := cX11_orderBytes) (maxL := 6) (ret := (some .int)) (by decide) rfl ?_
  intro p en s m args below meth c s₁ B hml hv
  obtain ⟨rfl, hP, hK⟩ := hv
  have hx := B.exec
  have hb := B.bytes
  have hr := B.returns
  have hts := atoms_spec (ws := wsX11_orderBytes) B.pre
  have hz : ∀ w ∈ zW, w.before _ s = true := fun w h => hts w (List.mem_cons_of_mem _ h)
  have hown : s.vm.findClass RX11 = some m.cls := findClass_of_methodNamed B.named
  have hlocks := B.notSynchronized
  obtain ⟨hO, hA, hS1, h8⟩ := id hP
  have hl := lv_entry ([.ref (o), .int (nI (a)), .int (nI (x)), .int (nI (b)), .int (nI (y))]) (n := 6) (Nat.le_of_ble_eq_true rfl)
  rw [lg_entry_eq]
  generalize (lg_sl ([.ref (o), .int (nI (a)), .int (nI (x)), .int (nI (b)), .int (nI (y))]) ++ List.replicate (6 - (lg_sl ([.ref (o), .int (nI (a)), .int (nI (x)), .int (nI (b)), .int (nI (y))])).length) Slot.unset).toArray = ls at hl ⊢
  have hl : lv_has ls 6 [(0, .ref (o)), (1, .int (nI (a))), (2, .int (nI (x))), (3, .int (nI (b))), (4, .int (nI (y)))] := hl
  refine lv_iconst (v := nI 0) hx hb dX11_orderBytes_0 (by decide) ?_
  refine lv_istore (lv' := [(5, .int (nI (0))), (0, .ref (o)), (1, .int (nI (a))), (2, .int (nI (x))), (3, .int (nI (b))), (4, .int (nI (y)))]) hx hb dX11_orderBytes_1 hl (by decide) rfl (fun ls hl => ?_)
  have L3 : ∀ (n_ : Nat) (k : Nat), x - k < n_ → (k ≤ x) → (k ≤ y) → (lx (sg f a x) (sg f b y) = lx (sg f (a + k) (x - k)) (sg f (b + k) (y - k))) → ∀ ls : Array Slot, lv_has ls 6 [(0, .ref (o)), (1, .int (nI (a))), (2, .int (nI (x))), (3, .int (nI (b))), (4, .int (nI (y))), (5, .int (nI (k)))] → W p l en (headSpec wsX11_orderBytes ({ frames := 0, cells := 0, slots := 0, locals := 0 })).room s m ([.ref (o), .int (nI (a)), .int (nI (x)), .int (nI (b)), .int (nI (y))] : List Value).toArray below meth c s.heap [] 0 0 (MQ below (zR (.int (oI (lx (sg f a x) (sg f b y))))) ([.ref (o), .int (nI (a)), .int (nI (x)), .int (nI (b)), .int (nI (y))] : List Value).toArray s 0 0 (fun _ => False)) (F0 m 3 ls []) := by
    intro n_
    induction n_ with
    | zero => intro k hm_; exact absurd hm_ (Nat.not_lt_zero _)
    | succ n_ ih_ =>
      intro k hm_ h1 h2 hs ls hl
      refine lv_iload hx hb dX11_orderBytes_3 (lv_at hl 5 rfl) ?_
      refine lv_iload_n hx hb dX11_orderBytes_5 rfl (lv_at hl 2 rfl) ?_
      refine zi_icmp_ge (tgt := 43) hx hb dX11_orderBytes_6 (by decide) (by omega) (by omega) (fun c_6 => ?_) (fun c_6 => ?_)
      · refine lv_iload hx hb dX11_orderBytes_43 (lv_at hl 5 rfl) ?_
        refine lv_iload_n hx hb dX11_orderBytes_45 rfl (lv_at hl 2 rfl) ?_
        refine zi_icmp_ge (tgt := 83) hx hb dX11_orderBytes_46 (by decide) (by omega) (by omega) (fun c_46 => ?_) (fun c_46 => ?_)
        · refine lv_iload_n hx hb dX11_orderBytes_83 rfl (lv_at hl 2 rfl) ?_
          refine lv_iload hx hb dX11_orderBytes_84 (lv_at hl 4 rfl) ?_
          refine zi_icmp_ge (tgt := 93) hx hb dX11_orderBytes_86 (by decide) (by omega) (by omega) (fun c_86 => ?_) (fun c_86 => ?_)
          · refine lv_iload_n hx hb dX11_orderBytes_93 rfl (lv_at hl 2 rfl) ?_
            refine lv_iload hx hb dX11_orderBytes_94 (lv_at hl 4 rfl) ?_
            refine zi_icmp_le (tgt := 103) hx hb dX11_orderBytes_96 (by decide) (by omega) (by omega) (fun c_96 => ?_) (fun c_96 => ?_)
            · refine lv_iconst (v := nI 0) hx hb dX11_orderBytes_103 (by decide) ?_
              exact zr_i hx hb hr hlocks (by first | (exfalso; omega) | (rw [hs, lx_ne (by omega) (by omega) c_34]; first | (rw [if_pos c_74]; rfl) | (rw [if_neg (Nat.not_lt.mpr c_74)]; decide)) | (rw [hs, lx_end h1 h2 (by omega)]; first | (rw [if_pos (by omega)]; rfl) | (rw [if_neg (by omega), if_pos (by omega)]; decide) | (rw [if_neg (by omega), if_neg (by omega)]; decide))) dX11_orderBytes_104
            · refine lv_iconst (v := nI 1) hx hb dX11_orderBytes_99 (by decide) ?_
              refine lv_goto (tgt := 104) hx hb dX11_orderBytes_100 (by decide) ?_
              exact zr_i hx hb hr hlocks (by first | (exfalso; omega) | (rw [hs, lx_ne (by omega) (by omega) c_34]; first | (rw [if_pos c_74]; rfl) | (rw [if_neg (Nat.not_lt.mpr c_74)]; decide)) | (rw [hs, lx_end h1 h2 (by omega)]; first | (rw [if_pos (by omega)]; rfl) | (rw [if_neg (by omega), if_pos (by omega)]; decide) | (rw [if_neg (by omega), if_neg (by omega)]; decide))) dX11_orderBytes_104
          · refine lv_iconst (v := (-1)) hx hb dX11_orderBytes_89 (by decide) ?_
            refine lv_goto (tgt := 104) hx hb dX11_orderBytes_90 (by decide) ?_
            exact zr_i hx hb hr hlocks (by first | (exfalso; omega) | (rw [hs, lx_ne (by omega) (by omega) c_34]; first | (rw [if_pos c_74]; rfl) | (rw [if_neg (Nat.not_lt.mpr c_74)]; decide)) | (rw [hs, lx_end h1 h2 (by omega)]; first | (rw [if_pos (by omega)]; rfl) | (rw [if_neg (by omega), if_pos (by omega)]; decide) | (rw [if_neg (by omega), if_neg (by omega)]; decide))) dX11_orderBytes_104
        · refine lv_iload hx hb dX11_orderBytes_49 (lv_at hl 5 rfl) ?_
          refine lv_iload hx hb dX11_orderBytes_51 (lv_at hl 4 rfl) ?_
          refine zi_icmp_ge (tgt := 83) hx hb dX11_orderBytes_53 (by decide) (by omega) (by omega) (fun c_53 => ?_) (fun c_53 => ?_)
          · refine lv_iload_n hx hb dX11_orderBytes_83 rfl (lv_at hl 2 rfl) ?_
            refine lv_iload hx hb dX11_orderBytes_84 (lv_at hl 4 rfl) ?_
            refine zi_icmp_ge (tgt := 93) hx hb dX11_orderBytes_86 (by decide) (by omega) (by omega) (fun c_86 => ?_) (fun c_86 => ?_)
            · refine lv_iload_n hx hb dX11_orderBytes_93 rfl (lv_at hl 2 rfl) ?_
              refine lv_iload hx hb dX11_orderBytes_94 (lv_at hl 4 rfl) ?_
              refine zi_icmp_le (tgt := 103) hx hb dX11_orderBytes_96 (by decide) (by omega) (by omega) (fun c_96 => ?_) (fun c_96 => ?_)
              · refine lv_iconst (v := nI 0) hx hb dX11_orderBytes_103 (by decide) ?_
                exact zr_i hx hb hr hlocks (by first | (exfalso; omega) | (rw [hs, lx_ne (by omega) (by omega) c_34]; first | (rw [if_pos c_74]; rfl) | (rw [if_neg (Nat.not_lt.mpr c_74)]; decide)) | (rw [hs, lx_end h1 h2 (by omega)]; first | (rw [if_pos (by omega)]; rfl) | (rw [if_neg (by omega), if_pos (by omega)]; decide) | (rw [if_neg (by omega), if_neg (by omega)]; decide))) dX11_orderBytes_104
              · refine lv_iconst (v := nI 1) hx hb dX11_orderBytes_99 (by decide) ?_
                refine lv_goto (tgt := 104) hx hb dX11_orderBytes_100 (by decide) ?_
                exact zr_i hx hb hr hlocks (by first | (exfalso; omega) | (rw [hs, lx_ne (by omega) (by omega) c_34]; first | (rw [if_pos c_74]; rfl) | (rw [if_neg (Nat.not_lt.mpr c_74)]; decide)) | (rw [hs, lx_end h1 h2 (by omega)]; first | (rw [if_pos (by omega)]; rfl) | (rw [if_neg (by omega), if_pos (by omega)]; decide) | (rw [if_neg (by omega), if_neg (by omega)]; decide))) dX11_orderBytes_104
            · refine lv_iconst (v := (-1)) hx hb dX11_orderBytes_89 (by decide) ?_
              refine lv_goto (tgt := 104) hx hb dX11_orderBytes_90 (by decide) ?_
              exact zr_i hx hb hr hlocks (by first | (exfalso; omega) | (rw [hs, lx_ne (by omega) (by omega) c_34]; first | (rw [if_pos c_74]; rfl) | (rw [if_neg (Nat.not_lt.mpr c_74)]; decide)) | (rw [hs, lx_end h1 h2 (by omega)]; first | (rw [if_pos (by omega)]; rfl) | (rw [if_neg (by omega), if_pos (by omega)]; decide) | (rw [if_neg (by omega), if_neg (by omega)]; decide))) dX11_orderBytes_104
          · refine lv_aload_n hx hb dX11_orderBytes_56 rfl (lv_at hl 0 rfl) ?_
            refine zi_get (C := RX11) (T := TX11) (N := 23) (v := .ref (qs)) hx hb hz wo_X11 hown hK hO rfl 1 (by decide) (hz _ wf_X11_7) (fun _ h9 => h9) hS1 dX11_orderBytes_57 ?_
            refine lv_iload_n hx hb dX11_orderBytes_60 rfl (lv_at hl 1 rfl) ?_
            refine lv_iload hx hb dX11_orderBytes_61 (lv_at hl 5 rfl) ?_
            refine zi_add hx hb dX11_orderBytes_63 ?_
            refine zi_ald hx hb hK hA (by omega) (by decide) dX11_orderBytes_64 ?_
            refine lv_aload_n hx hb dX11_orderBytes_65 rfl (lv_at hl 0 rfl) ?_
            refine zi_get (C := RX11) (T := TX11) (N := 23) (v := .ref (qs)) hx hb hz wo_X11 hown hK hO rfl 1 (by decide) (hz _ wf_X11_7) (fun _ h9 => h9) hS1 dX11_orderBytes_66 ?_
            refine lv_iload_n hx hb dX11_orderBytes_69 rfl (lv_at hl 3 rfl) ?_
            refine lv_iload hx hb dX11_orderBytes_70 (lv_at hl 5 rfl) ?_
            refine zi_add hx hb dX11_orderBytes_72 ?_
            refine zi_ald hx hb hK hA (by omega) (by decide) dX11_orderBytes_73 ?_
            refine zi_icmp_ge (tgt := 81) hx hb dX11_orderBytes_74 (by decide) (Nat.lt_trans (h8 _) (by decide)) (Nat.lt_trans (h8 _) (by decide)) (fun c_74 => ?_) (fun c_74 => ?_)
            · refine lv_iconst (v := nI 1) hx hb dX11_orderBytes_81 (by decide) ?_
              exact zr_i hx hb hr hlocks (by first | (exfalso; omega) | (rw [hs, lx_ne (by omega) (by omega) c_34]; first | (rw [if_pos c_74]; rfl) | (rw [if_neg (Nat.not_lt.mpr c_74)]; decide)) | (rw [hs, lx_end h1 h2 (by omega)]; first | (rw [if_pos (by omega)]; rfl) | (rw [if_neg (by omega), if_pos (by omega)]; decide) | (rw [if_neg (by omega), if_neg (by omega)]; decide))) dX11_orderBytes_82
            · refine lv_iconst (v := (-1)) hx hb dX11_orderBytes_77 (by decide) ?_
              refine lv_goto (tgt := 82) hx hb dX11_orderBytes_78 (by decide) ?_
              exact zr_i hx hb hr hlocks (by first | (exfalso; omega) | (rw [hs, lx_ne (by omega) (by omega) c_34]; first | (rw [if_pos c_74]; rfl) | (rw [if_neg (Nat.not_lt.mpr c_74)]; decide)) | (rw [hs, lx_end h1 h2 (by omega)]; first | (rw [if_pos (by omega)]; rfl) | (rw [if_neg (by omega), if_pos (by omega)]; decide) | (rw [if_neg (by omega), if_neg (by omega)]; decide))) dX11_orderBytes_82
      · refine lv_iload hx hb dX11_orderBytes_9 (lv_at hl 5 rfl) ?_
        refine lv_iload hx hb dX11_orderBytes_11 (lv_at hl 4 rfl) ?_
        refine zi_icmp_ge (tgt := 43) hx hb dX11_orderBytes_13 (by decide) (by omega) (by omega) (fun c_13 => ?_) (fun c_13 => ?_)
        · refine lv_iload hx hb dX11_orderBytes_43 (lv_at hl 5 rfl) ?_
          refine lv_iload_n hx hb dX11_orderBytes_45 rfl (lv_at hl 2 rfl) ?_
          refine zi_icmp_ge (tgt := 83) hx hb dX11_orderBytes_46 (by decide) (by omega) (by omega) (fun c_46 => ?_) (fun c_46 => ?_)
          · refine lv_iload_n hx hb dX11_orderBytes_83 rfl (lv_at hl 2 rfl) ?_
            refine lv_iload hx hb dX11_orderBytes_84 (lv_at hl 4 rfl) ?_
            refine zi_icmp_ge (tgt := 93) hx hb dX11_orderBytes_86 (by decide) (by omega) (by omega) (fun c_86 => ?_) (fun c_86 => ?_)
            · refine lv_iload_n hx hb dX11_orderBytes_93 rfl (lv_at hl 2 rfl) ?_
              refine lv_iload hx hb dX11_orderBytes_94 (lv_at hl 4 rfl) ?_
              refine zi_icmp_le (tgt := 103) hx hb dX11_orderBytes_96 (by decide) (by omega) (by omega) (fun c_96 => ?_) (fun c_96 => ?_)
              · refine lv_iconst (v := nI 0) hx hb dX11_orderBytes_103 (by decide) ?_
                exact zr_i hx hb hr hlocks (by first | (exfalso; omega) | (rw [hs, lx_ne (by omega) (by omega) c_34]; first | (rw [if_pos c_74]; rfl) | (rw [if_neg (Nat.not_lt.mpr c_74)]; decide)) | (rw [hs, lx_end h1 h2 (by omega)]; first | (rw [if_pos (by omega)]; rfl) | (rw [if_neg (by omega), if_pos (by omega)]; decide) | (rw [if_neg (by omega), if_neg (by omega)]; decide))) dX11_orderBytes_104
              · refine lv_iconst (v := nI 1) hx hb dX11_orderBytes_99 (by decide) ?_
                refine lv_goto (tgt := 104) hx hb dX11_orderBytes_100 (by decide) ?_
                exact zr_i hx hb hr hlocks (by first | (exfalso; omega) | (rw [hs, lx_ne (by omega) (by omega) c_34]; first | (rw [if_pos c_74]; rfl) | (rw [if_neg (Nat.not_lt.mpr c_74)]; decide)) | (rw [hs, lx_end h1 h2 (by omega)]; first | (rw [if_pos (by omega)]; rfl) | (rw [if_neg (by omega), if_pos (by omega)]; decide) | (rw [if_neg (by omega), if_neg (by omega)]; decide))) dX11_orderBytes_104
            · refine lv_iconst (v := (-1)) hx hb dX11_orderBytes_89 (by decide) ?_
              refine lv_goto (tgt := 104) hx hb dX11_orderBytes_90 (by decide) ?_
              exact zr_i hx hb hr hlocks (by first | (exfalso; omega) | (rw [hs, lx_ne (by omega) (by omega) c_34]; first | (rw [if_pos c_74]; rfl) | (rw [if_neg (Nat.not_lt.mpr c_74)]; decide)) | (rw [hs, lx_end h1 h2 (by omega)]; first | (rw [if_pos (by omega)]; rfl) | (rw [if_neg (by omega), if_pos (by omega)]; decide) | (rw [if_neg (by omega), if_neg (by omega)]; decide))) dX11_orderBytes_104
          · refine lv_iload hx hb dX11_orderBytes_49 (lv_at hl 5 rfl) ?_
            refine lv_iload hx hb dX11_orderBytes_51 (lv_at hl 4 rfl) ?_
            refine zi_icmp_ge (tgt := 83) hx hb dX11_orderBytes_53 (by decide) (by omega) (by omega) (fun c_53 => ?_) (fun c_53 => ?_)
            · refine lv_iload_n hx hb dX11_orderBytes_83 rfl (lv_at hl 2 rfl) ?_
              refine lv_iload hx hb dX11_orderBytes_84 (lv_at hl 4 rfl) ?_
              refine zi_icmp_ge (tgt := 93) hx hb dX11_orderBytes_86 (by decide) (by omega) (by omega) (fun c_86 => ?_) (fun c_86 => ?_)
              · refine lv_iload_n hx hb dX11_orderBytes_93 rfl (lv_at hl 2 rfl) ?_
                refine lv_iload hx hb dX11_orderBytes_94 (lv_at hl 4 rfl) ?_
                refine zi_icmp_le (tgt := 103) hx hb dX11_orderBytes_96 (by decide) (by omega) (by omega) (fun c_96 => ?_) (fun c_96 => ?_)
                · refine lv_iconst (v := nI 0) hx hb dX11_orderBytes_103 (by decide) ?_
                  exact zr_i hx hb hr hlocks (by first | (exfalso; omega) | (rw [hs, lx_ne (by omega) (by omega) c_34]; first | (rw [if_pos c_74]; rfl) | (rw [if_neg (Nat.not_lt.mpr c_74)]; decide)) | (rw [hs, lx_end h1 h2 (by omega)]; first | (rw [if_pos (by omega)]; rfl) | (rw [if_neg (by omega), if_pos (by omega)]; decide) | (rw [if_neg (by omega), if_neg (by omega)]; decide))) dX11_orderBytes_104
                · refine lv_iconst (v := nI 1) hx hb dX11_orderBytes_99 (by decide) ?_
                  refine lv_goto (tgt := 104) hx hb dX11_orderBytes_100 (by decide) ?_
                  exact zr_i hx hb hr hlocks (by first | (exfalso; omega) | (rw [hs, lx_ne (by omega) (by omega) c_34]; first | (rw [if_pos c_74]; rfl) | (rw [if_neg (Nat.not_lt.mpr c_74)]; decide)) | (rw [hs, lx_end h1 h2 (by omega)]; first | (rw [if_pos (by omega)]; rfl) | (rw [if_neg (by omega), if_pos (by omega)]; decide) | (rw [if_neg (by omega), if_neg (by omega)]; decide))) dX11_orderBytes_104
              · refine lv_iconst (v := (-1)) hx hb dX11_orderBytes_89 (by decide) ?_
                refine lv_goto (tgt := 104) hx hb dX11_orderBytes_90 (by decide) ?_
                exact zr_i hx hb hr hlocks (by first | (exfalso; omega) | (rw [hs, lx_ne (by omega) (by omega) c_34]; first | (rw [if_pos c_74]; rfl) | (rw [if_neg (Nat.not_lt.mpr c_74)]; decide)) | (rw [hs, lx_end h1 h2 (by omega)]; first | (rw [if_pos (by omega)]; rfl) | (rw [if_neg (by omega), if_pos (by omega)]; decide) | (rw [if_neg (by omega), if_neg (by omega)]; decide))) dX11_orderBytes_104
            · refine lv_aload_n hx hb dX11_orderBytes_56 rfl (lv_at hl 0 rfl) ?_
              refine zi_get (C := RX11) (T := TX11) (N := 23) (v := .ref (qs)) hx hb hz wo_X11 hown hK hO rfl 1 (by decide) (hz _ wf_X11_7) (fun _ h9 => h9) hS1 dX11_orderBytes_57 ?_
              refine lv_iload_n hx hb dX11_orderBytes_60 rfl (lv_at hl 1 rfl) ?_
              refine lv_iload hx hb dX11_orderBytes_61 (lv_at hl 5 rfl) ?_
              refine zi_add hx hb dX11_orderBytes_63 ?_
              refine zi_ald hx hb hK hA (by omega) (by decide) dX11_orderBytes_64 ?_
              refine lv_aload_n hx hb dX11_orderBytes_65 rfl (lv_at hl 0 rfl) ?_
              refine zi_get (C := RX11) (T := TX11) (N := 23) (v := .ref (qs)) hx hb hz wo_X11 hown hK hO rfl 1 (by decide) (hz _ wf_X11_7) (fun _ h9 => h9) hS1 dX11_orderBytes_66 ?_
              refine lv_iload_n hx hb dX11_orderBytes_69 rfl (lv_at hl 3 rfl) ?_
              refine lv_iload hx hb dX11_orderBytes_70 (lv_at hl 5 rfl) ?_
              refine zi_add hx hb dX11_orderBytes_72 ?_
              refine zi_ald hx hb hK hA (by omega) (by decide) dX11_orderBytes_73 ?_
              refine zi_icmp_ge (tgt := 81) hx hb dX11_orderBytes_74 (by decide) (Nat.lt_trans (h8 _) (by decide)) (Nat.lt_trans (h8 _) (by decide)) (fun c_74 => ?_) (fun c_74 => ?_)
              · refine lv_iconst (v := nI 1) hx hb dX11_orderBytes_81 (by decide) ?_
                exact zr_i hx hb hr hlocks (by first | (exfalso; omega) | (rw [hs, lx_ne (by omega) (by omega) c_34]; first | (rw [if_pos c_74]; rfl) | (rw [if_neg (Nat.not_lt.mpr c_74)]; decide)) | (rw [hs, lx_end h1 h2 (by omega)]; first | (rw [if_pos (by omega)]; rfl) | (rw [if_neg (by omega), if_pos (by omega)]; decide) | (rw [if_neg (by omega), if_neg (by omega)]; decide))) dX11_orderBytes_82
              · refine lv_iconst (v := (-1)) hx hb dX11_orderBytes_77 (by decide) ?_
                refine lv_goto (tgt := 82) hx hb dX11_orderBytes_78 (by decide) ?_
                exact zr_i hx hb hr hlocks (by first | (exfalso; omega) | (rw [hs, lx_ne (by omega) (by omega) c_34]; first | (rw [if_pos c_74]; rfl) | (rw [if_neg (Nat.not_lt.mpr c_74)]; decide)) | (rw [hs, lx_end h1 h2 (by omega)]; first | (rw [if_pos (by omega)]; rfl) | (rw [if_neg (by omega), if_pos (by omega)]; decide) | (rw [if_neg (by omega), if_neg (by omega)]; decide))) dX11_orderBytes_82
        · refine lv_aload_n hx hb dX11_orderBytes_16 rfl (lv_at hl 0 rfl) ?_
          refine zi_get (C := RX11) (T := TX11) (N := 23) (v := .ref (qs)) hx hb hz wo_X11 hown hK hO rfl 1 (by decide) (hz _ wf_X11_7) (fun _ h9 => h9) hS1 dX11_orderBytes_17 ?_
          refine lv_iload_n hx hb dX11_orderBytes_20 rfl (lv_at hl 1 rfl) ?_
          refine lv_iload hx hb dX11_orderBytes_21 (lv_at hl 5 rfl) ?_
          refine zi_add hx hb dX11_orderBytes_23 ?_
          refine zi_ald hx hb hK hA (by omega) (by decide) dX11_orderBytes_24 ?_
          refine lv_aload_n hx hb dX11_orderBytes_25 rfl (lv_at hl 0 rfl) ?_
          refine zi_get (C := RX11) (T := TX11) (N := 23) (v := .ref (qs)) hx hb hz wo_X11 hown hK hO rfl 1 (by decide) (hz _ wf_X11_7) (fun _ h9 => h9) hS1 dX11_orderBytes_26 ?_
          refine lv_iload_n hx hb dX11_orderBytes_29 rfl (lv_at hl 3 rfl) ?_
          refine lv_iload hx hb dX11_orderBytes_30 (lv_at hl 5 rfl) ?_
          refine zi_add hx hb dX11_orderBytes_32 ?_
          refine zi_ald hx hb hK hA (by omega) (by decide) dX11_orderBytes_33 ?_
          refine zi_icmp_ne (tgt := 43) hx hb dX11_orderBytes_34 (by decide) (Nat.lt_trans (h8 _) (by decide)) (Nat.lt_trans (h8 _) (by decide)) (fun c_34 => ?_) (fun c_34 => ?_)
          · refine lv_iload hx hb dX11_orderBytes_43 (lv_at hl 5 rfl) ?_
            refine lv_iload_n hx hb dX11_orderBytes_45 rfl (lv_at hl 2 rfl) ?_
            refine zi_icmp_ge (tgt := 83) hx hb dX11_orderBytes_46 (by decide) (by omega) (by omega) (fun c_46 => ?_) (fun c_46 => ?_)
            · refine lv_iload_n hx hb dX11_orderBytes_83 rfl (lv_at hl 2 rfl) ?_
              refine lv_iload hx hb dX11_orderBytes_84 (lv_at hl 4 rfl) ?_
              refine zi_icmp_ge (tgt := 93) hx hb dX11_orderBytes_86 (by decide) (by omega) (by omega) (fun c_86 => ?_) (fun c_86 => ?_)
              · refine lv_iload_n hx hb dX11_orderBytes_93 rfl (lv_at hl 2 rfl) ?_
                refine lv_iload hx hb dX11_orderBytes_94 (lv_at hl 4 rfl) ?_
                refine zi_icmp_le (tgt := 103) hx hb dX11_orderBytes_96 (by decide) (by omega) (by omega) (fun c_96 => ?_) (fun c_96 => ?_)
                · refine lv_iconst (v := nI 0) hx hb dX11_orderBytes_103 (by decide) ?_
                  exact zr_i hx hb hr hlocks (by first | (exfalso; omega) | (rw [hs, lx_ne (by omega) (by omega) c_34]; first | (rw [if_pos c_74]; rfl) | (rw [if_neg (Nat.not_lt.mpr c_74)]; decide)) | (rw [hs, lx_end h1 h2 (by omega)]; first | (rw [if_pos (by omega)]; rfl) | (rw [if_neg (by omega), if_pos (by omega)]; decide) | (rw [if_neg (by omega), if_neg (by omega)]; decide))) dX11_orderBytes_104
                · refine lv_iconst (v := nI 1) hx hb dX11_orderBytes_99 (by decide) ?_
                  refine lv_goto (tgt := 104) hx hb dX11_orderBytes_100 (by decide) ?_
                  exact zr_i hx hb hr hlocks (by first | (exfalso; omega) | (rw [hs, lx_ne (by omega) (by omega) c_34]; first | (rw [if_pos c_74]; rfl) | (rw [if_neg (Nat.not_lt.mpr c_74)]; decide)) | (rw [hs, lx_end h1 h2 (by omega)]; first | (rw [if_pos (by omega)]; rfl) | (rw [if_neg (by omega), if_pos (by omega)]; decide) | (rw [if_neg (by omega), if_neg (by omega)]; decide))) dX11_orderBytes_104
              · refine lv_iconst (v := (-1)) hx hb dX11_orderBytes_89 (by decide) ?_
                refine lv_goto (tgt := 104) hx hb dX11_orderBytes_90 (by decide) ?_
                exact zr_i hx hb hr hlocks (by first | (exfalso; omega) | (rw [hs, lx_ne (by omega) (by omega) c_34]; first | (rw [if_pos c_74]; rfl) | (rw [if_neg (Nat.not_lt.mpr c_74)]; decide)) | (rw [hs, lx_end h1 h2 (by omega)]; first | (rw [if_pos (by omega)]; rfl) | (rw [if_neg (by omega), if_pos (by omega)]; decide) | (rw [if_neg (by omega), if_neg (by omega)]; decide))) dX11_orderBytes_104
            · refine lv_iload hx hb dX11_orderBytes_49 (lv_at hl 5 rfl) ?_
              refine lv_iload hx hb dX11_orderBytes_51 (lv_at hl 4 rfl) ?_
              refine zi_icmp_ge (tgt := 83) hx hb dX11_orderBytes_53 (by decide) (by omega) (by omega) (fun c_53 => ?_) (fun c_53 => ?_)
              · refine lv_iload_n hx hb dX11_orderBytes_83 rfl (lv_at hl 2 rfl) ?_
                refine lv_iload hx hb dX11_orderBytes_84 (lv_at hl 4 rfl) ?_
                refine zi_icmp_ge (tgt := 93) hx hb dX11_orderBytes_86 (by decide) (by omega) (by omega) (fun c_86 => ?_) (fun c_86 => ?_)
                · refine lv_iload_n hx hb dX11_orderBytes_93 rfl (lv_at hl 2 rfl) ?_
                  refine lv_iload hx hb dX11_orderBytes_94 (lv_at hl 4 rfl) ?_
                  refine zi_icmp_le (tgt := 103) hx hb dX11_orderBytes_96 (by decide) (by omega) (by omega) (fun c_96 => ?_) (fun c_96 => ?_)
                  · refine lv_iconst (v := nI 0) hx hb dX11_orderBytes_103 (by decide) ?_
                    exact zr_i hx hb hr hlocks (by first | (exfalso; omega) | (rw [hs, lx_ne (by omega) (by omega) c_34]; first | (rw [if_pos c_74]; rfl) | (rw [if_neg (Nat.not_lt.mpr c_74)]; decide)) | (rw [hs, lx_end h1 h2 (by omega)]; first | (rw [if_pos (by omega)]; rfl) | (rw [if_neg (by omega), if_pos (by omega)]; decide) | (rw [if_neg (by omega), if_neg (by omega)]; decide))) dX11_orderBytes_104
                  · refine lv_iconst (v := nI 1) hx hb dX11_orderBytes_99 (by decide) ?_
                    refine lv_goto (tgt := 104) hx hb dX11_orderBytes_100 (by decide) ?_
                    exact zr_i hx hb hr hlocks (by first | (exfalso; omega) | (rw [hs, lx_ne (by omega) (by omega) c_34]; first | (rw [if_pos c_74]; rfl) | (rw [if_neg (Nat.not_lt.mpr c_74)]; decide)) | (rw [hs, lx_end h1 h2 (by omega)]; first | (rw [if_pos (by omega)]; rfl) | (rw [if_neg (by omega), if_pos (by omega)]; decide) | (rw [if_neg (by omega), if_neg (by omega)]; decide))) dX11_orderBytes_104
                · refine lv_iconst (v := (-1)) hx hb dX11_orderBytes_89 (by decide) ?_
                  refine lv_goto (tgt := 104) hx hb dX11_orderBytes_90 (by decide) ?_
                  exact zr_i hx hb hr hlocks (by first | (exfalso; omega) | (rw [hs, lx_ne (by omega) (by omega) c_34]; first | (rw [if_pos c_74]; rfl) | (rw [if_neg (Nat.not_lt.mpr c_74)]; decide)) | (rw [hs, lx_end h1 h2 (by omega)]; first | (rw [if_pos (by omega)]; rfl) | (rw [if_neg (by omega), if_pos (by omega)]; decide) | (rw [if_neg (by omega), if_neg (by omega)]; decide))) dX11_orderBytes_104
              · refine lv_aload_n hx hb dX11_orderBytes_56 rfl (lv_at hl 0 rfl) ?_
                refine zi_get (C := RX11) (T := TX11) (N := 23) (v := .ref (qs)) hx hb hz wo_X11 hown hK hO rfl 1 (by decide) (hz _ wf_X11_7) (fun _ h9 => h9) hS1 dX11_orderBytes_57 ?_
                refine lv_iload_n hx hb dX11_orderBytes_60 rfl (lv_at hl 1 rfl) ?_
                refine lv_iload hx hb dX11_orderBytes_61 (lv_at hl 5 rfl) ?_
                refine zi_add hx hb dX11_orderBytes_63 ?_
                refine zi_ald hx hb hK hA (by omega) (by decide) dX11_orderBytes_64 ?_
                refine lv_aload_n hx hb dX11_orderBytes_65 rfl (lv_at hl 0 rfl) ?_
                refine zi_get (C := RX11) (T := TX11) (N := 23) (v := .ref (qs)) hx hb hz wo_X11 hown hK hO rfl 1 (by decide) (hz _ wf_X11_7) (fun _ h9 => h9) hS1 dX11_orderBytes_66 ?_
                refine lv_iload_n hx hb dX11_orderBytes_69 rfl (lv_at hl 3 rfl) ?_
                refine lv_iload hx hb dX11_orderBytes_70 (lv_at hl 5 rfl) ?_
                refine zi_add hx hb dX11_orderBytes_72 ?_
                refine zi_ald hx hb hK hA (by omega) (by decide) dX11_orderBytes_73 ?_
                refine zi_icmp_ge (tgt := 81) hx hb dX11_orderBytes_74 (by decide) (Nat.lt_trans (h8 _) (by decide)) (Nat.lt_trans (h8 _) (by decide)) (fun c_74 => ?_) (fun c_74 => ?_)
                · refine lv_iconst (v := nI 1) hx hb dX11_orderBytes_81 (by decide) ?_
                  exact zr_i hx hb hr hlocks (by first | (exfalso; omega) | (rw [hs, lx_ne (by omega) (by omega) c_34]; first | (rw [if_pos c_74]; rfl) | (rw [if_neg (Nat.not_lt.mpr c_74)]; decide)) | (rw [hs, lx_end h1 h2 (by omega)]; first | (rw [if_pos (by omega)]; rfl) | (rw [if_neg (by omega), if_pos (by omega)]; decide) | (rw [if_neg (by omega), if_neg (by omega)]; decide))) dX11_orderBytes_82
                · refine lv_iconst (v := (-1)) hx hb dX11_orderBytes_77 (by decide) ?_
                  refine lv_goto (tgt := 82) hx hb dX11_orderBytes_78 (by decide) ?_
                  exact zr_i hx hb hr hlocks (by first | (exfalso; omega) | (rw [hs, lx_ne (by omega) (by omega) c_34]; first | (rw [if_pos c_74]; rfl) | (rw [if_neg (Nat.not_lt.mpr c_74)]; decide)) | (rw [hs, lx_end h1 h2 (by omega)]; first | (rw [if_pos (by omega)]; rfl) | (rw [if_neg (by omega), if_pos (by omega)]; decide) | (rw [if_neg (by omega), if_neg (by omega)]; decide))) dX11_orderBytes_82
          · refine lv_iinc (v := nI (k + 1)) (lv' := [(5, .int (nI (k + 1))), (0, .ref (o)), (1, .int (nI (a))), (2, .int (nI (x))), (3, .int (nI (b))), (4, .int (nI (y)))]) hx hb dX11_orderBytes_37 hl (k := 5) rfl (nI_add _ _) (by decide) rfl (fun ls hl => ?_)
            refine lv_goto (tgt := 3) hx hb dX11_orderBytes_40 (by decide) ?_
            exact ih_ (k + 1) (by omega) (by omega) (by omega) (by rw [hs, lx_step c_6 c_13 c_34]; rfl) ls (lv_sub hl [1, 2, 3, 4, 5, 0] rfl)
  exact L3 ((x - 0) + 1) 0 (Nat.lt_succ_self _) (Nat.zero_le _) (Nat.zero_le _) rfl ls (lv_sub hl [1, 2, 3, 4, 5, 0] rfl)

set_option maxHeartbeats 4000000 in
set_option maxRecDepth 100000 in
theorem m_nextStep (l : Launch) (G : zG) (o qs : Nat) (fs : List Value) (f : Nat → Nat) (q : Nat) (hok : okS 18000 f q) : Met l yX11_nextStep wsX11_nextStep ({ frames := 0, cells := 0, slots := 0, locals := 0 }) (zP G [.ref (o), .int (nI (q))] (fun H => MV G o qs fs f H)) (zR (.int (nI (nS f q)))) 0 0 (fun _ => False) := by
  refine Met.ofW (cc := cX11_nextStep) (maxL := 3) (ret := (some .int)) (by decide) rfl ?_
  intro p en s m args below meth c s₁ B hml hv
  obtain ⟨rfl, hP, hK⟩ := hv
  have hx := B.exec
  have hb := B.bytes
  have hr := B.returns
  have hts := atoms_spec (ws := wsX11_nextStep) B.pre
  have hz : ∀ w ∈ zW, w.before _ s = true := fun w h => hts w (List.mem_cons_of_mem _ h)
  have hown : s.vm.findClass RX11 = some m.cls := findClass_of_methodNamed B.named
  have hlocks := B.notSynchronized
  obtain ⟨hO, hA, hS1, h8⟩ := id hP
  have hl := lv_entry ([.ref (o), .int (nI (q))]) (n := 3) (Nat.le_of_ble_eq_true rfl)
  rw [lg_entry_eq]
  generalize (lg_sl ([.ref (o), .int (nI (q))]) ++ List.replicate (3 - (lg_sl ([.ref (o), .int (nI (q))])).length) Slot.unset).toArray = ls at hl ⊢
  have hl : lv_has ls 3 [(0, .ref (o)), (1, .int (nI (q)))] := hl
  refine lv_iload_n hx hb dX11_nextStep_0 rfl (lv_at hl 1 rfl) ?_
  refine lv_istore_n (lv' := [(2, .int (nI (q))), (0, .ref (o)), (1, .int (nI (q)))]) hx hb dX11_nextStep_1 rfl hl (by decide) rfl (fun ls hl => ?_)
  have L2 : ∀ (n_ : Nat) (k : Nat), se f q - k < n_ → (q ≤ k) → (k ≤ se f q) → ∀ ls : Array Slot, lv_has ls 3 [(0, .ref (o)), (2, .int (nI (k)))] → W p l en (headSpec wsX11_nextStep ({ frames := 0, cells := 0, slots := 0, locals := 0 })).room s m ([.ref (o), .int (nI (q))] : List Value).toArray below meth c s.heap [] 0 0 (MQ below (zR (.int (nI (nS f q)))) ([.ref (o), .int (nI (q))] : List Value).toArray s 0 0 (fun _ => False)) (F0 m 2 ls []) := by
    intro n_
    induction n_ with
    | zero => intro k hm_; exact absurd hm_ (Nat.not_lt_zero _)
    | succ n_ ih_ =>
      intro k hm_ h1 h2 ls hl
      refine lv_aload_n hx hb dX11_nextStep_2 rfl (lv_at hl 0 rfl) ?_
      refine zi_get (C := RX11) (T := TX11) (N := 23) (v := .ref (qs)) hx hb hz wo_X11 hown hK hO rfl 1 (by decide) (hz _ wf_X11_7) (fun _ h9 => h9) hS1 dX11_nextStep_3 ?_
      refine lv_iload_n hx hb dX11_nextStep_6 rfl (lv_at hl 1 rfl) ?_
      refine zi_ald hx hb hK hA (Nat.lt_of_le_of_lt h2 hok.2) (by decide) dX11_nextStep_7 ?_
      refine zi_if_eq (tgt := 28) hx hb dX11_nextStep_8 (by decide) (Nat.lt_trans (h8 _) (by decide)) (fun c_8 => ?_) (fun c_8 => ?_)
      · have h3 : k = se f q := Nat.le_antisymm h2 (Nat.le_of_not_lt (fun z => (se_nz h1 z).1 c_8))
        refine lv_aload_n hx hb dX11_nextStep_28 rfl (lv_at hl 0 rfl) ?_
        refine zi_get (C := RX11) (T := TX11) (N := 23) (v := .ref (qs)) hx hb hz wo_X11 hown hK hO rfl 1 (by decide) (hz _ wf_X11_7) (fun _ h9 => h9) hS1 dX11_nextStep_29 ?_
        refine lv_iload_n hx hb dX11_nextStep_32 rfl (lv_at hl 1 rfl) ?_
        refine zi_ald hx hb hK hA (Nat.lt_of_le_of_lt h2 hok.2) (by decide) dX11_nextStep_33 ?_
        refine zi_if_ne (tgt := 41) hx hb dX11_nextStep_34 (by decide) (Nat.lt_trans (h8 _) (by decide)) (fun c_34 => ?_) (fun c_34 => ?_)
        · refine lv_iload_n hx hb dX11_nextStep_41 rfl (lv_at hl 1 rfl) ?_
          refine lv_iconst (v := nI 1) hx hb dX11_nextStep_42 (by decide) ?_
          refine zi_add hx hb dX11_nextStep_43 ?_
          exact zr_i hx hb hr hlocks (by subst h3; first | (exfalso; omega) | (simp [nS, *]; done)) dX11_nextStep_44
        · refine lv_iconst (v := nI 0) hx hb dX11_nextStep_37 (by decide) ?_
          refine lv_goto (tgt := 44) hx hb dX11_nextStep_38 (by decide) ?_
          exact zr_i hx hb hr hlocks (by subst h3; first | (exfalso; omega) | (simp [nS, *]; done)) dX11_nextStep_44
      · refine lv_aload_n hx hb dX11_nextStep_11 rfl (lv_at hl 0 rfl) ?_
        refine zi_get (C := RX11) (T := TX11) (N := 23) (v := .ref (qs)) hx hb hz wo_X11 hown hK hO rfl 1 (by decide) (hz _ wf_X11_7) (fun _ h9 => h9) hS1 dX11_nextStep_12 ?_
        refine lv_iload_n hx hb dX11_nextStep_15 rfl (lv_at hl 1 rfl) ?_
        refine zi_ald hx hb hK hA (Nat.lt_of_le_of_lt h2 hok.2) (by decide) dX11_nextStep_16 ?_
        refine lv_bipush (v := nI 46) hx hb dX11_nextStep_17 (by decide) ?_
        refine zi_icmp_eq (tgt := 28) hx hb dX11_nextStep_19 (by decide) (Nat.lt_trans (h8 _) (by decide)) (by omega) (fun c_19 => ?_) (fun c_19 => ?_)
        · have h3 : k = se f q := Nat.le_antisymm h2 (Nat.le_of_not_lt (fun z => (se_nz h1 z).2 c_19))
          refine lv_aload_n hx hb dX11_nextStep_28 rfl (lv_at hl 0 rfl) ?_
          refine zi_get (C := RX11) (T := TX11) (N := 23) (v := .ref (qs)) hx hb hz wo_X11 hown hK hO rfl 1 (by decide) (hz _ wf_X11_7) (fun _ h9 => h9) hS1 dX11_nextStep_29 ?_
          refine lv_iload_n hx hb dX11_nextStep_32 rfl (lv_at hl 1 rfl) ?_
          refine zi_ald hx hb hK hA (Nat.lt_of_le_of_lt h2 hok.2) (by decide) dX11_nextStep_33 ?_
          refine zi_if_ne (tgt := 41) hx hb dX11_nextStep_34 (by decide) (Nat.lt_trans (h8 _) (by decide)) (fun c_34 => ?_) (fun c_34 => ?_)
          · refine lv_iload_n hx hb dX11_nextStep_41 rfl (lv_at hl 1 rfl) ?_
            refine lv_iconst (v := nI 1) hx hb dX11_nextStep_42 (by decide) ?_
            refine zi_add hx hb dX11_nextStep_43 ?_
            exact zr_i hx hb hr hlocks (by subst h3; first | (exfalso; omega) | (simp [nS, *]; done)) dX11_nextStep_44
          · refine lv_iconst (v := nI 0) hx hb dX11_nextStep_37 (by decide) ?_
            refine lv_goto (tgt := 44) hx hb dX11_nextStep_38 (by decide) ?_
            exact zr_i hx hb hr hlocks (by subst h3; first | (exfalso; omega) | (simp [nS, *]; done)) dX11_nextStep_44
        · refine lv_iinc (v := nI (k + 1)) (lv' := [(2, .int (nI (k + 1))), (0, .ref (o))]) hx hb dX11_nextStep_22 hl (k := 1) rfl (nI_add _ _) (by decide) rfl (fun ls hl => ?_)
          refine lv_goto (tgt := 2) hx hb dX11_nextStep_25 (by decide) ?_
          exact ih_ (k + 1) (by have := Nat.lt_of_le_of_ne h2 (fun z => by rw [z] at c_8 c_19; rcases hok.1 with w | w; exact c_8 w; exact c_19 w); omega) (by omega) (Nat.lt_of_le_of_ne h2 (fun z => by rw [z] at c_8 c_19; rcases hok.1 with w | w; exact c_8 w; exact c_19 w)) ls (lv_sub hl [1, 0] rfl)
  exact L2 ((se f q - q) + 1) q (Nat.lt_succ_self _) (Nat.le_refl _) (se_ge f q) ls (lv_sub hl [1, 0] rfl)

set_option maxHeartbeats 4000000 in
set_option maxRecDepth 100000 in
theorem m_isStep (l : Launch) (G : zG) (o qs : Nat) (fs : List Value) (f : Nat → Nat) (q e : Nat) (hos : okS 18000 f q) (hok : okN 18000 f e) : Met l yX11_isStep wsX11_isStep ({ frames := 0, cells := 0, slots := 0, locals := 0 }) (zP G [.ref (o), .int (nI (q)), .int (nI (e))] (fun H => MV G o qs fs f H)) (zR (.int (nI (nB (decide (nL f e = sL f q)))))) 0 0 (fun _ => False) := by
  refine Met.ofW (cc := cX11_isStep) (maxL := 4) (ret := (some .boolean)) (by decide) rfl ?_
  intro p en s m args below meth c s₁ B hml hv
  obtain ⟨rfl, hP, hK⟩ := hv
  have hx := B.exec
  have hb := B.bytes
  have hr := B.returns
  have hts := atoms_spec (ws := wsX11_isStep) B.pre
  have hz : ∀ w ∈ zW, w.before _ s = true := fun w h => hts w (List.mem_cons_of_mem _ h)
  have hown : s.vm.findClass RX11 = some m.cls := findClass_of_methodNamed B.named
  have hlocks := B.notSynchronized
  obtain ⟨hO, hA, hS1, h8⟩ := id hP
  have hl := lv_entry ([.ref (o), .int (nI (q)), .int (nI (e))]) (n := 4) (Nat.le_of_ble_eq_true rfl)
  rw [lg_entry_eq]
  generalize (lg_sl ([.ref (o), .int (nI (q)), .int (nI (e))]) ++ List.replicate (4 - (lg_sl ([.ref (o), .int (nI (q)), .int (nI (e))])).length) Slot.unset).toArray = ls at hl ⊢
  have hl : lv_has ls 4 [(0, .ref (o)), (1, .int (nI (q))), (2, .int (nI (e)))] := hl
  refine lv_iconst (v := nI 0) hx hb dX11_isStep_0 (by decide) ?_
  refine lv_istore_n (lv' := [(3, .int (nI (0))), (0, .ref (o)), (1, .int (nI (q))), (2, .int (nI (e)))]) hx hb dX11_isStep_1 rfl hl (by decide) rfl (fun ls hl => ?_)
  have L2 : ∀ (n_ : Nat) (k : Nat), ne f e - k < n_ → (e + 1 + k ≤ ne f e) → (q + k ≤ se f q) → ((nL f e = sL f q) ↔ (sg f (e + 1 + k) (ne f e - (e + 1 + k)) = sg f (q + k) (se f q - (q + k)))) → ∀ ls : Array Slot, lv_has ls 4 [(0, .ref (o)), (1, .int (nI (q))), (2, .int (nI (e))), (3, .int (nI (k)))] → W p l en (headSpec wsX11_isStep ({ frames := 0, cells := 0, slots := 0, locals := 0 })).room s m ([.ref (o), .int (nI (q)), .int (nI (e))] : List Value).toArray below meth c s.heap [] 0 0 (MQ below (zR (.int (nI (nB (decide (nL f e = sL f q)))))) ([.ref (o), .int (nI (q)), .int (nI (e))] : List Value).toArray s 0 0 (fun _ => False)) (F0 m 2 ls []) := by
    intro n_
    induction n_ with
    | zero => intro k hm_; exact absurd hm_ (Nat.not_lt_zero _)
    | succ n_ ih_ =>
      intro k hm_ h1 h2 hs ls hl
      refine lv_aload_n hx hb dX11_isStep_2 rfl (lv_at hl 0 rfl) ?_
      refine zi_get (C := RX11) (T := TX11) (N := 23) (v := .ref (qs)) hx hb hz wo_X11 hown hK hO rfl 1 (by decide) (hz _ wf_X11_7) (fun _ h9 => h9) hS1 dX11_isStep_3 ?_
      refine lv_iload_n hx hb dX11_isStep_6 rfl (lv_at hl 2 rfl) ?_
      refine lv_iconst (v := nI 1) hx hb dX11_isStep_7 (by decide) ?_
      refine zi_add hx hb dX11_isStep_8 ?_
      refine lv_iload_n hx hb dX11_isStep_9 rfl (lv_at hl 3 rfl) ?_
      refine zi_add hx hb dX11_isStep_10 ?_
      refine zi_ald hx hb hK hA (Nat.lt_of_le_of_lt h1 hok.2) (by decide) dX11_isStep_11 ?_
      refine zi_if_eq (tgt := 55) hx hb dX11_isStep_12 (by decide) (Nat.lt_trans (h8 _) (by decide)) (fun c_12 => ?_) (fun c_12 => ?_)
      · have hn : e + 1 + k = ne f e := Nat.le_antisymm h1 (Nat.le_of_not_lt (fun z => ne_nz (by omega) z c_12))
        refine lv_aload_n hx hb dX11_isStep_55 rfl (lv_at hl 0 rfl) ?_
        refine zi_get (C := RX11) (T := TX11) (N := 23) (v := .ref (qs)) hx hb hz wo_X11 hown hK hO rfl 1 (by decide) (hz _ wf_X11_7) (fun _ h9 => h9) hS1 dX11_isStep_56 ?_
        refine lv_iload_n hx hb dX11_isStep_59 rfl (lv_at hl 2 rfl) ?_
        refine lv_iconst (v := nI 1) hx hb dX11_isStep_60 (by decide) ?_
        refine zi_add hx hb dX11_isStep_61 ?_
        refine lv_iload_n hx hb dX11_isStep_62 rfl (lv_at hl 3 rfl) ?_
        refine zi_add hx hb dX11_isStep_63 ?_
        refine zi_ald hx hb hK hA (Nat.lt_of_le_of_lt h1 hok.2) (by decide) dX11_isStep_64 ?_
        refine zi_if_ne (tgt := 96) hx hb dX11_isStep_65 (by decide) (Nat.lt_trans (h8 _) (by decide)) (fun c_65 => ?_) (fun c_65 => ?_)
        · refine lv_iconst (v := nI 0) hx hb dX11_isStep_96 (by decide) ?_
          exact zr_z hx hb hr hlocks (by first | (simp [hf, nB]; done) | exact absurd c_12 c_65 | exact absurd c_65 c_12 | (rw [decide_eq_true (hs.mpr (sg_nil (by omega) (by have : q + k = se f q := Nat.le_antisymm h2 (Nat.le_of_not_lt (fun u => (se_nz (by omega) u).1 c_76)); omega)))]; rfl) | (rw [decide_eq_true (hs.mpr (sg_nil (by omega) (by have : q + k = se f q := Nat.le_antisymm h2 (Nat.le_of_not_lt (fun u => (se_nz (by omega) u).2 c_89)); omega)))]; rfl) | (rw [decide_eq_false (fun z => sg_ne (by have : q + k ≠ se f q := (fun u => by rcases hos.1 with w | w; exact c_76 (by rw [u]; exact w); exact c_89 (by rw [u]; exact w)); omega) (hs.mp z))]; rfl)) dX11_isStep_97
        · refine lv_aload_n hx hb dX11_isStep_68 rfl (lv_at hl 0 rfl) ?_
          refine zi_get (C := RX11) (T := TX11) (N := 23) (v := .ref (qs)) hx hb hz wo_X11 hown hK hO rfl 1 (by decide) (hz _ wf_X11_7) (fun _ h9 => h9) hS1 dX11_isStep_69 ?_
          refine lv_iload_n hx hb dX11_isStep_72 rfl (lv_at hl 1 rfl) ?_
          refine lv_iload_n hx hb dX11_isStep_73 rfl (lv_at hl 3 rfl) ?_
          refine zi_add hx hb dX11_isStep_74 ?_
          refine zi_ald hx hb hK hA (Nat.lt_of_le_of_lt h2 hos.2) (by decide) dX11_isStep_75 ?_
          refine zi_if_eq (tgt := 92) hx hb dX11_isStep_76 (by decide) (Nat.lt_trans (h8 _) (by decide)) (fun c_76 => ?_) (fun c_76 => ?_)
          · refine lv_iconst (v := nI 1) hx hb dX11_isStep_92 (by decide) ?_
            refine lv_goto (tgt := 97) hx hb dX11_isStep_93 (by decide) ?_
            exact zr_z hx hb hr hlocks (by first | (simp [hf, nB]; done) | exact absurd c_12 c_65 | exact absurd c_65 c_12 | (rw [decide_eq_true (hs.mpr (sg_nil (by omega) (by have : q + k = se f q := Nat.le_antisymm h2 (Nat.le_of_not_lt (fun u => (se_nz (by omega) u).1 c_76)); omega)))]; rfl) | (rw [decide_eq_true (hs.mpr (sg_nil (by omega) (by have : q + k = se f q := Nat.le_antisymm h2 (Nat.le_of_not_lt (fun u => (se_nz (by omega) u).2 c_89)); omega)))]; rfl) | (rw [decide_eq_false (fun z => sg_ne (by have : q + k ≠ se f q := (fun u => by rcases hos.1 with w | w; exact c_76 (by rw [u]; exact w); exact c_89 (by rw [u]; exact w)); omega) (hs.mp z))]; rfl)) dX11_isStep_97
          · refine lv_aload_n hx hb dX11_isStep_79 rfl (lv_at hl 0 rfl) ?_
            refine zi_get (C := RX11) (T := TX11) (N := 23) (v := .ref (qs)) hx hb hz wo_X11 hown hK hO rfl 1 (by decide) (hz _ wf_X11_7) (fun _ h9 => h9) hS1 dX11_isStep_80 ?_
            refine lv_iload_n hx hb dX11_isStep_83 rfl (lv_at hl 1 rfl) ?_
            refine lv_iload_n hx hb dX11_isStep_84 rfl (lv_at hl 3 rfl) ?_
            refine zi_add hx hb dX11_isStep_85 ?_
            refine zi_ald hx hb hK hA (Nat.lt_of_le_of_lt h2 hos.2) (by decide) dX11_isStep_86 ?_
            refine lv_bipush (v := nI 46) hx hb dX11_isStep_87 (by decide) ?_
            refine zi_icmp_ne (tgt := 96) hx hb dX11_isStep_89 (by decide) (Nat.lt_trans (h8 _) (by decide)) (by omega) (fun c_89 => ?_) (fun c_89 => ?_)
            · refine lv_iconst (v := nI 0) hx hb dX11_isStep_96 (by decide) ?_
              exact zr_z hx hb hr hlocks (by first | (simp [hf, nB]; done) | exact absurd c_12 c_65 | exact absurd c_65 c_12 | (rw [decide_eq_true (hs.mpr (sg_nil (by omega) (by have : q + k = se f q := Nat.le_antisymm h2 (Nat.le_of_not_lt (fun u => (se_nz (by omega) u).1 c_76)); omega)))]; rfl) | (rw [decide_eq_true (hs.mpr (sg_nil (by omega) (by have : q + k = se f q := Nat.le_antisymm h2 (Nat.le_of_not_lt (fun u => (se_nz (by omega) u).2 c_89)); omega)))]; rfl) | (rw [decide_eq_false (fun z => sg_ne (by have : q + k ≠ se f q := (fun u => by rcases hos.1 with w | w; exact c_76 (by rw [u]; exact w); exact c_89 (by rw [u]; exact w)); omega) (hs.mp z))]; rfl)) dX11_isStep_97
            · refine lv_iconst (v := nI 1) hx hb dX11_isStep_92 (by decide) ?_
              refine lv_goto (tgt := 97) hx hb dX11_isStep_93 (by decide) ?_
              exact zr_z hx hb hr hlocks (by first | (simp [hf, nB]; done) | exact absurd c_12 c_65 | exact absurd c_65 c_12 | (rw [decide_eq_true (hs.mpr (sg_nil (by omega) (by have : q + k = se f q := Nat.le_antisymm h2 (Nat.le_of_not_lt (fun u => (se_nz (by omega) u).1 c_76)); omega)))]; rfl) | (rw [decide_eq_true (hs.mpr (sg_nil (by omega) (by have : q + k = se f q := Nat.le_antisymm h2 (Nat.le_of_not_lt (fun u => (se_nz (by omega) u).2 c_89)); omega)))]; rfl) | (rw [decide_eq_false (fun z => sg_ne (by have : q + k ≠ se f q := (fun u => by rcases hos.1 with w | w; exact c_76 (by rw [u]; exact w); exact c_89 (by rw [u]; exact w)); omega) (hs.mp z))]; rfl)) dX11_isStep_97
      · refine lv_aload_n hx hb dX11_isStep_15 rfl (lv_at hl 0 rfl) ?_
        refine zi_get (C := RX11) (T := TX11) (N := 23) (v := .ref (qs)) hx hb hz wo_X11 hown hK hO rfl 1 (by decide) (hz _ wf_X11_7) (fun _ h9 => h9) hS1 dX11_isStep_16 ?_
        refine lv_iload_n hx hb dX11_isStep_19 rfl (lv_at hl 2 rfl) ?_
        refine lv_iconst (v := nI 1) hx hb dX11_isStep_20 (by decide) ?_
        refine zi_add hx hb dX11_isStep_21 ?_
        refine lv_iload_n hx hb dX11_isStep_22 rfl (lv_at hl 3 rfl) ?_
        refine zi_add hx hb dX11_isStep_23 ?_
        refine zi_ald hx hb hK hA (Nat.lt_of_le_of_lt h1 hok.2) (by decide) dX11_isStep_24 ?_
        refine lv_aload_n hx hb dX11_isStep_25 rfl (lv_at hl 0 rfl) ?_
        refine zi_get (C := RX11) (T := TX11) (N := 23) (v := .ref (qs)) hx hb hz wo_X11 hown hK hO rfl 1 (by decide) (hz _ wf_X11_7) (fun _ h9 => h9) hS1 dX11_isStep_26 ?_
        refine lv_iload_n hx hb dX11_isStep_29 rfl (lv_at hl 1 rfl) ?_
        refine lv_iload_n hx hb dX11_isStep_30 rfl (lv_at hl 3 rfl) ?_
        refine zi_add hx hb dX11_isStep_31 ?_
        refine zi_ald hx hb hK hA (Nat.lt_of_le_of_lt h2 hos.2) (by decide) dX11_isStep_32 ?_
        refine zi_icmp_ne (tgt := 55) hx hb dX11_isStep_33 (by decide) (Nat.lt_trans (h8 _) (by decide)) (Nat.lt_trans (h8 _) (by decide)) (fun c_33 => ?_) (fun c_33 => ?_)
        · have hf : ¬ (nL f e = sL f q) := fun z => by
            have h9 := hs.mp z
            by_cases w : q + k < se f q
            · by_cases w2 : e + 1 + k < ne f e
              · exact sg_ne1 (by omega) (by omega) c_33 h9
              · exact c_12 (by rw [show e + 1 + k = ne f e by omega]; exact hok.1)
            · by_cases w2 : e + 1 + k < ne f e
              · exact sg_ne (by omega) h9
              · exact c_12 (by rw [show e + 1 + k = ne f e by omega]; exact hok.1)
          refine lv_aload_n hx hb dX11_isStep_55 rfl (lv_at hl 0 rfl) ?_
          refine zi_get (C := RX11) (T := TX11) (N := 23) (v := .ref (qs)) hx hb hz wo_X11 hown hK hO rfl 1 (by decide) (hz _ wf_X11_7) (fun _ h9 => h9) hS1 dX11_isStep_56 ?_
          refine lv_iload_n hx hb dX11_isStep_59 rfl (lv_at hl 2 rfl) ?_
          refine lv_iconst (v := nI 1) hx hb dX11_isStep_60 (by decide) ?_
          refine zi_add hx hb dX11_isStep_61 ?_
          refine lv_iload_n hx hb dX11_isStep_62 rfl (lv_at hl 3 rfl) ?_
          refine zi_add hx hb dX11_isStep_63 ?_
          refine zi_ald hx hb hK hA (Nat.lt_of_le_of_lt h1 hok.2) (by decide) dX11_isStep_64 ?_
          refine zi_if_ne (tgt := 96) hx hb dX11_isStep_65 (by decide) (Nat.lt_trans (h8 _) (by decide)) (fun c_65 => ?_) (fun c_65 => ?_)
          · refine lv_iconst (v := nI 0) hx hb dX11_isStep_96 (by decide) ?_
            exact zr_z hx hb hr hlocks (by first | (simp [hf, nB]; done) | exact absurd c_12 c_65 | exact absurd c_65 c_12 | (rw [decide_eq_true (hs.mpr (sg_nil (by omega) (by have : q + k = se f q := Nat.le_antisymm h2 (Nat.le_of_not_lt (fun u => (se_nz (by omega) u).1 c_76)); omega)))]; rfl) | (rw [decide_eq_true (hs.mpr (sg_nil (by omega) (by have : q + k = se f q := Nat.le_antisymm h2 (Nat.le_of_not_lt (fun u => (se_nz (by omega) u).2 c_89)); omega)))]; rfl) | (rw [decide_eq_false (fun z => sg_ne (by have : q + k ≠ se f q := (fun u => by rcases hos.1 with w | w; exact c_76 (by rw [u]; exact w); exact c_89 (by rw [u]; exact w)); omega) (hs.mp z))]; rfl)) dX11_isStep_97
          · refine lv_aload_n hx hb dX11_isStep_68 rfl (lv_at hl 0 rfl) ?_
            refine zi_get (C := RX11) (T := TX11) (N := 23) (v := .ref (qs)) hx hb hz wo_X11 hown hK hO rfl 1 (by decide) (hz _ wf_X11_7) (fun _ h9 => h9) hS1 dX11_isStep_69 ?_
            refine lv_iload_n hx hb dX11_isStep_72 rfl (lv_at hl 1 rfl) ?_
            refine lv_iload_n hx hb dX11_isStep_73 rfl (lv_at hl 3 rfl) ?_
            refine zi_add hx hb dX11_isStep_74 ?_
            refine zi_ald hx hb hK hA (Nat.lt_of_le_of_lt h2 hos.2) (by decide) dX11_isStep_75 ?_
            refine zi_if_eq (tgt := 92) hx hb dX11_isStep_76 (by decide) (Nat.lt_trans (h8 _) (by decide)) (fun c_76 => ?_) (fun c_76 => ?_)
            · refine lv_iconst (v := nI 1) hx hb dX11_isStep_92 (by decide) ?_
              refine lv_goto (tgt := 97) hx hb dX11_isStep_93 (by decide) ?_
              exact zr_z hx hb hr hlocks (by first | (simp [hf, nB]; done) | exact absurd c_12 c_65 | exact absurd c_65 c_12 | (rw [decide_eq_true (hs.mpr (sg_nil (by omega) (by have : q + k = se f q := Nat.le_antisymm h2 (Nat.le_of_not_lt (fun u => (se_nz (by omega) u).1 c_76)); omega)))]; rfl) | (rw [decide_eq_true (hs.mpr (sg_nil (by omega) (by have : q + k = se f q := Nat.le_antisymm h2 (Nat.le_of_not_lt (fun u => (se_nz (by omega) u).2 c_89)); omega)))]; rfl) | (rw [decide_eq_false (fun z => sg_ne (by have : q + k ≠ se f q := (fun u => by rcases hos.1 with w | w; exact c_76 (by rw [u]; exact w); exact c_89 (by rw [u]; exact w)); omega) (hs.mp z))]; rfl)) dX11_isStep_97
            · refine lv_aload_n hx hb dX11_isStep_79 rfl (lv_at hl 0 rfl) ?_
              refine zi_get (C := RX11) (T := TX11) (N := 23) (v := .ref (qs)) hx hb hz wo_X11 hown hK hO rfl 1 (by decide) (hz _ wf_X11_7) (fun _ h9 => h9) hS1 dX11_isStep_80 ?_
              refine lv_iload_n hx hb dX11_isStep_83 rfl (lv_at hl 1 rfl) ?_
              refine lv_iload_n hx hb dX11_isStep_84 rfl (lv_at hl 3 rfl) ?_
              refine zi_add hx hb dX11_isStep_85 ?_
              refine zi_ald hx hb hK hA (Nat.lt_of_le_of_lt h2 hos.2) (by decide) dX11_isStep_86 ?_
              refine lv_bipush (v := nI 46) hx hb dX11_isStep_87 (by decide) ?_
              refine zi_icmp_ne (tgt := 96) hx hb dX11_isStep_89 (by decide) (Nat.lt_trans (h8 _) (by decide)) (by omega) (fun c_89 => ?_) (fun c_89 => ?_)
              · refine lv_iconst (v := nI 0) hx hb dX11_isStep_96 (by decide) ?_
                exact zr_z hx hb hr hlocks (by first | (simp [hf, nB]; done) | exact absurd c_12 c_65 | exact absurd c_65 c_12 | (rw [decide_eq_true (hs.mpr (sg_nil (by omega) (by have : q + k = se f q := Nat.le_antisymm h2 (Nat.le_of_not_lt (fun u => (se_nz (by omega) u).1 c_76)); omega)))]; rfl) | (rw [decide_eq_true (hs.mpr (sg_nil (by omega) (by have : q + k = se f q := Nat.le_antisymm h2 (Nat.le_of_not_lt (fun u => (se_nz (by omega) u).2 c_89)); omega)))]; rfl) | (rw [decide_eq_false (fun z => sg_ne (by have : q + k ≠ se f q := (fun u => by rcases hos.1 with w | w; exact c_76 (by rw [u]; exact w); exact c_89 (by rw [u]; exact w)); omega) (hs.mp z))]; rfl)) dX11_isStep_97
              · refine lv_iconst (v := nI 1) hx hb dX11_isStep_92 (by decide) ?_
                refine lv_goto (tgt := 97) hx hb dX11_isStep_93 (by decide) ?_
                exact zr_z hx hb hr hlocks (by first | (simp [hf, nB]; done) | exact absurd c_12 c_65 | exact absurd c_65 c_12 | (rw [decide_eq_true (hs.mpr (sg_nil (by omega) (by have : q + k = se f q := Nat.le_antisymm h2 (Nat.le_of_not_lt (fun u => (se_nz (by omega) u).1 c_76)); omega)))]; rfl) | (rw [decide_eq_true (hs.mpr (sg_nil (by omega) (by have : q + k = se f q := Nat.le_antisymm h2 (Nat.le_of_not_lt (fun u => (se_nz (by omega) u).2 c_89)); omega)))]; rfl) | (rw [decide_eq_false (fun z => sg_ne (by have : q + k ≠ se f q := (fun u => by rcases hos.1 with w | w; exact c_76 (by rw [u]; exact w); exact c_89 (by rw [u]; exact w)); omega) (hs.mp z))]; rfl)) dX11_isStep_97
        · refine lv_aload_n hx hb dX11_isStep_36 rfl (lv_at hl 0 rfl) ?_
          refine zi_get (C := RX11) (T := TX11) (N := 23) (v := .ref (qs)) hx hb hz wo_X11 hown hK hO rfl 1 (by decide) (hz _ wf_X11_7) (fun _ h9 => h9) hS1 dX11_isStep_37 ?_
          refine lv_iload_n hx hb dX11_isStep_40 rfl (lv_at hl 1 rfl) ?_
          refine lv_iload_n hx hb dX11_isStep_41 rfl (lv_at hl 3 rfl) ?_
          refine zi_add hx hb dX11_isStep_42 ?_
          refine zi_ald hx hb hK hA (Nat.lt_of_le_of_lt h2 hos.2) (by decide) dX11_isStep_43 ?_
          refine lv_bipush (v := nI 46) hx hb dX11_isStep_44 (by decide) ?_
          refine zi_icmp_eq (tgt := 55) hx hb dX11_isStep_46 (by decide) (Nat.lt_trans (h8 _) (by decide)) (by omega) (fun c_46 => ?_) (fun c_46 => ?_)
          · have hf : ¬ (nL f e = sL f q) := fun z => by
              have h9 := hs.mp z
              have w : q + k = se f q := Nat.le_antisymm h2 (Nat.le_of_not_lt (fun u => (se_nz (by omega) u).2 c_46))
              by_cases w2 : e + 1 + k < ne f e
              · exact sg_ne (by omega) h9
              · exact c_12 (by rw [show e + 1 + k = ne f e by omega]; exact hok.1)
            refine lv_aload_n hx hb dX11_isStep_55 rfl (lv_at hl 0 rfl) ?_
            refine zi_get (C := RX11) (T := TX11) (N := 23) (v := .ref (qs)) hx hb hz wo_X11 hown hK hO rfl 1 (by decide) (hz _ wf_X11_7) (fun _ h9 => h9) hS1 dX11_isStep_56 ?_
            refine lv_iload_n hx hb dX11_isStep_59 rfl (lv_at hl 2 rfl) ?_
            refine lv_iconst (v := nI 1) hx hb dX11_isStep_60 (by decide) ?_
            refine zi_add hx hb dX11_isStep_61 ?_
            refine lv_iload_n hx hb dX11_isStep_62 rfl (lv_at hl 3 rfl) ?_
            refine zi_add hx hb dX11_isStep_63 ?_
            refine zi_ald hx hb hK hA (Nat.lt_of_le_of_lt h1 hok.2) (by decide) dX11_isStep_64 ?_
            refine zi_if_ne (tgt := 96) hx hb dX11_isStep_65 (by decide) (Nat.lt_trans (h8 _) (by decide)) (fun c_65 => ?_) (fun c_65 => ?_)
            · refine lv_iconst (v := nI 0) hx hb dX11_isStep_96 (by decide) ?_
              exact zr_z hx hb hr hlocks (by first | (simp [hf, nB]; done) | exact absurd c_12 c_65 | exact absurd c_65 c_12 | (rw [decide_eq_true (hs.mpr (sg_nil (by omega) (by have : q + k = se f q := Nat.le_antisymm h2 (Nat.le_of_not_lt (fun u => (se_nz (by omega) u).1 c_76)); omega)))]; rfl) | (rw [decide_eq_true (hs.mpr (sg_nil (by omega) (by have : q + k = se f q := Nat.le_antisymm h2 (Nat.le_of_not_lt (fun u => (se_nz (by omega) u).2 c_89)); omega)))]; rfl) | (rw [decide_eq_false (fun z => sg_ne (by have : q + k ≠ se f q := (fun u => by rcases hos.1 with w | w; exact c_76 (by rw [u]; exact w); exact c_89 (by rw [u]; exact w)); omega) (hs.mp z))]; rfl)) dX11_isStep_97
            · refine lv_aload_n hx hb dX11_isStep_68 rfl (lv_at hl 0 rfl) ?_
              refine zi_get (C := RX11) (T := TX11) (N := 23) (v := .ref (qs)) hx hb hz wo_X11 hown hK hO rfl 1 (by decide) (hz _ wf_X11_7) (fun _ h9 => h9) hS1 dX11_isStep_69 ?_
              refine lv_iload_n hx hb dX11_isStep_72 rfl (lv_at hl 1 rfl) ?_
              refine lv_iload_n hx hb dX11_isStep_73 rfl (lv_at hl 3 rfl) ?_
              refine zi_add hx hb dX11_isStep_74 ?_
              refine zi_ald hx hb hK hA (Nat.lt_of_le_of_lt h2 hos.2) (by decide) dX11_isStep_75 ?_
              refine zi_if_eq (tgt := 92) hx hb dX11_isStep_76 (by decide) (Nat.lt_trans (h8 _) (by decide)) (fun c_76 => ?_) (fun c_76 => ?_)
              · refine lv_iconst (v := nI 1) hx hb dX11_isStep_92 (by decide) ?_
                refine lv_goto (tgt := 97) hx hb dX11_isStep_93 (by decide) ?_
                exact zr_z hx hb hr hlocks (by first | (simp [hf, nB]; done) | exact absurd c_12 c_65 | exact absurd c_65 c_12 | (rw [decide_eq_true (hs.mpr (sg_nil (by omega) (by have : q + k = se f q := Nat.le_antisymm h2 (Nat.le_of_not_lt (fun u => (se_nz (by omega) u).1 c_76)); omega)))]; rfl) | (rw [decide_eq_true (hs.mpr (sg_nil (by omega) (by have : q + k = se f q := Nat.le_antisymm h2 (Nat.le_of_not_lt (fun u => (se_nz (by omega) u).2 c_89)); omega)))]; rfl) | (rw [decide_eq_false (fun z => sg_ne (by have : q + k ≠ se f q := (fun u => by rcases hos.1 with w | w; exact c_76 (by rw [u]; exact w); exact c_89 (by rw [u]; exact w)); omega) (hs.mp z))]; rfl)) dX11_isStep_97
              · refine lv_aload_n hx hb dX11_isStep_79 rfl (lv_at hl 0 rfl) ?_
                refine zi_get (C := RX11) (T := TX11) (N := 23) (v := .ref (qs)) hx hb hz wo_X11 hown hK hO rfl 1 (by decide) (hz _ wf_X11_7) (fun _ h9 => h9) hS1 dX11_isStep_80 ?_
                refine lv_iload_n hx hb dX11_isStep_83 rfl (lv_at hl 1 rfl) ?_
                refine lv_iload_n hx hb dX11_isStep_84 rfl (lv_at hl 3 rfl) ?_
                refine zi_add hx hb dX11_isStep_85 ?_
                refine zi_ald hx hb hK hA (Nat.lt_of_le_of_lt h2 hos.2) (by decide) dX11_isStep_86 ?_
                refine lv_bipush (v := nI 46) hx hb dX11_isStep_87 (by decide) ?_
                refine zi_icmp_ne (tgt := 96) hx hb dX11_isStep_89 (by decide) (Nat.lt_trans (h8 _) (by decide)) (by omega) (fun c_89 => ?_) (fun c_89 => ?_)
                · refine lv_iconst (v := nI 0) hx hb dX11_isStep_96 (by decide) ?_
                  exact zr_z hx hb hr hlocks (by first | (simp [hf, nB]; done) | exact absurd c_12 c_65 | exact absurd c_65 c_12 | (rw [decide_eq_true (hs.mpr (sg_nil (by omega) (by have : q + k = se f q := Nat.le_antisymm h2 (Nat.le_of_not_lt (fun u => (se_nz (by omega) u).1 c_76)); omega)))]; rfl) | (rw [decide_eq_true (hs.mpr (sg_nil (by omega) (by have : q + k = se f q := Nat.le_antisymm h2 (Nat.le_of_not_lt (fun u => (se_nz (by omega) u).2 c_89)); omega)))]; rfl) | (rw [decide_eq_false (fun z => sg_ne (by have : q + k ≠ se f q := (fun u => by rcases hos.1 with w | w; exact c_76 (by rw [u]; exact w); exact c_89 (by rw [u]; exact w)); omega) (hs.mp z))]; rfl)) dX11_isStep_97
                · refine lv_iconst (v := nI 1) hx hb dX11_isStep_92 (by decide) ?_
                  refine lv_goto (tgt := 97) hx hb dX11_isStep_93 (by decide) ?_
                  exact zr_z hx hb hr hlocks (by first | (simp [hf, nB]; done) | exact absurd c_12 c_65 | exact absurd c_65 c_12 | (rw [decide_eq_true (hs.mpr (sg_nil (by omega) (by have : q + k = se f q := Nat.le_antisymm h2 (Nat.le_of_not_lt (fun u => (se_nz (by omega) u).1 c_76)); omega)))]; rfl) | (rw [decide_eq_true (hs.mpr (sg_nil (by omega) (by have : q + k = se f q := Nat.le_antisymm h2 (Nat.le_of_not_lt (fun u => (se_nz (by omega) u).2 c_89)); omega)))]; rfl) | (rw [decide_eq_false (fun z => sg_ne (by have : q + k ≠ se f q := (fun u => by rcases hos.1 with w | w; exact c_76 (by rw [u]; exact w); exact c_89 (by rw [u]; exact w)); omega) (hs.mp z))]; rfl)) dX11_isStep_97
          · have h1' : e + 1 + (k + 1) ≤ ne f e := by
              have : e + 1 + k ≠ ne f e := fun z => c_12 (by rw [z]; exact hok.1)
              omega
            have h2' : q + (k + 1) ≤ se f q := by
              have : q + k ≠ se f q := fun z => by
                rcases hos.1 with w | w
                · exact c_12 (by rw [c_33, z]; exact w)
                · exact c_46 (by rw [z]; exact w)
              omega
            refine lv_iinc (v := nI (k + 1)) (lv' := [(3, .int (nI (k + 1))), (0, .ref (o)), (1, .int (nI (q))), (2, .int (nI (e)))]) hx hb dX11_isStep_49 hl (k := 3) rfl (nI_add _ _) (by decide) rfl (fun ls hl => ?_)
            refine lv_goto (tgt := 2) hx hb dX11_isStep_52 (by decide) ?_
            exact ih_ (k + 1) (by omega) h1' h2' (hs.trans (sg_step (by omega) (by omega) c_33)) ls (lv_sub hl [1, 2, 3, 0] rfl)
  exact L2 ((ne f e - 0) + 1) 0 (Nat.lt_succ_self _) (ne_gt f e) (se_ge f q) Iff.rfl ls (lv_sub hl [1, 2, 3, 0] rfl)
