set_option maxHeartbeats 4000000 in
set_option maxRecDepth 100000 in
theorem m_character (l : Launch) (G : zG) (q N : Nat) (f : Nat → Nat) (hN : N ≤ 18000) (h8 : ∀ i, f i < 256) (a to : Nat) (ha : a < to) (hto : to ≤ N) : Met l yX11_character wsX11_character ({ frames := 0, cells := 0, slots := 0, locals := 0 }) (zP G [.ref (q), .int (nI (a)), .int (nI (to))] (fun H => zA G H q N f)) (zR (.int (nI (chr f a to)))) 0 0 (fun _ => False) := by
  refine Met.ofW (cc := cX11_character) (maxL := 7) (ret := (some .int)) (by decide) rfl ?_
  intro p en s m args below meth c s₁ B hml hv
  obtain ⟨rfl, hP, hK⟩ := hv
  have hx := B.exec
  have hb := B.bytes
  have hr := B.returns
  have hts := atoms_spec (ws := wsX11_character) B.pre
  have hz : ∀ w ∈ zW, w.before _ s = true := fun w h => hts w (List.mem_cons_of_mem _ h)
  have hown : s.vm.findClass RX11 = some m.cls := findClass_of_methodNamed B.named
  have hlocks := B.notSynchronized
  have h80 := h8 a
  have h81 := h8 (a + 1)
  have h82 := h8 (a + 2)
  have h83 := h8 (a + 3)
  have hl := lv_entry ([.ref (q), .int (nI (a)), .int (nI (to))]) (n := 7) (Nat.le_of_ble_eq_true rfl)
  rw [lg_entry_eq]
  generalize (lg_sl ([.ref (q), .int (nI (a)), .int (nI (to))]) ++ List.replicate (7 - (lg_sl ([.ref (q), .int (nI (a)), .int (nI (to))])).length) Slot.unset).toArray = ls at hl ⊢
  have hl : lv_has ls 7 [(0, .ref (q)), (1, .int (nI (a))), (2, .int (nI (to)))] := hl
  refine lv_aload_n hx hb dX11_character_0 rfl (lv_at hl 0 rfl) ?_
  refine lv_iload_n hx hb dX11_character_1 rfl (lv_at hl 1 rfl) ?_
  refine zi_ald hx hb hK hP (by omega) (by omega) dX11_character_2 ?_
  refine lv_istore_n (lv' := [(3, .int (nI (f a))), (0, .ref (q)), (1, .int (nI (a))), (2, .int (nI (to)))]) hx hb dX11_character_3 rfl hl (by decide) rfl (fun ls hl => ?_)
  refine lv_iload_n hx hb dX11_character_4 rfl (lv_at hl 0 rfl) ?_
  refine lv_sipush (v := nI 128) hx hb dX11_character_5 (by decide) ?_
  refine zi_icmp_ge (tgt := 13) hx hb dX11_character_8 (by decide) (Nat.lt_trans (h8 _) (by decide)) (by omega) (fun c_8 => ?_) (fun c_8 => ?_)
  · refine lv_iload_n hx hb dX11_character_13 rfl (lv_at hl 0 rfl) ?_
    refine lv_sipush (v := nI 192) hx hb dX11_character_14 (by decide) ?_
    refine zi_icmp_lt (tgt := 31) hx hb dX11_character_17 (by decide) (Nat.lt_trans (h8 _) (by decide)) (by omega) (fun c_17 => ?_) (fun c_17 => ?_)
    · refine lv_iload_n hx hb dX11_character_31 rfl (lv_at hl 0 rfl) ?_
      refine lv_sipush (v := nI 224) hx hb dX11_character_32 (by decide) ?_
      refine zi_icmp_lt (tgt := 49) hx hb dX11_character_35 (by decide) (Nat.lt_trans (h8 _) (by decide)) (by omega) (fun c_35 => ?_) (fun c_35 => ?_)
      · refine lv_iload_n hx hb dX11_character_49 rfl (lv_at hl 0 rfl) ?_
        refine lv_sipush (v := nI 240) hx hb dX11_character_50 (by decide) ?_
        refine zi_icmp_lt (tgt := 67) hx hb dX11_character_53 (by decide) (Nat.lt_trans (h8 _) (by decide)) (by omega) (fun c_53 => ?_) (fun c_53 => ?_)
        · refine lv_iconst (v := nI 0) hx hb dX11_character_67 (by decide) ?_
          refine lv_istore (lv' := [(4, .int (nI (0))), (3, .int (nI (f a))), (0, .ref (q)), (1, .int (nI (a))), (2, .int (nI (to)))]) hx hb dX11_character_68 hl (by decide) rfl (fun ls hl => ?_)
          refine lv_iload hx hb dX11_character_70 (lv_at hl 0 rfl) ?_
          refine zi_if_eq (tgt := 83) hx hb dX11_character_72 (by decide) (by omega) (fun c_72 => ?_) (fun c_72 => absurd c_72 (by decide))
          refine lv_iconst (v := nI 0) hx hb dX11_character_83 (by decide) ?_
          exact zr_i hx hb hr hlocks (by unfold chr; (repeat' split) <;> first | rfl | (exfalso; omega)) dX11_character_84
        · refine lv_iload_n hx hb dX11_character_56 rfl (lv_at hl 0 rfl) ?_
          refine lv_sipush (v := nI 248) hx hb dX11_character_57 (by decide) ?_
          refine zi_icmp_ge (tgt := 67) hx hb dX11_character_60 (by decide) (Nat.lt_trans (h8 _) (by decide)) (by omega) (fun c_60 => ?_) (fun c_60 => ?_)
          · refine lv_iconst (v := nI 0) hx hb dX11_character_67 (by decide) ?_
            refine lv_istore (lv' := [(4, .int (nI (0))), (3, .int (nI (f a))), (0, .ref (q)), (1, .int (nI (a))), (2, .int (nI (to)))]) hx hb dX11_character_68 hl (by decide) rfl (fun ls hl => ?_)
            refine lv_iload hx hb dX11_character_70 (lv_at hl 0 rfl) ?_
            refine zi_if_eq (tgt := 83) hx hb dX11_character_72 (by decide) (by omega) (fun c_72 => ?_) (fun c_72 => absurd c_72 (by decide))
            refine lv_iconst (v := nI 0) hx hb dX11_character_83 (by decide) ?_
            exact zr_i hx hb hr hlocks (by unfold chr; (repeat' split) <;> first | rfl | (exfalso; omega)) dX11_character_84
          · refine lv_iconst (v := nI 4) hx hb dX11_character_63 (by decide) ?_
            refine lv_goto (tgt := 68) hx hb dX11_character_64 (by decide) ?_
            refine lv_istore (lv' := [(4, .int (nI (4))), (3, .int (nI (f a))), (0, .ref (q)), (1, .int (nI (a))), (2, .int (nI (to)))]) hx hb dX11_character_68 hl (by decide) rfl (fun ls hl => ?_)
            refine lv_iload hx hb dX11_character_70 (lv_at hl 0 rfl) ?_
            refine zi_if_eq (tgt := 83) hx hb dX11_character_72 (by decide) (by omega) (fun c_72 => absurd c_72 (by decide)) (fun c_72 => ?_)
            refine lv_iload_n hx hb dX11_character_75 rfl (lv_at hl 3 rfl) ?_
            refine lv_iload hx hb dX11_character_76 (lv_at hl 0 rfl) ?_
            refine zi_add hx hb dX11_character_78 ?_
            refine lv_iload_n hx hb dX11_character_79 rfl (lv_at hl 4 rfl) ?_
            refine zi_icmp_le (tgt := 85) hx hb dX11_character_80 (by decide) (by omega) (by omega) (fun c_80 => ?_) (fun c_80 => ?_)
            · refine lv_iload hx hb dX11_character_85 (lv_at hl 0 rfl) ?_
              refine lv_iconst (v := nI 2) hx hb dX11_character_87 (by decide) ?_
              refine zi_icmp_ne (tgt := 99) hx hb dX11_character_88 (by decide) (by omega) (by omega) (fun c_88 => ?_) (fun c_88 => absurd c_88 (by decide))
              refine lv_iload hx hb dX11_character_99 (lv_at hl 0 rfl) ?_
              refine lv_iconst (v := nI 3) hx hb dX11_character_101 (by decide) ?_
              refine zi_icmp_ne (tgt := 113) hx hb dX11_character_102 (by decide) (by omega) (by omega) (fun c_102 => ?_) (fun c_102 => absurd c_102 (by decide))
              refine lv_iload_n hx hb dX11_character_113 rfl (lv_at hl 1 rfl) ?_
              refine lv_sipush (v := nI 240) hx hb dX11_character_114 (by decide) ?_
              refine zi_sub hx hb (by omega) dX11_character_117 ?_
              refine lv_istore (lv' := [(5, .int (nI (f a - 240))), (4, .int (nI (4))), (3, .int (nI (f a))), (0, .ref (q)), (1, .int (nI (a))), (2, .int (nI (to)))]) hx hb dX11_character_118 hl (by decide) rfl (fun ls hl => ?_)
              refine lv_iconst (v := nI 1) hx hb dX11_character_120 (by decide) ?_
              refine lv_istore (lv' := [(6, .int (nI (1))), (5, .int (nI (f a - 240))), (4, .int (nI (4))), (3, .int (nI (f a))), (0, .ref (q)), (1, .int (nI (a))), (2, .int (nI (to)))]) hx hb dX11_character_121 hl (by decide) rfl (fun ls hl => ?_)
              refine lv_iload hx hb dX11_character_123 (lv_at hl 0 rfl) ?_
              refine lv_iload hx hb dX11_character_125 (lv_at hl 2 rfl) ?_
              refine zi_icmp_ge (tgt := 180) hx hb dX11_character_127 (by decide) (by omega) (by omega) (fun c_127 => absurd c_127 (by decide)) (fun c_127 => ?_)
              refine lv_aload_n hx hb dX11_character_130 rfl (lv_at hl 4 rfl) ?_
              refine lv_iload_n hx hb dX11_character_131 rfl (lv_at hl 5 rfl) ?_
              refine lv_iload hx hb dX11_character_132 (lv_at hl 0 rfl) ?_
              refine zi_add hx hb dX11_character_134 ?_
              refine zi_ald hx hb hK hP (by omega) (by omega) dX11_character_135 ?_
              refine lv_sipush (v := nI 128) hx hb dX11_character_136 (by decide) ?_
              refine zi_icmp_lt (tgt := 154) hx hb dX11_character_139 (by decide) (Nat.lt_trans (h8 _) (by decide)) (by omega) (fun c_139 => ?_) (fun c_139 => ?_)
              · refine lv_iconst (v := nI 0) hx hb dX11_character_154 (by decide) ?_
                exact zr_i hx hb hr hlocks (by unfold chr; (repeat' split) <;> first | rfl | (exfalso; omega)) dX11_character_155
              · refine lv_aload_n hx hb dX11_character_142 rfl (lv_at hl 4 rfl) ?_
                refine lv_iload_n hx hb dX11_character_143 rfl (lv_at hl 5 rfl) ?_
                refine lv_iload hx hb dX11_character_144 (lv_at hl 0 rfl) ?_
                refine zi_add hx hb dX11_character_146 ?_
                refine zi_ald hx hb hK hP (by omega) (by omega) dX11_character_147 ?_
                refine lv_sipush (v := nI 191) hx hb dX11_character_148 (by decide) ?_
                refine zi_icmp_le (tgt := 156) hx hb dX11_character_151 (by decide) (Nat.lt_trans (h8 _) (by decide)) (by omega) (fun c_151 => ?_) (fun c_151 => ?_)
                · refine lv_bipush (v := nI 64) hx hb dX11_character_156 (by decide) ?_
                  refine lv_iload hx hb dX11_character_158 (lv_at hl 1 rfl) ?_
                  refine zi_mul hx hb dX11_character_160 ?_
                  refine lv_aload_n hx hb dX11_character_161 rfl (lv_at hl 4 rfl) ?_
                  refine lv_iload_n hx hb dX11_character_162 rfl (lv_at hl 5 rfl) ?_
                  refine lv_iload hx hb dX11_character_163 (lv_at hl 0 rfl) ?_
                  refine zi_add hx hb dX11_character_165 ?_
                  refine zi_ald hx hb hK hP (by omega) (by omega) dX11_character_166 ?_
                  refine zi_add hx hb dX11_character_167 ?_
                  refine lv_sipush (v := nI 128) hx hb dX11_character_168 (by decide) ?_
                  refine zi_sub hx hb (by omega) dX11_character_171 ?_
                  refine lv_istore (lv' := [(5, .int (nI (64 * (f a - 240) + (f (a + 1)) - 128))), (6, .int (nI (1))), (4, .int (nI (4))), (3, .int (nI (f a))), (0, .ref (q)), (1, .int (nI (a))), (2, .int (nI (to)))]) hx hb dX11_character_172 hl (by decide) rfl (fun ls hl => ?_)
                  refine lv_iinc (v := nI (2)) (lv' := [(6, .int (nI (2))), (5, .int (nI (64 * (f a - 240) + (f (a + 1)) - 128))), (4, .int (nI (4))), (3, .int (nI (f a))), (0, .ref (q)), (1, .int (nI (a))), (2, .int (nI (to)))]) hx hb dX11_character_174 hl (k := 1) rfl (nI_add _ _) (by decide) rfl (fun ls hl => ?_)
                  refine lv_goto (tgt := 123) hx hb dX11_character_177 (by decide) ?_
                  refine lv_iload hx hb dX11_character_123 (lv_at hl 0 rfl) ?_
                  refine lv_iload hx hb dX11_character_125 (lv_at hl 2 rfl) ?_
                  refine zi_icmp_ge (tgt := 180) hx hb dX11_character_127 (by decide) (by omega) (by omega) (fun c_127 => absurd c_127 (by decide)) (fun c_127 => ?_)
                  refine lv_aload_n hx hb dX11_character_130 rfl (lv_at hl 4 rfl) ?_
                  refine lv_iload_n hx hb dX11_character_131 rfl (lv_at hl 5 rfl) ?_
                  refine lv_iload hx hb dX11_character_132 (lv_at hl 0 rfl) ?_
                  refine zi_add hx hb dX11_character_134 ?_
                  refine zi_ald hx hb hK hP (by omega) (by omega) dX11_character_135 ?_
                  refine lv_sipush (v := nI 128) hx hb dX11_character_136 (by decide) ?_
                  refine zi_icmp_lt (tgt := 154) hx hb dX11_character_139 (by decide) (Nat.lt_trans (h8 _) (by decide)) (by omega) (fun c_139 => ?_) (fun c_139 => ?_)
                  · refine lv_iconst (v := nI 0) hx hb dX11_character_154 (by decide) ?_
                    exact zr_i hx hb hr hlocks (by unfold chr; (repeat' split) <;> first | rfl | (exfalso; omega)) dX11_character_155
                  · refine lv_aload_n hx hb dX11_character_142 rfl (lv_at hl 4 rfl) ?_
                    refine lv_iload_n hx hb dX11_character_143 rfl (lv_at hl 5 rfl) ?_
                    refine lv_iload hx hb dX11_character_144 (lv_at hl 0 rfl) ?_
                    refine zi_add hx hb dX11_character_146 ?_
                    refine zi_ald hx hb hK hP (by omega) (by omega) dX11_character_147 ?_
                    refine lv_sipush (v := nI 191) hx hb dX11_character_148 (by decide) ?_
                    refine zi_icmp_le (tgt := 156) hx hb dX11_character_151 (by decide) (Nat.lt_trans (h8 _) (by decide)) (by omega) (fun c_151 => ?_) (fun c_151 => ?_)
                    · refine lv_bipush (v := nI 64) hx hb dX11_character_156 (by decide) ?_
                      refine lv_iload hx hb dX11_character_158 (lv_at hl 1 rfl) ?_
                      refine zi_mul hx hb dX11_character_160 ?_
                      refine lv_aload_n hx hb dX11_character_161 rfl (lv_at hl 4 rfl) ?_
                      refine lv_iload_n hx hb dX11_character_162 rfl (lv_at hl 5 rfl) ?_
                      refine lv_iload hx hb dX11_character_163 (lv_at hl 0 rfl) ?_
                      refine zi_add hx hb dX11_character_165 ?_
                      refine zi_ald hx hb hK hP (by omega) (by omega) dX11_character_166 ?_
                      refine zi_add hx hb dX11_character_167 ?_
                      refine lv_sipush (v := nI 128) hx hb dX11_character_168 (by decide) ?_
                      refine zi_sub hx hb (by omega) dX11_character_171 ?_
                      refine lv_istore (lv' := [(5, .int (nI (64 * (64 * (f a - 240) + (f (a + 1)) - 128) + (f (a + 2)) - 128))), (6, .int (nI (2))), (4, .int (nI (4))), (3, .int (nI (f a))), (0, .ref (q)), (1, .int (nI (a))), (2, .int (nI (to)))]) hx hb dX11_character_172 hl (by decide) rfl (fun ls hl => ?_)
                      refine lv_iinc (v := nI (3)) (lv' := [(6, .int (nI (3))), (5, .int (nI (64 * (64 * (f a - 240) + (f (a + 1)) - 128) + (f (a + 2)) - 128))), (4, .int (nI (4))), (3, .int (nI (f a))), (0, .ref (q)), (1, .int (nI (a))), (2, .int (nI (to)))]) hx hb dX11_character_174 hl (k := 1) rfl (nI_add _ _) (by decide) rfl (fun ls hl => ?_)
                      refine lv_goto (tgt := 123) hx hb dX11_character_177 (by decide) ?_
                      refine lv_iload hx hb dX11_character_123 (lv_at hl 0 rfl) ?_
                      refine lv_iload hx hb dX11_character_125 (lv_at hl 2 rfl) ?_
                      refine zi_icmp_ge (tgt := 180) hx hb dX11_character_127 (by decide) (by omega) (by omega) (fun c_127 => absurd c_127 (by decide)) (fun c_127 => ?_)
                      refine lv_aload_n hx hb dX11_character_130 rfl (lv_at hl 4 rfl) ?_
                      refine lv_iload_n hx hb dX11_character_131 rfl (lv_at hl 5 rfl) ?_
                      refine lv_iload hx hb dX11_character_132 (lv_at hl 0 rfl) ?_
                      refine zi_add hx hb dX11_character_134 ?_
                      refine zi_ald hx hb hK hP (by omega) (by omega) dX11_character_135 ?_
                      refine lv_sipush (v := nI 128) hx hb dX11_character_136 (by decide) ?_
                      refine zi_icmp_lt (tgt := 154) hx hb dX11_character_139 (by decide) (Nat.lt_trans (h8 _) (by decide)) (by omega) (fun c_139 => ?_) (fun c_139 => ?_)
                      · refine lv_iconst (v := nI 0) hx hb dX11_character_154 (by decide) ?_
                        exact zr_i hx hb hr hlocks (by unfold chr; (repeat' split) <;> first | rfl | (exfalso; omega)) dX11_character_155
                      · refine lv_aload_n hx hb dX11_character_142 rfl (lv_at hl 4 rfl) ?_
                        refine lv_iload_n hx hb dX11_character_143 rfl (lv_at hl 5 rfl) ?_
                        refine lv_iload hx hb dX11_character_144 (lv_at hl 0 rfl) ?_
                        refine zi_add hx hb dX11_character_146 ?_
                        refine zi_ald hx hb hK hP (by omega) (by omega) dX11_character_147 ?_
                        refine lv_sipush (v := nI 191) hx hb dX11_character_148 (by decide) ?_
                        refine zi_icmp_le (tgt := 156) hx hb dX11_character_151 (by decide) (Nat.lt_trans (h8 _) (by decide)) (by omega) (fun c_151 => ?_) (fun c_151 => ?_)
                        · refine lv_bipush (v := nI 64) hx hb dX11_character_156 (by decide) ?_
                          refine lv_iload hx hb dX11_character_158 (lv_at hl 1 rfl) ?_
                          refine zi_mul hx hb dX11_character_160 ?_
                          refine lv_aload_n hx hb dX11_character_161 rfl (lv_at hl 4 rfl) ?_
                          refine lv_iload_n hx hb dX11_character_162 rfl (lv_at hl 5 rfl) ?_
                          refine lv_iload hx hb dX11_character_163 (lv_at hl 0 rfl) ?_
                          refine zi_add hx hb dX11_character_165 ?_
                          refine zi_ald hx hb hK hP (by omega) (by omega) dX11_character_166 ?_
                          refine zi_add hx hb dX11_character_167 ?_
                          refine lv_sipush (v := nI 128) hx hb dX11_character_168 (by decide) ?_
                          refine zi_sub hx hb (by omega) dX11_character_171 ?_
                          refine lv_istore (lv' := [(5, .int (nI (64 * (64 * (64 * (f a - 240) + (f (a + 1)) - 128) + (f (a + 2)) - 128) + (f (a + 3)) - 128))), (6, .int (nI (3))), (4, .int (nI (4))), (3, .int (nI (f a))), (0, .ref (q)), (1, .int (nI (a))), (2, .int (nI (to)))]) hx hb dX11_character_172 hl (by decide) rfl (fun ls hl => ?_)
                          refine lv_iinc (v := nI (4)) (lv' := [(6, .int (nI (4))), (5, .int (nI (64 * (64 * (64 * (f a - 240) + (f (a + 1)) - 128) + (f (a + 2)) - 128) + (f (a + 3)) - 128))), (4, .int (nI (4))), (3, .int (nI (f a))), (0, .ref (q)), (1, .int (nI (a))), (2, .int (nI (to)))]) hx hb dX11_character_174 hl (k := 1) rfl (nI_add _ _) (by decide) rfl (fun ls hl => ?_)
                          refine lv_goto (tgt := 123) hx hb dX11_character_177 (by decide) ?_
                          refine lv_iload hx hb dX11_character_123 (lv_at hl 0 rfl) ?_
                          refine lv_iload hx hb dX11_character_125 (lv_at hl 2 rfl) ?_
                          refine zi_icmp_ge (tgt := 180) hx hb dX11_character_127 (by decide) (by omega) (by omega) (fun c_127 => ?_) (fun c_127 => absurd c_127 (by decide))
                          refine lv_iload hx hb dX11_character_180 (lv_at hl 2 rfl) ?_
                          refine lv_iconst (v := nI 2) hx hb dX11_character_182 (by decide) ?_
                          refine zi_icmp_ne (tgt := 192) hx hb dX11_character_183 (by decide) (by omega) (by omega) (fun c_183 => ?_) (fun c_183 => absurd c_183 (by decide))
                          refine lv_iload hx hb dX11_character_192 (lv_at hl 2 rfl) ?_
                          refine lv_iconst (v := nI 3) hx hb dX11_character_194 (by decide) ?_
                          refine zi_icmp_ne (tgt := 204) hx hb dX11_character_195 (by decide) (by omega) (by omega) (fun c_195 => ?_) (fun c_195 => absurd c_195 (by decide))
                          refine lv_ldc (v := 65536) hx hb hown (hz _ wk_X11_60) dX11_character_204 ?_
                          refine W.eq (g2 := F0 m 206 ls ([.int (nI (65536))])) rfl ?_
                          refine lv_istore (lv' := [(6, .int (nI (65536))), (5, .int (nI (64 * (64 * (64 * (f a - 240) + (f (a + 1)) - 128) + (f (a + 2)) - 128) + (f (a + 3)) - 128))), (4, .int (nI (4))), (3, .int (nI (f a))), (0, .ref (q)), (1, .int (nI (a))), (2, .int (nI (to)))]) hx hb dX11_character_206 hl (by decide) rfl (fun ls hl => ?_)
                          refine lv_iload hx hb dX11_character_208 (lv_at hl 1 rfl) ?_
                          refine lv_iload hx hb dX11_character_210 (lv_at hl 0 rfl) ?_
                          refine zi_icmp_lt (tgt := 236) hx hb dX11_character_212 (by decide) (by omega) (by omega) (fun c_212 => ?_) (fun c_212 => ?_)
                          · refine lv_iconst (v := nI 0) hx hb dX11_character_236 (by decide) ?_
                            refine lv_goto (tgt := 242) hx hb dX11_character_237 (by decide) ?_
                            exact zr_i hx hb hr hlocks (by unfold chr; (repeat' split) <;> first | rfl | (exfalso; omega)) dX11_character_242
                          · refine lv_iload hx hb dX11_character_215 (lv_at hl 1 rfl) ?_
                            refine lv_ldc (v := 1114111) hx hb hown (hz _ wk_X11_61) dX11_character_217 ?_
                            refine W.eq (g2 := F0 m 219 ls ([.int (nI (1114111)), .int (nI (64 * (64 * (64 * (f a - 240) + (f (a + 1)) - 128) + (f (a + 2)) - 128) + (f (a + 3)) - 128))])) rfl ?_
                            refine zi_icmp_gt (tgt := 236) hx hb dX11_character_219 (by decide) (by omega) (by omega) (fun c_219 => ?_) (fun c_219 => ?_)
                            · refine lv_iconst (v := nI 0) hx hb dX11_character_236 (by decide) ?_
                              refine lv_goto (tgt := 242) hx hb dX11_character_237 (by decide) ?_
                              exact zr_i hx hb hr hlocks (by unfold chr; (repeat' split) <;> first | rfl | (exfalso; omega)) dX11_character_242
                            · refine lv_iload hx hb dX11_character_222 (lv_at hl 1 rfl) ?_
                              refine lv_ldc (v := 55295) hx hb hown (hz _ wk_X11_62) dX11_character_224 ?_
                              refine W.eq (g2 := F0 m 226 ls ([.int (nI (55295)), .int (nI (64 * (64 * (64 * (f a - 240) + (f (a + 1)) - 128) + (f (a + 2)) - 128) + (f (a + 3)) - 128))])) rfl ?_
                              refine zi_icmp_le (tgt := 240) hx hb dX11_character_226 (by decide) (by omega) (by omega) (fun c_226 => ?_) (fun c_226 => ?_)
                              · refine lv_iload hx hb dX11_character_240 (lv_at hl 2 rfl) ?_
                                exact zr_i hx hb hr hlocks (by unfold chr; (repeat' split) <;> first | rfl | (exfalso; omega)) dX11_character_242
                              · refine lv_iload hx hb dX11_character_229 (lv_at hl 1 rfl) ?_
                                refine lv_ldc (v := 57344) hx hb hown (hz _ wk_X11_63) dX11_character_231 ?_
                                refine W.eq (g2 := F0 m 233 ls ([.int (nI (57344)), .int (nI (64 * (64 * (64 * (f a - 240) + (f (a + 1)) - 128) + (f (a + 2)) - 128) + (f (a + 3)) - 128))])) rfl ?_
                                refine zi_icmp_ge (tgt := 240) hx hb dX11_character_233 (by decide) (by omega) (by omega) (fun c_233 => ?_) (fun c_233 => ?_)
                                · refine lv_iload hx hb dX11_character_240 (lv_at hl 2 rfl) ?_
                                  exact zr_i hx hb hr hlocks (by unfold chr; (repeat' split) <;> first | rfl | (exfalso; omega)) dX11_character_242
                                · refine lv_iconst (v := nI 0) hx hb dX11_character_236 (by decide) ?_
                                  refine lv_goto (tgt := 242) hx hb dX11_character_237 (by decide) ?_
                                  exact zr_i hx hb hr hlocks (by unfold chr; (repeat' split) <;> first | rfl | (exfalso; omega)) dX11_character_242
                        · refine lv_iconst (v := nI 0) hx hb dX11_character_154 (by decide) ?_
                          exact zr_i hx hb hr hlocks (by unfold chr; (repeat' split) <;> first | rfl | (exfalso; omega)) dX11_character_155
                    · refine lv_iconst (v := nI 0) hx hb dX11_character_154 (by decide) ?_
                      exact zr_i hx hb hr hlocks (by unfold chr; (repeat' split) <;> first | rfl | (exfalso; omega)) dX11_character_155
                · refine lv_iconst (v := nI 0) hx hb dX11_character_154 (by decide) ?_
                  exact zr_i hx hb hr hlocks (by unfold chr; (repeat' split) <;> first | rfl | (exfalso; omega)) dX11_character_155
            · refine lv_iconst (v := nI 0) hx hb dX11_character_83 (by decide) ?_
              exact zr_i hx hb hr hlocks (by unfold chr; (repeat' split) <;> first | rfl | (exfalso; omega)) dX11_character_84
      · refine lv_iload_n hx hb dX11_character_38 rfl (lv_at hl 0 rfl) ?_
        refine lv_sipush (v := nI 240) hx hb dX11_character_39 (by decide) ?_
        refine zi_icmp_ge (tgt := 49) hx hb dX11_character_42 (by decide) (Nat.lt_trans (h8 _) (by decide)) (by omega) (fun c_42 => ?_) (fun c_42 => ?_)
        · refine lv_iload_n hx hb dX11_character_49 rfl (lv_at hl 0 rfl) ?_
          refine lv_sipush (v := nI 240) hx hb dX11_character_50 (by decide) ?_
          refine zi_icmp_lt (tgt := 67) hx hb dX11_character_53 (by decide) (Nat.lt_trans (h8 _) (by decide)) (by omega) (fun c_53 => ?_) (fun c_53 => ?_)
          · refine lv_iconst (v := nI 0) hx hb dX11_character_67 (by decide) ?_
            refine lv_istore (lv' := [(4, .int (nI (0))), (3, .int (nI (f a))), (0, .ref (q)), (1, .int (nI (a))), (2, .int (nI (to)))]) hx hb dX11_character_68 hl (by decide) rfl (fun ls hl => ?_)
            refine lv_iload hx hb dX11_character_70 (lv_at hl 0 rfl) ?_
            refine zi_if_eq (tgt := 83) hx hb dX11_character_72 (by decide) (by omega) (fun c_72 => ?_) (fun c_72 => absurd c_72 (by decide))
            refine lv_iconst (v := nI 0) hx hb dX11_character_83 (by decide) ?_
            exact zr_i hx hb hr hlocks (by unfold chr; (repeat' split) <;> first | rfl | (exfalso; omega)) dX11_character_84
          · refine lv_iload_n hx hb dX11_character_56 rfl (lv_at hl 0 rfl) ?_
            refine lv_sipush (v := nI 248) hx hb dX11_character_57 (by decide) ?_
            refine zi_icmp_ge (tgt := 67) hx hb dX11_character_60 (by decide) (Nat.lt_trans (h8 _) (by decide)) (by omega) (fun c_60 => ?_) (fun c_60 => ?_)
            · refine lv_iconst (v := nI 0) hx hb dX11_character_67 (by decide) ?_
              refine lv_istore (lv' := [(4, .int (nI (0))), (3, .int (nI (f a))), (0, .ref (q)), (1, .int (nI (a))), (2, .int (nI (to)))]) hx hb dX11_character_68 hl (by decide) rfl (fun ls hl => ?_)
              refine lv_iload hx hb dX11_character_70 (lv_at hl 0 rfl) ?_
              refine zi_if_eq (tgt := 83) hx hb dX11_character_72 (by decide) (by omega) (fun c_72 => ?_) (fun c_72 => absurd c_72 (by decide))
              refine lv_iconst (v := nI 0) hx hb dX11_character_83 (by decide) ?_
              exact zr_i hx hb hr hlocks (by unfold chr; (repeat' split) <;> first | rfl | (exfalso; omega)) dX11_character_84
            · refine lv_iconst (v := nI 4) hx hb dX11_character_63 (by decide) ?_
              refine lv_goto (tgt := 68) hx hb dX11_character_64 (by decide) ?_
              refine lv_istore (lv' := [(4, .int (nI (4))), (3, .int (nI (f a))), (0, .ref (q)), (1, .int (nI (a))), (2, .int (nI (to)))]) hx hb dX11_character_68 hl (by decide) rfl (fun ls hl => ?_)
              refine lv_iload hx hb dX11_character_70 (lv_at hl 0 rfl) ?_
              refine zi_if_eq (tgt := 83) hx hb dX11_character_72 (by decide) (by omega) (fun c_72 => absurd c_72 (by decide)) (fun c_72 => ?_)
              refine lv_iload_n hx hb dX11_character_75 rfl (lv_at hl 3 rfl) ?_
              refine lv_iload hx hb dX11_character_76 (lv_at hl 0 rfl) ?_
              refine zi_add hx hb dX11_character_78 ?_
              refine lv_iload_n hx hb dX11_character_79 rfl (lv_at hl 4 rfl) ?_
              refine zi_icmp_le (tgt := 85) hx hb dX11_character_80 (by decide) (by omega) (by omega) (fun c_80 => ?_) (fun c_80 => ?_)
              · refine lv_iload hx hb dX11_character_85 (lv_at hl 0 rfl) ?_
                refine lv_iconst (v := nI 2) hx hb dX11_character_87 (by decide) ?_
                refine zi_icmp_ne (tgt := 99) hx hb dX11_character_88 (by decide) (by omega) (by omega) (fun c_88 => ?_) (fun c_88 => absurd c_88 (by decide))
                refine lv_iload hx hb dX11_character_99 (lv_at hl 0 rfl) ?_
                refine lv_iconst (v := nI 3) hx hb dX11_character_101 (by decide) ?_
                refine zi_icmp_ne (tgt := 113) hx hb dX11_character_102 (by decide) (by omega) (by omega) (fun c_102 => ?_) (fun c_102 => absurd c_102 (by decide))
                refine lv_iload_n hx hb dX11_character_113 rfl (lv_at hl 1 rfl) ?_
                refine lv_sipush (v := nI 240) hx hb dX11_character_114 (by decide) ?_
                refine zi_sub hx hb (by omega) dX11_character_117 ?_
                refine lv_istore (lv' := [(5, .int (nI (f a - 240))), (4, .int (nI (4))), (3, .int (nI (f a))), (0, .ref (q)), (1, .int (nI (a))), (2, .int (nI (to)))]) hx hb dX11_character_118 hl (by decide) rfl (fun ls hl => ?_)
                refine lv_iconst (v := nI 1) hx hb dX11_character_120 (by decide) ?_
                refine lv_istore (lv' := [(6, .int (nI (1))), (5, .int (nI (f a - 240))), (4, .int (nI (4))), (3, .int (nI (f a))), (0, .ref (q)), (1, .int (nI (a))), (2, .int (nI (to)))]) hx hb dX11_character_121 hl (by decide) rfl (fun ls hl => ?_)
                refine lv_iload hx hb dX11_character_123 (lv_at hl 0 rfl) ?_
                refine lv_iload hx hb dX11_character_125 (lv_at hl 2 rfl) ?_
                refine zi_icmp_ge (tgt := 180) hx hb dX11_character_127 (by decide) (by omega) (by omega) (fun c_127 => absurd c_127 (by decide)) (fun c_127 => ?_)
                refine lv_aload_n hx hb dX11_character_130 rfl (lv_at hl 4 rfl) ?_
                refine lv_iload_n hx hb dX11_character_131 rfl (lv_at hl 5 rfl) ?_
                refine lv_iload hx hb dX11_character_132 (lv_at hl 0 rfl) ?_
                refine zi_add hx hb dX11_character_134 ?_
                refine zi_ald hx hb hK hP (by omega) (by omega) dX11_character_135 ?_
                refine lv_sipush (v := nI 128) hx hb dX11_character_136 (by decide) ?_
                refine zi_icmp_lt (tgt := 154) hx hb dX11_character_139 (by decide) (Nat.lt_trans (h8 _) (by decide)) (by omega) (fun c_139 => ?_) (fun c_139 => ?_)
                · refine lv_iconst (v := nI 0) hx hb dX11_character_154 (by decide) ?_
                  exact zr_i hx hb hr hlocks (by unfold chr; (repeat' split) <;> first | rfl | (exfalso; omega)) dX11_character_155
                · refine lv_aload_n hx hb dX11_character_142 rfl (lv_at hl 4 rfl) ?_
                  refine lv_iload_n hx hb dX11_character_143 rfl (lv_at hl 5 rfl) ?_
                  refine lv_iload hx hb dX11_character_144 (lv_at hl 0 rfl) ?_
                  refine zi_add hx hb dX11_character_146 ?_
                  refine zi_ald hx hb hK hP (by omega) (by omega) dX11_character_147 ?_
                  refine lv_sipush (v := nI 191) hx hb dX11_character_148 (by decide) ?_
                  refine zi_icmp_le (tgt := 156) hx hb dX11_character_151 (by decide) (Nat.lt_trans (h8 _) (by decide)) (by omega) (fun c_151 => ?_) (fun c_151 => ?_)
                  · refine lv_bipush (v := nI 64) hx hb dX11_character_156 (by decide) ?_
                    refine lv_iload hx hb dX11_character_158 (lv_at hl 1 rfl) ?_
                    refine zi_mul hx hb dX11_character_160 ?_
                    refine lv_aload_n hx hb dX11_character_161 rfl (lv_at hl 4 rfl) ?_
                    refine lv_iload_n hx hb dX11_character_162 rfl (lv_at hl 5 rfl) ?_
                    refine lv_iload hx hb dX11_character_163 (lv_at hl 0 rfl) ?_
                    refine zi_add hx hb dX11_character_165 ?_
                    refine zi_ald hx hb hK hP (by omega) (by omega) dX11_character_166 ?_
                    refine zi_add hx hb dX11_character_167 ?_
                    refine lv_sipush (v := nI 128) hx hb dX11_character_168 (by decide) ?_
                    refine zi_sub hx hb (by omega) dX11_character_171 ?_
                    refine lv_istore (lv' := [(5, .int (nI (64 * (f a - 240) + (f (a + 1)) - 128))), (6, .int (nI (1))), (4, .int (nI (4))), (3, .int (nI (f a))), (0, .ref (q)), (1, .int (nI (a))), (2, .int (nI (to)))]) hx hb dX11_character_172 hl (by decide) rfl (fun ls hl => ?_)
                    refine lv_iinc (v := nI (2)) (lv' := [(6, .int (nI (2))), (5, .int (nI (64 * (f a - 240) + (f (a + 1)) - 128))), (4, .int (nI (4))), (3, .int (nI (f a))), (0, .ref (q)), (1, .int (nI (a))), (2, .int (nI (to)))]) hx hb dX11_character_174 hl (k := 1) rfl (nI_add _ _) (by decide) rfl (fun ls hl => ?_)
                    refine lv_goto (tgt := 123) hx hb dX11_character_177 (by decide) ?_
                    refine lv_iload hx hb dX11_character_123 (lv_at hl 0 rfl) ?_
                    refine lv_iload hx hb dX11_character_125 (lv_at hl 2 rfl) ?_
                    refine zi_icmp_ge (tgt := 180) hx hb dX11_character_127 (by decide) (by omega) (by omega) (fun c_127 => absurd c_127 (by decide)) (fun c_127 => ?_)
                    refine lv_aload_n hx hb dX11_character_130 rfl (lv_at hl 4 rfl) ?_
                    refine lv_iload_n hx hb dX11_character_131 rfl (lv_at hl 5 rfl) ?_
                    refine lv_iload hx hb dX11_character_132 (lv_at hl 0 rfl) ?_
                    refine zi_add hx hb dX11_character_134 ?_
                    refine zi_ald hx hb hK hP (by omega) (by omega) dX11_character_135 ?_
                    refine lv_sipush (v := nI 128) hx hb dX11_character_136 (by decide) ?_
                    refine zi_icmp_lt (tgt := 154) hx hb dX11_character_139 (by decide) (Nat.lt_trans (h8 _) (by decide)) (by omega) (fun c_139 => ?_) (fun c_139 => ?_)
                    · refine lv_iconst (v := nI 0) hx hb dX11_character_154 (by decide) ?_
                      exact zr_i hx hb hr hlocks (by unfold chr; (repeat' split) <;> first | rfl | (exfalso; omega)) dX11_character_155
                    · refine lv_aload_n hx hb dX11_character_142 rfl (lv_at hl 4 rfl) ?_
                      refine lv_iload_n hx hb dX11_character_143 rfl (lv_at hl 5 rfl) ?_
                      refine lv_iload hx hb dX11_character_144 (lv_at hl 0 rfl) ?_
                      refine zi_add hx hb dX11_character_146 ?_
                      refine zi_ald hx hb hK hP (by omega) (by omega) dX11_character_147 ?_
                      refine lv_sipush (v := nI 191) hx hb dX11_character_148 (by decide) ?_
                      refine zi_icmp_le (tgt := 156) hx hb dX11_character_151 (by decide) (Nat.lt_trans (h8 _) (by decide)) (by omega) (fun c_151 => ?_) (fun c_151 => ?_)
                      · refine lv_bipush (v := nI 64) hx hb dX11_character_156 (by decide) ?_
                        refine lv_iload hx hb dX11_character_158 (lv_at hl 1 rfl) ?_
                        refine zi_mul hx hb dX11_character_160 ?_
                        refine lv_aload_n hx hb dX11_character_161 rfl (lv_at hl 4 rfl) ?_
                        refine lv_iload_n hx hb dX11_character_162 rfl (lv_at hl 5 rfl) ?_
                        refine lv_iload hx hb dX11_character_163 (lv_at hl 0 rfl) ?_
                        refine zi_add hx hb dX11_character_165 ?_
                        refine zi_ald hx hb hK hP (by omega) (by omega) dX11_character_166 ?_
                        refine zi_add hx hb dX11_character_167 ?_
                        refine lv_sipush (v := nI 128) hx hb dX11_character_168 (by decide) ?_
                        refine zi_sub hx hb (by omega) dX11_character_171 ?_
                        refine lv_istore (lv' := [(5, .int (nI (64 * (64 * (f a - 240) + (f (a + 1)) - 128) + (f (a + 2)) - 128))), (6, .int (nI (2))), (4, .int (nI (4))), (3, .int (nI (f a))), (0, .ref (q)), (1, .int (nI (a))), (2, .int (nI (to)))]) hx hb dX11_character_172 hl (by decide) rfl (fun ls hl => ?_)
                        refine lv_iinc (v := nI (3)) (lv' := [(6, .int (nI (3))), (5, .int (nI (64 * (64 * (f a - 240) + (f (a + 1)) - 128) + (f (a + 2)) - 128))), (4, .int (nI (4))), (3, .int (nI (f a))), (0, .ref (q)), (1, .int (nI (a))), (2, .int (nI (to)))]) hx hb dX11_character_174 hl (k := 1) rfl (nI_add _ _) (by decide) rfl (fun ls hl => ?_)
                        refine lv_goto (tgt := 123) hx hb dX11_character_177 (by decide) ?_
                        refine lv_iload hx hb dX11_character_123 (lv_at hl 0 rfl) ?_
                        refine lv_iload hx hb dX11_character_125 (lv_at hl 2 rfl) ?_
                        refine zi_icmp_ge (tgt := 180) hx hb dX11_character_127 (by decide) (by omega) (by omega) (fun c_127 => absurd c_127 (by decide)) (fun c_127 => ?_)
                        refine lv_aload_n hx hb dX11_character_130 rfl (lv_at hl 4 rfl) ?_
                        refine lv_iload_n hx hb dX11_character_131 rfl (lv_at hl 5 rfl) ?_
                        refine lv_iload hx hb dX11_character_132 (lv_at hl 0 rfl) ?_
                        refine zi_add hx hb dX11_character_134 ?_
                        refine zi_ald hx hb hK hP (by omega) (by omega) dX11_character_135 ?_
                        refine lv_sipush (v := nI 128) hx hb dX11_character_136 (by decide) ?_
                        refine zi_icmp_lt (tgt := 154) hx hb dX11_character_139 (by decide) (Nat.lt_trans (h8 _) (by decide)) (by omega) (fun c_139 => ?_) (fun c_139 => ?_)
                        · refine lv_iconst (v := nI 0) hx hb dX11_character_154 (by decide) ?_
                          exact zr_i hx hb hr hlocks (by unfold chr; (repeat' split) <;> first | rfl | (exfalso; omega)) dX11_character_155
                        · refine lv_aload_n hx hb dX11_character_142 rfl (lv_at hl 4 rfl) ?_
                          refine lv_iload_n hx hb dX11_character_143 rfl (lv_at hl 5 rfl) ?_
                          refine lv_iload hx hb dX11_character_144 (lv_at hl 0 rfl) ?_
                          refine zi_add hx hb dX11_character_146 ?_
                          refine zi_ald hx hb hK hP (by omega) (by omega) dX11_character_147 ?_
                          refine lv_sipush (v := nI 191) hx hb dX11_character_148 (by decide) ?_
                          refine zi_icmp_le (tgt := 156) hx hb dX11_character_151 (by decide) (Nat.lt_trans (h8 _) (by decide)) (by omega) (fun c_151 => ?_) (fun c_151 => ?_)
                          · refine lv_bipush (v := nI 64) hx hb dX11_character_156 (by decide) ?_
                            refine lv_iload hx hb dX11_character_158 (lv_at hl 1 rfl) ?_
                            refine zi_mul hx hb dX11_character_160 ?_
                            refine lv_aload_n hx hb dX11_character_161 rfl (lv_at hl 4 rfl) ?_
                            refine lv_iload_n hx hb dX11_character_162 rfl (lv_at hl 5 rfl) ?_
                            refine lv_iload hx hb dX11_character_163 (lv_at hl 0 rfl) ?_
                            refine zi_add hx hb dX11_character_165 ?_
                            refine zi_ald hx hb hK hP (by omega) (by omega) dX11_character_166 ?_
                            refine zi_add hx hb dX11_character_167 ?_
                            refine lv_sipush (v := nI 128) hx hb dX11_character_168 (by decide) ?_
                            refine zi_sub hx hb (by omega) dX11_character_171 ?_
                            refine lv_istore (lv' := [(5, .int (nI (64 * (64 * (64 * (f a - 240) + (f (a + 1)) - 128) + (f (a + 2)) - 128) + (f (a + 3)) - 128))), (6, .int (nI (3))), (4, .int (nI (4))), (3, .int (nI (f a))), (0, .ref (q)), (1, .int (nI (a))), (2, .int (nI (to)))]) hx hb dX11_character_172 hl (by decide) rfl (fun ls hl => ?_)
                            refine lv_iinc (v := nI (4)) (lv' := [(6, .int (nI (4))), (5, .int (nI (64 * (64 * (64 * (f a - 240) + (f (a + 1)) - 128) + (f (a + 2)) - 128) + (f (a + 3)) - 128))), (4, .int (nI (4))), (3, .int (nI (f a))), (0, .ref (q)), (1, .int (nI (a))), (2, .int (nI (to)))]) hx hb dX11_character_174 hl (k := 1) rfl (nI_add _ _) (by decide) rfl (fun ls hl => ?_)
                            refine lv_goto (tgt := 123) hx hb dX11_character_177 (by decide) ?_
                            refine lv_iload hx hb dX11_character_123 (lv_at hl 0 rfl) ?_
                            refine lv_iload hx hb dX11_character_125 (lv_at hl 2 rfl) ?_
                            refine zi_icmp_ge (tgt := 180) hx hb dX11_character_127 (by decide) (by omega) (by omega) (fun c_127 => ?_) (fun c_127 => absurd c_127 (by decide))
                            refine lv_iload hx hb dX11_character_180 (lv_at hl 2 rfl) ?_
                            refine lv_iconst (v := nI 2) hx hb dX11_character_182 (by decide) ?_
                            refine zi_icmp_ne (tgt := 192) hx hb dX11_character_183 (by decide) (by omega) (by omega) (fun c_183 => ?_) (fun c_183 => absurd c_183 (by decide))
                            refine lv_iload hx hb dX11_character_192 (lv_at hl 2 rfl) ?_
                            refine lv_iconst (v := nI 3) hx hb dX11_character_194 (by decide) ?_
                            refine zi_icmp_ne (tgt := 204) hx hb dX11_character_195 (by decide) (by omega) (by omega) (fun c_195 => ?_) (fun c_195 => absurd c_195 (by decide))
                            refine lv_ldc (v := 65536) hx hb hown (hz _ wk_X11_60) dX11_character_204 ?_
                            refine W.eq (g2 := F0 m 206 ls ([.int (nI (65536))])) rfl ?_
                            refine lv_istore (lv' := [(6, .int (nI (65536))), (5, .int (nI (64 * (64 * (64 * (f a - 240) + (f (a + 1)) - 128) + (f (a + 2)) - 128) + (f (a + 3)) - 128))), (4, .int (nI (4))), (3, .int (nI (f a))), (0, .ref (q)), (1, .int (nI (a))), (2, .int (nI (to)))]) hx hb dX11_character_206 hl (by decide) rfl (fun ls hl => ?_)
                            refine lv_iload hx hb dX11_character_208 (lv_at hl 1 rfl) ?_
                            refine lv_iload hx hb dX11_character_210 (lv_at hl 0 rfl) ?_
                            refine zi_icmp_lt (tgt := 236) hx hb dX11_character_212 (by decide) (by omega) (by omega) (fun c_212 => ?_) (fun c_212 => ?_)
                            · refine lv_iconst (v := nI 0) hx hb dX11_character_236 (by decide) ?_
                              refine lv_goto (tgt := 242) hx hb dX11_character_237 (by decide) ?_
                              exact zr_i hx hb hr hlocks (by unfold chr; (repeat' split) <;> first | rfl | (exfalso; omega)) dX11_character_242
                            · refine lv_iload hx hb dX11_character_215 (lv_at hl 1 rfl) ?_
                              refine lv_ldc (v := 1114111) hx hb hown (hz _ wk_X11_61) dX11_character_217 ?_
                              refine W.eq (g2 := F0 m 219 ls ([.int (nI (1114111)), .int (nI (64 * (64 * (64 * (f a - 240) + (f (a + 1)) - 128) + (f (a + 2)) - 128) + (f (a + 3)) - 128))])) rfl ?_
                              refine zi_icmp_gt (tgt := 236) hx hb dX11_character_219 (by decide) (by omega) (by omega) (fun c_219 => ?_) (fun c_219 => ?_)
                              · refine lv_iconst (v := nI 0) hx hb dX11_character_236 (by decide) ?_
                                refine lv_goto (tgt := 242) hx hb dX11_character_237 (by decide) ?_
                                exact zr_i hx hb hr hlocks (by unfold chr; (repeat' split) <;> first | rfl | (exfalso; omega)) dX11_character_242
                              · refine lv_iload hx hb dX11_character_222 (lv_at hl 1 rfl) ?_
                                refine lv_ldc (v := 55295) hx hb hown (hz _ wk_X11_62) dX11_character_224 ?_
                                refine W.eq (g2 := F0 m 226 ls ([.int (nI (55295)), .int (nI (64 * (64 * (64 * (f a - 240) + (f (a + 1)) - 128) + (f (a + 2)) - 128) + (f (a + 3)) - 128))])) rfl ?_
                                refine zi_icmp_le (tgt := 240) hx hb dX11_character_226 (by decide) (by omega) (by omega) (fun c_226 => ?_) (fun c_226 => ?_)
                                · refine lv_iload hx hb dX11_character_240 (lv_at hl 2 rfl) ?_
                                  exact zr_i hx hb hr hlocks (by unfold chr; (repeat' split) <;> first | rfl | (exfalso; omega)) dX11_character_242
                                · refine lv_iload hx hb dX11_character_229 (lv_at hl 1 rfl) ?_
                                  refine lv_ldc (v := 57344) hx hb hown (hz _ wk_X11_63) dX11_character_231 ?_
                                  refine W.eq (g2 := F0 m 233 ls ([.int (nI (57344)), .int (nI (64 * (64 * (64 * (f a - 240) + (f (a + 1)) - 128) + (f (a + 2)) - 128) + (f (a + 3)) - 128))])) rfl ?_
                                  refine zi_icmp_ge (tgt := 240) hx hb dX11_character_233 (by decide) (by omega) (by omega) (fun c_233 => ?_) (fun c_233 => ?_)
                                  · refine lv_iload hx hb dX11_character_240 (lv_at hl 2 rfl) ?_
                                    exact zr_i hx hb hr hlocks (by unfold chr; (repeat' split) <;> first | rfl | (exfalso; omega)) dX11_character_242
                                  · refine lv_iconst (v := nI 0) hx hb dX11_character_236 (by decide) ?_
                                    refine lv_goto (tgt := 242) hx hb dX11_character_237 (by decide) ?_
                                    exact zr_i hx hb hr hlocks (by unfold chr; (repeat' split) <;> first | rfl | (exfalso; omega)) dX11_character_242
                          · refine lv_iconst (v := nI 0) hx hb dX11_character_154 (by decide) ?_
                            exact zr_i hx hb hr hlocks (by unfold chr; (repeat' split) <;> first | rfl | (exfalso; omega)) dX11_character_155
                      · refine lv_iconst (v := nI 0) hx hb dX11_character_154 (by decide) ?_
                        exact zr_i hx hb hr hlocks (by unfold chr; (repeat' split) <;> first | rfl | (exfalso; omega)) dX11_character_155
                  · refine lv_iconst (v := nI 0) hx hb dX11_character_154 (by decide) ?_
                    exact zr_i hx hb hr hlocks (by unfold chr; (repeat' split) <;> first | rfl | (exfalso; omega)) dX11_character_155
              · refine lv_iconst (v := nI 0) hx hb dX11_character_83 (by decide) ?_
                exact zr_i hx hb hr hlocks (by unfold chr; (repeat' split) <;> first | rfl | (exfalso; omega)) dX11_character_84
        · refine lv_iconst (v := nI 3) hx hb dX11_character_45 (by decide) ?_
          refine lv_goto (tgt := 68) hx hb dX11_character_46 (by decide) ?_
          refine lv_istore (lv' := [(4, .int (nI (3))), (3, .int (nI (f a))), (0, .ref (q)), (1, .int (nI (a))), (2, .int (nI (to)))]) hx hb dX11_character_68 hl (by decide) rfl (fun ls hl => ?_)
          refine lv_iload hx hb dX11_character_70 (lv_at hl 0 rfl) ?_
          refine zi_if_eq (tgt := 83) hx hb dX11_character_72 (by decide) (by omega) (fun c_72 => absurd c_72 (by decide)) (fun c_72 => ?_)
          refine lv_iload_n hx hb dX11_character_75 rfl (lv_at hl 3 rfl) ?_
          refine lv_iload hx hb dX11_character_76 (lv_at hl 0 rfl) ?_
          refine zi_add hx hb dX11_character_78 ?_
          refine lv_iload_n hx hb dX11_character_79 rfl (lv_at hl 4 rfl) ?_
          refine zi_icmp_le (tgt := 85) hx hb dX11_character_80 (by decide) (by omega) (by omega) (fun c_80 => ?_) (fun c_80 => ?_)
          · refine lv_iload hx hb dX11_character_85 (lv_at hl 0 rfl) ?_
            refine lv_iconst (v := nI 2) hx hb dX11_character_87 (by decide) ?_
            refine zi_icmp_ne (tgt := 99) hx hb dX11_character_88 (by decide) (by omega) (by omega) (fun c_88 => ?_) (fun c_88 => absurd c_88 (by decide))
            refine lv_iload hx hb dX11_character_99 (lv_at hl 0 rfl) ?_
            refine lv_iconst (v := nI 3) hx hb dX11_character_101 (by decide) ?_
            refine zi_icmp_ne (tgt := 113) hx hb dX11_character_102 (by decide) (by omega) (by omega) (fun c_102 => absurd c_102 (by decide)) (fun c_102 => ?_)
            refine lv_iload_n hx hb dX11_character_105 rfl (lv_at hl 1 rfl) ?_
            refine lv_sipush (v := nI 224) hx hb dX11_character_106 (by decide) ?_
            refine zi_sub hx hb (by omega) dX11_character_109 ?_
            refine lv_goto (tgt := 118) hx hb dX11_character_110 (by decide) ?_
            refine lv_istore (lv' := [(5, .int (nI (f a - 224))), (4, .int (nI (3))), (3, .int (nI (f a))), (0, .ref (q)), (1, .int (nI (a))), (2, .int (nI (to)))]) hx hb dX11_character_118 hl (by decide) rfl (fun ls hl => ?_)
            refine lv_iconst (v := nI 1) hx hb dX11_character_120 (by decide) ?_
            refine lv_istore (lv' := [(6, .int (nI (1))), (5, .int (nI (f a - 224))), (4, .int (nI (3))), (3, .int (nI (f a))), (0, .ref (q)), (1, .int (nI (a))), (2, .int (nI (to)))]) hx hb dX11_character_121 hl (by decide) rfl (fun ls hl => ?_)
            refine lv_iload hx hb dX11_character_123 (lv_at hl 0 rfl) ?_
            refine lv_iload hx hb dX11_character_125 (lv_at hl 2 rfl) ?_
            refine zi_icmp_ge (tgt := 180) hx hb dX11_character_127 (by decide) (by omega) (by omega) (fun c_127 => absurd c_127 (by decide)) (fun c_127 => ?_)
            refine lv_aload_n hx hb dX11_character_130 rfl (lv_at hl 4 rfl) ?_
            refine lv_iload_n hx hb dX11_character_131 rfl (lv_at hl 5 rfl) ?_
            refine lv_iload hx hb dX11_character_132 (lv_at hl 0 rfl) ?_
            refine zi_add hx hb dX11_character_134 ?_
            refine zi_ald hx hb hK hP (by omega) (by omega) dX11_character_135 ?_
            refine lv_sipush (v := nI 128) hx hb dX11_character_136 (by decide) ?_
            refine zi_icmp_lt (tgt := 154) hx hb dX11_character_139 (by decide) (Nat.lt_trans (h8 _) (by decide)) (by omega) (fun c_139 => ?_) (fun c_139 => ?_)
            · refine lv_iconst (v := nI 0) hx hb dX11_character_154 (by decide) ?_
              exact zr_i hx hb hr hlocks (by unfold chr; (repeat' split) <;> first | rfl | (exfalso; omega)) dX11_character_155
            · refine lv_aload_n hx hb dX11_character_142 rfl (lv_at hl 4 rfl) ?_
              refine lv_iload_n hx hb dX11_character_143 rfl (lv_at hl 5 rfl) ?_
              refine lv_iload hx hb dX11_character_144 (lv_at hl 0 rfl) ?_
              refine zi_add hx hb dX11_character_146 ?_
              refine zi_ald hx hb hK hP (by omega) (by omega) dX11_character_147 ?_
              refine lv_sipush (v := nI 191) hx hb dX11_character_148 (by decide) ?_
              refine zi_icmp_le (tgt := 156) hx hb dX11_character_151 (by decide) (Nat.lt_trans (h8 _) (by decide)) (by omega) (fun c_151 => ?_) (fun c_151 => ?_)
              · refine lv_bipush (v := nI 64) hx hb dX11_character_156 (by decide) ?_
                refine lv_iload hx hb dX11_character_158 (lv_at hl 1 rfl) ?_
                refine zi_mul hx hb dX11_character_160 ?_
                refine lv_aload_n hx hb dX11_character_161 rfl (lv_at hl 4 rfl) ?_
                refine lv_iload_n hx hb dX11_character_162 rfl (lv_at hl 5 rfl) ?_
                refine lv_iload hx hb dX11_character_163 (lv_at hl 0 rfl) ?_
                refine zi_add hx hb dX11_character_165 ?_
                refine zi_ald hx hb hK hP (by omega) (by omega) dX11_character_166 ?_
                refine zi_add hx hb dX11_character_167 ?_
                refine lv_sipush (v := nI 128) hx hb dX11_character_168 (by decide) ?_
                refine zi_sub hx hb (by omega) dX11_character_171 ?_
                refine lv_istore (lv' := [(5, .int (nI (64 * (f a - 224) + (f (a + 1)) - 128))), (6, .int (nI (1))), (4, .int (nI (3))), (3, .int (nI (f a))), (0, .ref (q)), (1, .int (nI (a))), (2, .int (nI (to)))]) hx hb dX11_character_172 hl (by decide) rfl (fun ls hl => ?_)
                refine lv_iinc (v := nI (2)) (lv' := [(6, .int (nI (2))), (5, .int (nI (64 * (f a - 224) + (f (a + 1)) - 128))), (4, .int (nI (3))), (3, .int (nI (f a))), (0, .ref (q)), (1, .int (nI (a))), (2, .int (nI (to)))]) hx hb dX11_character_174 hl (k := 1) rfl (nI_add _ _) (by decide) rfl (fun ls hl => ?_)
                refine lv_goto (tgt := 123) hx hb dX11_character_177 (by decide) ?_
                refine lv_iload hx hb dX11_character_123 (lv_at hl 0 rfl) ?_
                refine lv_iload hx hb dX11_character_125 (lv_at hl 2 rfl) ?_
                refine zi_icmp_ge (tgt := 180) hx hb dX11_character_127 (by decide) (by omega) (by omega) (fun c_127 => absurd c_127 (by decide)) (fun c_127 => ?_)
                refine lv_aload_n hx hb dX11_character_130 rfl (lv_at hl 4 rfl) ?_
                refine lv_iload_n hx hb dX11_character_131 rfl (lv_at hl 5 rfl) ?_
                refine lv_iload hx hb dX11_character_132 (lv_at hl 0 rfl) ?_
                refine zi_add hx hb dX11_character_134 ?_
                refine zi_ald hx hb hK hP (by omega) (by omega) dX11_character_135 ?_
                refine lv_sipush (v := nI 128) hx hb dX11_character_136 (by decide) ?_
                refine zi_icmp_lt (tgt := 154) hx hb dX11_character_139 (by decide) (Nat.lt_trans (h8 _) (by decide)) (by omega) (fun c_139 => ?_) (fun c_139 => ?_)
                · refine lv_iconst (v := nI 0) hx hb dX11_character_154 (by decide) ?_
                  exact zr_i hx hb hr hlocks (by unfold chr; (repeat' split) <;> first | rfl | (exfalso; omega)) dX11_character_155
                · refine lv_aload_n hx hb dX11_character_142 rfl (lv_at hl 4 rfl) ?_
                  refine lv_iload_n hx hb dX11_character_143 rfl (lv_at hl 5 rfl) ?_
                  refine lv_iload hx hb dX11_character_144 (lv_at hl 0 rfl) ?_
                  refine zi_add hx hb dX11_character_146 ?_
                  refine zi_ald hx hb hK hP (by omega) (by omega) dX11_character_147 ?_
                  refine lv_sipush (v := nI 191) hx hb dX11_character_148 (by decide) ?_
                  refine zi_icmp_le (tgt := 156) hx hb dX11_character_151 (by decide) (Nat.lt_trans (h8 _) (by decide)) (by omega) (fun c_151 => ?_) (fun c_151 => ?_)
                  · refine lv_bipush (v := nI 64) hx hb dX11_character_156 (by decide) ?_
                    refine lv_iload hx hb dX11_character_158 (lv_at hl 1 rfl) ?_
                    refine zi_mul hx hb dX11_character_160 ?_
                    refine lv_aload_n hx hb dX11_character_161 rfl (lv_at hl 4 rfl) ?_
                    refine lv_iload_n hx hb dX11_character_162 rfl (lv_at hl 5 rfl) ?_
                    refine lv_iload hx hb dX11_character_163 (lv_at hl 0 rfl) ?_
                    refine zi_add hx hb dX11_character_165 ?_
                    refine zi_ald hx hb hK hP (by omega) (by omega) dX11_character_166 ?_
                    refine zi_add hx hb dX11_character_167 ?_
                    refine lv_sipush (v := nI 128) hx hb dX11_character_168 (by decide) ?_
                    refine zi_sub hx hb (by omega) dX11_character_171 ?_
                    refine lv_istore (lv' := [(5, .int (nI (64 * (64 * (f a - 224) + (f (a + 1)) - 128) + (f (a + 2)) - 128))), (6, .int (nI (2))), (4, .int (nI (3))), (3, .int (nI (f a))), (0, .ref (q)), (1, .int (nI (a))), (2, .int (nI (to)))]) hx hb dX11_character_172 hl (by decide) rfl (fun ls hl => ?_)
                    refine lv_iinc (v := nI (3)) (lv' := [(6, .int (nI (3))), (5, .int (nI (64 * (64 * (f a - 224) + (f (a + 1)) - 128) + (f (a + 2)) - 128))), (4, .int (nI (3))), (3, .int (nI (f a))), (0, .ref (q)), (1, .int (nI (a))), (2, .int (nI (to)))]) hx hb dX11_character_174 hl (k := 1) rfl (nI_add _ _) (by decide) rfl (fun ls hl => ?_)
                    refine lv_goto (tgt := 123) hx hb dX11_character_177 (by decide) ?_
                    refine lv_iload hx hb dX11_character_123 (lv_at hl 0 rfl) ?_
                    refine lv_iload hx hb dX11_character_125 (lv_at hl 2 rfl) ?_
                    refine zi_icmp_ge (tgt := 180) hx hb dX11_character_127 (by decide) (by omega) (by omega) (fun c_127 => ?_) (fun c_127 => absurd c_127 (by decide))
                    refine lv_iload hx hb dX11_character_180 (lv_at hl 2 rfl) ?_
                    refine lv_iconst (v := nI 2) hx hb dX11_character_182 (by decide) ?_
                    refine zi_icmp_ne (tgt := 192) hx hb dX11_character_183 (by decide) (by omega) (by omega) (fun c_183 => ?_) (fun c_183 => absurd c_183 (by decide))
                    refine lv_iload hx hb dX11_character_192 (lv_at hl 2 rfl) ?_
                    refine lv_iconst (v := nI 3) hx hb dX11_character_194 (by decide) ?_
                    refine zi_icmp_ne (tgt := 204) hx hb dX11_character_195 (by decide) (by omega) (by omega) (fun c_195 => absurd c_195 (by decide)) (fun c_195 => ?_)
                    refine lv_sipush (v := nI 2048) hx hb dX11_character_198 (by decide) ?_
                    refine lv_goto (tgt := 206) hx hb dX11_character_201 (by decide) ?_
                    refine lv_istore (lv' := [(6, .int (nI (2048))), (5, .int (nI (64 * (64 * (f a - 224) + (f (a + 1)) - 128) + (f (a + 2)) - 128))), (4, .int (nI (3))), (3, .int (nI (f a))), (0, .ref (q)), (1, .int (nI (a))), (2, .int (nI (to)))]) hx hb dX11_character_206 hl (by decide) rfl (fun ls hl => ?_)
                    refine lv_iload hx hb dX11_character_208 (lv_at hl 1 rfl) ?_
                    refine lv_iload hx hb dX11_character_210 (lv_at hl 0 rfl) ?_
                    refine zi_icmp_lt (tgt := 236) hx hb dX11_character_212 (by decide) (by omega) (by omega) (fun c_212 => ?_) (fun c_212 => ?_)
                    · refine lv_iconst (v := nI 0) hx hb dX11_character_236 (by decide) ?_
                      refine lv_goto (tgt := 242) hx hb dX11_character_237 (by decide) ?_
                      exact zr_i hx hb hr hlocks (by unfold chr; (repeat' split) <;> first | rfl | (exfalso; omega)) dX11_character_242
                    · refine lv_iload hx hb dX11_character_215 (lv_at hl 1 rfl) ?_
                      refine lv_ldc (v := 1114111) hx hb hown (hz _ wk_X11_61) dX11_character_217 ?_
                      refine W.eq (g2 := F0 m 219 ls ([.int (nI (1114111)), .int (nI (64 * (64 * (f a - 224) + (f (a + 1)) - 128) + (f (a + 2)) - 128))])) rfl ?_
                      refine zi_icmp_gt (tgt := 236) hx hb dX11_character_219 (by decide) (by omega) (by omega) (fun c_219 => ?_) (fun c_219 => ?_)
                      · refine lv_iconst (v := nI 0) hx hb dX11_character_236 (by decide) ?_
                        refine lv_goto (tgt := 242) hx hb dX11_character_237 (by decide) ?_
                        exact zr_i hx hb hr hlocks (by unfold chr; (repeat' split) <;> first | rfl | (exfalso; omega)) dX11_character_242
                      · refine lv_iload hx hb dX11_character_222 (lv_at hl 1 rfl) ?_
                        refine lv_ldc (v := 55295) hx hb hown (hz _ wk_X11_62) dX11_character_224 ?_
                        refine W.eq (g2 := F0 m 226 ls ([.int (nI (55295)), .int (nI (64 * (64 * (f a - 224) + (f (a + 1)) - 128) + (f (a + 2)) - 128))])) rfl ?_
                        refine zi_icmp_le (tgt := 240) hx hb dX11_character_226 (by decide) (by omega) (by omega) (fun c_226 => ?_) (fun c_226 => ?_)
                        · refine lv_iload hx hb dX11_character_240 (lv_at hl 2 rfl) ?_
                          exact zr_i hx hb hr hlocks (by unfold chr; (repeat' split) <;> first | rfl | (exfalso; omega)) dX11_character_242
                        · refine lv_iload hx hb dX11_character_229 (lv_at hl 1 rfl) ?_
                          refine lv_ldc (v := 57344) hx hb hown (hz _ wk_X11_63) dX11_character_231 ?_
                          refine W.eq (g2 := F0 m 233 ls ([.int (nI (57344)), .int (nI (64 * (64 * (f a - 224) + (f (a + 1)) - 128) + (f (a + 2)) - 128))])) rfl ?_
                          refine zi_icmp_ge (tgt := 240) hx hb dX11_character_233 (by decide) (by omega) (by omega) (fun c_233 => ?_) (fun c_233 => ?_)
                          · refine lv_iload hx hb dX11_character_240 (lv_at hl 2 rfl) ?_
                            exact zr_i hx hb hr hlocks (by unfold chr; (repeat' split) <;> first | rfl | (exfalso; omega)) dX11_character_242
                          · refine lv_iconst (v := nI 0) hx hb dX11_character_236 (by decide) ?_
                            refine lv_goto (tgt := 242) hx hb dX11_character_237 (by decide) ?_
                            exact zr_i hx hb hr hlocks (by unfold chr; (repeat' split) <;> first | rfl | (exfalso; omega)) dX11_character_242
                  · refine lv_iconst (v := nI 0) hx hb dX11_character_154 (by decide) ?_
                    exact zr_i hx hb hr hlocks (by unfold chr; (repeat' split) <;> first | rfl | (exfalso; omega)) dX11_character_155
              · refine lv_iconst (v := nI 0) hx hb dX11_character_154 (by decide) ?_
                exact zr_i hx hb hr hlocks (by unfold chr; (repeat' split) <;> first | rfl | (exfalso; omega)) dX11_character_155
          · refine lv_iconst (v := nI 0) hx hb dX11_character_83 (by decide) ?_
            exact zr_i hx hb hr hlocks (by unfold chr; (repeat' split) <;> first | rfl | (exfalso; omega)) dX11_character_84
    · refine lv_iload_n hx hb dX11_character_20 rfl (lv_at hl 0 rfl) ?_
      refine lv_sipush (v := nI 224) hx hb dX11_character_21 (by decide) ?_
      refine zi_icmp_ge (tgt := 31) hx hb dX11_character_24 (by decide) (Nat.lt_trans (h8 _) (by decide)) (by omega) (fun c_24 => ?_) (fun c_24 => ?_)
      · refine lv_iload_n hx hb dX11_character_31 rfl (lv_at hl 0 rfl) ?_
        refine lv_sipush (v := nI 224) hx hb dX11_character_32 (by decide) ?_
        refine zi_icmp_lt (tgt := 49) hx hb dX11_character_35 (by decide) (Nat.lt_trans (h8 _) (by decide)) (by omega) (fun c_35 => ?_) (fun c_35 => ?_)
        · refine lv_iload_n hx hb dX11_character_49 rfl (lv_at hl 0 rfl) ?_
          refine lv_sipush (v := nI 240) hx hb dX11_character_50 (by decide) ?_
          refine zi_icmp_lt (tgt := 67) hx hb dX11_character_53 (by decide) (Nat.lt_trans (h8 _) (by decide)) (by omega) (fun c_53 => ?_) (fun c_53 => ?_)
          · refine lv_iconst (v := nI 0) hx hb dX11_character_67 (by decide) ?_
            refine lv_istore (lv' := [(4, .int (nI (0))), (3, .int (nI (f a))), (0, .ref (q)), (1, .int (nI (a))), (2, .int (nI (to)))]) hx hb dX11_character_68 hl (by decide) rfl (fun ls hl => ?_)
            refine lv_iload hx hb dX11_character_70 (lv_at hl 0 rfl) ?_
            refine zi_if_eq (tgt := 83) hx hb dX11_character_72 (by decide) (by omega) (fun c_72 => ?_) (fun c_72 => absurd c_72 (by decide))
            refine lv_iconst (v := nI 0) hx hb dX11_character_83 (by decide) ?_
            exact zr_i hx hb hr hlocks (by unfold chr; (repeat' split) <;> first | rfl | (exfalso; omega)) dX11_character_84
          · refine lv_iload_n hx hb dX11_character_56 rfl (lv_at hl 0 rfl) ?_
            refine lv_sipush (v := nI 248) hx hb dX11_character_57 (by decide) ?_
            refine zi_icmp_ge (tgt := 67) hx hb dX11_character_60 (by decide) (Nat.lt_trans (h8 _) (by decide)) (by omega) (fun c_60 => ?_) (fun c_60 => ?_)
            · refine lv_iconst (v := nI 0) hx hb dX11_character_67 (by decide) ?_
              refine lv_istore (lv' := [(4, .int (nI (0))), (3, .int (nI (f a))), (0, .ref (q)), (1, .int (nI (a))), (2, .int (nI (to)))]) hx hb dX11_character_68 hl (by decide) rfl (fun ls hl => ?_)
              refine lv_iload hx hb dX11_character_70 (lv_at hl 0 rfl) ?_
              refine zi_if_eq (tgt := 83) hx hb dX11_character_72 (by decide) (by omega) (fun c_72 => ?_) (fun c_72 => absurd c_72 (by decide))
              refine lv_iconst (v := nI 0) hx hb dX11_character_83 (by decide) ?_
              exact zr_i hx hb hr hlocks (by unfold chr; (repeat' split) <;> first | rfl | (exfalso; omega)) dX11_character_84
            · refine lv_iconst (v := nI 4) hx hb dX11_character_63 (by decide) ?_
              refine lv_goto (tgt := 68) hx hb dX11_character_64 (by decide) ?_
              refine lv_istore (lv' := [(4, .int (nI (4))), (3, .int (nI (f a))), (0, .ref (q)), (1, .int (nI (a))), (2, .int (nI (to)))]) hx hb dX11_character_68 hl (by decide) rfl (fun ls hl => ?_)
              refine lv_iload hx hb dX11_character_70 (lv_at hl 0 rfl) ?_
              refine zi_if_eq (tgt := 83) hx hb dX11_character_72 (by decide) (by omega) (fun c_72 => absurd c_72 (by decide)) (fun c_72 => ?_)
              refine lv_iload_n hx hb dX11_character_75 rfl (lv_at hl 3 rfl) ?_
              refine lv_iload hx hb dX11_character_76 (lv_at hl 0 rfl) ?_
              refine zi_add hx hb dX11_character_78 ?_
              refine lv_iload_n hx hb dX11_character_79 rfl (lv_at hl 4 rfl) ?_
              refine zi_icmp_le (tgt := 85) hx hb dX11_character_80 (by decide) (by omega) (by omega) (fun c_80 => ?_) (fun c_80 => ?_)
              · refine lv_iload hx hb dX11_character_85 (lv_at hl 0 rfl) ?_
                refine lv_iconst (v := nI 2) hx hb dX11_character_87 (by decide) ?_
                refine zi_icmp_ne (tgt := 99) hx hb dX11_character_88 (by decide) (by omega) (by omega) (fun c_88 => ?_) (fun c_88 => absurd c_88 (by decide))
                refine lv_iload hx hb dX11_character_99 (lv_at hl 0 rfl) ?_
                refine lv_iconst (v := nI 3) hx hb dX11_character_101 (by decide) ?_
                refine zi_icmp_ne (tgt := 113) hx hb dX11_character_102 (by decide) (by omega) (by omega) (fun c_102 => ?_) (fun c_102 => absurd c_102 (by decide))
                refine lv_iload_n hx hb dX11_character_113 rfl (lv_at hl 1 rfl) ?_
                refine lv_sipush (v := nI 240) hx hb dX11_character_114 (by decide) ?_
                refine zi_sub hx hb (by omega) dX11_character_117 ?_
                refine lv_istore (lv' := [(5, .int (nI (f a - 240))), (4, .int (nI (4))), (3, .int (nI (f a))), (0, .ref (q)), (1, .int (nI (a))), (2, .int (nI (to)))]) hx hb dX11_character_118 hl (by decide) rfl (fun ls hl => ?_)
                refine lv_iconst (v := nI 1) hx hb dX11_character_120 (by decide) ?_
                refine lv_istore (lv' := [(6, .int (nI (1))), (5, .int (nI (f a - 240))), (4, .int (nI (4))), (3, .int (nI (f a))), (0, .ref (q)), (1, .int (nI (a))), (2, .int (nI (to)))]) hx hb dX11_character_121 hl (by decide) rfl (fun ls hl => ?_)
                refine lv_iload hx hb dX11_character_123 (lv_at hl 0 rfl) ?_
                refine lv_iload hx hb dX11_character_125 (lv_at hl 2 rfl) ?_
                refine zi_icmp_ge (tgt := 180) hx hb dX11_character_127 (by decide) (by omega) (by omega) (fun c_127 => absurd c_127 (by decide)) (fun c_127 => ?_)
                refine lv_aload_n hx hb dX11_character_130 rfl (lv_at hl 4 rfl) ?_
                refine lv_iload_n hx hb dX11_character_131 rfl (lv_at hl 5 rfl) ?_
                refine lv_iload hx hb dX11_character_132 (lv_at hl 0 rfl) ?_
                refine zi_add hx hb dX11_character_134 ?_
                refine zi_ald hx hb hK hP (by omega) (by omega) dX11_character_135 ?_
                refine lv_sipush (v := nI 128) hx hb dX11_character_136 (by decide) ?_
                refine zi_icmp_lt (tgt := 154) hx hb dX11_character_139 (by decide) (Nat.lt_trans (h8 _) (by decide)) (by omega) (fun c_139 => ?_) (fun c_139 => ?_)
                · refine lv_iconst (v := nI 0) hx hb dX11_character_154 (by decide) ?_
                  exact zr_i hx hb hr hlocks (by unfold chr; (repeat' split) <;> first | rfl | (exfalso; omega)) dX11_character_155
                · refine lv_aload_n hx hb dX11_character_142 rfl (lv_at hl 4 rfl) ?_
                  refine lv_iload_n hx hb dX11_character_143 rfl (lv_at hl 5 rfl) ?_
                  refine lv_iload hx hb dX11_character_144 (lv_at hl 0 rfl) ?_
                  refine zi_add hx hb dX11_character_146 ?_
                  refine zi_ald hx hb hK hP (by omega) (by omega) dX11_character_147 ?_
                  refine lv_sipush (v := nI 191) hx hb dX11_character_148 (by decide) ?_
                  refine zi_icmp_le (tgt := 156) hx hb dX11_character_151 (by decide) (Nat.lt_trans (h8 _) (by decide)) (by omega) (fun c_151 => ?_) (fun c_151 => ?_)
                  · refine lv_bipush (v := nI 64) hx hb dX11_character_156 (by decide) ?_
                    refine lv_iload hx hb dX11_character_158 (lv_at hl 1 rfl) ?_
                    refine zi_mul hx hb dX11_character_160 ?_
                    refine lv_aload_n hx hb dX11_character_161 rfl (lv_at hl 4 rfl) ?_
                    refine lv_iload_n hx hb dX11_character_162 rfl (lv_at hl 5 rfl) ?_
                    refine lv_iload hx hb dX11_character_163 (lv_at hl 0 rfl) ?_
                    refine zi_add hx hb dX11_character_165 ?_
                    refine zi_ald hx hb hK hP (by omega) (by omega) dX11_character_166 ?_
                    refine zi_add hx hb dX11_character_167 ?_
                    refine lv_sipush (v := nI 128) hx hb dX11_character_168 (by decide) ?_
                    refine zi_sub hx hb (by omega) dX11_character_171 ?_
                    refine lv_istore (lv' := [(5, .int (nI (64 * (f a - 240) + (f (a + 1)) - 128))), (6, .int (nI (1))), (4, .int (nI (4))), (3, .int (nI (f a))), (0, .ref (q)), (1, .int (nI (a))), (2, .int (nI (to)))]) hx hb dX11_character_172 hl (by decide) rfl (fun ls hl => ?_)
                    refine lv_iinc (v := nI (2)) (lv' := [(6, .int (nI (2))), (5, .int (nI (64 * (f a - 240) + (f (a + 1)) - 128))), (4, .int (nI (4))), (3, .int (nI (f a))), (0, .ref (q)), (1, .int (nI (a))), (2, .int (nI (to)))]) hx hb dX11_character_174 hl (k := 1) rfl (nI_add _ _) (by decide) rfl (fun ls hl => ?_)
                    refine lv_goto (tgt := 123) hx hb dX11_character_177 (by decide) ?_
                    refine lv_iload hx hb dX11_character_123 (lv_at hl 0 rfl) ?_
                    refine lv_iload hx hb dX11_character_125 (lv_at hl 2 rfl) ?_
                    refine zi_icmp_ge (tgt := 180) hx hb dX11_character_127 (by decide) (by omega) (by omega) (fun c_127 => absurd c_127 (by decide)) (fun c_127 => ?_)
                    refine lv_aload_n hx hb dX11_character_130 rfl (lv_at hl 4 rfl) ?_
                    refine lv_iload_n hx hb dX11_character_131 rfl (lv_at hl 5 rfl) ?_
                    refine lv_iload hx hb dX11_character_132 (lv_at hl 0 rfl) ?_
                    refine zi_add hx hb dX11_character_134 ?_
                    refine zi_ald hx hb hK hP (by omega) (by omega) dX11_character_135 ?_
                    refine lv_sipush (v := nI 128) hx hb dX11_character_136 (by decide) ?_
                    refine zi_icmp_lt (tgt := 154) hx hb dX11_character_139 (by decide) (Nat.lt_trans (h8 _) (by decide)) (by omega) (fun c_139 => ?_) (fun c_139 => ?_)
                    · refine lv_iconst (v := nI 0) hx hb dX11_character_154 (by decide) ?_
                      exact zr_i hx hb hr hlocks (by unfold chr; (repeat' split) <;> first | rfl | (exfalso; omega)) dX11_character_155
                    · refine lv_aload_n hx hb dX11_character_142 rfl (lv_at hl 4 rfl) ?_
                      refine lv_iload_n hx hb dX11_character_143 rfl (lv_at hl 5 rfl) ?_
                      refine lv_iload hx hb dX11_character_144 (lv_at hl 0 rfl) ?_
                      refine zi_add hx hb dX11_character_146 ?_
                      refine zi_ald hx hb hK hP (by omega) (by omega) dX11_character_147 ?_
                      refine lv_sipush (v := nI 191) hx hb dX11_character_148 (by decide) ?_
                      refine zi_icmp_le (tgt := 156) hx hb dX11_character_151 (by decide) (Nat.lt_trans (h8 _) (by decide)) (by omega) (fun c_151 => ?_) (fun c_151 => ?_)
                      · refine lv_bipush (v := nI 64) hx hb dX11_character_156 (by decide) ?_
                        refine lv_iload hx hb dX11_character_158 (lv_at hl 1 rfl) ?_
                        refine zi_mul hx hb dX11_character_160 ?_
                        refine lv_aload_n hx hb dX11_character_161 rfl (lv_at hl 4 rfl) ?_
                        refine lv_iload_n hx hb dX11_character_162 rfl (lv_at hl 5 rfl) ?_
                        refine lv_iload hx hb dX11_character_163 (lv_at hl 0 rfl) ?_
                        refine zi_add hx hb dX11_character_165 ?_
                        refine zi_ald hx hb hK hP (by omega) (by omega) dX11_character_166 ?_
                        refine zi_add hx hb dX11_character_167 ?_
                        refine lv_sipush (v := nI 128) hx hb dX11_character_168 (by decide) ?_
                        refine zi_sub hx hb (by omega) dX11_character_171 ?_
                        refine lv_istore (lv' := [(5, .int (nI (64 * (64 * (f a - 240) + (f (a + 1)) - 128) + (f (a + 2)) - 128))), (6, .int (nI (2))), (4, .int (nI (4))), (3, .int (nI (f a))), (0, .ref (q)), (1, .int (nI (a))), (2, .int (nI (to)))]) hx hb dX11_character_172 hl (by decide) rfl (fun ls hl => ?_)
                        refine lv_iinc (v := nI (3)) (lv' := [(6, .int (nI (3))), (5, .int (nI (64 * (64 * (f a - 240) + (f (a + 1)) - 128) + (f (a + 2)) - 128))), (4, .int (nI (4))), (3, .int (nI (f a))), (0, .ref (q)), (1, .int (nI (a))), (2, .int (nI (to)))]) hx hb dX11_character_174 hl (k := 1) rfl (nI_add _ _) (by decide) rfl (fun ls hl => ?_)
                        refine lv_goto (tgt := 123) hx hb dX11_character_177 (by decide) ?_
                        refine lv_iload hx hb dX11_character_123 (lv_at hl 0 rfl) ?_
                        refine lv_iload hx hb dX11_character_125 (lv_at hl 2 rfl) ?_
                        refine zi_icmp_ge (tgt := 180) hx hb dX11_character_127 (by decide) (by omega) (by omega) (fun c_127 => absurd c_127 (by decide)) (fun c_127 => ?_)
                        refine lv_aload_n hx hb dX11_character_130 rfl (lv_at hl 4 rfl) ?_
                        refine lv_iload_n hx hb dX11_character_131 rfl (lv_at hl 5 rfl) ?_
                        refine lv_iload hx hb dX11_character_132 (lv_at hl 0 rfl) ?_
                        refine zi_add hx hb dX11_character_134 ?_
                        refine zi_ald hx hb hK hP (by omega) (by omega) dX11_character_135 ?_
                        refine lv_sipush (v := nI 128) hx hb dX11_character_136 (by decide) ?_
                        refine zi_icmp_lt (tgt := 154) hx hb dX11_character_139 (by decide) (Nat.lt_trans (h8 _) (by decide)) (by omega) (fun c_139 => ?_) (fun c_139 => ?_)
                        · refine lv_iconst (v := nI 0) hx hb dX11_character_154 (by decide) ?_
                          exact zr_i hx hb hr hlocks (by unfold chr; (repeat' split) <;> first | rfl | (exfalso; omega)) dX11_character_155
                        · refine lv_aload_n hx hb dX11_character_142 rfl (lv_at hl 4 rfl) ?_
                          refine lv_iload_n hx hb dX11_character_143 rfl (lv_at hl 5 rfl) ?_
                          refine lv_iload hx hb dX11_character_144 (lv_at hl 0 rfl) ?_
                          refine zi_add hx hb dX11_character_146 ?_
                          refine zi_ald hx hb hK hP (by omega) (by omega) dX11_character_147 ?_
                          refine lv_sipush (v := nI 191) hx hb dX11_character_148 (by decide) ?_
                          refine zi_icmp_le (tgt := 156) hx hb dX11_character_151 (by decide) (Nat.lt_trans (h8 _) (by decide)) (by omega) (fun c_151 => ?_) (fun c_151 => ?_)
                          · refine lv_bipush (v := nI 64) hx hb dX11_character_156 (by decide) ?_
                            refine lv_iload hx hb dX11_character_158 (lv_at hl 1 rfl) ?_
                            refine zi_mul hx hb dX11_character_160 ?_
                            refine lv_aload_n hx hb dX11_character_161 rfl (lv_at hl 4 rfl) ?_
                            refine lv_iload_n hx hb dX11_character_162 rfl (lv_at hl 5 rfl) ?_
                            refine lv_iload hx hb dX11_character_163 (lv_at hl 0 rfl) ?_
                            refine zi_add hx hb dX11_character_165 ?_
                            refine zi_ald hx hb hK hP (by omega) (by omega) dX11_character_166 ?_
                            refine zi_add hx hb dX11_character_167 ?_
                            refine lv_sipush (v := nI 128) hx hb dX11_character_168 (by decide) ?_
                            refine zi_sub hx hb (by omega) dX11_character_171 ?_
                            refine lv_istore (lv' := [(5, .int (nI (64 * (64 * (64 * (f a - 240) + (f (a + 1)) - 128) + (f (a + 2)) - 128) + (f (a + 3)) - 128))), (6, .int (nI (3))), (4, .int (nI (4))), (3, .int (nI (f a))), (0, .ref (q)), (1, .int (nI (a))), (2, .int (nI (to)))]) hx hb dX11_character_172 hl (by decide) rfl (fun ls hl => ?_)
                            refine lv_iinc (v := nI (4)) (lv' := [(6, .int (nI (4))), (5, .int (nI (64 * (64 * (64 * (f a - 240) + (f (a + 1)) - 128) + (f (a + 2)) - 128) + (f (a + 3)) - 128))), (4, .int (nI (4))), (3, .int (nI (f a))), (0, .ref (q)), (1, .int (nI (a))), (2, .int (nI (to)))]) hx hb dX11_character_174 hl (k := 1) rfl (nI_add _ _) (by decide) rfl (fun ls hl => ?_)
                            refine lv_goto (tgt := 123) hx hb dX11_character_177 (by decide) ?_
                            refine lv_iload hx hb dX11_character_123 (lv_at hl 0 rfl) ?_
                            refine lv_iload hx hb dX11_character_125 (lv_at hl 2 rfl) ?_
                            refine zi_icmp_ge (tgt := 180) hx hb dX11_character_127 (by decide) (by omega) (by omega) (fun c_127 => ?_) (fun c_127 => absurd c_127 (by decide))
                            refine lv_iload hx hb dX11_character_180 (lv_at hl 2 rfl) ?_
                            refine lv_iconst (v := nI 2) hx hb dX11_character_182 (by decide) ?_
                            refine zi_icmp_ne (tgt := 192) hx hb dX11_character_183 (by decide) (by omega) (by omega) (fun c_183 => ?_) (fun c_183 => absurd c_183 (by decide))
                            refine lv_iload hx hb dX11_character_192 (lv_at hl 2 rfl) ?_
                            refine lv_iconst (v := nI 3) hx hb dX11_character_194 (by decide) ?_
                            refine zi_icmp_ne (tgt := 204) hx hb dX11_character_195 (by decide) (by omega) (by omega) (fun c_195 => ?_) (fun c_195 => absurd c_195 (by decide))
                            refine lv_ldc (v := 65536) hx hb hown (hz _ wk_X11_60) dX11_character_204 ?_
                            refine W.eq (g2 := F0 m 206 ls ([.int (nI (65536))])) rfl ?_
                            refine lv_istore (lv' := [(6, .int (nI (65536))), (5, .int (nI (64 * (64 * (64 * (f a - 240) + (f (a + 1)) - 128) + (f (a + 2)) - 128) + (f (a + 3)) - 128))), (4, .int (nI (4))), (3, .int (nI (f a))), (0, .ref (q)), (1, .int (nI (a))), (2, .int (nI (to)))]) hx hb dX11_character_206 hl (by decide) rfl (fun ls hl => ?_)
                            refine lv_iload hx hb dX11_character_208 (lv_at hl 1 rfl) ?_
                            refine lv_iload hx hb dX11_character_210 (lv_at hl 0 rfl) ?_
                            refine zi_icmp_lt (tgt := 236) hx hb dX11_character_212 (by decide) (by omega) (by omega) (fun c_212 => ?_) (fun c_212 => ?_)
                            · refine lv_iconst (v := nI 0) hx hb dX11_character_236 (by decide) ?_
                              refine lv_goto (tgt := 242) hx hb dX11_character_237 (by decide) ?_
                              exact zr_i hx hb hr hlocks (by unfold chr; (repeat' split) <;> first | rfl | (exfalso; omega)) dX11_character_242
                            · refine lv_iload hx hb dX11_character_215 (lv_at hl 1 rfl) ?_
                              refine lv_ldc (v := 1114111) hx hb hown (hz _ wk_X11_61) dX11_character_217 ?_
                              refine W.eq (g2 := F0 m 219 ls ([.int (nI (1114111)), .int (nI (64 * (64 * (64 * (f a - 240) + (f (a + 1)) - 128) + (f (a + 2)) - 128) + (f (a + 3)) - 128))])) rfl ?_
                              refine zi_icmp_gt (tgt := 236) hx hb dX11_character_219 (by decide) (by omega) (by omega) (fun c_219 => ?_) (fun c_219 => ?_)
                              · refine lv_iconst (v := nI 0) hx hb dX11_character_236 (by decide) ?_
                                refine lv_goto (tgt := 242) hx hb dX11_character_237 (by decide) ?_
                                exact zr_i hx hb hr hlocks (by unfold chr; (repeat' split) <;> first | rfl | (exfalso; omega)) dX11_character_242
                              · refine lv_iload hx hb dX11_character_222 (lv_at hl 1 rfl) ?_
                                refine lv_ldc (v := 55295) hx hb hown (hz _ wk_X11_62) dX11_character_224 ?_
                                refine W.eq (g2 := F0 m 226 ls ([.int (nI (55295)), .int (nI (64 * (64 * (64 * (f a - 240) + (f (a + 1)) - 128) + (f (a + 2)) - 128) + (f (a + 3)) - 128))])) rfl ?_
                                refine zi_icmp_le (tgt := 240) hx hb dX11_character_226 (by decide) (by omega) (by omega) (fun c_226 => ?_) (fun c_226 => ?_)
                                · refine lv_iload hx hb dX11_character_240 (lv_at hl 2 rfl) ?_
                                  exact zr_i hx hb hr hlocks (by unfold chr; (repeat' split) <;> first | rfl | (exfalso; omega)) dX11_character_242
                                · refine lv_iload hx hb dX11_character_229 (lv_at hl 1 rfl) ?_
                                  refine lv_ldc (v := 57344) hx hb hown (hz _ wk_X11_63) dX11_character_231 ?_
                                  refine W.eq (g2 := F0 m 233 ls ([.int (nI (57344)), .int (nI (64 * (64 * (64 * (f a - 240) + (f (a + 1)) - 128) + (f (a + 2)) - 128) + (f (a + 3)) - 128))])) rfl ?_
                                  refine zi_icmp_ge (tgt := 240) hx hb dX11_character_233 (by decide) (by omega) (by omega) (fun c_233 => ?_) (fun c_233 => ?_)
                                  · refine lv_iload hx hb dX11_character_240 (lv_at hl 2 rfl) ?_
                                    exact zr_i hx hb hr hlocks (by unfold chr; (repeat' split) <;> first | rfl | (exfalso; omega)) dX11_character_242
                                  · refine lv_iconst (v := nI 0) hx hb dX11_character_236 (by decide) ?_
                                    refine lv_goto (tgt := 242) hx hb dX11_character_237 (by decide) ?_
                                    exact zr_i hx hb hr hlocks (by unfold chr; (repeat' split) <;> first | rfl | (exfalso; omega)) dX11_character_242
                          · refine lv_iconst (v := nI 0) hx hb dX11_character_154 (by decide) ?_
                            exact zr_i hx hb hr hlocks (by unfold chr; (repeat' split) <;> first | rfl | (exfalso; omega)) dX11_character_155
                      · refine lv_iconst (v := nI 0) hx hb dX11_character_154 (by decide) ?_
                        exact zr_i hx hb hr hlocks (by unfold chr; (repeat' split) <;> first | rfl | (exfalso; omega)) dX11_character_155
                  · refine lv_iconst (v := nI 0) hx hb dX11_character_154 (by decide) ?_
                    exact zr_i hx hb hr hlocks (by unfold chr; (repeat' split) <;> first | rfl | (exfalso; omega)) dX11_character_155
              · refine lv_iconst (v := nI 0) hx hb dX11_character_83 (by decide) ?_
                exact zr_i hx hb hr hlocks (by unfold chr; (repeat' split) <;> first | rfl | (exfalso; omega)) dX11_character_84
        · refine lv_iload_n hx hb dX11_character_38 rfl (lv_at hl 0 rfl) ?_
          refine lv_sipush (v := nI 240) hx hb dX11_character_39 (by decide) ?_
          refine zi_icmp_ge (tgt := 49) hx hb dX11_character_42 (by decide) (Nat.lt_trans (h8 _) (by decide)) (by omega) (fun c_42 => ?_) (fun c_42 => ?_)
          · refine lv_iload_n hx hb dX11_character_49 rfl (lv_at hl 0 rfl) ?_
            refine lv_sipush (v := nI 240) hx hb dX11_character_50 (by decide) ?_
            refine zi_icmp_lt (tgt := 67) hx hb dX11_character_53 (by decide) (Nat.lt_trans (h8 _) (by decide)) (by omega) (fun c_53 => ?_) (fun c_53 => ?_)
            · refine lv_iconst (v := nI 0) hx hb dX11_character_67 (by decide) ?_
              refine lv_istore (lv' := [(4, .int (nI (0))), (3, .int (nI (f a))), (0, .ref (q)), (1, .int (nI (a))), (2, .int (nI (to)))]) hx hb dX11_character_68 hl (by decide) rfl (fun ls hl => ?_)
              refine lv_iload hx hb dX11_character_70 (lv_at hl 0 rfl) ?_
              refine zi_if_eq (tgt := 83) hx hb dX11_character_72 (by decide) (by omega) (fun c_72 => ?_) (fun c_72 => absurd c_72 (by decide))
              refine lv_iconst (v := nI 0) hx hb dX11_character_83 (by decide) ?_
              exact zr_i hx hb hr hlocks (by unfold chr; (repeat' split) <;> first | rfl | (exfalso; omega)) dX11_character_84
            · refine lv_iload_n hx hb dX11_character_56 rfl (lv_at hl 0 rfl) ?_
              refine lv_sipush (v := nI 248) hx hb dX11_character_57 (by decide) ?_
              refine zi_icmp_ge (tgt := 67) hx hb dX11_character_60 (by decide) (Nat.lt_trans (h8 _) (by decide)) (by omega) (fun c_60 => ?_) (fun c_60 => ?_)
              · refine lv_iconst (v := nI 0) hx hb dX11_character_67 (by decide) ?_
                refine lv_istore (lv' := [(4, .int (nI (0))), (3, .int (nI (f a))), (0, .ref (q)), (1, .int (nI (a))), (2, .int (nI (to)))]) hx hb dX11_character_68 hl (by decide) rfl (fun ls hl => ?_)
                refine lv_iload hx hb dX11_character_70 (lv_at hl 0 rfl) ?_
                refine zi_if_eq (tgt := 83) hx hb dX11_character_72 (by decide) (by omega) (fun c_72 => ?_) (fun c_72 => absurd c_72 (by decide))
                refine lv_iconst (v := nI 0) hx hb dX11_character_83 (by decide) ?_
                exact zr_i hx hb hr hlocks (by unfold chr; (repeat' split) <;> first | rfl | (exfalso; omega)) dX11_character_84
              · refine lv_iconst (v := nI 4) hx hb dX11_character_63 (by decide) ?_
                refine lv_goto (tgt := 68) hx hb dX11_character_64 (by decide) ?_
                refine lv_istore (lv' := [(4, .int (nI (4))), (3, .int (nI (f a))), (0, .ref (q)), (1, .int (nI (a))), (2, .int (nI (to)))]) hx hb dX11_character_68 hl (by decide) rfl (fun ls hl => ?_)
                refine lv_iload hx hb dX11_character_70 (lv_at hl 0 rfl) ?_
                refine zi_if_eq (tgt := 83) hx hb dX11_character_72 (by decide) (by omega) (fun c_72 => absurd c_72 (by decide)) (fun c_72 => ?_)
                refine lv_iload_n hx hb dX11_character_75 rfl (lv_at hl 3 rfl) ?_
                refine lv_iload hx hb dX11_character_76 (lv_at hl 0 rfl) ?_
                refine zi_add hx hb dX11_character_78 ?_
                refine lv_iload_n hx hb dX11_character_79 rfl (lv_at hl 4 rfl) ?_
                refine zi_icmp_le (tgt := 85) hx hb dX11_character_80 (by decide) (by omega) (by omega) (fun c_80 => ?_) (fun c_80 => ?_)
                · refine lv_iload hx hb dX11_character_85 (lv_at hl 0 rfl) ?_
                  refine lv_iconst (v := nI 2) hx hb dX11_character_87 (by decide) ?_
                  refine zi_icmp_ne (tgt := 99) hx hb dX11_character_88 (by decide) (by omega) (by omega) (fun c_88 => ?_) (fun c_88 => absurd c_88 (by decide))
                  refine lv_iload hx hb dX11_character_99 (lv_at hl 0 rfl) ?_
                  refine lv_iconst (v := nI 3) hx hb dX11_character_101 (by decide) ?_
                  refine zi_icmp_ne (tgt := 113) hx hb dX11_character_102 (by decide) (by omega) (by omega) (fun c_102 => ?_) (fun c_102 => absurd c_102 (by decide))
                  refine lv_iload_n hx hb dX11_character_113 rfl (lv_at hl 1 rfl) ?_
                  refine lv_sipush (v := nI 240) hx hb dX11_character_114 (by decide) ?_
                  refine zi_sub hx hb (by omega) dX11_character_117 ?_
                  refine lv_istore (lv' := [(5, .int (nI (f a - 240))), (4, .int (nI (4))), (3, .int (nI (f a))), (0, .ref (q)), (1, .int (nI (a))), (2, .int (nI (to)))]) hx hb dX11_character_118 hl (by decide) rfl (fun ls hl => ?_)
                  refine lv_iconst (v := nI 1) hx hb dX11_character_120 (by decide) ?_
                  refine lv_istore (lv' := [(6, .int (nI (1))), (5, .int (nI (f a - 240))), (4, .int (nI (4))), (3, .int (nI (f a))), (0, .ref (q)), (1, .int (nI (a))), (2, .int (nI (to)))]) hx hb dX11_character_121 hl (by decide) rfl (fun ls hl => ?_)
                  refine lv_iload hx hb dX11_character_123 (lv_at hl 0 rfl) ?_
                  refine lv_iload hx hb dX11_character_125 (lv_at hl 2 rfl) ?_
                  refine zi_icmp_ge (tgt := 180) hx hb dX11_character_127 (by decide) (by omega) (by omega) (fun c_127 => absurd c_127 (by decide)) (fun c_127 => ?_)
                  refine lv_aload_n hx hb dX11_character_130 rfl (lv_at hl 4 rfl) ?_
                  refine lv_iload_n hx hb dX11_character_131 rfl (lv_at hl 5 rfl) ?_
                  refine lv_iload hx hb dX11_character_132 (lv_at hl 0 rfl) ?_
                  refine zi_add hx hb dX11_character_134 ?_
                  refine zi_ald hx hb hK hP (by omega) (by omega) dX11_character_135 ?_
                  refine lv_sipush (v := nI 128) hx hb dX11_character_136 (by decide) ?_
                  refine zi_icmp_lt (tgt := 154) hx hb dX11_character_139 (by decide) (Nat.lt_trans (h8 _) (by decide)) (by omega) (fun c_139 => ?_) (fun c_139 => ?_)
                  · refine lv_iconst (v := nI 0) hx hb dX11_character_154 (by decide) ?_
                    exact zr_i hx hb hr hlocks (by unfold chr; (repeat' split) <;> first | rfl | (exfalso; omega)) dX11_character_155
                  · refine lv_aload_n hx hb dX11_character_142 rfl (lv_at hl 4 rfl) ?_
                    refine lv_iload_n hx hb dX11_character_143 rfl (lv_at hl 5 rfl) ?_
                    refine lv_iload hx hb dX11_character_144 (lv_at hl 0 rfl) ?_
                    refine zi_add hx hb dX11_character_146 ?_
                    refine zi_ald hx hb hK hP (by omega) (by omega) dX11_character_147 ?_
                    refine lv_sipush (v := nI 191) hx hb dX11_character_148 (by decide) ?_
                    refine zi_icmp_le (tgt := 156) hx hb dX11_character_151 (by decide) (Nat.lt_trans (h8 _) (by decide)) (by omega) (fun c_151 => ?_) (fun c_151 => ?_)
                    · refine lv_bipush (v := nI 64) hx hb dX11_character_156 (by decide) ?_
                      refine lv_iload hx hb dX11_character_158 (lv_at hl 1 rfl) ?_
                      refine zi_mul hx hb dX11_character_160 ?_
                      refine lv_aload_n hx hb dX11_character_161 rfl (lv_at hl 4 rfl) ?_
                      refine lv_iload_n hx hb dX11_character_162 rfl (lv_at hl 5 rfl) ?_
                      refine lv_iload hx hb dX11_character_163 (lv_at hl 0 rfl) ?_
                      refine zi_add hx hb dX11_character_165 ?_
                      refine zi_ald hx hb hK hP (by omega) (by omega) dX11_character_166 ?_
                      refine zi_add hx hb dX11_character_167 ?_
                      refine lv_sipush (v := nI 128) hx hb dX11_character_168 (by decide) ?_
                      refine zi_sub hx hb (by omega) dX11_character_171 ?_
                      refine lv_istore (lv' := [(5, .int (nI (64 * (f a - 240) + (f (a + 1)) - 128))), (6, .int (nI (1))), (4, .int (nI (4))), (3, .int (nI (f a))), (0, .ref (q)), (1, .int (nI (a))), (2, .int (nI (to)))]) hx hb dX11_character_172 hl (by decide) rfl (fun ls hl => ?_)
                      refine lv_iinc (v := nI (2)) (lv' := [(6, .int (nI (2))), (5, .int (nI (64 * (f a - 240) + (f (a + 1)) - 128))), (4, .int (nI (4))), (3, .int (nI (f a))), (0, .ref (q)), (1, .int (nI (a))), (2, .int (nI (to)))]) hx hb dX11_character_174 hl (k := 1) rfl (nI_add _ _) (by decide) rfl (fun ls hl => ?_)
                      refine lv_goto (tgt := 123) hx hb dX11_character_177 (by decide) ?_
                      refine lv_iload hx hb dX11_character_123 (lv_at hl 0 rfl) ?_
                      refine lv_iload hx hb dX11_character_125 (lv_at hl 2 rfl) ?_
                      refine zi_icmp_ge (tgt := 180) hx hb dX11_character_127 (by decide) (by omega) (by omega) (fun c_127 => absurd c_127 (by decide)) (fun c_127 => ?_)
                      refine lv_aload_n hx hb dX11_character_130 rfl (lv_at hl 4 rfl) ?_
                      refine lv_iload_n hx hb dX11_character_131 rfl (lv_at hl 5 rfl) ?_
                      refine lv_iload hx hb dX11_character_132 (lv_at hl 0 rfl) ?_
                      refine zi_add hx hb dX11_character_134 ?_
                      refine zi_ald hx hb hK hP (by omega) (by omega) dX11_character_135 ?_
                      refine lv_sipush (v := nI 128) hx hb dX11_character_136 (by decide) ?_
                      refine zi_icmp_lt (tgt := 154) hx hb dX11_character_139 (by decide) (Nat.lt_trans (h8 _) (by decide)) (by omega) (fun c_139 => ?_) (fun c_139 => ?_)
                      · refine lv_iconst (v := nI 0) hx hb dX11_character_154 (by decide) ?_
                        exact zr_i hx hb hr hlocks (by unfold chr; (repeat' split) <;> first | rfl | (exfalso; omega)) dX11_character_155
                      · refine lv_aload_n hx hb dX11_character_142 rfl (lv_at hl 4 rfl) ?_
                        refine lv_iload_n hx hb dX11_character_143 rfl (lv_at hl 5 rfl) ?_
                        refine lv_iload hx hb dX11_character_144 (lv_at hl 0 rfl) ?_
                        refine zi_add hx hb dX11_character_146 ?_
                        refine zi_ald hx hb hK hP (by omega) (by omega) dX11_character_147 ?_
                        refine lv_sipush (v := nI 191) hx hb dX11_character_148 (by decide) ?_
                        refine zi_icmp_le (tgt := 156) hx hb dX11_character_151 (by decide) (Nat.lt_trans (h8 _) (by decide)) (by omega) (fun c_151 => ?_) (fun c_151 => ?_)
                        · refine lv_bipush (v := nI 64) hx hb dX11_character_156 (by decide) ?_
                          refine lv_iload hx hb dX11_character_158 (lv_at hl 1 rfl) ?_
                          refine zi_mul hx hb dX11_character_160 ?_
                          refine lv_aload_n hx hb dX11_character_161 rfl (lv_at hl 4 rfl) ?_
                          refine lv_iload_n hx hb dX11_character_162 rfl (lv_at hl 5 rfl) ?_
                          refine lv_iload hx hb dX11_character_163 (lv_at hl 0 rfl) ?_
                          refine zi_add hx hb dX11_character_165 ?_
                          refine zi_ald hx hb hK hP (by omega) (by omega) dX11_character_166 ?_
                          refine zi_add hx hb dX11_character_167 ?_
                          refine lv_sipush (v := nI 128) hx hb dX11_character_168 (by decide) ?_
                          refine zi_sub hx hb (by omega) dX11_character_171 ?_
                          refine lv_istore (lv' := [(5, .int (nI (64 * (64 * (f a - 240) + (f (a + 1)) - 128) + (f (a + 2)) - 128))), (6, .int (nI (2))), (4, .int (nI (4))), (3, .int (nI (f a))), (0, .ref (q)), (1, .int (nI (a))), (2, .int (nI (to)))]) hx hb dX11_character_172 hl (by decide) rfl (fun ls hl => ?_)
                          refine lv_iinc (v := nI (3)) (lv' := [(6, .int (nI (3))), (5, .int (nI (64 * (64 * (f a - 240) + (f (a + 1)) - 128) + (f (a + 2)) - 128))), (4, .int (nI (4))), (3, .int (nI (f a))), (0, .ref (q)), (1, .int (nI (a))), (2, .int (nI (to)))]) hx hb dX11_character_174 hl (k := 1) rfl (nI_add _ _) (by decide) rfl (fun ls hl => ?_)
                          refine lv_goto (tgt := 123) hx hb dX11_character_177 (by decide) ?_
                          refine lv_iload hx hb dX11_character_123 (lv_at hl 0 rfl) ?_
                          refine lv_iload hx hb dX11_character_125 (lv_at hl 2 rfl) ?_
                          refine zi_icmp_ge (tgt := 180) hx hb dX11_character_127 (by decide) (by omega) (by omega) (fun c_127 => absurd c_127 (by decide)) (fun c_127 => ?_)
                          refine lv_aload_n hx hb dX11_character_130 rfl (lv_at hl 4 rfl) ?_
                          refine lv_iload_n hx hb dX11_character_131 rfl (lv_at hl 5 rfl) ?_
                          refine lv_iload hx hb dX11_character_132 (lv_at hl 0 rfl) ?_
                          refine zi_add hx hb dX11_character_134 ?_
                          refine zi_ald hx hb hK hP (by omega) (by omega) dX11_character_135 ?_
                          refine lv_sipush (v := nI 128) hx hb dX11_character_136 (by decide) ?_
                          refine zi_icmp_lt (tgt := 154) hx hb dX11_character_139 (by decide) (Nat.lt_trans (h8 _) (by decide)) (by omega) (fun c_139 => ?_) (fun c_139 => ?_)
                          · refine lv_iconst (v := nI 0) hx hb dX11_character_154 (by decide) ?_
                            exact zr_i hx hb hr hlocks (by unfold chr; (repeat' split) <;> first | rfl | (exfalso; omega)) dX11_character_155
                          · refine lv_aload_n hx hb dX11_character_142 rfl (lv_at hl 4 rfl) ?_
                            refine lv_iload_n hx hb dX11_character_143 rfl (lv_at hl 5 rfl) ?_
                            refine lv_iload hx hb dX11_character_144 (lv_at hl 0 rfl) ?_
                            refine zi_add hx hb dX11_character_146 ?_
                            refine zi_ald hx hb hK hP (by omega) (by omega) dX11_character_147 ?_
                            refine lv_sipush (v := nI 191) hx hb dX11_character_148 (by decide) ?_
                            refine zi_icmp_le (tgt := 156) hx hb dX11_character_151 (by decide) (Nat.lt_trans (h8 _) (by decide)) (by omega) (fun c_151 => ?_) (fun c_151 => ?_)
                            · refine lv_bipush (v := nI 64) hx hb dX11_character_156 (by decide) ?_
                              refine lv_iload hx hb dX11_character_158 (lv_at hl 1 rfl) ?_
                              refine zi_mul hx hb dX11_character_160 ?_
                              refine lv_aload_n hx hb dX11_character_161 rfl (lv_at hl 4 rfl) ?_
                              refine lv_iload_n hx hb dX11_character_162 rfl (lv_at hl 5 rfl) ?_
                              refine lv_iload hx hb dX11_character_163 (lv_at hl 0 rfl) ?_
                              refine zi_add hx hb dX11_character_165 ?_
                              refine zi_ald hx hb hK hP (by omega) (by omega) dX11_character_166 ?_
                              refine zi_add hx hb dX11_character_167 ?_
                              refine lv_sipush (v := nI 128) hx hb dX11_character_168 (by decide) ?_
                              refine zi_sub hx hb (by omega) dX11_character_171 ?_
                              refine lv_istore (lv' := [(5, .int (nI (64 * (64 * (64 * (f a - 240) + (f (a + 1)) - 128) + (f (a + 2)) - 128) + (f (a + 3)) - 128))), (6, .int (nI (3))), (4, .int (nI (4))), (3, .int (nI (f a))), (0, .ref (q)), (1, .int (nI (a))), (2, .int (nI (to)))]) hx hb dX11_character_172 hl (by decide) rfl (fun ls hl => ?_)
                              refine lv_iinc (v := nI (4)) (lv' := [(6, .int (nI (4))), (5, .int (nI (64 * (64 * (64 * (f a - 240) + (f (a + 1)) - 128) + (f (a + 2)) - 128) + (f (a + 3)) - 128))), (4, .int (nI (4))), (3, .int (nI (f a))), (0, .ref (q)), (1, .int (nI (a))), (2, .int (nI (to)))]) hx hb dX11_character_174 hl (k := 1) rfl (nI_add _ _) (by decide) rfl (fun ls hl => ?_)
                              refine lv_goto (tgt := 123) hx hb dX11_character_177 (by decide) ?_
                              refine lv_iload hx hb dX11_character_123 (lv_at hl 0 rfl) ?_
                              refine lv_iload hx hb dX11_character_125 (lv_at hl 2 rfl) ?_
                              refine zi_icmp_ge (tgt := 180) hx hb dX11_character_127 (by decide) (by omega) (by omega) (fun c_127 => ?_) (fun c_127 => absurd c_127 (by decide))
                              refine lv_iload hx hb dX11_character_180 (lv_at hl 2 rfl) ?_
                              refine lv_iconst (v := nI 2) hx hb dX11_character_182 (by decide) ?_
                              refine zi_icmp_ne (tgt := 192) hx hb dX11_character_183 (by decide) (by omega) (by omega) (fun c_183 => ?_) (fun c_183 => absurd c_183 (by decide))
                              refine lv_iload hx hb dX11_character_192 (lv_at hl 2 rfl) ?_
                              refine lv_iconst (v := nI 3) hx hb dX11_character_194 (by decide) ?_
                              refine zi_icmp_ne (tgt := 204) hx hb dX11_character_195 (by decide) (by omega) (by omega) (fun c_195 => ?_) (fun c_195 => absurd c_195 (by decide))
                              refine lv_ldc (v := 65536) hx hb hown (hz _ wk_X11_60) dX11_character_204 ?_
                              refine W.eq (g2 := F0 m 206 ls ([.int (nI (65536))])) rfl ?_
                              refine lv_istore (lv' := [(6, .int (nI (65536))), (5, .int (nI (64 * (64 * (64 * (f a - 240) + (f (a + 1)) - 128) + (f (a + 2)) - 128) + (f (a + 3)) - 128))), (4, .int (nI (4))), (3, .int (nI (f a))), (0, .ref (q)), (1, .int (nI (a))), (2, .int (nI (to)))]) hx hb dX11_character_206 hl (by decide) rfl (fun ls hl => ?_)
                              refine lv_iload hx hb dX11_character_208 (lv_at hl 1 rfl) ?_
                              refine lv_iload hx hb dX11_character_210 (lv_at hl 0 rfl) ?_
                              refine zi_icmp_lt (tgt := 236) hx hb dX11_character_212 (by decide) (by omega) (by omega) (fun c_212 => ?_) (fun c_212 => ?_)
                              · refine lv_iconst (v := nI 0) hx hb dX11_character_236 (by decide) ?_
                                refine lv_goto (tgt := 242) hx hb dX11_character_237 (by decide) ?_
                                exact zr_i hx hb hr hlocks (by unfold chr; (repeat' split) <;> first | rfl | (exfalso; omega)) dX11_character_242
                              · refine lv_iload hx hb dX11_character_215 (lv_at hl 1 rfl) ?_
                                refine lv_ldc (v := 1114111) hx hb hown (hz _ wk_X11_61) dX11_character_217 ?_
                                refine W.eq (g2 := F0 m 219 ls ([.int (nI (1114111)), .int (nI (64 * (64 * (64 * (f a - 240) + (f (a + 1)) - 128) + (f (a + 2)) - 128) + (f (a + 3)) - 128))])) rfl ?_
                                refine zi_icmp_gt (tgt := 236) hx hb dX11_character_219 (by decide) (by omega) (by omega) (fun c_219 => ?_) (fun c_219 => ?_)
                                · refine lv_iconst (v := nI 0) hx hb dX11_character_236 (by decide) ?_
                                  refine lv_goto (tgt := 242) hx hb dX11_character_237 (by decide) ?_
                                  exact zr_i hx hb hr hlocks (by unfold chr; (repeat' split) <;> first | rfl | (exfalso; omega)) dX11_character_242
                                · refine lv_iload hx hb dX11_character_222 (lv_at hl 1 rfl) ?_
                                  refine lv_ldc (v := 55295) hx hb hown (hz _ wk_X11_62) dX11_character_224 ?_
                                  refine W.eq (g2 := F0 m 226 ls ([.int (nI (55295)), .int (nI (64 * (64 * (64 * (f a - 240) + (f (a + 1)) - 128) + (f (a + 2)) - 128) + (f (a + 3)) - 128))])) rfl ?_
                                  refine zi_icmp_le (tgt := 240) hx hb dX11_character_226 (by decide) (by omega) (by omega) (fun c_226 => ?_) (fun c_226 => ?_)
                                  · refine lv_iload hx hb dX11_character_240 (lv_at hl 2 rfl) ?_
                                    exact zr_i hx hb hr hlocks (by unfold chr; (repeat' split) <;> first | rfl | (exfalso; omega)) dX11_character_242
                                  · refine lv_iload hx hb dX11_character_229 (lv_at hl 1 rfl) ?_
                                    refine lv_ldc (v := 57344) hx hb hown (hz _ wk_X11_63) dX11_character_231 ?_
                                    refine W.eq (g2 := F0 m 233 ls ([.int (nI (57344)), .int (nI (64 * (64 * (64 * (f a - 240) + (f (a + 1)) - 128) + (f (a + 2)) - 128) + (f (a + 3)) - 128))])) rfl ?_
                                    refine zi_icmp_ge (tgt := 240) hx hb dX11_character_233 (by decide) (by omega) (by omega) (fun c_233 => ?_) (fun c_233 => ?_)
                                    · refine lv_iload hx hb dX11_character_240 (lv_at hl 2 rfl) ?_
                                      exact zr_i hx hb hr hlocks (by unfold chr; (repeat' split) <;> first | rfl | (exfalso; omega)) dX11_character_242
                                    · refine lv_iconst (v := nI 0) hx hb dX11_character_236 (by decide) ?_
                                      refine lv_goto (tgt := 242) hx hb dX11_character_237 (by decide) ?_
                                      exact zr_i hx hb hr hlocks (by unfold chr; (repeat' split) <;> first | rfl | (exfalso; omega)) dX11_character_242
                            · refine lv_iconst (v := nI 0) hx hb dX11_character_154 (by decide) ?_
                              exact zr_i hx hb hr hlocks (by unfold chr; (repeat' split) <;> first | rfl | (exfalso; omega)) dX11_character_155
                        · refine lv_iconst (v := nI 0) hx hb dX11_character_154 (by decide) ?_
                          exact zr_i hx hb hr hlocks (by unfold chr; (repeat' split) <;> first | rfl | (exfalso; omega)) dX11_character_155
                    · refine lv_iconst (v := nI 0) hx hb dX11_character_154 (by decide) ?_
                      exact zr_i hx hb hr hlocks (by unfold chr; (repeat' split) <;> first | rfl | (exfalso; omega)) dX11_character_155
                · refine lv_iconst (v := nI 0) hx hb dX11_character_83 (by decide) ?_
                  exact zr_i hx hb hr hlocks (by unfold chr; (repeat' split) <;> first | rfl | (exfalso; omega)) dX11_character_84
          · refine lv_iconst (v := nI 3) hx hb dX11_character_45 (by decide) ?_
            refine lv_goto (tgt := 68) hx hb dX11_character_46 (by decide) ?_
            refine lv_istore (lv' := [(4, .int (nI (3))), (3, .int (nI (f a))), (0, .ref (q)), (1, .int (nI (a))), (2, .int (nI (to)))]) hx hb dX11_character_68 hl (by decide) rfl (fun ls hl => ?_)
            refine lv_iload hx hb dX11_character_70 (lv_at hl 0 rfl) ?_
            refine zi_if_eq (tgt := 83) hx hb dX11_character_72 (by decide) (by omega) (fun c_72 => absurd c_72 (by decide)) (fun c_72 => ?_)
            refine lv_iload_n hx hb dX11_character_75 rfl (lv_at hl 3 rfl) ?_
            refine lv_iload hx hb dX11_character_76 (lv_at hl 0 rfl) ?_
            refine zi_add hx hb dX11_character_78 ?_
            refine lv_iload_n hx hb dX11_character_79 rfl (lv_at hl 4 rfl) ?_
            refine zi_icmp_le (tgt := 85) hx hb dX11_character_80 (by decide) (by omega) (by omega) (fun c_80 => ?_) (fun c_80 => ?_)
            · refine lv_iload hx hb dX11_character_85 (lv_at hl 0 rfl) ?_
              refine lv_iconst (v := nI 2) hx hb dX11_character_87 (by decide) ?_
              refine zi_icmp_ne (tgt := 99) hx hb dX11_character_88 (by decide) (by omega) (by omega) (fun c_88 => ?_) (fun c_88 => absurd c_88 (by decide))
              refine lv_iload hx hb dX11_character_99 (lv_at hl 0 rfl) ?_
              refine lv_iconst (v := nI 3) hx hb dX11_character_101 (by decide) ?_
              refine zi_icmp_ne (tgt := 113) hx hb dX11_character_102 (by decide) (by omega) (by omega) (fun c_102 => absurd c_102 (by decide)) (fun c_102 => ?_)
              refine lv_iload_n hx hb dX11_character_105 rfl (lv_at hl 1 rfl) ?_
              refine lv_sipush (v := nI 224) hx hb dX11_character_106 (by decide) ?_
              refine zi_sub hx hb (by omega) dX11_character_109 ?_
              refine lv_goto (tgt := 118) hx hb dX11_character_110 (by decide) ?_
              refine lv_istore (lv' := [(5, .int (nI (f a - 224))), (4, .int (nI (3))), (3, .int (nI (f a))), (0, .ref (q)), (1, .int (nI (a))), (2, .int (nI (to)))]) hx hb dX11_character_118 hl (by decide) rfl (fun ls hl => ?_)
              refine lv_iconst (v := nI 1) hx hb dX11_character_120 (by decide) ?_
              refine lv_istore (lv' := [(6, .int (nI (1))), (5, .int (nI (f a - 224))), (4, .int (nI (3))), (3, .int (nI (f a))), (0, .ref (q)), (1, .int (nI (a))), (2, .int (nI (to)))]) hx hb dX11_character_121 hl (by decide) rfl (fun ls hl => ?_)
              refine lv_iload hx hb dX11_character_123 (lv_at hl 0 rfl) ?_
              refine lv_iload hx hb dX11_character_125 (lv_at hl 2 rfl) ?_
              refine zi_icmp_ge (tgt := 180) hx hb dX11_character_127 (by decide) (by omega) (by omega) (fun c_127 => absurd c_127 (by decide)) (fun c_127 => ?_)
              refine lv_aload_n hx hb dX11_character_130 rfl (lv_at hl 4 rfl) ?_
              refine lv_iload_n hx hb dX11_character_131 rfl (lv_at hl 5 rfl) ?_
              refine lv_iload hx hb dX11_character_132 (lv_at hl 0 rfl) ?_
              refine zi_add hx hb dX11_character_134 ?_
              refine zi_ald hx hb hK hP (by omega) (by omega) dX11_character_135 ?_
              refine lv_sipush (v := nI 128) hx hb dX11_character_136 (by decide) ?_
              refine zi_icmp_lt (tgt := 154) hx hb dX11_character_139 (by decide) (Nat.lt_trans (h8 _) (by decide)) (by omega) (fun c_139 => ?_) (fun c_139 => ?_)
              · refine lv_iconst (v := nI 0) hx hb dX11_character_154 (by decide) ?_
                exact zr_i hx hb hr hlocks (by unfold chr; (repeat' split) <;> first | rfl | (exfalso; omega)) dX11_character_155
              · refine lv_aload_n hx hb dX11_character_142 rfl (lv_at hl 4 rfl) ?_
                refine lv_iload_n hx hb dX11_character_143 rfl (lv_at hl 5 rfl) ?_
                refine lv_iload hx hb dX11_character_144 (lv_at hl 0 rfl) ?_
                refine zi_add hx hb dX11_character_146 ?_
                refine zi_ald hx hb hK hP (by omega) (by omega) dX11_character_147 ?_
                refine lv_sipush (v := nI 191) hx hb dX11_character_148 (by decide) ?_
                refine zi_icmp_le (tgt := 156) hx hb dX11_character_151 (by decide) (Nat.lt_trans (h8 _) (by decide)) (by omega) (fun c_151 => ?_) (fun c_151 => ?_)
                · refine lv_bipush (v := nI 64) hx hb dX11_character_156 (by decide) ?_
                  refine lv_iload hx hb dX11_character_158 (lv_at hl 1 rfl) ?_
                  refine zi_mul hx hb dX11_character_160 ?_
                  refine lv_aload_n hx hb dX11_character_161 rfl (lv_at hl 4 rfl) ?_
                  refine lv_iload_n hx hb dX11_character_162 rfl (lv_at hl 5 rfl) ?_
                  refine lv_iload hx hb dX11_character_163 (lv_at hl 0 rfl) ?_
                  refine zi_add hx hb dX11_character_165 ?_
                  refine zi_ald hx hb hK hP (by omega) (by omega) dX11_character_166 ?_
                  refine zi_add hx hb dX11_character_167 ?_
                  refine lv_sipush (v := nI 128) hx hb dX11_character_168 (by decide) ?_
                  refine zi_sub hx hb (by omega) dX11_character_171 ?_
                  refine lv_istore (lv' := [(5, .int (nI (64 * (f a - 224) + (f (a + 1)) - 128))), (6, .int (nI (1))), (4, .int (nI (3))), (3, .int (nI (f a))), (0, .ref (q)), (1, .int (nI (a))), (2, .int (nI (to)))]) hx hb dX11_character_172 hl (by decide) rfl (fun ls hl => ?_)
                  refine lv_iinc (v := nI (2)) (lv' := [(6, .int (nI (2))), (5, .int (nI (64 * (f a - 224) + (f (a + 1)) - 128))), (4, .int (nI (3))), (3, .int (nI (f a))), (0, .ref (q)), (1, .int (nI (a))), (2, .int (nI (to)))]) hx hb dX11_character_174 hl (k := 1) rfl (nI_add _ _) (by decide) rfl (fun ls hl => ?_)
                  refine lv_goto (tgt := 123) hx hb dX11_character_177 (by decide) ?_
                  refine lv_iload hx hb dX11_character_123 (lv_at hl 0 rfl) ?_
                  refine lv_iload hx hb dX11_character_125 (lv_at hl 2 rfl) ?_
                  refine zi_icmp_ge (tgt := 180) hx hb dX11_character_127 (by decide) (by omega) (by omega) (fun c_127 => absurd c_127 (by decide)) (fun c_127 => ?_)
                  refine lv_aload_n hx hb dX11_character_130 rfl (lv_at hl 4 rfl) ?_
                  refine lv_iload_n hx hb dX11_character_131 rfl (lv_at hl 5 rfl) ?_
                  refine lv_iload hx hb dX11_character_132 (lv_at hl 0 rfl) ?_
                  refine zi_add hx hb dX11_character_134 ?_
                  refine zi_ald hx hb hK hP (by omega) (by omega) dX11_character_135 ?_
                  refine lv_sipush (v := nI 128) hx hb dX11_character_136 (by decide) ?_
                  refine zi_icmp_lt (tgt := 154) hx hb dX11_character_139 (by decide) (Nat.lt_trans (h8 _) (by decide)) (by omega) (fun c_139 => ?_) (fun c_139 => ?_)
                  · refine lv_iconst (v := nI 0) hx hb dX11_character_154 (by decide) ?_
                    exact zr_i hx hb hr hlocks (by unfold chr; (repeat' split) <;> first | rfl | (exfalso; omega)) dX11_character_155
                  · refine lv_aload_n hx hb dX11_character_142 rfl (lv_at hl 4 rfl) ?_
                    refine lv_iload_n hx hb dX11_character_143 rfl (lv_at hl 5 rfl) ?_
                    refine lv_iload hx hb dX11_character_144 (lv_at hl 0 rfl) ?_
                    refine zi_add hx hb dX11_character_146 ?_
                    refine zi_ald hx hb hK hP (by omega) (by omega) dX11_character_147 ?_
                    refine lv_sipush (v := nI 191) hx hb dX11_character_148 (by decide) ?_
                    refine zi_icmp_le (tgt := 156) hx hb dX11_character_151 (by decide) (Nat.lt_trans (h8 _) (by decide)) (by omega) (fun c_151 => ?_) (fun c_151 => ?_)
                    · refine lv_bipush (v := nI 64) hx hb dX11_character_156 (by decide) ?_
                      refine lv_iload hx hb dX11_character_158 (lv_at hl 1 rfl) ?_
                      refine zi_mul hx hb dX11_character_160 ?_
                      refine lv_aload_n hx hb dX11_character_161 rfl (lv_at hl 4 rfl) ?_
                      refine lv_iload_n hx hb dX11_character_162 rfl (lv_at hl 5 rfl) ?_
                      refine lv_iload hx hb dX11_character_163 (lv_at hl 0 rfl) ?_
                      refine zi_add hx hb dX11_character_165 ?_
                      refine zi_ald hx hb hK hP (by omega) (by omega) dX11_character_166 ?_
                      refine zi_add hx hb dX11_character_167 ?_
                      refine lv_sipush (v := nI 128) hx hb dX11_character_168 (by decide) ?_
                      refine zi_sub hx hb (by omega) dX11_character_171 ?_
                      refine lv_istore (lv' := [(5, .int (nI (64 * (64 * (f a - 224) + (f (a + 1)) - 128) + (f (a + 2)) - 128))), (6, .int (nI (2))), (4, .int (nI (3))), (3, .int (nI (f a))), (0, .ref (q)), (1, .int (nI (a))), (2, .int (nI (to)))]) hx hb dX11_character_172 hl (by decide) rfl (fun ls hl => ?_)
                      refine lv_iinc (v := nI (3)) (lv' := [(6, .int (nI (3))), (5, .int (nI (64 * (64 * (f a - 224) + (f (a + 1)) - 128) + (f (a + 2)) - 128))), (4, .int (nI (3))), (3, .int (nI (f a))), (0, .ref (q)), (1, .int (nI (a))), (2, .int (nI (to)))]) hx hb dX11_character_174 hl (k := 1) rfl (nI_add _ _) (by decide) rfl (fun ls hl => ?_)
                      refine lv_goto (tgt := 123) hx hb dX11_character_177 (by decide) ?_
                      refine lv_iload hx hb dX11_character_123 (lv_at hl 0 rfl) ?_
                      refine lv_iload hx hb dX11_character_125 (lv_at hl 2 rfl) ?_
                      refine zi_icmp_ge (tgt := 180) hx hb dX11_character_127 (by decide) (by omega) (by omega) (fun c_127 => ?_) (fun c_127 => absurd c_127 (by decide))
                      refine lv_iload hx hb dX11_character_180 (lv_at hl 2 rfl) ?_
                      refine lv_iconst (v := nI 2) hx hb dX11_character_182 (by decide) ?_
                      refine zi_icmp_ne (tgt := 192) hx hb dX11_character_183 (by decide) (by omega) (by omega) (fun c_183 => ?_) (fun c_183 => absurd c_183 (by decide))
                      refine lv_iload hx hb dX11_character_192 (lv_at hl 2 rfl) ?_
                      refine lv_iconst (v := nI 3) hx hb dX11_character_194 (by decide) ?_
                      refine zi_icmp_ne (tgt := 204) hx hb dX11_character_195 (by decide) (by omega) (by omega) (fun c_195 => absurd c_195 (by decide)) (fun c_195 => ?_)
                      refine lv_sipush (v := nI 2048) hx hb dX11_character_198 (by decide) ?_
                      refine lv_goto (tgt := 206) hx hb dX11_character_201 (by decide) ?_
                      refine lv_istore (lv' := [(6, .int (nI (2048))), (5, .int (nI (64 * (64 * (f a - 224) + (f (a + 1)) - 128) + (f (a + 2)) - 128))), (4, .int (nI (3))), (3, .int (nI (f a))), (0, .ref (q)), (1, .int (nI (a))), (2, .int (nI (to)))]) hx hb dX11_character_206 hl (by decide) rfl (fun ls hl => ?_)
                      refine lv_iload hx hb dX11_character_208 (lv_at hl 1 rfl) ?_
                      refine lv_iload hx hb dX11_character_210 (lv_at hl 0 rfl) ?_
                      refine zi_icmp_lt (tgt := 236) hx hb dX11_character_212 (by decide) (by omega) (by omega) (fun c_212 => ?_) (fun c_212 => ?_)
                      · refine lv_iconst (v := nI 0) hx hb dX11_character_236 (by decide) ?_
                        refine lv_goto (tgt := 242) hx hb dX11_character_237 (by decide) ?_
                        exact zr_i hx hb hr hlocks (by unfold chr; (repeat' split) <;> first | rfl | (exfalso; omega)) dX11_character_242
                      · refine lv_iload hx hb dX11_character_215 (lv_at hl 1 rfl) ?_
                        refine lv_ldc (v := 1114111) hx hb hown (hz _ wk_X11_61) dX11_character_217 ?_
                        refine W.eq (g2 := F0 m 219 ls ([.int (nI (1114111)), .int (nI (64 * (64 * (f a - 224) + (f (a + 1)) - 128) + (f (a + 2)) - 128))])) rfl ?_
                        refine zi_icmp_gt (tgt := 236) hx hb dX11_character_219 (by decide) (by omega) (by omega) (fun c_219 => ?_) (fun c_219 => ?_)
                        · refine lv_iconst (v := nI 0) hx hb dX11_character_236 (by decide) ?_
                          refine lv_goto (tgt := 242) hx hb dX11_character_237 (by decide) ?_
                          exact zr_i hx hb hr hlocks (by unfold chr; (repeat' split) <;> first | rfl | (exfalso; omega)) dX11_character_242
                        · refine lv_iload hx hb dX11_character_222 (lv_at hl 1 rfl) ?_
                          refine lv_ldc (v := 55295) hx hb hown (hz _ wk_X11_62) dX11_character_224 ?_
                          refine W.eq (g2 := F0 m 226 ls ([.int (nI (55295)), .int (nI (64 * (64 * (f a - 224) + (f (a + 1)) - 128) + (f (a + 2)) - 128))])) rfl ?_
                          refine zi_icmp_le (tgt := 240) hx hb dX11_character_226 (by decide) (by omega) (by omega) (fun c_226 => ?_) (fun c_226 => ?_)
                          · refine lv_iload hx hb dX11_character_240 (lv_at hl 2 rfl) ?_
                            exact zr_i hx hb hr hlocks (by unfold chr; (repeat' split) <;> first | rfl | (exfalso; omega)) dX11_character_242
                          · refine lv_iload hx hb dX11_character_229 (lv_at hl 1 rfl) ?_
                            refine lv_ldc (v := 57344) hx hb hown (hz _ wk_X11_63) dX11_character_231 ?_
                            refine W.eq (g2 := F0 m 233 ls ([.int (nI (57344)), .int (nI (64 * (64 * (f a - 224) + (f (a + 1)) - 128) + (f (a + 2)) - 128))])) rfl ?_
                            refine zi_icmp_ge (tgt := 240) hx hb dX11_character_233 (by decide) (by omega) (by omega) (fun c_233 => ?_) (fun c_233 => ?_)
                            · refine lv_iload hx hb dX11_character_240 (lv_at hl 2 rfl) ?_
                              exact zr_i hx hb hr hlocks (by unfold chr; (repeat' split) <;> first | rfl | (exfalso; omega)) dX11_character_242
                            · refine lv_iconst (v := nI 0) hx hb dX11_character_236 (by decide) ?_
                              refine lv_goto (tgt := 242) hx hb dX11_character_237 (by decide) ?_
                              exact zr_i hx hb hr hlocks (by unfold chr; (repeat' split) <;> first | rfl | (exfalso; omega)) dX11_character_242
                    · refine lv_iconst (v := nI 0) hx hb dX11_character_154 (by decide) ?_
                      exact zr_i hx hb hr hlocks (by unfold chr; (repeat' split) <;> first | rfl | (exfalso; omega)) dX11_character_155
                · refine lv_iconst (v := nI 0) hx hb dX11_character_154 (by decide) ?_
                  exact zr_i hx hb hr hlocks (by unfold chr; (repeat' split) <;> first | rfl | (exfalso; omega)) dX11_character_155
            · refine lv_iconst (v := nI 0) hx hb dX11_character_83 (by decide) ?_
              exact zr_i hx hb hr hlocks (by unfold chr; (repeat' split) <;> first | rfl | (exfalso; omega)) dX11_character_84
      · refine lv_iconst (v := nI 2) hx hb dX11_character_27 (by decide) ?_
        refine lv_goto (tgt := 68) hx hb dX11_character_28 (by decide) ?_
        refine lv_istore (lv' := [(4, .int (nI (2))), (3, .int (nI (f a))), (0, .ref (q)), (1, .int (nI (a))), (2, .int (nI (to)))]) hx hb dX11_character_68 hl (by decide) rfl (fun ls hl => ?_)
        refine lv_iload hx hb dX11_character_70 (lv_at hl 0 rfl) ?_
        refine zi_if_eq (tgt := 83) hx hb dX11_character_72 (by decide) (by omega) (fun c_72 => absurd c_72 (by decide)) (fun c_72 => ?_)
        refine lv_iload_n hx hb dX11_character_75 rfl (lv_at hl 3 rfl) ?_
        refine lv_iload hx hb dX11_character_76 (lv_at hl 0 rfl) ?_
        refine zi_add hx hb dX11_character_78 ?_
        refine lv_iload_n hx hb dX11_character_79 rfl (lv_at hl 4 rfl) ?_
        refine zi_icmp_le (tgt := 85) hx hb dX11_character_80 (by decide) (by omega) (by omega) (fun c_80 => ?_) (fun c_80 => ?_)
        · refine lv_iload hx hb dX11_character_85 (lv_at hl 0 rfl) ?_
          refine lv_iconst (v := nI 2) hx hb dX11_character_87 (by decide) ?_
          refine zi_icmp_ne (tgt := 99) hx hb dX11_character_88 (by decide) (by omega) (by omega) (fun c_88 => absurd c_88 (by decide)) (fun c_88 => ?_)
          refine lv_iload_n hx hb dX11_character_91 rfl (lv_at hl 1 rfl) ?_
          refine lv_sipush (v := nI 192) hx hb dX11_character_92 (by decide) ?_
          refine zi_sub hx hb (by omega) dX11_character_95 ?_
          refine lv_goto (tgt := 118) hx hb dX11_character_96 (by decide) ?_
          refine lv_istore (lv' := [(5, .int (nI (f a - 192))), (4, .int (nI (2))), (3, .int (nI (f a))), (0, .ref (q)), (1, .int (nI (a))), (2, .int (nI (to)))]) hx hb dX11_character_118 hl (by decide) rfl (fun ls hl => ?_)
          refine lv_iconst (v := nI 1) hx hb dX11_character_120 (by decide) ?_
          refine lv_istore (lv' := [(6, .int (nI (1))), (5, .int (nI (f a - 192))), (4, .int (nI (2))), (3, .int (nI (f a))), (0, .ref (q)), (1, .int (nI (a))), (2, .int (nI (to)))]) hx hb dX11_character_121 hl (by decide) rfl (fun ls hl => ?_)
          refine lv_iload hx hb dX11_character_123 (lv_at hl 0 rfl) ?_
          refine lv_iload hx hb dX11_character_125 (lv_at hl 2 rfl) ?_
          refine zi_icmp_ge (tgt := 180) hx hb dX11_character_127 (by decide) (by omega) (by omega) (fun c_127 => absurd c_127 (by decide)) (fun c_127 => ?_)
          refine lv_aload_n hx hb dX11_character_130 rfl (lv_at hl 4 rfl) ?_
          refine lv_iload_n hx hb dX11_character_131 rfl (lv_at hl 5 rfl) ?_
          refine lv_iload hx hb dX11_character_132 (lv_at hl 0 rfl) ?_
          refine zi_add hx hb dX11_character_134 ?_
          refine zi_ald hx hb hK hP (by omega) (by omega) dX11_character_135 ?_
          refine lv_sipush (v := nI 128) hx hb dX11_character_136 (by decide) ?_
          refine zi_icmp_lt (tgt := 154) hx hb dX11_character_139 (by decide) (Nat.lt_trans (h8 _) (by decide)) (by omega) (fun c_139 => ?_) (fun c_139 => ?_)
          · refine lv_iconst (v := nI 0) hx hb dX11_character_154 (by decide) ?_
            exact zr_i hx hb hr hlocks (by unfold chr; (repeat' split) <;> first | rfl | (exfalso; omega)) dX11_character_155
          · refine lv_aload_n hx hb dX11_character_142 rfl (lv_at hl 4 rfl) ?_
            refine lv_iload_n hx hb dX11_character_143 rfl (lv_at hl 5 rfl) ?_
            refine lv_iload hx hb dX11_character_144 (lv_at hl 0 rfl) ?_
            refine zi_add hx hb dX11_character_146 ?_
            refine zi_ald hx hb hK hP (by omega) (by omega) dX11_character_147 ?_
            refine lv_sipush (v := nI 191) hx hb dX11_character_148 (by decide) ?_
            refine zi_icmp_le (tgt := 156) hx hb dX11_character_151 (by decide) (Nat.lt_trans (h8 _) (by decide)) (by omega) (fun c_151 => ?_) (fun c_151 => ?_)
            · refine lv_bipush (v := nI 64) hx hb dX11_character_156 (by decide) ?_
              refine lv_iload hx hb dX11_character_158 (lv_at hl 1 rfl) ?_
              refine zi_mul hx hb dX11_character_160 ?_
              refine lv_aload_n hx hb dX11_character_161 rfl (lv_at hl 4 rfl) ?_
              refine lv_iload_n hx hb dX11_character_162 rfl (lv_at hl 5 rfl) ?_
              refine lv_iload hx hb dX11_character_163 (lv_at hl 0 rfl) ?_
              refine zi_add hx hb dX11_character_165 ?_
              refine zi_ald hx hb hK hP (by omega) (by omega) dX11_character_166 ?_
              refine zi_add hx hb dX11_character_167 ?_
              refine lv_sipush (v := nI 128) hx hb dX11_character_168 (by decide) ?_
              refine zi_sub hx hb (by omega) dX11_character_171 ?_
              refine lv_istore (lv' := [(5, .int (nI (64 * (f a - 192) + (f (a + 1)) - 128))), (6, .int (nI (1))), (4, .int (nI (2))), (3, .int (nI (f a))), (0, .ref (q)), (1, .int (nI (a))), (2, .int (nI (to)))]) hx hb dX11_character_172 hl (by decide) rfl (fun ls hl => ?_)
              refine lv_iinc (v := nI (2)) (lv' := [(6, .int (nI (2))), (5, .int (nI (64 * (f a - 192) + (f (a + 1)) - 128))), (4, .int (nI (2))), (3, .int (nI (f a))), (0, .ref (q)), (1, .int (nI (a))), (2, .int (nI (to)))]) hx hb dX11_character_174 hl (k := 1) rfl (nI_add _ _) (by decide) rfl (fun ls hl => ?_)
              refine lv_goto (tgt := 123) hx hb dX11_character_177 (by decide) ?_
              refine lv_iload hx hb dX11_character_123 (lv_at hl 0 rfl) ?_
              refine lv_iload hx hb dX11_character_125 (lv_at hl 2 rfl) ?_
              refine zi_icmp_ge (tgt := 180) hx hb dX11_character_127 (by decide) (by omega) (by omega) (fun c_127 => ?_) (fun c_127 => absurd c_127 (by decide))
              refine lv_iload hx hb dX11_character_180 (lv_at hl 2 rfl) ?_
              refine lv_iconst (v := nI 2) hx hb dX11_character_182 (by decide) ?_
              refine zi_icmp_ne (tgt := 192) hx hb dX11_character_183 (by decide) (by omega) (by omega) (fun c_183 => absurd c_183 (by decide)) (fun c_183 => ?_)
              refine lv_sipush (v := nI 128) hx hb dX11_character_186 (by decide) ?_
              refine lv_goto (tgt := 206) hx hb dX11_character_189 (by decide) ?_
              refine lv_istore (lv' := [(6, .int (nI (128))), (5, .int (nI (64 * (f a - 192) + (f (a + 1)) - 128))), (4, .int (nI (2))), (3, .int (nI (f a))), (0, .ref (q)), (1, .int (nI (a))), (2, .int (nI (to)))]) hx hb dX11_character_206 hl (by decide) rfl (fun ls hl => ?_)
              refine lv_iload hx hb dX11_character_208 (lv_at hl 1 rfl) ?_
              refine lv_iload hx hb dX11_character_210 (lv_at hl 0 rfl) ?_
              refine zi_icmp_lt (tgt := 236) hx hb dX11_character_212 (by decide) (by omega) (by omega) (fun c_212 => ?_) (fun c_212 => ?_)
              · refine lv_iconst (v := nI 0) hx hb dX11_character_236 (by decide) ?_
                refine lv_goto (tgt := 242) hx hb dX11_character_237 (by decide) ?_
                exact zr_i hx hb hr hlocks (by unfold chr; (repeat' split) <;> first | rfl | (exfalso; omega)) dX11_character_242
              · refine lv_iload hx hb dX11_character_215 (lv_at hl 1 rfl) ?_
                refine lv_ldc (v := 1114111) hx hb hown (hz _ wk_X11_61) dX11_character_217 ?_
                refine W.eq (g2 := F0 m 219 ls ([.int (nI (1114111)), .int (nI (64 * (f a - 192) + (f (a + 1)) - 128))])) rfl ?_
                refine zi_icmp_gt (tgt := 236) hx hb dX11_character_219 (by decide) (by omega) (by omega) (fun c_219 => ?_) (fun c_219 => ?_)
                · refine lv_iconst (v := nI 0) hx hb dX11_character_236 (by decide) ?_
                  refine lv_goto (tgt := 242) hx hb dX11_character_237 (by decide) ?_
                  exact zr_i hx hb hr hlocks (by unfold chr; (repeat' split) <;> first | rfl | (exfalso; omega)) dX11_character_242
                · refine lv_iload hx hb dX11_character_222 (lv_at hl 1 rfl) ?_
                  refine lv_ldc (v := 55295) hx hb hown (hz _ wk_X11_62) dX11_character_224 ?_
                  refine W.eq (g2 := F0 m 226 ls ([.int (nI (55295)), .int (nI (64 * (f a - 192) + (f (a + 1)) - 128))])) rfl ?_
                  refine zi_icmp_le (tgt := 240) hx hb dX11_character_226 (by decide) (by omega) (by omega) (fun c_226 => ?_) (fun c_226 => ?_)
                  · refine lv_iload hx hb dX11_character_240 (lv_at hl 2 rfl) ?_
                    exact zr_i hx hb hr hlocks (by unfold chr; (repeat' split) <;> first | rfl | (exfalso; omega)) dX11_character_242
                  · refine lv_iload hx hb dX11_character_229 (lv_at hl 1 rfl) ?_
                    refine lv_ldc (v := 57344) hx hb hown (hz _ wk_X11_63) dX11_character_231 ?_
                    refine W.eq (g2 := F0 m 233 ls ([.int (nI (57344)), .int (nI (64 * (f a - 192) + (f (a + 1)) - 128))])) rfl ?_
                    refine zi_icmp_ge (tgt := 240) hx hb dX11_character_233 (by decide) (by omega) (by omega) (fun c_233 => ?_) (fun c_233 => ?_)
                    · refine lv_iload hx hb dX11_character_240 (lv_at hl 2 rfl) ?_
                      exact zr_i hx hb hr hlocks (by unfold chr; (repeat' split) <;> first | rfl | (exfalso; omega)) dX11_character_242
                    · refine lv_iconst (v := nI 0) hx hb dX11_character_236 (by decide) ?_
                      refine lv_goto (tgt := 242) hx hb dX11_character_237 (by decide) ?_
                      exact zr_i hx hb hr hlocks (by unfold chr; (repeat' split) <;> first | rfl | (exfalso; omega)) dX11_character_242
            · refine lv_iconst (v := nI 0) hx hb dX11_character_154 (by decide) ?_
              exact zr_i hx hb hr hlocks (by unfold chr; (repeat' split) <;> first | rfl | (exfalso; omega)) dX11_character_155
        · refine lv_iconst (v := nI 0) hx hb dX11_character_83 (by decide) ?_
          exact zr_i hx hb hr hlocks (by unfold chr; (repeat' split) <;> first | rfl | (exfalso; omega)) dX11_character_84
  · refine lv_iconst (v := nI 1) hx hb dX11_character_11 (by decide) ?_
    exact zr_i hx hb hr hlocks (by unfold chr; (repeat' split) <;> first | rfl | (exfalso; omega)) dX11_character_12
