/-! ===== objects as they are made; small words for stores ===== -/
theorem df_J0 : ∀ j, j < 4 → defaultValue (tyJ0 j) = vp_V [.null, .int (nI (0)), .int (nI (0)), .int (nI (0))] j
  | 0, _ => rfl
  | 1, _ => rfl
  | 2, _ => rfl
  | 3, _ => rfl
  | n + 4, h => absurd h (by omega)
theorem df_X0 : ∀ j, j < 2 → defaultValue (tyX0 j) = vp_V [.null, .int (nI (0))] j
  | 0, _ => rfl
  | 1, _ => rfl
  | n + 2, h => absurd h (by omega)
theorem df_X1 : ∀ j, j < 2 → defaultValue (tyX1 j) = vp_V [.null, .null] j
  | 0, _ => rfl
  | 1, _ => rfl
  | n + 2, h => absurd h (by omega)
theorem df_X2 : ∀ j, j < 3 → defaultValue (tyX2 j) = vp_V [.null, .int (nI (0)), .int (nI (0))] j
  | 0, _ => rfl
  | 1, _ => rfl
  | 2, _ => rfl
  | n + 3, h => absurd h (by omega)
theorem df_X4 : ∀ j, j < 1 → defaultValue (tyX4 j) = vp_V [.null] j
  | 0, _ => rfl
  | n + 1, h => absurd h (by omega)
theorem df_X6 : ∀ j, j < 7 → defaultValue (tyX6 j) = vp_V [.int (nI (0)), .int (nI (0)), .null, .null, .null, .null, .null] j
  | 0, _ => rfl
  | 1, _ => rfl
  | 2, _ => rfl
  | 3, _ => rfl
  | 4, _ => rfl
  | 5, _ => rfl
  | 6, _ => rfl
  | n + 7, h => absurd h (by omega)
theorem df_X7 : ∀ j, j < 3 → defaultValue (tyX7 j) = vp_V [.null, .null, .int (nI (0))] j
  | 0, _ => rfl
  | 1, _ => rfl
  | 2, _ => rfl
  | n + 3, h => absurd h (by omega)
theorem df_X8 : ∀ j, j < 2 → defaultValue (tyX8 j) = vp_V [.null, .int (nI (0))] j
  | 0, _ => rfl
  | 1, _ => rfl
  | n + 2, h => absurd h (by omega)
theorem df_X9 : ∀ j, j < 9 → defaultValue (tyX9 j) = vp_V [.int (nI (0)), .int (nI (0)), .null, .null, .long (0), .null, .null, .null, .int (nI (0))] j
  | 0, _ => rfl
  | 1, _ => rfl
  | 2, _ => rfl
  | 3, _ => rfl
  | 4, _ => rfl
  | 5, _ => rfl
  | 6, _ => rfl
  | 7, _ => rfl
  | 8, _ => rfl
  | n + 9, h => absurd h (by omega)
theorem df_X10 : ∀ j, j < 5 → defaultValue (tyX10 j) = vp_V [.null, .null, .null, .null, .int (nI (0))] j
  | 0, _ => rfl
  | 1, _ => rfl
  | 2, _ => rfl
  | 3, _ => rfl
  | 4, _ => rfl
  | n + 5, h => absurd h (by omega)
theorem df_X11 : ∀ j, j < 23 → defaultValue (tyX11 j) = vp_V [.int (nI (0)), .null, .int (nI (0)), .int (nI (0)), .null, .null, .null, .int (nI (0)), .int (nI (0)), .int (nI (0)), .int (nI (0)), .int (nI (0)), .null, .int (nI (0)), .int (nI (0)), .null, .null, .null, .null, .null, .null, .null, .int (nI (0))] j
  | 0, _ => rfl
  | 1, _ => rfl
  | 2, _ => rfl
  | 3, _ => rfl
  | 4, _ => rfl
  | 5, _ => rfl
  | 6, _ => rfl
  | 7, _ => rfl
  | 8, _ => rfl
  | 9, _ => rfl
  | 10, _ => rfl
  | 11, _ => rfl
  | 12, _ => rfl
  | 13, _ => rfl
  | 14, _ => rfl
  | 15, _ => rfl
  | 16, _ => rfl
  | 17, _ => rfl
  | 18, _ => rfl
  | 19, _ => rfl
  | 20, _ => rfl
  | 21, _ => rfl
  | 22, _ => rfl
  | n + 23, h => absurd h (by omega)
def zRg (G : zG) (lo hi : Nat) : Nat → Prop := fun q => (lo ≤ q ∧ q < hi) ∨ q < cB G
theorem znar_o {C : String} (x : Option Nat) : narrow (.object C) (va_rf x) = va_rf x := by cases x <;> rfl
theorem zfit_o {C : String} (x : Option Nat) : fits (.object C) (va_rf x) = true := by cases x <;> rfl
theorem arrV_ext {c : ClassId} {n : Nat} {f g : Nat → Value} (h : ∀ i, i < n → f i = g i) : arrV c n f = arrV c n g := by
  unfold arrV
  congr 1
  congr 1
  funext j
  exact h j.val j.isLt
theorem zB.ext {G : zG} {H : Heap} {a n : Nat} {f g : Nat → Nat} (h : zB G H a n f) (e : ∀ i, i < n → f i = g i) : zB G H a n g := by
  obtain ⟨cell, c1, c2, c3, c4, c5, c6⟩ := h
  exact ⟨cell, c1, c2, c3, c4, c5, fun j hj => by rw [c6 j hj, e j hj]⟩
theorem zC.ext {G : zG} {H : Heap} {a n : Nat} {f g : Nat → Nat} (h : zC G H a n f) (e : ∀ i, i < n → f i = g i) : zC G H a n g := by
  have h1 : H[a]? = some (arrV G.2.1.2.2.1 n (fun j => .int (nI (f j)))) := h
  show H[a]? = some (arrV G.2.1.2.2.1 n (fun j => .int (nI (g j))))
  rw [h1, arrV_ext (fun i hi => by rw [e i hi])]
theorem zA.ext {G : zG} {H : Heap} {a n : Nat} {f g : Nat → Nat} (h : zA G H a n f) (e : ∀ i, i < n → f i = g i) : zA G H a n g := by
  have h1 : H[a]? = some (arrV G.2.1.1 n (fun j => .int (nI (f j)))) := h
  show H[a]? = some (arrV G.2.1.1 n (fun j => .int (nI (g j))))
  rw [h1, arrV_ext (fun i hi => by rw [e i hi])]
theorem upN_below {u t : Nat → Nat} {k : Nat} (h : ∀ i, i < k → u i = t i) : ∀ i, i < k + 1 → upN u k (t k) i = t i := by
  intro i hi
  by_cases z : i = k
  · subst z; exact upN_self _ _ _
  · rw [upN_ne _ _ z]; exact h i (by omega)
theorem zSh.keep {G : zG} {B : Nat → Prop} {q : String × String × String} {v : Value} {H H1 : Heap} (h : zSh G q v H) (k : zKp B H H1) (hb : G.2.2 ("A:" ++ q.2.1) < H.size ∧ ¬ B (G.2.2 ("A:" ++ q.2.1))) : zSh G q v H1 := h.kept (k _ hb.1 hb.2)
theorem nar_sb (x : Nat) : narrow .byte (.int (sb_b x)) = .int (sb_b x) := by
  show Value.int ((sb_b x).toInt8.toInt32) = _
  unfold sb_b
  simp
theorem sg_get {f : Nat → Nat} : ∀ (n a i : Nat), i < n → (sg f a n).getD i 0 = f (a + i)
  | 0, _, _, h => absurd h (Nat.not_lt_zero _)
  | n + 1, a, 0, _ => rfl
  | n + 1, a, i + 1, h => by
    show (sg f (a + 1) n).getD i 0 = _
    rw [sg_get n (a + 1) i (by omega), show a + 1 + i = a + (i + 1) by omega]
theorem sg_out {f : Nat → Nat} : ∀ (n a i : Nat), n ≤ i → (sg f a n).getD i 0 = 0
  | 0, _, _, _ => rfl
  | n + 1, a, 0, h => absurd h (by omega)
  | n + 1, a, i + 1, h => by
    show (sg f (a + 1) n).getD i 0 = _
    exact sg_out n (a + 1) i (by omega)
theorem mkStr {G : zG} {H : Heap} {Z : Nat → Prop} {sa b n a : Nat} {u f : Nat → Nat} {hs hz : Value} (h1 : zO G H sa 0 [.ref b, .int (nI 0), hs, hz]) (h2 : zB G H b n u) (hu : ∀ i, i < n → u i = f (a + i)) (h8 : ∀ i, f i < 256) (hn : n < 2 ^ 31) (z1 : Z sa) (z2 : Z b) : StrZ G H Z sa (sg f a n) := by
  refine ⟨b, hs, hz, z1, z2, h1.w, ?_, fun i => ?_, by rw [sg_len]; exact hn⟩
  · rw [sg_len]
    exact h2.ext (fun i hi => by rw [hu i hi, sg_get n a i hi])
  · by_cases z : i < n
    · show (sg f a n).getD i 0 < 256
      rw [sg_get n a i z]; exact h8 _
    · show (sg f a n).getD i 0 < 256
      rw [sg_out n a i (by omega)]; decide
theorem sg_ext {f g : Nat → Nat} : ∀ (n a : Nat), (∀ i, a ≤ i → i < a + n → f i = g i) → sg f a n = sg g a n
  | 0, _, _ => rfl
  | n + 1, a, h => by
    show f a :: sg f (a + 1) n = g a :: sg g (a + 1) n
    rw [h a (Nat.le_refl _) (by omega), sg_ext n (a + 1) (fun i h1 h2 => h i (by omega) (by omega))]
