/-! ===== conditions and clauses of the class: small words ===== -/
theorem nB12 {b : Bool} (h : 1 + nB b = 2) : b = true := by
  cases b
  · exact absurd h (by decide)
  · rfl
theorem nB1n {b : Bool} (h : 1 + nB b ≠ 2) : b = false := by
  cases b
  · rfl
  · exact absurd rfl h
theorem ec_al {f : Nat → Nat} {d : Nat} {ts : List cT} {q k a : Nat} : (ecF f (d + 1)).1 ts q k a = ts.all (fun t9 => cdS f (ecF f d).1 (ecF f d).2 t9 q k a) := rfl
theorem RFn_j {G : zG} {H : Heap} {f : Nat → Nat} {pf : Nat → Int32} {Z : Nat → Prop} {d lo r hi e : Nat} {nx : Option Nat} (hj : f (e + 1) = 36) (h : RFn G H f pf Z d lo r hi e nx) : RJn G H f pf Z (RuL G H f pf Z d).2 lo r hi e nx := by
  unfold RFn at h
  rw [if_pos hj] at h
  exact h
theorem RFn_w {G : zG} {H : Heap} {f : Nat → Nat} {pf : Nat → Int32} {Z : Nat → Prop} {d lo r hi e : Nat} {nx : Option Nat} (hj : f (e + 1) ≠ 36) (h : RFn G H f pf Z d lo r hi e nx) : RWn G H f pf Z (RuL G H f pf Z d).1 (kidR (RCn G H f pf Z (RuL G H f pf Z d).1 (RuL G H f pf Z d).2)) lo r hi e nx := by
  unfold RFn at h
  rw [if_neg hj] at h
  exact h
theorem RFn_o {G : zG} {H : Heap} {f : Nat → Nat} {pf : Nat → Int32} {Z : Nat → Prop} {d lo r hi e : Nat} {nx : Option Nat} (h : RFn G H f pf Z d lo r hi e nx) : ∃ sg ng vl pa fs ls, zO G H r 5 (rlF sg ng vl pa fs ls nx) := by
  by_cases hj : f (e + 1) = 36
  · obtain ⟨vl, rs, h1, -⟩ := RFn_j hj h
    exact ⟨_, _, _, _, _, _, h1⟩
  · obtain ⟨vl, rs, sa, h1, -⟩ := RFn_w hj h
    exact ⟨_, _, _, _, _, _, h1⟩
theorem Met.no {l : Launch} {y : MethodName} {ws : List Cond} {rm : Room} {G : zG} {As : List Value} {P P1 : Heap → Prop} {Q : Array Value → State → Outcome → State → Prop} {c1 c2 : Nat} {fr : Nat → Prop} (h : Met l y ws rm (zP G As P1) Q c1 c2 fr) (hp : ∀ H, P H → P1 H) : Met l y ws rm (zP G As P) Q c1 c2 fr := MetFree.mono h (fun _ _ h9 => ⟨h9.1, hp _ h9.2.1, h9.2.2⟩) (fun _ _ _ _ _ h9 => h9) (fun _ _ _ _ _ h9 => h9)
/-- what a contract's words name apart may be named inside -/
theorem Met.ex {l : Launch} {y : MethodName} {ws : List Cond} {rm : Room} {G : zG} {As : List Value} {I : Type} {P : I → Heap → Prop} {Q : Array Value → State → Outcome → State → Prop} {c1 c2 : Nat} {fr : Nat → Prop} (h : ∀ i, Met l y ws rm (zP G As (P i)) Q c1 c2 fr) : Met l y ws rm (zP G As (fun H => ∃ i, P i H)) Q c1 c2 fr := by
  have h1 := MetFree.ex h
  exact MetFree.mono h1 (fun a s h9 => by
    obtain ⟨e, ⟨i, hi⟩, hk⟩ := h9
    exact ⟨i, e, hi, hk⟩) (fun _ _ _ _ _ h9 => h9) (fun _ _ _ _ _ h9 => by
    obtain ⟨i, -, h⟩ := h9
    exact h)
