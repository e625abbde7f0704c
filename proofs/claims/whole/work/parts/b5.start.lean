/-! ===== the law's start: what the tables and the statement say of the state ===== -/
def nF : List Cond := flatC (Jvm.Cond.and given_1 narrow_1)
theorem nf {args : Array Value} {s : State} (hs : ∀ c ∈ nF, c.before args s = true) (i : Nat) {w : Cond} (h : nF[i]? = some w) : w.before args s = true := hs w (List.mem_of_getElem? h)
/-- a constant's object and its bytes, as the statement gives them -/
def CsS (args : Array Value) (s : State) (t : Term) (cC : ClassId) (iS : Nat → Nat) (w : List Nat) : Prop := ∃ (a v : Nat) (cS cV : Cell) (x y : Value), t.eval args s none [] s = some (.ref a) ∧ s.heap[a]? = some cS ∧ cS.cls = cC ∧ cS.vm.isStatics = false ∧ cS.vm ≠ .unknown ∧ (cS.slots[iS 0]? = some (.ref v) ∧ cS.slots[iS 1]? = some (.int (nI 0)) ∧ cS.slots[iS 2]? = some x ∧ cS.slots[iS 3]? = some y) ∧ s.heap[v]? = some cV ∧ s.isArrayOf cV .byte ∧ cV.vm ≠ .unknown ∧ (w.length ≤ cV.slots.size ∧ cV.slots.size.toInt32 = nI w.length) ∧ ∀ j, j < w.length → cV.slots[j]? = some (.int (sb_b (w.getD j 0)))
theorem st_str {args : Array Value} {s : State} {t : Term} {w : List Nat} {bs : List Int32} {cC : ClassId} {iS : Nat → Nat} {Ts : List Cond} (hts : ∀ c ∈ Ts, c.before args s = true) (hin : ∀ c ∈ u_ws RJ0 TJ0 4, c ∈ Ts) (hKn : u_Kn s RJ0 TJ0 4 cC iS) (hN : w.length < 2 ^ 31) (hex : (Cond.exactly t "java/lang/String").before args s = true) (hco : (Cond.eq (.field t "java/lang/String" "coder" "B") (.int 0)).before args s = true) (har : (Cond.arrayOf (.field t "java/lang/String" "value" "[B") .byte).before args s = true) (hle : (Cond.eq (.length (.field t "java/lang/String" "value" "[B")) (.int (Int32.ofNat w.length))).before args s = true) (hel : ∀ j, j < w.length → (Cond.eq (.elem (.field t "java/lang/String" "value" "[B") (.int (Int32.ofNat j))) (.int (bs.getD j 0))).before args s = true) (hbs : ∀ j, j < w.length → bs.getD j 0 = sb_b (w.getD j 0)) : CsS args s t cC iS w := by
  obtain ⟨a, c, cA, kA, q1, q2, q3, q4, q5, q6, q7⟩ := Cond.exactly_spec (args := args) (first := s) (o := none) (s := s) (idx := []) (t := t) (cls := "java/lang/String") hex
  have hA9 : ∀ a : Nat, a < s.heap.size → ¬ (fun q : Nat => s.heap.size ≤ q) a := fun a h => Nat.not_le.mpr h
  obtain ⟨v, hv, cV, t1, t2, t3, t4, t5, t6, -⟩ := va_Tof (f := fun j => .int (bs.getD j 0)) (A := fun q : Nat => s.heap.size ≤ q) hN har (va_eqt hle) (fun j hj => va_eqt (hel j hj)) hA9
  have hOc := vk_OFof (A := fun q : Nat => s.heap.size ≤ q) q1 (va_eqt hco) hA9
  have hOv := vk_OFof (A := fun q : Nat => s.heap.size ≤ q) q1 hv hA9
  obtain ⟨hSl, hfc, kC, hkC, hkind⟩ := hKn
  have e1 : c = cC := Option.some.inj (q2.symm.trans hfc)
  subst e1
  have e2 : kA = kC := Option.some.inj (q4.symm.trans hkC)
  subst e2
  have hsz := q7 hkind
  have hslot : ∀ k, k < 4 → ∃ x, cA.slots[iS k]? = some x := by
    intro k hk
    obtain ⟨cf, kf, fi, f, hi, hsl⟩ := hSl k hk
    have h3 := (u_facts hfc hkC (u_lays hts hin hk) hi).2.2
    have h4 : f.slot < kA.instanceTypes.size := (Array.getElem?_eq_some_iff.mp h3).1
    rw [← hsl]
    exact ⟨_, Array.getElem?_eq_getElem (by omega)⟩
  obtain ⟨x, hx⟩ := hslot 2 (by decide)
  obtain ⟨y, hy⟩ := hslot 3 (by decide)
  obtain ⟨cf, k, i, f, cell, g1, g2, g3, g4, g5, -⟩ := hOv
  have e3 : cA = cell := Option.some.inj (q3.symm.trans g3)
  subst e3
  have h0 : cA.slots[iS 0]? = some (.ref v) := by
    obtain ⟨cf2, kf2, fi2, f2, hi, hsl⟩ := hSl 0 (by decide)
    cases Option.some.inj (g1.symm.trans hi)
    rw [← hsl]; exact g5
  obtain ⟨cf1, k1, i1, f1, cell1, p1, p2, p3, p4, p5, -⟩ := hOc
  have e4 : cA = cell1 := Option.some.inj (q3.symm.trans p3)
  subst e4
  have h1 : cA.slots[iS 1]? = some (.int (nI 0)) := by
    obtain ⟨cf2, kf2, fi2, f2, hi, hsl⟩ := hSl 1 (by decide)
    cases Option.some.inj (p1.symm.trans hi)
    rw [← hsl]; exact p5
  exact ⟨a, v, cA, cV, x, y, q1, q3, q6, q5, g4, ⟨h0, h1, hx, hy⟩, t1, t2, t3, ⟨t4, t5⟩, fun j hj => by rw [t6 j hj]; show some (Value.int (bs.getD j 0)) = _; rw [hbs j hj]⟩
theorem st_arr {args : Array Value} {s : State} {ty : FieldType} (h : (Cond.arrayClass ty).before args s = true) : ∃ cA, ArrOfT s cA ty ∧ s.vm.findClass ("[" ++ ty.toString) = some cA := by
  obtain ⟨cA, k, comp, h1, h2, h3⟩ := Cond.arrayClass_spec (args := args) (first := s) (o := none) (s := s) (idx := []) h
  exact ⟨cA, fun n z => ⟨fun k h => (by cases h), k, h2, comp, h3⟩, h1⟩
theorem st_arrO {args : Array Value} {s : State} {C : String} (h : (Cond.arrayOver (.object C)).before args s = true) : ∃ cA, ArrOfT s cA (.object C) ∧ va_RA s cA (.object C) := by
  obtain ⟨comp, cA, k, h1, h2, h3, h4, h5⟩ := Cond.arrayOver_spec (args := args) (first := s) (o := none) (s := s) (idx := []) h
  exact ⟨cA, fun n z => ⟨fun k h => (by cases h), k, h3, comp, h4⟩, k, comp, h3, h4, h1, h5⟩
theorem st_eq {args : Array Value} {s : State} {t u : Term} {a b : Nat} (h : (Cond.eq t u).before args s = true) (h1 : t.eval args s none [] s = some (.ref a)) (h2 : u.eval args s none [] s = some (.ref b)) : b = a := by
  simp only [Cond.before, Cond.holds, Cond.value, h1, h2] at h
  simp_all

theorem st_t0 {args : Array Value} {s : State} {cC : ClassId} {iS : Nat → Nat} {Ts : List Cond} (hts : ∀ c ∈ Ts, c.before args s = true) (hin : ∀ c ∈ u_ws RJ0 TJ0 4, c ∈ Ts) (hKn : u_Kn s RJ0 TJ0 4 cC iS) (hs : ∀ c ∈ nF, c.before args s = true) : CsS args s (Term.string "FilterReader$Matcher" 13) cC iS [] :=
  st_str (bs := []) hts hin hKn (by decide) (nf hs 20 (by decide +kernel)) (nf hs 21 (by decide +kernel)) (nf hs 22 (by decide +kernel)) (nf hs 23 (by decide +kernel)) (fun j hj => by
    exact absurd hj (Nat.not_lt_zero _)) (by decide)
theorem st_t1 {args : Array Value} {s : State} {cC : ClassId} {iS : Nat → Nat} {Ts : List Cond} (hts : ∀ c ∈ Ts, c.before args s = true) (hin : ∀ c ∈ u_ws RJ0 TJ0 4, c ∈ Ts) (hKn : u_Kn s RJ0 TJ0 4 cC iS) (hs : ∀ c ∈ nF, c.before args s = true) : CsS args s (Term.string "FilterReader$FilterMaker" 137) cC iS [36, 97, 110, 100] :=
  st_str (bs := [36, 97, 110, 100]) hts hin hKn (by decide) (nf hs 50 (by decide +kernel)) (nf hs 51 (by decide +kernel)) (nf hs 52 (by decide +kernel)) (nf hs 53 (by decide +kernel)) (fun j hj => by
    match j, hj with
    | 0, _ => exact nf hs 54 (by decide +kernel)
    | 1, _ => exact nf hs 55 (by decide +kernel)
    | 2, _ => exact nf hs 56 (by decide +kernel)
    | 3, _ => exact nf hs 57 (by decide +kernel)
    | n + 4, h => exact absurd h (by show ¬ (n + 4 < 4); omega)) (by decide)
theorem st_t2 {args : Array Value} {s : State} {cC : ClassId} {iS : Nat → Nat} {Ts : List Cond} (hts : ∀ c ∈ Ts, c.before args s = true) (hin : ∀ c ∈ u_ws RJ0 TJ0 4, c ∈ Ts) (hKn : u_Kn s RJ0 TJ0 4 cC iS) (hs : ∀ c ∈ nF, c.before args s = true) : CsS args s (Term.string "FilterReader$FilterMaker" 139) cC iS [36, 111, 114] :=
  st_str (bs := [36, 111, 114]) hts hin hKn (by decide) (nf hs 63 (by decide +kernel)) (nf hs 64 (by decide +kernel)) (nf hs 65 (by decide +kernel)) (nf hs 66 (by decide +kernel)) (fun j hj => by
    match j, hj with
    | 0, _ => exact nf hs 67 (by decide +kernel)
    | 1, _ => exact nf hs 68 (by decide +kernel)
    | 2, _ => exact nf hs 69 (by decide +kernel)
    | n + 3, h => exact absurd h (by show ¬ (n + 3 < 3); omega)) (by decide)
theorem st_t3 {args : Array Value} {s : State} {cC : ClassId} {iS : Nat → Nat} {Ts : List Cond} (hts : ∀ c ∈ Ts, c.before args s = true) (hin : ∀ c ∈ u_ws RJ0 TJ0 4, c ∈ Ts) (hKn : u_Kn s RJ0 TJ0 4 cC iS) (hs : ∀ c ∈ nF, c.before args s = true) : CsS args s (Term.string "FilterReader$FilterMaker" 84) cC iS [36, 110, 111, 114] :=
  st_str (bs := [36, 110, 111, 114]) hts hin hKn (by decide) (nf hs 76 (by decide +kernel)) (nf hs 77 (by decide +kernel)) (nf hs 78 (by decide +kernel)) (nf hs 79 (by decide +kernel)) (fun j hj => by
    match j, hj with
    | 0, _ => exact nf hs 80 (by decide +kernel)
    | 1, _ => exact nf hs 81 (by decide +kernel)
    | 2, _ => exact nf hs 82 (by decide +kernel)
    | 3, _ => exact nf hs 83 (by decide +kernel)
    | n + 4, h => exact absurd h (by show ¬ (n + 4 < 4); omega)) (by decide)
theorem st_t4 {args : Array Value} {s : State} {cC : ClassId} {iS : Nat → Nat} {Ts : List Cond} (hts : ∀ c ∈ Ts, c.before args s = true) (hin : ∀ c ∈ u_ws RJ0 TJ0 4, c ∈ Ts) (hKn : u_Kn s RJ0 TJ0 4 cC iS) (hs : ∀ c ∈ nF, c.before args s = true) : CsS args s (Term.string "FilterReader$FilterMaker" 141) cC iS [36, 101, 113] :=
  st_str (bs := [36, 101, 113]) hts hin hKn (by decide) (nf hs 116 (by decide +kernel)) (nf hs 117 (by decide +kernel)) (nf hs 118 (by decide +kernel)) (nf hs 119 (by decide +kernel)) (fun j hj => by
    match j, hj with
    | 0, _ => exact nf hs 120 (by decide +kernel)
    | 1, _ => exact nf hs 121 (by decide +kernel)
    | 2, _ => exact nf hs 122 (by decide +kernel)
    | n + 3, h => exact absurd h (by show ¬ (n + 3 < 3); omega)) (by decide)
theorem st_t5 {args : Array Value} {s : State} {cC : ClassId} {iS : Nat → Nat} {Ts : List Cond} (hts : ∀ c ∈ Ts, c.before args s = true) (hin : ∀ c ∈ u_ws RJ0 TJ0 4, c ∈ Ts) (hKn : u_Kn s RJ0 TJ0 4 cC iS) (hs : ∀ c ∈ nF, c.before args s = true) : CsS args s (Term.string "FilterReader$FilterMaker" 143) cC iS [36, 110, 101] :=
  st_str (bs := [36, 110, 101]) hts hin hKn (by decide) (nf hs 133 (by decide +kernel)) (nf hs 134 (by decide +kernel)) (nf hs 135 (by decide +kernel)) (nf hs 136 (by decide +kernel)) (fun j hj => by
    match j, hj with
    | 0, _ => exact nf hs 137 (by decide +kernel)
    | 1, _ => exact nf hs 138 (by decide +kernel)
    | 2, _ => exact nf hs 139 (by decide +kernel)
    | n + 3, h => exact absurd h (by show ¬ (n + 3 < 3); omega)) (by decide)
theorem st_t6 {args : Array Value} {s : State} {cC : ClassId} {iS : Nat → Nat} {Ts : List Cond} (hts : ∀ c ∈ Ts, c.before args s = true) (hin : ∀ c ∈ u_ws RJ0 TJ0 4, c ∈ Ts) (hKn : u_Kn s RJ0 TJ0 4 cC iS) (hs : ∀ c ∈ nF, c.before args s = true) : CsS args s (Term.string "FilterReader$FilterMaker" 145) cC iS [36, 105, 110] :=
  st_str (bs := [36, 105, 110]) hts hin hKn (by decide) (nf hs 151 (by decide +kernel)) (nf hs 152 (by decide +kernel)) (nf hs 153 (by decide +kernel)) (nf hs 154 (by decide +kernel)) (fun j hj => by
    match j, hj with
    | 0, _ => exact nf hs 155 (by decide +kernel)
    | 1, _ => exact nf hs 156 (by decide +kernel)
    | 2, _ => exact nf hs 157 (by decide +kernel)
    | n + 3, h => exact absurd h (by show ¬ (n + 3 < 3); omega)) (by decide)
theorem st_t7 {args : Array Value} {s : State} {cC : ClassId} {iS : Nat → Nat} {Ts : List Cond} (hts : ∀ c ∈ Ts, c.before args s = true) (hin : ∀ c ∈ u_ws RJ0 TJ0 4, c ∈ Ts) (hKn : u_Kn s RJ0 TJ0 4 cC iS) (hs : ∀ c ∈ nF, c.before args s = true) : CsS args s (Term.string "FilterReader$FilterMaker" 147) cC iS [36, 110, 105, 110] :=
  st_str (bs := [36, 110, 105, 110]) hts hin hKn (by decide) (nf hs 170 (by decide +kernel)) (nf hs 171 (by decide +kernel)) (nf hs 172 (by decide +kernel)) (nf hs 173 (by decide +kernel)) (fun j hj => by
    match j, hj with
    | 0, _ => exact nf hs 174 (by decide +kernel)
    | 1, _ => exact nf hs 175 (by decide +kernel)
    | 2, _ => exact nf hs 176 (by decide +kernel)
    | 3, _ => exact nf hs 177 (by decide +kernel)
    | n + 4, h => exact absurd h (by show ¬ (n + 4 < 4); omega)) (by decide)
theorem st_t8 {args : Array Value} {s : State} {cC : ClassId} {iS : Nat → Nat} {Ts : List Cond} (hts : ∀ c ∈ Ts, c.before args s = true) (hin : ∀ c ∈ u_ws RJ0 TJ0 4, c ∈ Ts) (hKn : u_Kn s RJ0 TJ0 4 cC iS) (hs : ∀ c ∈ nF, c.before args s = true) : CsS args s (Term.string "FilterReader$FilterMaker" 149) cC iS [36, 101, 120, 105, 115, 116, 115] :=
  st_str (bs := [36, 101, 120, 105, 115, 116, 115]) hts hin hKn (by decide) (nf hs 191 (by decide +kernel)) (nf hs 192 (by decide +kernel)) (nf hs 193 (by decide +kernel)) (nf hs 194 (by decide +kernel)) (fun j hj => by
    match j, hj with
    | 0, _ => exact nf hs 195 (by decide +kernel)
    | 1, _ => exact nf hs 196 (by decide +kernel)
    | 2, _ => exact nf hs 197 (by decide +kernel)
    | 3, _ => exact nf hs 198 (by decide +kernel)
    | 4, _ => exact nf hs 199 (by decide +kernel)
    | 5, _ => exact nf hs 200 (by decide +kernel)
    | 6, _ => exact nf hs 201 (by decide +kernel)
    | n + 7, h => exact absurd h (by show ¬ (n + 7 < 7); omega)) (by decide)
theorem st_t9 {args : Array Value} {s : State} {cC : ClassId} {iS : Nat → Nat} {Ts : List Cond} (hts : ∀ c ∈ Ts, c.before args s = true) (hin : ∀ c ∈ u_ws RJ0 TJ0 4, c ∈ Ts) (hKn : u_Kn s RJ0 TJ0 4 cC iS) (hs : ∀ c ∈ nF, c.before args s = true) : CsS args s (Term.string "FilterReader$FilterMaker" 151) cC iS [36, 115, 105, 122, 101] :=
  st_str (bs := [36, 115, 105, 122, 101]) hts hin hKn (by decide) (nf hs 216 (by decide +kernel)) (nf hs 217 (by decide +kernel)) (nf hs 218 (by decide +kernel)) (nf hs 219 (by decide +kernel)) (fun j hj => by
    match j, hj with
    | 0, _ => exact nf hs 220 (by decide +kernel)
    | 1, _ => exact nf hs 221 (by decide +kernel)
    | 2, _ => exact nf hs 222 (by decide +kernel)
    | 3, _ => exact nf hs 223 (by decide +kernel)
    | 4, _ => exact nf hs 224 (by decide +kernel)
    | n + 5, h => exact absurd h (by show ¬ (n + 5 < 5); omega)) (by decide)
theorem st_t10 {args : Array Value} {s : State} {cC : ClassId} {iS : Nat → Nat} {Ts : List Cond} (hts : ∀ c ∈ Ts, c.before args s = true) (hin : ∀ c ∈ u_ws RJ0 TJ0 4, c ∈ Ts) (hKn : u_Kn s RJ0 TJ0 4 cC iS) (hs : ∀ c ∈ nF, c.before args s = true) : CsS args s (Term.string "FilterReader$FilterMaker" 153) cC iS [36, 101, 108, 101, 109] :=
  st_str (bs := [36, 101, 108, 101, 109]) hts hin hKn (by decide) (nf hs 240 (by decide +kernel)) (nf hs 241 (by decide +kernel)) (nf hs 242 (by decide +kernel)) (nf hs 243 (by decide +kernel)) (fun j hj => by
    match j, hj with
    | 0, _ => exact nf hs 244 (by decide +kernel)
    | 1, _ => exact nf hs 245 (by decide +kernel)
    | 2, _ => exact nf hs 246 (by decide +kernel)
    | 3, _ => exact nf hs 247 (by decide +kernel)
    | 4, _ => exact nf hs 248 (by decide +kernel)
    | n + 5, h => exact absurd h (by show ¬ (n + 5 < 5); omega)) (by decide)
theorem st_t11 {args : Array Value} {s : State} {cC : ClassId} {iS : Nat → Nat} {Ts : List Cond} (hts : ∀ c ∈ Ts, c.before args s = true) (hin : ∀ c ∈ u_ws RJ0 TJ0 4, c ∈ Ts) (hKn : u_Kn s RJ0 TJ0 4 cC iS) (hs : ∀ c ∈ nF, c.before args s = true) : CsS args s (Term.string "FilterReader$FilterMaker" 158) cC iS [36, 110, 111, 116] :=
  st_str (bs := [36, 110, 111, 116]) hts hin hKn (by decide) (nf hs 265 (by decide +kernel)) (nf hs 266 (by decide +kernel)) (nf hs 267 (by decide +kernel)) (nf hs 268 (by decide +kernel)) (fun j hj => by
    match j, hj with
    | 0, _ => exact nf hs 269 (by decide +kernel)
    | 1, _ => exact nf hs 270 (by decide +kernel)
    | 2, _ => exact nf hs 271 (by decide +kernel)
    | 3, _ => exact nf hs 272 (by decide +kernel)
    | n + 4, h => exact absurd h (by show ¬ (n + 4 < 4); omega)) (by decide)
theorem st_t12 {args : Array Value} {s : State} {cC : ClassId} {iS : Nat → Nat} {Ts : List Cond} (hts : ∀ c ∈ Ts, c.before args s = true) (hin : ∀ c ∈ u_ws RJ0 TJ0 4, c ∈ Ts) (hKn : u_Kn s RJ0 TJ0 4 cC iS) (hs : ∀ c ∈ nF, c.before args s = true) : CsS args s (Term.string "FilterReader$FilterMaker" 163) cC iS [36, 108, 116] :=
  st_str (bs := [36, 108, 116]) hts hin hKn (by decide) (nf hs 290 (by decide +kernel)) (nf hs 291 (by decide +kernel)) (nf hs 292 (by decide +kernel)) (nf hs 293 (by decide +kernel)) (fun j hj => by
    match j, hj with
    | 0, _ => exact nf hs 294 (by decide +kernel)
    | 1, _ => exact nf hs 295 (by decide +kernel)
    | 2, _ => exact nf hs 296 (by decide +kernel)
    | n + 3, h => exact absurd h (by show ¬ (n + 3 < 3); omega)) (by decide)
theorem st_t13 {args : Array Value} {s : State} {cC : ClassId} {iS : Nat → Nat} {Ts : List Cond} (hts : ∀ c ∈ Ts, c.before args s = true) (hin : ∀ c ∈ u_ws RJ0 TJ0 4, c ∈ Ts) (hKn : u_Kn s RJ0 TJ0 4 cC iS) (hs : ∀ c ∈ nF, c.before args s = true) : CsS args s (Term.string "FilterReader$FilterMaker" 165) cC iS [36, 103, 116] :=
  st_str (bs := [36, 103, 116]) hts hin hKn (by decide) (nf hs 315 (by decide +kernel)) (nf hs 316 (by decide +kernel)) (nf hs 317 (by decide +kernel)) (nf hs 318 (by decide +kernel)) (fun j hj => by
    match j, hj with
    | 0, _ => exact nf hs 319 (by decide +kernel)
    | 1, _ => exact nf hs 320 (by decide +kernel)
    | 2, _ => exact nf hs 321 (by decide +kernel)
    | n + 3, h => exact absurd h (by show ¬ (n + 3 < 3); omega)) (by decide)
theorem st_t14 {args : Array Value} {s : State} {cC : ClassId} {iS : Nat → Nat} {Ts : List Cond} (hts : ∀ c ∈ Ts, c.before args s = true) (hin : ∀ c ∈ u_ws RJ0 TJ0 4, c ∈ Ts) (hKn : u_Kn s RJ0 TJ0 4 cC iS) (hs : ∀ c ∈ nF, c.before args s = true) : CsS args s (Term.string "FilterReader$FilterMaker" 167) cC iS [36, 108, 116, 101] :=
  st_str (bs := [36, 108, 116, 101]) hts hin hKn (by decide) (nf hs 341 (by decide +kernel)) (nf hs 342 (by decide +kernel)) (nf hs 343 (by decide +kernel)) (nf hs 344 (by decide +kernel)) (fun j hj => by
    match j, hj with
    | 0, _ => exact nf hs 345 (by decide +kernel)
    | 1, _ => exact nf hs 346 (by decide +kernel)
    | 2, _ => exact nf hs 347 (by decide +kernel)
    | 3, _ => exact nf hs 348 (by decide +kernel)
    | n + 4, h => exact absurd h (by show ¬ (n + 4 < 4); omega)) (by decide)
theorem st_t15 {args : Array Value} {s : State} {cC : ClassId} {iS : Nat → Nat} {Ts : List Cond} (hts : ∀ c ∈ Ts, c.before args s = true) (hin : ∀ c ∈ u_ws RJ0 TJ0 4, c ∈ Ts) (hKn : u_Kn s RJ0 TJ0 4 cC iS) (hs : ∀ c ∈ nF, c.before args s = true) : CsS args s (Term.string "FilterReader$FilterMaker" 169) cC iS [36, 103, 116, 101] :=
  st_str (bs := [36, 103, 116, 101]) hts hin hKn (by decide) (nf hs 369 (by decide +kernel)) (nf hs 370 (by decide +kernel)) (nf hs 371 (by decide +kernel)) (nf hs 372 (by decide +kernel)) (fun j hj => by
    match j, hj with
    | 0, _ => exact nf hs 373 (by decide +kernel)
    | 1, _ => exact nf hs 374 (by decide +kernel)
    | 2, _ => exact nf hs 375 (by decide +kernel)
    | 3, _ => exact nf hs 376 (by decide +kernel)
    | n + 4, h => exact absurd h (by show ¬ (n + 4 < 4); omega)) (by decide)
/-- where a name's number stands -/
def gIx (nm : String) : Nat := if nm = "" then 0 else if nm = "$and" then 1 else if nm = "$or" then 2 else if nm = "$nor" then 3 else if nm = "$eq" then 4 else if nm = "$ne" then 5 else if nm = "$in" then 6 else if nm = "$nin" then 7 else if nm = "$exists" then 8 else if nm = "$size" then 9 else if nm = "$elem" then 10 else if nm = "$not" then 11 else if nm = "$lt" then 12 else if nm = "$gt" then 13 else if nm = "$lte" then 14 else if nm = "$gte" then 15 else if nm = "B:" then 16 else if nm = "B:$and" then 17 else if nm = "B:$or" then 18 else if nm = "B:$nor" then 19 else if nm = "B:$eq" then 20 else if nm = "B:$ne" then 21 else if nm = "B:$in" then 22 else if nm = "B:$nin" then 23 else if nm = "B:$exists" then 24 else if nm = "B:$size" then 25 else if nm = "B:$elem" then 26 else if nm = "B:$not" then 27 else if nm = "B:$lt" then 28 else if nm = "B:$gt" then 29 else if nm = "B:$lte" then 30 else if nm = "B:$gte" then 31 else if nm = "A:COMPACT_STRINGS" then 32 else if nm = "K:COMPACT_STRINGS" then 33 else if nm = "A:SIOOBE_FORMATTER" then 34 else if nm = "K:SIOOBE_FORMATTER" then 35 else if nm = "A:$assertionsDisabled" then 36 else if nm = "K:$assertionsDisabled" then 37 else if nm = "A:HI_BYTE_SHIFT" then 38 else if nm = "K:HI_BYTE_SHIFT" then 39 else if nm = "A:LO_BYTE_SHIFT" then 40 else if nm = "K:LO_BYTE_SHIFT" then 41 else 42
theorem gx_0 : gIx "" = 0 := by decide +kernel
theorem gx_16 : gIx ("B:" ++ "") = 16 := by decide +kernel
theorem gx_1 : gIx "$and" = 1 := by decide +kernel
theorem gx_17 : gIx ("B:" ++ "$and") = 17 := by decide +kernel
theorem gx_2 : gIx "$or" = 2 := by decide +kernel
theorem gx_18 : gIx ("B:" ++ "$or") = 18 := by decide +kernel
theorem gx_3 : gIx "$nor" = 3 := by decide +kernel
theorem gx_19 : gIx ("B:" ++ "$nor") = 19 := by decide +kernel
theorem gx_4 : gIx "$eq" = 4 := by decide +kernel
theorem gx_20 : gIx ("B:" ++ "$eq") = 20 := by decide +kernel
theorem gx_5 : gIx "$ne" = 5 := by decide +kernel
theorem gx_21 : gIx ("B:" ++ "$ne") = 21 := by decide +kernel
theorem gx_6 : gIx "$in" = 6 := by decide +kernel
theorem gx_22 : gIx ("B:" ++ "$in") = 22 := by decide +kernel
theorem gx_7 : gIx "$nin" = 7 := by decide +kernel
theorem gx_23 : gIx ("B:" ++ "$nin") = 23 := by decide +kernel
theorem gx_8 : gIx "$exists" = 8 := by decide +kernel
theorem gx_24 : gIx ("B:" ++ "$exists") = 24 := by decide +kernel
theorem gx_9 : gIx "$size" = 9 := by decide +kernel
theorem gx_25 : gIx ("B:" ++ "$size") = 25 := by decide +kernel
theorem gx_10 : gIx "$elem" = 10 := by decide +kernel
theorem gx_26 : gIx ("B:" ++ "$elem") = 26 := by decide +kernel
theorem gx_11 : gIx "$not" = 11 := by decide +kernel
theorem gx_27 : gIx ("B:" ++ "$not") = 27 := by decide +kernel
theorem gx_12 : gIx "$lt" = 12 := by decide +kernel
theorem gx_28 : gIx ("B:" ++ "$lt") = 28 := by decide +kernel
theorem gx_13 : gIx "$gt" = 13 := by decide +kernel
theorem gx_29 : gIx ("B:" ++ "$gt") = 29 := by decide +kernel
theorem gx_14 : gIx "$lte" = 14 := by decide +kernel
theorem gx_30 : gIx ("B:" ++ "$lte") = 30 := by decide +kernel
theorem gx_15 : gIx "$gte" = 15 := by decide +kernel
theorem gx_31 : gIx ("B:" ++ "$gte") = 31 := by decide +kernel
theorem gx_32 : gIx ("A:" ++ "COMPACT_STRINGS") = 32 := by decide +kernel
theorem gx_33 : gIx ("K:" ++ "COMPACT_STRINGS") = 33 := by decide +kernel
theorem gx_34 : gIx ("A:" ++ "SIOOBE_FORMATTER") = 34 := by decide +kernel
theorem gx_35 : gIx ("K:" ++ "SIOOBE_FORMATTER") = 35 := by decide +kernel
theorem gx_36 : gIx ("A:" ++ "$assertionsDisabled") = 36 := by decide +kernel
theorem gx_37 : gIx ("K:" ++ "$assertionsDisabled") = 37 := by decide +kernel
theorem gx_38 : gIx ("A:" ++ "HI_BYTE_SHIFT") = 38 := by decide +kernel
theorem gx_39 : gIx ("K:" ++ "HI_BYTE_SHIFT") = 39 := by decide +kernel
theorem gx_40 : gIx ("A:" ++ "LO_BYTE_SHIFT") = 40 := by decide +kernel
theorem gx_41 : gIx ("K:" ++ "LO_BYTE_SHIFT") = 41 := by decide +kernel
theorem gx_42 : gIx "base" = 42 := by decide +kernel
theorem st_lt {w : List Nat} (h : ∀ x ∈ w, x < 256) (i : Nat) : w.getD i 0 < 256 := by
  by_cases hi : i < w.length
  · rw [List.getD_eq_getElem?_getD, List.getElem?_eq_getElem hi]
    exact h _ (List.getElem_mem hi)
  · rw [List.getD_eq_getElem?_getD, List.getElem?_eq_none (by omega)]
    show 0 < 256
    decide
theorem st_Z {args : Array Value} {s : State} {t : Term} {G : zG} {w : List Nat} {a : Nat} {Z : Nat → Prop} (hZ : ∀ q, q < s.heap.size → Z q) (h8 : ∀ i, w.getD i 0 < 256) (hw : w.length < 2 ^ 31) (cS cV : Cell) (v : Nat) (x y : Value) (h1 : s.heap[a]? = some cS) (h2 : cS.cls = G.1.1 0) (h3 : cS.vm.isStatics = false) (h4 : cS.vm ≠ .unknown) (h5 : cS.slots[G.1.2 0 0]? = some (.ref v) ∧ cS.slots[G.1.2 0 1]? = some (.int (nI 0)) ∧ cS.slots[G.1.2 0 2]? = some x ∧ cS.slots[G.1.2 0 3]? = some y) (h6 : s.heap[v]? = some cV) (h7 : zBc G cV.cls) (h9 : ∀ k, cV.vm ≠ .statics k) (h10 : cV.vm ≠ .unknown) (h11 : w.length ≤ cV.slots.size ∧ cV.slots.size.toInt32 = nI w.length) (h12 : ∀ j, j < w.length → cV.slots[j]? = some (.int (sb_b (w.getD j 0)))) : StrZ G s.heap Z a w := by
  refine ⟨v, x, y, hZ _ (Array.getElem?_eq_some_iff.mp h1).1, hZ _ (Array.getElem?_eq_some_iff.mp h6).1, ⟨(RJ0, TJ0, 4), rfl, cS, h1, h2, h3, h4, fun k hk => ?_⟩, ⟨cV, h6, h7, h9, h10, h11, h12⟩, h8, hw⟩
  have h4 : k = 0 ∨ k = 1 ∨ k = 2 ∨ k = 3 := by
    have hk : k < 4 := hk
    omega
  rcases h4 with e | e | e | e <;> subst e
  · exact h5.1
  · exact h5.2.1
  · exact h5.2.2.1
  · exact h5.2.2.2

set_option maxHeartbeats 4000000 in
set_option maxRecDepth 100000 in
theorem st_all {s : State} {b : Nat} (hts : ∀ w ∈ lw_tbl, w.before #[Value.ref b] s = true) (hs : ∀ c ∈ nF, c.before #[Value.ref b] s = true) : ∃ G : zG, zK G s ∧ CH G s.heap ∧ cB G = s.heap.size ∧ va_AO "FilterReader$Value" s ∧ va_AO "FilterReader$Filter" s := by
  have hz : ∀ w ∈ zW, w.before #[Value.ref b] s = true := fun w h => hts w (List.mem_filter.mp h).1
  obtain ⟨c0, i0, hk0⟩ := u_known (C := RJ0) (T := TJ0) (N := 4) (n := 4) hz wo_J0 (hz _ wa_J0)
  obtain ⟨c1, i1, hk1⟩ := u_known (C := RX0) (T := TX0) (N := 2) (n := 2) hz wo_X0 (hz _ wa_X0)
  obtain ⟨c2, i2, hk2⟩ := u_known (C := RX1) (T := TX1) (N := 2) (n := 2) hz wo_X1 (hz _ wa_X1)
  obtain ⟨c3, i3, hk3⟩ := u_known (C := RX2) (T := TX2) (N := 3) (n := 3) hz wo_X2 (hz _ wa_X2)
  obtain ⟨c4, i4, hk4⟩ := u_known (C := RX4) (T := TX4) (N := 1) (n := 1) hz wo_X4 (hz _ wa_X4)
  obtain ⟨c5, i5, hk5⟩ := u_known (C := RX6) (T := TX6) (N := 7) (n := 7) hz wo_X6 (hz _ wa_X6)
  obtain ⟨c6, i6, hk6⟩ := u_known (C := RX7) (T := TX7) (N := 3) (n := 3) hz wo_X7 (hz _ wa_X7)
  obtain ⟨c7, i7, hk7⟩ := u_known (C := RX8) (T := TX8) (N := 2) (n := 2) hz wo_X8 (hz _ wa_X8)
  obtain ⟨c8, i8, hk8⟩ := u_known (C := RX9) (T := TX9) (N := 9) (n := 9) hz wo_X9 (hz _ wa_X9)
  obtain ⟨c9, i9, hk9⟩ := u_known (C := RX10) (T := TX10) (N := 5) (n := 5) hz wo_X10 (hz _ wa_X10)
  obtain ⟨c10, i10, hk10⟩ := u_known (C := RX11) (T := TX11) (N := 23) (n := 23) hz wo_X11 (hz _ wa_X11)
  obtain ⟨aI, hI1, hI2⟩ := st_arr (hz _ wAi)
  obtain ⟨aB, hB1, hB2⟩ := st_arr (hz _ wAb)
  obtain ⟨aC, hC1, hC2⟩ := st_arr (hz _ wAc)
  have hAV : (Cond.arrayOver (.object "FilterReader$Value")).before #[Value.ref b] s = true := hts _ (List.mem_of_getElem? (i := 219) (by decide +kernel))
  have hAF : (Cond.arrayOver (.object "FilterReader$Filter")).before #[Value.ref b] s = true := hts _ (List.mem_of_getElem? (i := 223) (by decide +kernel))
  obtain ⟨aV, hV1, hV2⟩ := st_arrO hAV
  obtain ⟨aF, hF1, hF2⟩ := st_arrO hAF
  obtain ⟨a0, v0, cS0, cV0, x0, y0, e0, p0_1, p0_2, p0_3, p0_4, p0_5, p0_6, p0_7, p0_8, p0_9, p0_10⟩ := st_t0 hz wo_J0 hk0 hs
  obtain ⟨a1, v1, cS1, cV1, x1, y1, e1, p1_1, p1_2, p1_3, p1_4, p1_5, p1_6, p1_7, p1_8, p1_9, p1_10⟩ := st_t1 hz wo_J0 hk0 hs
  obtain ⟨a2, v2, cS2, cV2, x2, y2, e2, p2_1, p2_2, p2_3, p2_4, p2_5, p2_6, p2_7, p2_8, p2_9, p2_10⟩ := st_t2 hz wo_J0 hk0 hs
  obtain ⟨a3, v3, cS3, cV3, x3, y3, e3, p3_1, p3_2, p3_3, p3_4, p3_5, p3_6, p3_7, p3_8, p3_9, p3_10⟩ := st_t3 hz wo_J0 hk0 hs
  obtain ⟨a4, v4, cS4, cV4, x4, y4, e4, p4_1, p4_2, p4_3, p4_4, p4_5, p4_6, p4_7, p4_8, p4_9, p4_10⟩ := st_t4 hz wo_J0 hk0 hs
  obtain ⟨a5, v5, cS5, cV5, x5, y5, e5, p5_1, p5_2, p5_3, p5_4, p5_5, p5_6, p5_7, p5_8, p5_9, p5_10⟩ := st_t5 hz wo_J0 hk0 hs
  obtain ⟨a6, v6, cS6, cV6, x6, y6, e6, p6_1, p6_2, p6_3, p6_4, p6_5, p6_6, p6_7, p6_8, p6_9, p6_10⟩ := st_t6 hz wo_J0 hk0 hs
  obtain ⟨a7, v7, cS7, cV7, x7, y7, e7, p7_1, p7_2, p7_3, p7_4, p7_5, p7_6, p7_7, p7_8, p7_9, p7_10⟩ := st_t7 hz wo_J0 hk0 hs
  obtain ⟨a8, v8, cS8, cV8, x8, y8, e8, p8_1, p8_2, p8_3, p8_4, p8_5, p8_6, p8_7, p8_8, p8_9, p8_10⟩ := st_t8 hz wo_J0 hk0 hs
  obtain ⟨a9, v9, cS9, cV9, x9, y9, e9, p9_1, p9_2, p9_3, p9_4, p9_5, p9_6, p9_7, p9_8, p9_9, p9_10⟩ := st_t9 hz wo_J0 hk0 hs
  obtain ⟨a10, v10, cS10, cV10, x10, y10, e10, p10_1, p10_2, p10_3, p10_4, p10_5, p10_6, p10_7, p10_8, p10_9, p10_10⟩ := st_t10 hz wo_J0 hk0 hs
  obtain ⟨a11, v11, cS11, cV11, x11, y11, e11, p11_1, p11_2, p11_3, p11_4, p11_5, p11_6, p11_7, p11_8, p11_9, p11_10⟩ := st_t11 hz wo_J0 hk0 hs
  obtain ⟨a12, v12, cS12, cV12, x12, y12, e12, p12_1, p12_2, p12_3, p12_4, p12_5, p12_6, p12_7, p12_8, p12_9, p12_10⟩ := st_t12 hz wo_J0 hk0 hs
  obtain ⟨a13, v13, cS13, cV13, x13, y13, e13, p13_1, p13_2, p13_3, p13_4, p13_5, p13_6, p13_7, p13_8, p13_9, p13_10⟩ := st_t13 hz wo_J0 hk0 hs
  obtain ⟨a14, v14, cS14, cV14, x14, y14, e14, p14_1, p14_2, p14_3, p14_4, p14_5, p14_6, p14_7, p14_8, p14_9, p14_10⟩ := st_t14 hz wo_J0 hk0 hs
  obtain ⟨a15, v15, cS15, cV15, x15, y15, e15, p15_1, p15_2, p15_3, p15_4, p15_5, p15_6, p15_7, p15_8, p15_9, p15_10⟩ := st_t15 hz wo_J0 hk0 hs
  have hA9 : ∀ a : Nat, a < s.heap.size → ¬ (fun q : Nat => s.heap.size ≤ q) a := fun a h => Nat.not_le.mpr h
  obtain ⟨sf0, sk0, si0, sg0, sa0, sc0, w0_1, w0_2, w0_3, w0_4, w0_5, w0_6, w0_7, -⟩ := va_Zof (A := fun q : Nat => s.heap.size ≤ q) (hts (.laysStatic "java/lang/String" "COMPACT_STRINGS" "Z") (List.mem_of_getElem? (i := 398) (by decide +kernel))) (hts (.initialized "java/lang/String") (List.mem_of_getElem? (i := 112) (by decide +kernel))) (va_eqi (z := 1) (nf hs 4 (by decide +kernel))) hA9
  obtain ⟨xo, sf1, sk1, si1, sg1, sa1, sc1, w1_1, w1_2, w1_3, w1_4, w1_5, w1_6, w1_7, -⟩ : ∃ xo : Option Nat, va_Z "jdk/internal/util/Preconditions" "SIOOBE_FORMATTER" "Ljava/util/function/BiFunction;" (va_rf xo) (fun q : Nat => s.heap.size ≤ q) s s.heap := by
    rcases va_Zqof (A := fun q : Nat => s.heap.size ≤ q) (hts (.laysStatic "jdk/internal/util/Preconditions" "SIOOBE_FORMATTER" "Ljava/util/function/BiFunction;") (List.mem_of_getElem? (i := 440) (by decide +kernel))) (hts (.initialized "jdk/internal/util/Preconditions") (List.mem_of_getElem? (i := 114) (by decide +kernel))) (nf hs 8 (by decide +kernel)) hA9 with h | ⟨t, h⟩
    · exact ⟨none, h⟩
    · exact ⟨some t, h⟩
  obtain ⟨sf2, sk2, si2, sg2, sa2, sc2, w2_1, w2_2, w2_3, w2_4, w2_5, w2_6, w2_7, -⟩ := va_Zof (A := fun q : Nat => s.heap.size ≤ q) (hts (.laysStatic "java/lang/StringUTF16" "$assertionsDisabled" "Z") (List.mem_of_getElem? (i := 419) (by decide +kernel))) (hts (.initialized "java/lang/StringUTF16") (List.mem_of_getElem? (i := 113) (by decide +kernel))) (va_eqi (z := 1) (nf hs 5 (by decide +kernel))) hA9
  obtain ⟨sf3, sk3, si3, sg3, sa3, sc3, w3_1, w3_2, w3_3, w3_4, w3_5, w3_6, w3_7, -⟩ := va_Zof (A := fun q : Nat => s.heap.size ≤ q) (hts (.laysStatic "java/lang/StringUTF16" "HI_BYTE_SHIFT" "I") (List.mem_of_getElem? (i := 424) (by decide +kernel))) (hts (.initialized "java/lang/StringUTF16") (List.mem_of_getElem? (i := 113) (by decide +kernel))) (va_eqi (z := 0) (nf hs 6 (by decide +kernel))) hA9
  obtain ⟨sf4, sk4, si4, sg4, sa4, sc4, w4_1, w4_2, w4_3, w4_4, w4_5, w4_6, w4_7, -⟩ := va_Zof (A := fun q : Nat => s.heap.size ≤ q) (hts (.laysStatic "java/lang/StringUTF16" "LO_BYTE_SHIFT" "I") (List.mem_of_getElem? (i := 426) (by decide +kernel))) (hts (.initialized "java/lang/StringUTF16") (List.mem_of_getElem? (i := 113) (by decide +kernel))) (va_eqi (z := 8) (nf hs 7 (by decide +kernel))) hA9
  obtain ⟨gl, hgl⟩ : ∃ gl : String → Nat, gl = fun nm => ([a0, a1, a2, a3, a4, a5, a6, a7, a8, a9, a10, a11, a12, a13, a14, a15, cV0.cls, cV1.cls, cV2.cls, cV3.cls, cV4.cls, cV5.cls, cV6.cls, cV7.cls, cV8.cls, cV9.cls, cV10.cls, cV11.cls, cV12.cls, cV13.cls, cV14.cls, cV15.cls, sa0, sg0.slot, sa1, sg1.slot, sa2, sg2.slot, sa3, sg3.slot, sa4, sg4.slot, s.heap.size] : List Nat).getD (gIx nm) 0 := ⟨_, rfl⟩
  have g0 : gl "" = a0 := by rw [hgl]; show List.getD _ (gIx "") 0 = _; rw [gx_0]; rfl
  have g1 : gl "$and" = a1 := by rw [hgl]; show List.getD _ (gIx "$and") 0 = _; rw [gx_1]; rfl
  have g2 : gl "$or" = a2 := by rw [hgl]; show List.getD _ (gIx "$or") 0 = _; rw [gx_2]; rfl
  have g3 : gl "$nor" = a3 := by rw [hgl]; show List.getD _ (gIx "$nor") 0 = _; rw [gx_3]; rfl
  have g4 : gl "$eq" = a4 := by rw [hgl]; show List.getD _ (gIx "$eq") 0 = _; rw [gx_4]; rfl
  have g5 : gl "$ne" = a5 := by rw [hgl]; show List.getD _ (gIx "$ne") 0 = _; rw [gx_5]; rfl
  have g6 : gl "$in" = a6 := by rw [hgl]; show List.getD _ (gIx "$in") 0 = _; rw [gx_6]; rfl
  have g7 : gl "$nin" = a7 := by rw [hgl]; show List.getD _ (gIx "$nin") 0 = _; rw [gx_7]; rfl
  have g8 : gl "$exists" = a8 := by rw [hgl]; show List.getD _ (gIx "$exists") 0 = _; rw [gx_8]; rfl
  have g9 : gl "$size" = a9 := by rw [hgl]; show List.getD _ (gIx "$size") 0 = _; rw [gx_9]; rfl
  have g10 : gl "$elem" = a10 := by rw [hgl]; show List.getD _ (gIx "$elem") 0 = _; rw [gx_10]; rfl
  have g11 : gl "$not" = a11 := by rw [hgl]; show List.getD _ (gIx "$not") 0 = _; rw [gx_11]; rfl
  have g12 : gl "$lt" = a12 := by rw [hgl]; show List.getD _ (gIx "$lt") 0 = _; rw [gx_12]; rfl
  have g13 : gl "$gt" = a13 := by rw [hgl]; show List.getD _ (gIx "$gt") 0 = _; rw [gx_13]; rfl
  have g14 : gl "$lte" = a14 := by rw [hgl]; show List.getD _ (gIx "$lte") 0 = _; rw [gx_14]; rfl
  have g15 : gl "$gte" = a15 := by rw [hgl]; show List.getD _ (gIx "$gte") 0 = _; rw [gx_15]; rfl
  have g16 : gl ("B:" ++ "") = cV0.cls := by rw [hgl]; show List.getD _ (gIx ("B:" ++ "")) 0 = _; rw [gx_16]; rfl
  have g17 : gl ("B:" ++ "$and") = cV1.cls := by rw [hgl]; show List.getD _ (gIx ("B:" ++ "$and")) 0 = _; rw [gx_17]; rfl
  have g18 : gl ("B:" ++ "$or") = cV2.cls := by rw [hgl]; show List.getD _ (gIx ("B:" ++ "$or")) 0 = _; rw [gx_18]; rfl
  have g19 : gl ("B:" ++ "$nor") = cV3.cls := by rw [hgl]; show List.getD _ (gIx ("B:" ++ "$nor")) 0 = _; rw [gx_19]; rfl
  have g20 : gl ("B:" ++ "$eq") = cV4.cls := by rw [hgl]; show List.getD _ (gIx ("B:" ++ "$eq")) 0 = _; rw [gx_20]; rfl
  have g21 : gl ("B:" ++ "$ne") = cV5.cls := by rw [hgl]; show List.getD _ (gIx ("B:" ++ "$ne")) 0 = _; rw [gx_21]; rfl
  have g22 : gl ("B:" ++ "$in") = cV6.cls := by rw [hgl]; show List.getD _ (gIx ("B:" ++ "$in")) 0 = _; rw [gx_22]; rfl
  have g23 : gl ("B:" ++ "$nin") = cV7.cls := by rw [hgl]; show List.getD _ (gIx ("B:" ++ "$nin")) 0 = _; rw [gx_23]; rfl
  have g24 : gl ("B:" ++ "$exists") = cV8.cls := by rw [hgl]; show List.getD _ (gIx ("B:" ++ "$exists")) 0 = _; rw [gx_24]; rfl
  have g25 : gl ("B:" ++ "$size") = cV9.cls := by rw [hgl]; show List.getD _ (gIx ("B:" ++ "$size")) 0 = _; rw [gx_25]; rfl
  have g26 : gl ("B:" ++ "$elem") = cV10.cls := by rw [hgl]; show List.getD _ (gIx ("B:" ++ "$elem")) 0 = _; rw [gx_26]; rfl
  have g27 : gl ("B:" ++ "$not") = cV11.cls := by rw [hgl]; show List.getD _ (gIx ("B:" ++ "$not")) 0 = _; rw [gx_27]; rfl
  have g28 : gl ("B:" ++ "$lt") = cV12.cls := by rw [hgl]; show List.getD _ (gIx ("B:" ++ "$lt")) 0 = _; rw [gx_28]; rfl
  have g29 : gl ("B:" ++ "$gt") = cV13.cls := by rw [hgl]; show List.getD _ (gIx ("B:" ++ "$gt")) 0 = _; rw [gx_29]; rfl
  have g30 : gl ("B:" ++ "$lte") = cV14.cls := by rw [hgl]; show List.getD _ (gIx ("B:" ++ "$lte")) 0 = _; rw [gx_30]; rfl
  have g31 : gl ("B:" ++ "$gte") = cV15.cls := by rw [hgl]; show List.getD _ (gIx ("B:" ++ "$gte")) 0 = _; rw [gx_31]; rfl
  have g32 : gl ("A:" ++ "COMPACT_STRINGS") = sa0 := by rw [hgl]; show List.getD _ (gIx ("A:" ++ "COMPACT_STRINGS")) 0 = _; rw [gx_32]; rfl
  have g33 : gl ("K:" ++ "COMPACT_STRINGS") = sg0.slot := by rw [hgl]; show List.getD _ (gIx ("K:" ++ "COMPACT_STRINGS")) 0 = _; rw [gx_33]; rfl
  have g34 : gl ("A:" ++ "SIOOBE_FORMATTER") = sa1 := by rw [hgl]; show List.getD _ (gIx ("A:" ++ "SIOOBE_FORMATTER")) 0 = _; rw [gx_34]; rfl
  have g35 : gl ("K:" ++ "SIOOBE_FORMATTER") = sg1.slot := by rw [hgl]; show List.getD _ (gIx ("K:" ++ "SIOOBE_FORMATTER")) 0 = _; rw [gx_35]; rfl
  have g36 : gl ("A:" ++ "$assertionsDisabled") = sa2 := by rw [hgl]; show List.getD _ (gIx ("A:" ++ "$assertionsDisabled")) 0 = _; rw [gx_36]; rfl
  have g37 : gl ("K:" ++ "$assertionsDisabled") = sg2.slot := by rw [hgl]; show List.getD _ (gIx ("K:" ++ "$assertionsDisabled")) 0 = _; rw [gx_37]; rfl
  have g38 : gl ("A:" ++ "HI_BYTE_SHIFT") = sa3 := by rw [hgl]; show List.getD _ (gIx ("A:" ++ "HI_BYTE_SHIFT")) 0 = _; rw [gx_38]; rfl
  have g39 : gl ("K:" ++ "HI_BYTE_SHIFT") = sg3.slot := by rw [hgl]; show List.getD _ (gIx ("K:" ++ "HI_BYTE_SHIFT")) 0 = _; rw [gx_39]; rfl
  have g40 : gl ("A:" ++ "LO_BYTE_SHIFT") = sa4 := by rw [hgl]; show List.getD _ (gIx ("A:" ++ "LO_BYTE_SHIFT")) 0 = _; rw [gx_40]; rfl
  have g41 : gl ("K:" ++ "LO_BYTE_SHIFT") = sg4.slot := by rw [hgl]; show List.getD _ (gIx ("K:" ++ "LO_BYTE_SHIFT")) 0 = _; rw [gx_41]; rfl
  have g42 : gl "base" = s.heap.size := by rw [hgl]; show List.getD _ (gIx "base") 0 = _; rw [gx_42]; rfl
  obtain ⟨dC, hdC⟩ : ∃ dC : Nat → ClassId, dC = fun k => ([c0, c1, c2, c3, c4, c5, c6, c7, c8, c9, c10] : List Nat).getD k 0 := ⟨_, rfl⟩
  obtain ⟨dI, hdI⟩ : ∃ dI : Nat → Nat → Nat, dI = fun k => ([i0, i1, i2, i3, i4, i5, i6, i7, i8, i9, i10] : List (Nat → Nat)).getD k (fun _ => 0) := ⟨_, rfl⟩
  have hKn : ∀ (k : Nat) (q : vw_C), vwCl[k]? = some q → u_Kn s q.1 q.2.1 q.2.2 (dC k) (dI k) := by
    intro k q hq
    rw [hdC, hdI]
    match k, hq with
    | 0, hq => cases hq; exact hk0
    | 1, hq => cases hq; exact hk1
    | 2, hq => cases hq; exact hk2
    | 3, hq => cases hq; exact hk3
    | 4, hq => cases hq; exact hk4
    | 5, hq => cases hq; exact hk5
    | 6, hq => cases hq; exact hk6
    | 7, hq => cases hq; exact hk7
    | 8, hq => cases hq; exact hk8
    | 9, hq => cases hq; exact hk9
    | 10, hq => cases hq; exact hk10
    | k + 11, hq => cases hq
  have hT5 : ∀ (k : Nat) (q : ClassId × FieldType), (zT ((dC, dI), (aI, aB, aC, aV, aF), gl))[k]? = some q → ArrOfT s q.1 q.2 ∧ va_RA s q.1 q.2 := by
    intro k q hq
    match k, hq with
    | 0, hq => cases hq; exact ⟨hI1, hI2⟩
    | 1, hq => cases hq; exact ⟨hB1, hB2⟩
    | 2, hq => cases hq; exact ⟨hC1, hC2⟩
    | 3, hq => cases hq; exact ⟨hV1, hV2⟩
    | 4, hq => cases hq; exact ⟨hF1, hF2⟩
    | k + 5, hq => cases hq
  have es1 : (Term.string "FilterReader$Value" 7).eval #[Value.ref b] s none [] s = some (.ref a0) := by
    obtain ⟨a, c, cA, kA, q1, -⟩ := Cond.exactly_spec (args := #[Value.ref b]) (first := s) (o := none) (s := s) (idx := []) (t := Term.string "FilterReader$Value" 7) (cls := "java/lang/String") (nf hs 24 (by decide +kernel))
    rw [q1, st_eq (nf hs 28 (by decide +kernel)) e0 q1]
  have es2 : (Term.string "FilterReader" 31).eval #[Value.ref b] s none [] s = some (.ref a0) := by
    obtain ⟨a, c, cA, kA, q1, -⟩ := Cond.exactly_spec (args := #[Value.ref b]) (first := s) (o := none) (s := s) (idx := []) (t := Term.string "FilterReader" 31) (cls := "java/lang/String") (nf hs 29 (by decide +kernel))
    rw [q1, st_eq (nf hs 33 (by decide +kernel)) e0 q1]
  have es3 : (Term.string "FilterReader$DocumentReader" 23).eval #[Value.ref b] s none [] s = some (.ref a0) := by
    obtain ⟨a, c, cA, kA, q1, -⟩ := Cond.exactly_spec (args := #[Value.ref b]) (first := s) (o := none) (s := s) (idx := []) (t := Term.string "FilterReader$DocumentReader" 23) (cls := "java/lang/String") (nf hs 35 (by decide +kernel))
    rw [q1, st_eq (nf hs 39 (by decide +kernel)) e0 q1]
  have es4 : (Term.string "java/lang/String" 7).eval #[Value.ref b] s none [] s = some (.ref a0) := by
    obtain ⟨a, c, cA, kA, q1, -⟩ := Cond.exactly_spec (args := #[Value.ref b]) (first := s) (o := none) (s := s) (idx := []) (t := Term.string "java/lang/String" 7) (cls := "java/lang/String") (nf hs 42 (by decide +kernel))
    rw [q1, st_eq (nf hs 46 (by decide +kernel)) e0 q1]
  have es8 : (Term.string "java/lang/StringLatin1" 151).eval #[Value.ref b] s none [] s = some (.ref a0) := by
    obtain ⟨a, c, cA, kA, q1, -⟩ := Cond.exactly_spec (args := #[Value.ref b]) (first := s) (o := none) (s := s) (idx := []) (t := Term.string "java/lang/StringLatin1" 151) (cls := "java/lang/String") (nf hs 91 (by decide +kernel))
    rw [q1, st_eq (nf hs 95 (by decide +kernel)) e0 q1]
  have es9 : (Term.string "java/lang/StringUTF16" 295).eval #[Value.ref b] s none [] s = some (.ref a0) := by
    obtain ⟨a, c, cA, kA, q1, -⟩ := Cond.exactly_spec (args := #[Value.ref b]) (first := s) (o := none) (s := s) (idx := []) (t := Term.string "java/lang/StringUTF16" 295) (cls := "java/lang/String") (nf hs 103 (by decide +kernel))
    rw [q1, st_eq (nf hs 107 (by decide +kernel)) e0 q1]
  have hStr : ∀ q ∈ zStr, vk_R q.1 q.2.1 q.2.2 (gl q.2.2) s := List.forall_mem_cons.mpr ⟨(show vk_R "FilterReader$Matcher" 13 "" (gl "") s by rw [g0]; exact vk_R.of (hts (.stringRef "FilterReader$Matcher" 13 "") (List.mem_of_getElem? (i := 156) (by decide +kernel))) e0), List.forall_mem_cons.mpr ⟨(show vk_R "FilterReader$Value" 7 "" (gl "") s by rw [g0]; exact vk_R.of (hts (.stringRef "FilterReader$Value" 7 "") (List.mem_of_getElem? (i := 161) (by decide +kernel))) es1), List.forall_mem_cons.mpr ⟨(show vk_R "FilterReader" 31 "" (gl "") s by rw [g0]; exact vk_R.of (hts (.stringRef "FilterReader" 31 "") (List.mem_of_getElem? (i := 220) (by decide +kernel))) es2), List.forall_mem_cons.mpr ⟨(show vk_R "FilterReader$DocumentReader" 23 "" (gl "") s by rw [g0]; exact vk_R.of (hts (.stringRef "FilterReader$DocumentReader" 23 "") (List.mem_of_getElem? (i := 337) (by decide +kernel))) es3), List.forall_mem_cons.mpr ⟨(show vk_R "java/lang/String" 7 "" (gl "") s by rw [g0]; exact vk_R.of (hts (.stringRef "java/lang/String" 7 "") (List.mem_of_getElem? (i := 396) (by decide +kernel))) es4), List.forall_mem_cons.mpr ⟨(show vk_R "FilterReader$FilterMaker" 137 "$and" (gl "$and") s by rw [g1]; exact vk_R.of (hts (.stringRef "FilterReader$FilterMaker" 137 "$and") (List.mem_of_getElem? (i := 588) (by decide +kernel))) e1), List.forall_mem_cons.mpr ⟨(show vk_R "FilterReader$FilterMaker" 139 "$or" (gl "$or") s by rw [g2]; exact vk_R.of (hts (.stringRef "FilterReader$FilterMaker" 139 "$or") (List.mem_of_getElem? (i := 590) (by decide +kernel))) e2), List.forall_mem_cons.mpr ⟨(show vk_R "FilterReader$FilterMaker" 84 "$nor" (gl "$nor") s by rw [g3]; exact vk_R.of (hts (.stringRef "FilterReader$FilterMaker" 84 "$nor") (List.mem_of_getElem? (i := 591) (by decide +kernel))) e3), List.forall_mem_cons.mpr ⟨(show vk_R "java/lang/StringLatin1" 151 "" (gl "") s by rw [g0]; exact vk_R.of (hts (.stringRef "java/lang/StringLatin1" 151 "") (List.mem_of_getElem? (i := 633) (by decide +kernel))) es8), List.forall_mem_cons.mpr ⟨(show vk_R "java/lang/StringUTF16" 295 "" (gl "") s by rw [g0]; exact vk_R.of (hts (.stringRef "java/lang/StringUTF16" 295 "") (List.mem_of_getElem? (i := 663) (by decide +kernel))) es9), List.forall_mem_cons.mpr ⟨(show vk_R "FilterReader$FilterMaker" 141 "$eq" (gl "$eq") s by rw [g4]; exact vk_R.of (hts (.stringRef "FilterReader$FilterMaker" 141 "$eq") (List.mem_of_getElem? (i := 709) (by decide +kernel))) e4), List.forall_mem_cons.mpr ⟨(show vk_R "FilterReader$FilterMaker" 143 "$ne" (gl "$ne") s by rw [g5]; exact vk_R.of (hts (.stringRef "FilterReader$FilterMaker" 143 "$ne") (List.mem_of_getElem? (i := 710) (by decide +kernel))) e5), List.forall_mem_cons.mpr ⟨(show vk_R "FilterReader$FilterMaker" 145 "$in" (gl "$in") s by rw [g6]; exact vk_R.of (hts (.stringRef "FilterReader$FilterMaker" 145 "$in") (List.mem_of_getElem? (i := 711) (by decide +kernel))) e6), List.forall_mem_cons.mpr ⟨(show vk_R "FilterReader$FilterMaker" 147 "$nin" (gl "$nin") s by rw [g7]; exact vk_R.of (hts (.stringRef "FilterReader$FilterMaker" 147 "$nin") (List.mem_of_getElem? (i := 712) (by decide +kernel))) e7), List.forall_mem_cons.mpr ⟨(show vk_R "FilterReader$FilterMaker" 149 "$exists" (gl "$exists") s by rw [g8]; exact vk_R.of (hts (.stringRef "FilterReader$FilterMaker" 149 "$exists") (List.mem_of_getElem? (i := 713) (by decide +kernel))) e8), List.forall_mem_cons.mpr ⟨(show vk_R "FilterReader$FilterMaker" 151 "$size" (gl "$size") s by rw [g9]; exact vk_R.of (hts (.stringRef "FilterReader$FilterMaker" 151 "$size") (List.mem_of_getElem? (i := 714) (by decide +kernel))) e9), List.forall_mem_cons.mpr ⟨(show vk_R "FilterReader$FilterMaker" 153 "$elem" (gl "$elem") s by rw [g10]; exact vk_R.of (hts (.stringRef "FilterReader$FilterMaker" 153 "$elem") (List.mem_of_getElem? (i := 715) (by decide +kernel))) e10), List.forall_mem_cons.mpr ⟨(show vk_R "FilterReader$FilterMaker" 158 "$not" (gl "$not") s by rw [g11]; exact vk_R.of (hts (.stringRef "FilterReader$FilterMaker" 158 "$not") (List.mem_of_getElem? (i := 719) (by decide +kernel))) e11), List.forall_mem_cons.mpr ⟨(show vk_R "FilterReader$FilterMaker" 163 "$lt" (gl "$lt") s by rw [g12]; exact vk_R.of (hts (.stringRef "FilterReader$FilterMaker" 163 "$lt") (List.mem_of_getElem? (i := 723) (by decide +kernel))) e12), List.forall_mem_cons.mpr ⟨(show vk_R "FilterReader$FilterMaker" 165 "$gt" (gl "$gt") s by rw [g13]; exact vk_R.of (hts (.stringRef "FilterReader$FilterMaker" 165 "$gt") (List.mem_of_getElem? (i := 724) (by decide +kernel))) e13), List.forall_mem_cons.mpr ⟨(show vk_R "FilterReader$FilterMaker" 167 "$lte" (gl "$lte") s by rw [g14]; exact vk_R.of (hts (.stringRef "FilterReader$FilterMaker" 167 "$lte") (List.mem_of_getElem? (i := 725) (by decide +kernel))) e14), List.forall_mem_cons.mpr ⟨(show vk_R "FilterReader$FilterMaker" 169 "$gte" (gl "$gte") s by rw [g15]; exact vk_R.of (hts (.stringRef "FilterReader$FilterMaker" 169 "$gte") (List.mem_of_getElem? (i := 726) (by decide +kernel))) e15), fun _ h => absurd h List.not_mem_nil⟩⟩⟩⟩⟩⟩⟩⟩⟩⟩⟩⟩⟩⟩⟩⟩⟩⟩⟩⟩⟩⟩
  have hByt : ∀ q ∈ zStr, ArrOfT s (gl ("B:" ++ q.2.2)) .byte := List.forall_mem_cons.mpr ⟨(show ArrOfT s (gl ("B:" ++ "")) .byte by rw [g16]; exact fun n z => ⟨fun k h => (by cases h), p0_7.2⟩), List.forall_mem_cons.mpr ⟨(show ArrOfT s (gl ("B:" ++ "")) .byte by rw [g16]; exact fun n z => ⟨fun k h => (by cases h), p0_7.2⟩), List.forall_mem_cons.mpr ⟨(show ArrOfT s (gl ("B:" ++ "")) .byte by rw [g16]; exact fun n z => ⟨fun k h => (by cases h), p0_7.2⟩), List.forall_mem_cons.mpr ⟨(show ArrOfT s (gl ("B:" ++ "")) .byte by rw [g16]; exact fun n z => ⟨fun k h => (by cases h), p0_7.2⟩), List.forall_mem_cons.mpr ⟨(show ArrOfT s (gl ("B:" ++ "")) .byte by rw [g16]; exact fun n z => ⟨fun k h => (by cases h), p0_7.2⟩), List.forall_mem_cons.mpr ⟨(show ArrOfT s (gl ("B:" ++ "$and")) .byte by rw [g17]; exact fun n z => ⟨fun k h => (by cases h), p1_7.2⟩), List.forall_mem_cons.mpr ⟨(show ArrOfT s (gl ("B:" ++ "$or")) .byte by rw [g18]; exact fun n z => ⟨fun k h => (by cases h), p2_7.2⟩), List.forall_mem_cons.mpr ⟨(show ArrOfT s (gl ("B:" ++ "$nor")) .byte by rw [g19]; exact fun n z => ⟨fun k h => (by cases h), p3_7.2⟩), List.forall_mem_cons.mpr ⟨(show ArrOfT s (gl ("B:" ++ "")) .byte by rw [g16]; exact fun n z => ⟨fun k h => (by cases h), p0_7.2⟩), List.forall_mem_cons.mpr ⟨(show ArrOfT s (gl ("B:" ++ "")) .byte by rw [g16]; exact fun n z => ⟨fun k h => (by cases h), p0_7.2⟩), List.forall_mem_cons.mpr ⟨(show ArrOfT s (gl ("B:" ++ "$eq")) .byte by rw [g20]; exact fun n z => ⟨fun k h => (by cases h), p4_7.2⟩), List.forall_mem_cons.mpr ⟨(show ArrOfT s (gl ("B:" ++ "$ne")) .byte by rw [g21]; exact fun n z => ⟨fun k h => (by cases h), p5_7.2⟩), List.forall_mem_cons.mpr ⟨(show ArrOfT s (gl ("B:" ++ "$in")) .byte by rw [g22]; exact fun n z => ⟨fun k h => (by cases h), p6_7.2⟩), List.forall_mem_cons.mpr ⟨(show ArrOfT s (gl ("B:" ++ "$nin")) .byte by rw [g23]; exact fun n z => ⟨fun k h => (by cases h), p7_7.2⟩), List.forall_mem_cons.mpr ⟨(show ArrOfT s (gl ("B:" ++ "$exists")) .byte by rw [g24]; exact fun n z => ⟨fun k h => (by cases h), p8_7.2⟩), List.forall_mem_cons.mpr ⟨(show ArrOfT s (gl ("B:" ++ "$size")) .byte by rw [g25]; exact fun n z => ⟨fun k h => (by cases h), p9_7.2⟩), List.forall_mem_cons.mpr ⟨(show ArrOfT s (gl ("B:" ++ "$elem")) .byte by rw [g26]; exact fun n z => ⟨fun k h => (by cases h), p10_7.2⟩), List.forall_mem_cons.mpr ⟨(show ArrOfT s (gl ("B:" ++ "$not")) .byte by rw [g27]; exact fun n z => ⟨fun k h => (by cases h), p11_7.2⟩), List.forall_mem_cons.mpr ⟨(show ArrOfT s (gl ("B:" ++ "$lt")) .byte by rw [g28]; exact fun n z => ⟨fun k h => (by cases h), p12_7.2⟩), List.forall_mem_cons.mpr ⟨(show ArrOfT s (gl ("B:" ++ "$gt")) .byte by rw [g29]; exact fun n z => ⟨fun k h => (by cases h), p13_7.2⟩), List.forall_mem_cons.mpr ⟨(show ArrOfT s (gl ("B:" ++ "$lte")) .byte by rw [g30]; exact fun n z => ⟨fun k h => (by cases h), p14_7.2⟩), List.forall_mem_cons.mpr ⟨(show ArrOfT s (gl ("B:" ++ "$gte")) .byte by rw [g31]; exact fun n z => ⟨fun k h => (by cases h), p15_7.2⟩), fun _ h => absurd h List.not_mem_nil⟩⟩⟩⟩⟩⟩⟩⟩⟩⟩⟩⟩⟩⟩⟩⟩⟩⟩⟩⟩⟩⟩
  have hSta : ∀ q ∈ zStat, zSv ((dC, dI), (aI, aB, aC, aV, aF), gl) q s := List.forall_mem_cons.mpr ⟨⟨sf0, sk0, si0, sg0, w0_1, w0_2, w0_3, by show _ = some (gl ("A:" ++ "COMPACT_STRINGS")); rw [g32]; exact w0_4, by show _ = gl ("K:" ++ "COMPACT_STRINGS"); rw [g33]⟩, List.forall_mem_cons.mpr ⟨⟨sf1, sk1, si1, sg1, w1_1, w1_2, w1_3, by show _ = some (gl ("A:" ++ "SIOOBE_FORMATTER")); rw [g34]; exact w1_4, by show _ = gl ("K:" ++ "SIOOBE_FORMATTER"); rw [g35]⟩, List.forall_mem_cons.mpr ⟨⟨sf2, sk2, si2, sg2, w2_1, w2_2, w2_3, by show _ = some (gl ("A:" ++ "$assertionsDisabled")); rw [g36]; exact w2_4, by show _ = gl ("K:" ++ "$assertionsDisabled"); rw [g37]⟩, List.forall_mem_cons.mpr ⟨⟨sf3, sk3, si3, sg3, w3_1, w3_2, w3_3, by show _ = some (gl ("A:" ++ "HI_BYTE_SHIFT")); rw [g38]; exact w3_4, by show _ = gl ("K:" ++ "HI_BYTE_SHIFT"); rw [g39]⟩, List.forall_mem_cons.mpr ⟨⟨sf4, sk4, si4, sg4, w4_1, w4_2, w4_3, by show _ = some (gl ("A:" ++ "LO_BYTE_SHIFT")); rw [g40]; exact w4_4, by show _ = gl ("K:" ++ "LO_BYTE_SHIFT"); rw [g41]⟩, fun _ h => absurd h List.not_mem_nil⟩⟩⟩⟩⟩
  have hb9 : cB ((dC, dI), (aI, aB, aC, aV, aF), gl) = s.heap.size := g42
  refine ⟨((dC, dI), (aI, aB, aC, aV, aF), gl), ⟨⟨hKn, hT5⟩, fun w hw => ?_, hStr, hSta, hByt⟩, ⟨?_, ⟨xo, ?_⟩, ?_, ?_, ?_, by rw [hb9]; exact Nat.le_refl _⟩, hb9, va_AO.of hAV, va_AO.of hAF⟩
  · have h2 := (List.mem_filter.mp hw).2
    refine va_Nw.of ?_ (hts w (List.mem_filter.mp hw).1)
    cases w <;> first | rfl | simp [isNest] at h2
  · exact ⟨sc0, by show s.heap[gl ("A:" ++ "COMPACT_STRINGS")]? = _; rw [g32]; exact w0_5, w0_6, by show sc0.slots[gl ("K:" ++ "COMPACT_STRINGS")]? = _; rw [g33]; exact w0_7⟩
  · exact ⟨sc1, by show s.heap[gl ("A:" ++ "SIOOBE_FORMATTER")]? = _; rw [g34]; exact w1_5, w1_6, by show sc1.slots[gl ("K:" ++ "SIOOBE_FORMATTER")]? = _; rw [g35]; exact w1_7⟩
  · rw [hb9]
    have z0 : StrZ ((dC, dI), (aI, aB, aC, aV, aF), gl) s.heap (fun x => x < s.heap.size) (gl "") (ltr "") := by
      rw [g0, show ltr "" = [] from by decide +kernel]
      exact st_Z (t := Term.string "" 0) (args := #[]) (fun q h => h) (by intro i; exact st_lt (by decide) i) (by decide) cS0 cV0 v0 x0 y0 p0_1 (by rw [p0_2]; show _ = dC 0; rw [hdC]; rfl) p0_3 p0_4 (by show cS0.slots[dI 0 0]? = _ ∧ cS0.slots[dI 0 1]? = _ ∧ cS0.slots[dI 0 2]? = _ ∧ cS0.slots[dI 0 3]? = _; rw [hdI]; exact p0_5) p0_6 (Or.inr ⟨("FilterReader$Matcher", 13, ""), by decide +kernel, g16.symm⟩) p0_7.1 p0_8 p0_9 p0_10
    have z1 : StrZ ((dC, dI), (aI, aB, aC, aV, aF), gl) s.heap (fun x => x < s.heap.size) (gl "$and") (ltr "$and") := by
      rw [g1, show ltr "$and" = [36, 97, 110, 100] from by decide +kernel]
      exact st_Z (t := Term.string "" 0) (args := #[]) (fun q h => h) (by intro i; exact st_lt (by decide) i) (by decide) cS1 cV1 v1 x1 y1 p1_1 (by rw [p1_2]; show _ = dC 0; rw [hdC]; rfl) p1_3 p1_4 (by show cS1.slots[dI 0 0]? = _ ∧ cS1.slots[dI 0 1]? = _ ∧ cS1.slots[dI 0 2]? = _ ∧ cS1.slots[dI 0 3]? = _; rw [hdI]; exact p1_5) p1_6 (Or.inr ⟨("FilterReader$FilterMaker", 137, "$and"), by decide +kernel, g17.symm⟩) p1_7.1 p1_8 p1_9 p1_10
    have z2 : StrZ ((dC, dI), (aI, aB, aC, aV, aF), gl) s.heap (fun x => x < s.heap.size) (gl "$or") (ltr "$or") := by
      rw [g2, show ltr "$or" = [36, 111, 114] from by decide +kernel]
      exact st_Z (t := Term.string "" 0) (args := #[]) (fun q h => h) (by intro i; exact st_lt (by decide) i) (by decide) cS2 cV2 v2 x2 y2 p2_1 (by rw [p2_2]; show _ = dC 0; rw [hdC]; rfl) p2_3 p2_4 (by show cS2.slots[dI 0 0]? = _ ∧ cS2.slots[dI 0 1]? = _ ∧ cS2.slots[dI 0 2]? = _ ∧ cS2.slots[dI 0 3]? = _; rw [hdI]; exact p2_5) p2_6 (Or.inr ⟨("FilterReader$FilterMaker", 139, "$or"), by decide +kernel, g18.symm⟩) p2_7.1 p2_8 p2_9 p2_10
    have z3 : StrZ ((dC, dI), (aI, aB, aC, aV, aF), gl) s.heap (fun x => x < s.heap.size) (gl "$nor") (ltr "$nor") := by
      rw [g3, show ltr "$nor" = [36, 110, 111, 114] from by decide +kernel]
      exact st_Z (t := Term.string "" 0) (args := #[]) (fun q h => h) (by intro i; exact st_lt (by decide) i) (by decide) cS3 cV3 v3 x3 y3 p3_1 (by rw [p3_2]; show _ = dC 0; rw [hdC]; rfl) p3_3 p3_4 (by show cS3.slots[dI 0 0]? = _ ∧ cS3.slots[dI 0 1]? = _ ∧ cS3.slots[dI 0 2]? = _ ∧ cS3.slots[dI 0 3]? = _; rw [hdI]; exact p3_5) p3_6 (Or.inr ⟨("FilterReader$FilterMaker", 84, "$nor"), by decide +kernel, g19.symm⟩) p3_7.1 p3_8 p3_9 p3_10
    have z4 : StrZ ((dC, dI), (aI, aB, aC, aV, aF), gl) s.heap (fun x => x < s.heap.size) (gl "$eq") (ltr "$eq") := by
      rw [g4, show ltr "$eq" = [36, 101, 113] from by decide +kernel]
      exact st_Z (t := Term.string "" 0) (args := #[]) (fun q h => h) (by intro i; exact st_lt (by decide) i) (by decide) cS4 cV4 v4 x4 y4 p4_1 (by rw [p4_2]; show _ = dC 0; rw [hdC]; rfl) p4_3 p4_4 (by show cS4.slots[dI 0 0]? = _ ∧ cS4.slots[dI 0 1]? = _ ∧ cS4.slots[dI 0 2]? = _ ∧ cS4.slots[dI 0 3]? = _; rw [hdI]; exact p4_5) p4_6 (Or.inr ⟨("FilterReader$FilterMaker", 141, "$eq"), by decide +kernel, g20.symm⟩) p4_7.1 p4_8 p4_9 p4_10
    have z5 : StrZ ((dC, dI), (aI, aB, aC, aV, aF), gl) s.heap (fun x => x < s.heap.size) (gl "$ne") (ltr "$ne") := by
      rw [g5, show ltr "$ne" = [36, 110, 101] from by decide +kernel]
      exact st_Z (t := Term.string "" 0) (args := #[]) (fun q h => h) (by intro i; exact st_lt (by decide) i) (by decide) cS5 cV5 v5 x5 y5 p5_1 (by rw [p5_2]; show _ = dC 0; rw [hdC]; rfl) p5_3 p5_4 (by show cS5.slots[dI 0 0]? = _ ∧ cS5.slots[dI 0 1]? = _ ∧ cS5.slots[dI 0 2]? = _ ∧ cS5.slots[dI 0 3]? = _; rw [hdI]; exact p5_5) p5_6 (Or.inr ⟨("FilterReader$FilterMaker", 143, "$ne"), by decide +kernel, g21.symm⟩) p5_7.1 p5_8 p5_9 p5_10
    have z6 : StrZ ((dC, dI), (aI, aB, aC, aV, aF), gl) s.heap (fun x => x < s.heap.size) (gl "$in") (ltr "$in") := by
      rw [g6, show ltr "$in" = [36, 105, 110] from by decide +kernel]
      exact st_Z (t := Term.string "" 0) (args := #[]) (fun q h => h) (by intro i; exact st_lt (by decide) i) (by decide) cS6 cV6 v6 x6 y6 p6_1 (by rw [p6_2]; show _ = dC 0; rw [hdC]; rfl) p6_3 p6_4 (by show cS6.slots[dI 0 0]? = _ ∧ cS6.slots[dI 0 1]? = _ ∧ cS6.slots[dI 0 2]? = _ ∧ cS6.slots[dI 0 3]? = _; rw [hdI]; exact p6_5) p6_6 (Or.inr ⟨("FilterReader$FilterMaker", 145, "$in"), by decide +kernel, g22.symm⟩) p6_7.1 p6_8 p6_9 p6_10
    have z7 : StrZ ((dC, dI), (aI, aB, aC, aV, aF), gl) s.heap (fun x => x < s.heap.size) (gl "$nin") (ltr "$nin") := by
      rw [g7, show ltr "$nin" = [36, 110, 105, 110] from by decide +kernel]
      exact st_Z (t := Term.string "" 0) (args := #[]) (fun q h => h) (by intro i; exact st_lt (by decide) i) (by decide) cS7 cV7 v7 x7 y7 p7_1 (by rw [p7_2]; show _ = dC 0; rw [hdC]; rfl) p7_3 p7_4 (by show cS7.slots[dI 0 0]? = _ ∧ cS7.slots[dI 0 1]? = _ ∧ cS7.slots[dI 0 2]? = _ ∧ cS7.slots[dI 0 3]? = _; rw [hdI]; exact p7_5) p7_6 (Or.inr ⟨("FilterReader$FilterMaker", 147, "$nin"), by decide +kernel, g23.symm⟩) p7_7.1 p7_8 p7_9 p7_10
    have z8 : StrZ ((dC, dI), (aI, aB, aC, aV, aF), gl) s.heap (fun x => x < s.heap.size) (gl "$exists") (ltr "$exists") := by
      rw [g8, show ltr "$exists" = [36, 101, 120, 105, 115, 116, 115] from by decide +kernel]
      exact st_Z (t := Term.string "" 0) (args := #[]) (fun q h => h) (by intro i; exact st_lt (by decide) i) (by decide) cS8 cV8 v8 x8 y8 p8_1 (by rw [p8_2]; show _ = dC 0; rw [hdC]; rfl) p8_3 p8_4 (by show cS8.slots[dI 0 0]? = _ ∧ cS8.slots[dI 0 1]? = _ ∧ cS8.slots[dI 0 2]? = _ ∧ cS8.slots[dI 0 3]? = _; rw [hdI]; exact p8_5) p8_6 (Or.inr ⟨("FilterReader$FilterMaker", 149, "$exists"), by decide +kernel, g24.symm⟩) p8_7.1 p8_8 p8_9 p8_10
    have z9 : StrZ ((dC, dI), (aI, aB, aC, aV, aF), gl) s.heap (fun x => x < s.heap.size) (gl "$size") (ltr "$size") := by
      rw [g9, show ltr "$size" = [36, 115, 105, 122, 101] from by decide +kernel]
      exact st_Z (t := Term.string "" 0) (args := #[]) (fun q h => h) (by intro i; exact st_lt (by decide) i) (by decide) cS9 cV9 v9 x9 y9 p9_1 (by rw [p9_2]; show _ = dC 0; rw [hdC]; rfl) p9_3 p9_4 (by show cS9.slots[dI 0 0]? = _ ∧ cS9.slots[dI 0 1]? = _ ∧ cS9.slots[dI 0 2]? = _ ∧ cS9.slots[dI 0 3]? = _; rw [hdI]; exact p9_5) p9_6 (Or.inr ⟨("FilterReader$FilterMaker", 151, "$size"), by decide +kernel, g25.symm⟩) p9_7.1 p9_8 p9_9 p9_10
    have z10 : StrZ ((dC, dI), (aI, aB, aC, aV, aF), gl) s.heap (fun x => x < s.heap.size) (gl "$elem") (ltr "$elem") := by
      rw [g10, show ltr "$elem" = [36, 101, 108, 101, 109] from by decide +kernel]
      exact st_Z (t := Term.string "" 0) (args := #[]) (fun q h => h) (by intro i; exact st_lt (by decide) i) (by decide) cS10 cV10 v10 x10 y10 p10_1 (by rw [p10_2]; show _ = dC 0; rw [hdC]; rfl) p10_3 p10_4 (by show cS10.slots[dI 0 0]? = _ ∧ cS10.slots[dI 0 1]? = _ ∧ cS10.slots[dI 0 2]? = _ ∧ cS10.slots[dI 0 3]? = _; rw [hdI]; exact p10_5) p10_6 (Or.inr ⟨("FilterReader$FilterMaker", 153, "$elem"), by decide +kernel, g26.symm⟩) p10_7.1 p10_8 p10_9 p10_10
    have z11 : StrZ ((dC, dI), (aI, aB, aC, aV, aF), gl) s.heap (fun x => x < s.heap.size) (gl "$not") (ltr "$not") := by
      rw [g11, show ltr "$not" = [36, 110, 111, 116] from by decide +kernel]
      exact st_Z (t := Term.string "" 0) (args := #[]) (fun q h => h) (by intro i; exact st_lt (by decide) i) (by decide) cS11 cV11 v11 x11 y11 p11_1 (by rw [p11_2]; show _ = dC 0; rw [hdC]; rfl) p11_3 p11_4 (by show cS11.slots[dI 0 0]? = _ ∧ cS11.slots[dI 0 1]? = _ ∧ cS11.slots[dI 0 2]? = _ ∧ cS11.slots[dI 0 3]? = _; rw [hdI]; exact p11_5) p11_6 (Or.inr ⟨("FilterReader$FilterMaker", 158, "$not"), by decide +kernel, g27.symm⟩) p11_7.1 p11_8 p11_9 p11_10
    have z12 : StrZ ((dC, dI), (aI, aB, aC, aV, aF), gl) s.heap (fun x => x < s.heap.size) (gl "$lt") (ltr "$lt") := by
      rw [g12, show ltr "$lt" = [36, 108, 116] from by decide +kernel]
      exact st_Z (t := Term.string "" 0) (args := #[]) (fun q h => h) (by intro i; exact st_lt (by decide) i) (by decide) cS12 cV12 v12 x12 y12 p12_1 (by rw [p12_2]; show _ = dC 0; rw [hdC]; rfl) p12_3 p12_4 (by show cS12.slots[dI 0 0]? = _ ∧ cS12.slots[dI 0 1]? = _ ∧ cS12.slots[dI 0 2]? = _ ∧ cS12.slots[dI 0 3]? = _; rw [hdI]; exact p12_5) p12_6 (Or.inr ⟨("FilterReader$FilterMaker", 163, "$lt"), by decide +kernel, g28.symm⟩) p12_7.1 p12_8 p12_9 p12_10
    have z13 : StrZ ((dC, dI), (aI, aB, aC, aV, aF), gl) s.heap (fun x => x < s.heap.size) (gl "$gt") (ltr "$gt") := by
      rw [g13, show ltr "$gt" = [36, 103, 116] from by decide +kernel]
      exact st_Z (t := Term.string "" 0) (args := #[]) (fun q h => h) (by intro i; exact st_lt (by decide) i) (by decide) cS13 cV13 v13 x13 y13 p13_1 (by rw [p13_2]; show _ = dC 0; rw [hdC]; rfl) p13_3 p13_4 (by show cS13.slots[dI 0 0]? = _ ∧ cS13.slots[dI 0 1]? = _ ∧ cS13.slots[dI 0 2]? = _ ∧ cS13.slots[dI 0 3]? = _; rw [hdI]; exact p13_5) p13_6 (Or.inr ⟨("FilterReader$FilterMaker", 165, "$gt"), by decide +kernel, g29.symm⟩) p13_7.1 p13_8 p13_9 p13_10
    have z14 : StrZ ((dC, dI), (aI, aB, aC, aV, aF), gl) s.heap (fun x => x < s.heap.size) (gl "$lte") (ltr "$lte") := by
      rw [g14, show ltr "$lte" = [36, 108, 116, 101] from by decide +kernel]
      exact st_Z (t := Term.string "" 0) (args := #[]) (fun q h => h) (by intro i; exact st_lt (by decide) i) (by decide) cS14 cV14 v14 x14 y14 p14_1 (by rw [p14_2]; show _ = dC 0; rw [hdC]; rfl) p14_3 p14_4 (by show cS14.slots[dI 0 0]? = _ ∧ cS14.slots[dI 0 1]? = _ ∧ cS14.slots[dI 0 2]? = _ ∧ cS14.slots[dI 0 3]? = _; rw [hdI]; exact p14_5) p14_6 (Or.inr ⟨("FilterReader$FilterMaker", 167, "$lte"), by decide +kernel, g30.symm⟩) p14_7.1 p14_8 p14_9 p14_10
    have z15 : StrZ ((dC, dI), (aI, aB, aC, aV, aF), gl) s.heap (fun x => x < s.heap.size) (gl "$gte") (ltr "$gte") := by
      rw [g15, show ltr "$gte" = [36, 103, 116, 101] from by decide +kernel]
      exact st_Z (t := Term.string "" 0) (args := #[]) (fun q h => h) (by intro i; exact st_lt (by decide) i) (by decide) cS15 cV15 v15 x15 y15 p15_1 (by rw [p15_2]; show _ = dC 0; rw [hdC]; rfl) p15_3 p15_4 (by show cS15.slots[dI 0 0]? = _ ∧ cS15.slots[dI 0 1]? = _ ∧ cS15.slots[dI 0 2]? = _ ∧ cS15.slots[dI 0 3]? = _; rw [hdI]; exact p15_5) p15_6 (Or.inr ⟨("FilterReader$FilterMaker", 169, "$gte"), by decide +kernel, g31.symm⟩) p15_7.1 p15_8 p15_9 p15_10
    exact List.forall_mem_cons.mpr ⟨z0, List.forall_mem_cons.mpr ⟨z0, List.forall_mem_cons.mpr ⟨z0, List.forall_mem_cons.mpr ⟨z0, List.forall_mem_cons.mpr ⟨z0, List.forall_mem_cons.mpr ⟨z1, List.forall_mem_cons.mpr ⟨z2, List.forall_mem_cons.mpr ⟨z3, List.forall_mem_cons.mpr ⟨z0, List.forall_mem_cons.mpr ⟨z0, List.forall_mem_cons.mpr ⟨z4, List.forall_mem_cons.mpr ⟨z5, List.forall_mem_cons.mpr ⟨z6, List.forall_mem_cons.mpr ⟨z7, List.forall_mem_cons.mpr ⟨z8, List.forall_mem_cons.mpr ⟨z9, List.forall_mem_cons.mpr ⟨z10, List.forall_mem_cons.mpr ⟨z11, List.forall_mem_cons.mpr ⟨z12, List.forall_mem_cons.mpr ⟨z13, List.forall_mem_cons.mpr ⟨z14, List.forall_mem_cons.mpr ⟨z15, fun _ h => absurd h List.not_mem_nil⟩⟩⟩⟩⟩⟩⟩⟩⟩⟩⟩⟩⟩⟩⟩⟩⟩⟩⟩⟩⟩⟩
  · rw [hb9]; show gl ("A:" ++ "COMPACT_STRINGS") < _; rw [g32]; exact (Array.getElem?_eq_some_iff.mp w0_5).1
  · rw [hb9]; show gl ("A:" ++ "SIOOBE_FORMATTER") < _; rw [g34]; exact (Array.getElem?_eq_some_iff.mp w1_5).1
