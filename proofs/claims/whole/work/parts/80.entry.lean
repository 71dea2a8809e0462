/-! ===== the law's entry ===== -/
theorem en_prim {args : Array Value} {s : State} {ty : FieldType} (h : (Cond.arrayClass ty).before args s = true) : ∃ cA : ClassId, ArrOfT s cA ty ∧ s.vm.findClass ("[" ++ ty.toString) = some cA ∧ ∃ kA : Class, s.vm.classes[cA]? = some kA := by
  obtain ⟨cA, kA, comp, h1, h2, h3⟩ := Cond.arrayClass_spec h
  exact ⟨cA, fun n z => ⟨fun k h => (by cases h), kA, h2, comp, h3⟩, h1, kA, h2⟩
theorem en_obj {args : Array Value} {s : State} {C : String} (h : (Cond.arrayOver (.object C)).before args s = true) : ∃ cA : ClassId, ArrOfT s cA (.object C) ∧ va_RA s cA (.object C) := by
  obtain ⟨comp, cA, kA, h1, h2, h3, h4, h5⟩ := Cond.arrayOver_spec h
  exact ⟨cA, fun n z => ⟨fun k h => (by cases h), kA, h3, comp, h4⟩, kA, comp, h3, h4, h1, h5⟩
theorem en_arr {args : Array Value} {s : State} (h : (Cond.arrayOver (.array .int)).before args s = true) : ∃ (cA comp : ClassId) (kA : Class), ArrOfT s cA (.array .int) ∧ s.vm.findClass ("[" ++ (FieldType.array .int).toString) = some cA ∧ s.vm.classes[cA]? = some kA ∧ kA.kind = .array comp (.array .int) ∧ s.vm.findClass (FieldType.array .int).toString = some comp := by
  obtain ⟨comp, cA, kA, h1, h2, h3, h4, h5⟩ := arrayOverA_spec h
  exact ⟨cA, comp, kA, fun n z => ⟨fun k h => (by cases h), kA, h3, comp, h4⟩, h5, h3, h4, h1⟩
theorem en_kn {args : Array Value} {s : State} (hts : ∀ w ∈ tbg, w.before args s = true) {own : String} {ix ci nf : Nat} {dfl : List MV} (h : NW own ix ci nf dfl) : ∃ (q : vw_C) (cC : ClassId) (iS : Nat → Nat), mcl[ci]? = some q ∧ u_Kn s q.1 q.2.1 q.2.2 cC iS := by
  obtain ⟨C, T, ty, h1, h2, h3, h4, h5, h6, h7⟩ := h
  obtain ⟨cC, iS, hk⟩ := u_known (C := C) (T := T) (N := nf) (n := nf) hts h2 (hts _ h5)
  exact ⟨_, cC, iS, h1, hk⟩

theorem en_K {args : Array Value} {s : State} (hts : ∀ w ∈ tbg, w.before args s = true) : ∃ D : va_G, ∀ (c : Nat) (q : vw_C), mcl[c]? = some q → u_Kn s q.1 q.2.1 q.2.2 (D.1 c) (D.2 c) := by
  have h : ∀ c : Nat, ∃ (cC : ClassId) (iS : Nat → Nat), ∀ q : vw_C, mcl[c]? = some q → u_Kn s q.1 q.2.1 q.2.2 cC iS := by
    intro c
    by_cases e0 : c = 0
    · subst e0
      obtain ⟨q, cC, iS, h1, h2⟩ := en_kn hts nwX8_21
      exact ⟨cC, iS, fun q2 hq => by cases h1.symm.trans hq; exact h2⟩
    by_cases e1 : c = 1
    · subst e1
      obtain ⟨q, cC, iS, h1, h2⟩ := en_kn hts nwX10_9
      exact ⟨cC, iS, fun q2 hq => by cases h1.symm.trans hq; exact h2⟩
    by_cases e2 : c = 2
    · subst e2
      obtain ⟨q, cC, iS, h1, h2⟩ := en_kn hts nwX1_15
      exact ⟨cC, iS, fun q2 hq => by cases h1.symm.trans hq; exact h2⟩
    by_cases e3 : c = 3
    · subst e3
      obtain ⟨q, cC, iS, h1, h2⟩ := en_kn hts nwX1_29
      exact ⟨cC, iS, fun q2 hq => by cases h1.symm.trans hq; exact h2⟩
    by_cases e4 : c = 4
    · subst e4
      obtain ⟨q, cC, iS, h1, h2⟩ := en_kn hts nwX1_29
      exact ⟨cC, iS, fun q2 hq => by cases h1.symm.trans hq; exact h2⟩
    by_cases e5 : c = 5
    · subst e5
      obtain ⟨q, cC, iS, h1, h2⟩ := en_kn hts nwX1_22
      exact ⟨cC, iS, fun q2 hq => by cases h1.symm.trans hq; exact h2⟩
    by_cases e6 : c = 6
    · subst e6
      obtain ⟨q, cC, iS, h1, h2⟩ := en_kn hts nwX1_36
      exact ⟨cC, iS, fun q2 hq => by cases h1.symm.trans hq; exact h2⟩
    by_cases e7 : c = 7
    · subst e7
      obtain ⟨q, cC, iS, h1, h2⟩ := en_kn hts nwX8_9
      exact ⟨cC, iS, fun q2 hq => by cases h1.symm.trans hq; exact h2⟩
    by_cases e8 : c = 8
    · subst e8
      obtain ⟨q, cC, iS, h1, h2⟩ := en_kn hts nwX1_43
      exact ⟨cC, iS, fun q2 hq => by cases h1.symm.trans hq; exact h2⟩
    by_cases e9 : c = 9
    · subst e9
      obtain ⟨q, cC, iS, h1, h2⟩ := en_kn hts nwX10_15
      exact ⟨cC, iS, fun q2 hq => by cases h1.symm.trans hq; exact h2⟩
    by_cases e10 : c = 10
    · subst e10
      obtain ⟨q, cC, iS, h1, h2⟩ := en_kn hts nwL_7
      exact ⟨cC, iS, fun q2 hq => by cases h1.symm.trans hq; exact h2⟩
    by_cases e11 : c = 11
    · subst e11
      obtain ⟨q, cC, iS, h1, h2⟩ := en_kn hts nwL_10
      exact ⟨cC, iS, fun q2 hq => by cases h1.symm.trans hq; exact h2⟩
    refine ⟨0, fun _ => 0, fun q hq => ?_⟩
    have hz : c < 12 := (List.getElem?_eq_some_iff.mp hq).1
    omega
  exact ⟨(fun c => Classical.choose (h c), fun c => Classical.choose (Classical.choose_spec (h c))), fun c q hq => Classical.choose_spec (Classical.choose_spec (h c)) q hq⟩
theorem wd1 {w : Cond} (i : Nat) (h : tables_1_1[i]? = some w) : w ∈ lw_tbl := List.mem_append_right _ (show w ∈ tables_1 from List.mem_append_left _ (List.mem_of_getElem? h))
theorem wd3 {w : Cond} (i : Nat) (h : tables_1_3[i]? = some w) : w ∈ lw_tbl := List.mem_append_right _ (show w ∈ tables_1 from List.mem_append_right _ (List.mem_append_right _ (List.mem_append_left _ (List.mem_of_getElem? h))))
abbrev tmR : Term := .static "RoundMill$Net" "REACH" "[I"
/-- what holds at the law's entry -/
def lw_At (p : Program) (s : State) (m : MethodId) (meth : Method) (c : Code) (b L : Nat) (xs : Nat → Int32) : Prop :=
  p.tables.exec = Jvm.exec ∧ c.code = code ∧ meth.sig.returnType = ret ∧ c.maxLocals = 4 ∧ s.vm.findClass RL = some m.cls ∧ (∀ w ∈ lw_tbl, w.before #[Value.ref b] s = true) ∧ va_X b L xs s s.heap ∧ b < s.heap.size ∧ meth.locks = false ∧ (Jvm.Cond.and given_1 narrow_1).before #[Value.ref b] s = true ∧ meth.name = "law"
theorem en_Fx {p : Program} {s : State} {m : MethodId} {meth : Method} {c : Code} {b L : Nat} {xs : Nat → Int32} (C0 : lw_At p s m meth c b L xs) : ∃ (D : va_G) (tc : Nat → ClassId) (g : GB), g.1 = s.heap.size ∧ g.2.2 = b ∧ Fx mL_law (11, 600000, 7302250, L, fun j => (xs j).toInt) D tc g p room_1 s m #[Value.ref b] meth c := by
  obtain ⟨hx, hb, hr, hml, hown, hts, hX, hbl, hlocks, hgv, hnm⟩ := C0
  have htb : ∀ w ∈ tbg, w.before #[Value.ref b] s = true := fun w hw => hts w (List.mem_filter.mp hw).1
  obtain ⟨D, hD⟩ := en_K htb
  obtain ⟨c0, a0, f0, k0, n0⟩ := en_prim (htb _ ac_int)
  obtain ⟨c1, a1, f1, -⟩ := en_prim (htb _ ac_byte)
  obtain ⟨c2, a2, f2, -⟩ := en_prim (htb _ ac_boolean)
  obtain ⟨c3, a3, f3, -⟩ := en_prim (htb _ ac_long)
  have w4 := hts (.arrayOver (.object "RoundMill$Mill")) (wd1 27 rfl)
  have w5 := hts (.arrayOver (.object "RoundMill$Part")) (wd1 128 rfl)
  have w6 := hts (.arrayOver (.array .int)) (wd1 35 rfl)
  obtain ⟨c4, a4, f4⟩ := en_obj w4
  obtain ⟨c5, a5, f5⟩ := en_obj w5
  obtain ⟨c6, comp, k6, a6, f6, n6, d6, g6⟩ := en_arr w6
  have ecomp : comp = c0 := Option.some.inj (g6.symm.trans f0)
  subst ecomp
  have hA : ∀ a : Nat, a < s.heap.size → ¬ s.heap.size ≤ a := fun a ha => Nat.not_le.mpr ha
  have hs := flat_of_before _ hgv
  have hel : ∀ j : Nat, j < 5 → (Term.elem tmR (.int (Int32.ofNat j))).eval #[Value.ref b] s none [] s = some (reachV j) := by
    intro j hj
    have hcs : j = 0 ∨ j = 1 ∨ j = 2 ∨ j = 3 ∨ j = 4 := by omega
    rcases hcs with rfl | rfl | rfl | rfl | rfl
    · exact va_eqt (z := 0) (hs _ (by decide +kernel))
    · exact va_eqt (z := 0) (hs _ (by decide +kernel))
    · exact va_eqt (z := 24) (hs _ (by decide +kernel))
    · exact va_eqt (z := 8) (hs _ (by decide +kernel))
    · exact va_eqt (z := 5) (hs _ (by decide +kernel))
  obtain ⟨t, ht, hT⟩ := va_Tof (args := #[Value.ref b]) (s := s) (tm := tmR) (ty := .int) (N := 5) (f := reachV) (A := fun q => s.heap.size ≤ q) (by decide) (hs _ (by decide +kernel)) (va_eqt (z := 5) (hs _ (by decide +kernel))) hel hA
  have hZ : va_Z "RoundMill$Net" "REACH" "[I" (.ref t) (fun q => s.heap.size ≤ q) s s.heap := va_Zof (hts (.laysStatic "RoundMill$Net" "REACH" "[I") (wd3 201 rfl)) (hts (.initialized "RoundMill$Net") (wd1 5 rfl)) ht hA
  refine ⟨D, fun k => if k = 0 then comp else if k = 1 then c1 else if k = 2 then c2 else if k = 3 then c3 else if k = 4 then c4 else if k = 5 then c5 else c6, (s.heap.size, t, b), rfl, rfl, hx, hb, hml, hown, htb, hlocks, hr, hnm, ⟨hD, ?_⟩, ⟨show (11 : Nat) ≤ 11 from Nat.le_refl _, show 40 * 11 ≤ 448 by decide, rfl, rfl⟩, hZ, hT, ?_, hbl, Nat.le_refl _, ⟨k6, n6, d6⟩, ⟨k0, n0⟩, w4, w5, w6⟩
  · intro k q hq
    have hz : k < 7 := (List.getElem?_eq_some_iff.mp hq).1
    have hcs : k = 0 ∨ k = 1 ∨ k = 2 ∨ k = 3 ∨ k = 4 ∨ k = 5 ∨ k = 6 := by omega
    rcases hcs with rfl | rfl | rfl | rfl | rfl | rfl | rfl
    · cases hq; exact ⟨a0, f0⟩
    · cases hq; exact ⟨a1, f1⟩
    · cases hq; exact ⟨a2, f2⟩
    · cases hq; exact ⟨a3, f3⟩
    · cases hq; exact ⟨a4, f4⟩
    · cases hq; exact ⟨a5, f5⟩
    · cases hq; exact ⟨a6, f6⟩
  · obtain ⟨scr, z1, z2, z3, z4, z5⟩ := hX
    refine ⟨scr, z1, z2, z3, z4, fun j hj => ?_⟩
    rw [z5 j hj]
    show some (Value.int (xs j)) = some (Value.int (Int32.ofInt (xs j).toInt))
    rw [Int32.ofInt_toInt]
