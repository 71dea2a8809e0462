/-! ===== Rounds: stepOf, rowComesBack, settledComeBack ===== -/
theorem PX_keep {N p kn M n : Nat} {h h2 : MH} {F : Nat → Nat → Int} (hw : PX N h p kn M n F) (hq : ∀ a, p ≤ a → a < p + 67 → h2 a = h a) : PX N h2 p kn M n F := by
  obtain ⟨⟨h1, h2', h3, h4⟩, h5, h6, ⟨f, h7, r7⟩, ⟨f2, h8, r8⟩⟩ := hw
  exact ⟨⟨h1.keep (hq _ (by omega) (by omega)), h2'.keep (hq _ (by omega) (by omega)), fun i hi => (h3 i hi).keep (hq _ (by omega) (by omega)), h4⟩, h5, h6, ⟨f, h7.keep (hq _ (by omega) (by omega)), r7⟩, ⟨f2, h8.keep (hq _ (by omega) (by omega)), r8⟩⟩

theorem c_stepOf {N d b kn M n t : Nat} {wh : Int} {h : MH} {F : Nat → Nat → Int} (hn : n ≤ 4) (hM : 2 ≤ M) (hM2 : M ≤ 500) (ht : t < 9223372036854775808) (hr : Hd (0, 0, N) h (b + 79) (eO 8 [vR (b + 12), vR (b + 7), vR (b + 80), vR (b + 82), vR (b + 84), vR (b + 90), vR (b + 91), vR (b + 92), vJ wh])) (hw : PX N h (b + 12) kn M n F) (s90 : Sc N h (b + 90) 20) : Ok mX8_stepOf (d + 4) 0 0 [vR (b + 79), vJ (t : Int)] N h (fun r h2 => r = some (vR (b + 90)) ∧ (∃ kn2 F2, PX N h2 (b + 12) kn2 M n F2 ∧ F2 0 = F 0) ∧ (∀ a, a ≠ b + 90 → (a < b + 12 ∨ b + 79 ≤ a) → h2 a = h a) ∧ ∃ Y, Hd (0, 0, N) h2 (b + 90) (eA 0 20 Y) ∧ rng Y ∧ au n Y = mp (n + 1) M (au n (F 0)) t) := by
  refine Ok.of pfX8_stepOf rfl (Nat.le_of_ble_eq_true rfl) (fun Ls sx => ?_)
  show G mX8_stepOf (d + 4, 0, 0, Ls, sx) 0 [(0, vR (b + 79)), (1, vJ (t : Int))] [] (0, 0, N) h _
  obtain ⟨Y, h4, rY⟩ := s90
  have h1 := hw.1.1
  refine g_aload_n (pc := 0) (r := .inl (some (b + 79))) dX8_stepOf_0 rfl ?_
  refine g_getf (pc := 1) (v := vR (b + 12)) flX8_40 dX8_stepOf_1 hr rfl ?_
  refine g_aload_n (pc := 4) (r := .inl (some (b + 79))) dX8_stepOf_4 rfl ?_
  refine g_getf (pc := 5) (v := vR (b + 90)) flX8_30 dX8_stepOf_5 hr rfl ?_
  refine g_callV0 (pc := 8) (as := [vR (b + 90)]) (b := b + 12) (st := []) lvX8_142 dX8_stepOf_8 h1 (Nat.le_of_ble_eq_true rfl) (by omega) (Nat.zero_le _) (Nat.zero_le _) (c_fillStill (d := d + 2) hn hM (by omega) h1 h4 rY) ?_
  rintro r h2 ⟨rfl, c1, Y2, c2, rY2, e2⟩
  have hr_1 := hr.keep (c1 _ (by omega))
  have h1_1 := h1.keep (c1 _ (by omega))
  have h4_1 := h4.to c2
  have hw2 : PX N h2 (b + 12) kn M n F := PX_keep hw (fun a z1 z2 => c1 a (by omega))
  refine g_aload_n (pc := 11) (r := .inl (some (b + 79))) dX8_stepOf_11 rfl ?_
  refine g_getf (pc := 12) (v := vR (b + 12)) flX8_40 dX8_stepOf_12 hr_1 rfl ?_
  refine g_lload_n (pc := 15) (x := (t : Int)) dX8_stepOf_15 rfl ?_
  refine g_aload_n (pc := 16) (r := .inl (some (b + 79))) dX8_stepOf_16 rfl ?_
  refine g_getf (pc := 17) (v := vR (b + 90)) flX8_30 dX8_stepOf_17 hr_1 rfl ?_
  refine g_callV0 (pc := 20) (as := [vJ (t : Int), vR (b + 90)]) (b := b + 12) (st := []) lvX8_146 dX8_stepOf_20 h1_1 (Nat.le_of_ble_eq_true rfl) (by omega) (Nat.zero_le _) (Nat.zero_le _) (c_carryStep (d := d) hn hM hM2 ht (by omega) hw2 h4_1 rY2 (by rw [e2]; exact m1_can (by omega))) ?_
  rintro r h3 ⟨rfl, ⟨kn2, F2, w3, f0, k9⟩, c3, Y3, c4, rY3, e3⟩
  have hr3 := hr_1.keep (c3 _ (by omega) (by omega))
  refine g_aload_n (pc := 23) (r := .inl (some (b + 79))) dX8_stepOf_23 rfl ?_
  refine g_getf (pc := 24) (v := vR (b + 90)) flX8_30 dX8_stepOf_24 hr3 rfl ?_
  exact r_ref (pc := 27) dX8_stepOf_27 rfl (Or.inr ⟨_, rfl⟩) rfl (Nat.le_refl _) ⟨rfl, ⟨kn2, F2, w3, f0⟩, fun a z1 z2 => (c3 a z1 (by omega)).trans (c1 a z1), Y3, h4.to c4, rY3, by rw [e3, e2, mm_1r (by omega) (mp_can (by omega) t)]⟩

theorem c_rowComesBack {N d b kn M n t : Nat} {wh : Int} {h : MH} {F : Nat → Nat → Int} {Y : Nat → Int} (hn : n ≤ 4) (hM : 2 ≤ M) (hM2 : M ≤ 500) (ht : t < 9223372036854775808) (hr : Hd (0, 0, N) h (b + 79) (eO 8 [vR (b + 12), vR (b + 7), vR (b + 80), vR (b + 82), vR (b + 84), vR (b + 90), vR (b + 91), vR (b + 92), vJ wh])) (hw : PX N h (b + 12) kn M n F) (h4 : Hd (0, 0, N) h (b + 91) (eA 0 4 Y)) (rY : rng Y) (bY : ∀ r, r < n → Y r < M) (s92 : Sc N h (b + 92) 4) : Ok mX8_rowComesBack (d + 4) 0 0 [vR (b + 79), vJ (t : Int)] N h (fun r h2 => (∃ kn2 F2, PX N h2 (b + 12) kn2 M n F2 ∧ F2 0 = F 0) ∧ (∀ a, a ≠ b + 92 → (a < b + 12 ∨ b + 79 ≤ a) → h2 a = h a) ∧ Sc N h2 (b + 92) 4 ∧ ((r = some (vI 1) ∧ ∀ a, a < n → goF n M (mp (n + 1) M (au n (F 0)) t) Y a = Y a) ∨ (r = some (vI 0) ∧ ¬ ∀ a, a < n → goF n M (mp (n + 1) M (au n (F 0)) t) Y a = Y a))) := by
  refine Ok.of pfX8_rowComesBack rfl (Nat.le_of_ble_eq_true rfl) (fun Ls sx => ?_)
  show G mX8_rowComesBack (d + 4, 0, 0, Ls, sx) 0 [(0, vR (b + 79)), (1, vJ (t : Int))] [] (0, 0, N) h _
  obtain ⟨Z, h5, rZ⟩ := s92
  have h1 := hw.1.1
  refine g_aload_n (pc := 0) (r := .inl (some (b + 79))) dX8_rowComesBack_0 rfl ?_
  refine g_getf (pc := 1) (v := vR (b + 91)) flX8_34 dX8_rowComesBack_1 hr rfl ?_
  refine g_aload_n (pc := 4) (r := .inl (some (b + 79))) dX8_rowComesBack_4 rfl ?_
  refine g_getf (pc := 5) (v := vR (b + 92)) flX8_37 dX8_rowComesBack_5 hr rfl ?_
  refine g_callS0 (pc := 8) (as := [vR (b + 91), vR (b + 92)]) (st := []) lsX8_80 dX8_rowComesBack_8 (Nat.le_of_ble_eq_true rfl) (by omega) (Nat.zero_le _) (Nat.zero_le _) (c_copyRow (d := d + 2) h4 h5) ?_
  rintro r h2 ⟨rfl, c2, c1⟩
  have hr_1 := hr.keep (c1 _ (by omega))
  have h1_1 := h1.keep (c1 _ (by omega))
  have h4_1 := h4.keep (c1 _ (by omega))
  have h5_1 := h5.to c2
  have hw2 : PX N h2 (b + 12) kn M n F := PX_keep hw (fun a z1 z2 => c1 a (by omega))
  refine g_aload_n (pc := 11) (r := .inl (some (b + 79))) dX8_rowComesBack_11 rfl ?_
  refine g_getf (pc := 12) (v := vR (b + 12)) flX8_40 dX8_rowComesBack_12 hr_1 rfl ?_
  refine g_lload_n (pc := 15) (x := (t : Int)) dX8_rowComesBack_15 rfl ?_
  refine g_aload_n (pc := 16) (r := .inl (some (b + 79))) dX8_rowComesBack_16 rfl ?_
  refine g_getf (pc := 17) (v := vR (b + 92)) flX8_37 dX8_rowComesBack_17 hr_1 rfl ?_
  refine g_callV0 (pc := 20) (as := [vJ (t : Int), vR (b + 92)]) (b := b + 12) (st := []) lvX8_84 dX8_rowComesBack_20 h1_1 (Nat.le_of_ble_eq_true rfl) (by omega) (Nat.zero_le _) (Nat.zero_le _) (c_carryRow (d := d) hn hM hM2 ht (by omega) hw2 h5_1 (rng_cpy rY rZ) (fun r z => by rw [cpy_lo (by omega)]; exact bY r z)) ?_
  rintro r h3 ⟨rfl, ⟨kn2, F2, w3, f0, k9⟩, c3, Z3, c4, rZ3, e3, e4⟩
  have hr3 := hr_1.keep (c3 _ (by omega) (by omega))
  have h43 := h4_1.keep (c3 _ (by omega) (by omega))
  have h53 := h5_1.to c4
  have h13 := w3.1.1
  refine g_aload_n (pc := 23) (r := .inl (some (b + 79))) dX8_rowComesBack_23 rfl ?_
  refine g_getf (pc := 24) (v := vR (b + 12)) flX8_40 dX8_rowComesBack_24 hr3 rfl ?_
  refine g_aload_n (pc := 27) (r := .inl (some (b + 79))) dX8_rowComesBack_27 rfl ?_
  refine g_getf (pc := 28) (v := vR (b + 91)) flX8_34 dX8_rowComesBack_28 hr3 rfl ?_
  refine g_aload_n (pc := 31) (r := .inl (some (b + 79))) dX8_rowComesBack_31 rfl ?_
  refine g_getf (pc := 32) (v := vR (b + 92)) flX8_37 dX8_rowComesBack_32 hr3 rfl ?_
  refine g_callV0 (pc := 35) (as := [vR (b + 91), vR (b + 92)]) (b := b + 12) (st := []) lvX8_88 dX8_rowComesBack_35 h13 (Nat.le_of_ble_eq_true rfl) (by omega) (Nat.zero_le _) (Nat.zero_le _) (c_sameRows (d := d) hn rY rZ3 h13 h43 h53) ?_
  have key : ∀ a, a < n → Z3 a = goF n M (mp (n + 1) M (au n (F 0)) t) Y a := fun a z => by rw [e3 a z]; exact goF_congr (fun i z2 => cpy_lo (by omega))
  rintro r h9 ⟨rfl, ⟨rfl, g1⟩ | ⟨rfl, g1⟩⟩
  · exact r_bool (pc := 38) dX8_rowComesBack_38 rfl rfl (Nat.le_refl _) (Or.inr rfl) ⟨⟨kn2, F2, w3, f0⟩, fun a z1 z2 => (c3 a z1 (by omega)).trans (c1 a z1), ⟨_, h53, rZ3⟩, Or.inl ⟨rfl, fun a z => by rw [← key a z]; exact (g1 a z).symm⟩⟩
  · exact r_bool (pc := 38) dX8_rowComesBack_38 rfl rfl (Nat.le_refl _) (Or.inl rfl) ⟨⟨kn2, F2, w3, f0⟩, fun a z1 z2 => (c3 a z1 (by omega)).trans (c1 a z1), ⟨_, h53, rZ3⟩, Or.inr ⟨rfl, fun z => g1 (fun a z2 => by rw [key a z2]; exact (z a z2).symm)⟩⟩

theorem c_settledComeBack {N d b kn M n t pw : Nat} {wh : Int} {h : MH} {F : Nat → Nat → Int} (hn : n ≤ 4) (hM : 2 ≤ M) (hM2 : M ≤ 500) (hpw : 0 < pw) (hpw2 : pw ≤ 500) (ht : t < 9223372036854775808) (hr : Hd (0, 0, N) h (b + 79) (eO 8 [vR (b + 12), vR (b + 7), vR (b + 80), vR (b + 82), vR (b + 84), vR (b + 90), vR (b + 91), vR (b + 92), vJ wh])) (hw : PX N h (b + 12) kn M n F) (s90 : Sc N h (b + 90) 20) : Ok mX8_settledComeBack (d + 4) 0 0 [vR (b + 79), vJ (t : Int), vI (pw : Int)] N h (fun r h2 => (∃ kn2 F2, PX N h2 (b + 12) kn2 M n F2 ∧ F2 0 = F 0) ∧ (∀ a, a ≠ b + 90 → (a < b + 12 ∨ b + 79 ≤ a) → h2 a = h a) ∧ Sc N h2 (b + 90) 20 ∧ ∃ A B : Nat → Int, au n A = mp (n + 1) M (au n (F 0)) (t + 32) ∧ au n B = mp (n + 1) M (au n (F 0)) 32 ∧ ((r = some (vI 1) ∧ ∀ r, r < n → ∀ c, (c < n ∨ c = 4) → (A (5 * r + c) - B (5 * r + c)) % (pw : Int) = 0) ∨ (r = some (vI 0) ∧ ¬ ∀ r, r < n → ∀ c, (c < n ∨ c = 4) → (A (5 * r + c) - B (5 * r + c)) % (pw : Int) = 0))) := by
  refine Ok.of pfX8_settledComeBack rfl (Nat.le_of_ble_eq_true rfl) (fun Ls sx => ?_)
  show G mX8_settledComeBack (d + 4, 0, 0, Ls, sx) 0 [(0, vR (b + 79)), (1, vJ (t : Int)), (3, vI (pw : Int))] [] (0, 0, N) h _
  obtain ⟨Y, h4, rY⟩ := s90
  have h1 := hw.1.1
  refine g_aload_n (pc := 0) (r := .inl (some (b + 79))) dX8_settledComeBack_0 rfl ?_
  refine g_getf (pc := 1) (v := vR (b + 12)) flX8_40 dX8_settledComeBack_1 hr rfl ?_
  refine g_callV0 (pc := 4) (as := []) (b := b + 12) (st := []) lvX8_161 dX8_settledComeBack_4 h1 (Nat.le_of_ble_eq_true rfl) (by omega) (Nat.zero_le _) (Nat.zero_le _) (c_settling (d := d) hn hM hM2 hw) ?_
  rintro r h2 ⟨rfl, c1, kn2, F2, w2, f2, k2⟩
  have hr2 := hr.keep (c1 _ (by omega))
  have h42 := h4.keep (c1 _ (by omega))
  have h12 := w2.1.1
  have hs2 := w2.1.2.2.1 5 (by omega)
  have rs2 := w2.1.2.2.2 5 (by omega)
  refine g_astore (pc := 7) (r := .inl (some (b + 12 + 7))) (lo2 := [(0, vR (b + 79)), (1, vJ (t : Int)), (3, vI (pw : Int)), (4, vR (b + 12 + 7))]) dX8_settledComeBack_7 (by decide) rfl ?_
  refine g_aload (pc := 9) (r := .inl (some (b + 12 + 7))) dX8_settledComeBack_9 rfl ?_
  refine g_iconst (pc := 11) dX8_settledComeBack_11 ?_
  refine g_aload_n (pc := 12) (r := .inl (some (b + 79))) dX8_settledComeBack_12 rfl ?_
  refine g_getf (pc := 13) (v := vR (b + 90)) flX8_30 dX8_settledComeBack_13 hr2 rfl ?_
  refine g_iconst (pc := 16) dX8_settledComeBack_16 ?_
  refine g_bipush (pc := 17) dX8_settledComeBack_17 (by decide +kernel) ?_
  refine g_copy (pc := 19) (st := []) (sp := 0) (dp := 0) (n := 20) cpX8_165 dX8_settledComeBack_19 hs2 h42 (by omega) (by omega) (by omega) (by omega) (by omega) (by omega) (by omega) (by omega) (Nat.le_of_ble_eq_true rfl) ?_
  have hr2_1 := hr2.ne (e := eA 0 20 (va_cpy (F2 5) Y 0 0 20)) (a := b + 90) (by omega)
  have hs2_1 := hs2.ne (e := eA 0 20 (va_cpy (F2 5) Y 0 0 20)) (a := b + 90) (by omega)
  have h42_1 := h42.self (e := eA 0 20 (va_cpy (F2 5) Y 0 0 20))
  have hw3 : PX N (va_up h2 (b + 90) (eA 0 20 (va_cpy (F2 5) Y 0 0 20))) (b + 12) kn2 M n F2 := PX_keep w2 (fun a z1 z2 => va_up_ne _ _ (by omega))
  have h13 := hw3.1.1
  have eA : au n (va_cpy (F2 5) Y 0 0 20) = mp (n + 1) M (au n (F 0)) 32 := by
    rw [au_cpy hn, w2.2.1 5 (by omega), f2]
  refine g_aload_n (pc := 22) (r := .inl (some (b + 79))) dX8_settledComeBack_22 rfl ?_
  refine g_getf (pc := 23) (v := vR (b + 12)) flX8_40 dX8_settledComeBack_23 hr2_1 rfl ?_
  refine g_lload_n (pc := 26) (x := (t : Int)) dX8_settledComeBack_26 rfl ?_
  refine g_aload_n (pc := 27) (r := .inl (some (b + 79))) dX8_settledComeBack_27 rfl ?_
  refine g_getf (pc := 28) (v := vR (b + 90)) flX8_30 dX8_settledComeBack_28 hr2_1 rfl ?_
  refine g_callV0 (pc := 31) (as := [vJ (t : Int), vR (b + 90)]) (b := b + 12) (st := []) lvX8_146 dX8_settledComeBack_31 h13 (Nat.le_of_ble_eq_true rfl) (by omega) (Nat.zero_le _) (Nat.zero_le _) (c_carryStep (d := d) hn hM hM2 ht (by omega) hw3 h42_1 (rng_cpy rs2 rY) (by rw [eA]; exact mp_can (by omega) _)) ?_
  rintro r h5 ⟨rfl, ⟨kn3, F3, w5, f3, k9⟩, c5, Y5, c6, rY5, e5⟩
  have hr5 := hr2_1.keep (c5 _ (by omega) (by omega))
  have h45 := h42_1.to c6
  have h15 := w5.1.1
  have hs5 := w5.1.2.2.1 5 (by omega)
  have rs5 := w5.1.2.2.2 5 (by omega)
  refine g_aload_n (pc := 34) (r := .inl (some (b + 79))) dX8_settledComeBack_34 rfl ?_
  refine g_getf (pc := 35) (v := vR (b + 12)) flX8_40 dX8_settledComeBack_35 hr5 rfl ?_
  refine g_aload_n (pc := 38) (r := .inl (some (b + 79))) dX8_settledComeBack_38 rfl ?_
  refine g_getf (pc := 39) (v := vR (b + 90)) flX8_30 dX8_settledComeBack_39 hr5 rfl ?_
  refine g_aload (pc := 42) (r := .inl (some (b + 12 + 7))) dX8_settledComeBack_42 rfl ?_
  refine g_iload_n (pc := 44) (x := (pw : Int)) dX8_settledComeBack_44 rfl ?_
  refine g_callV0 (pc := 45) (as := [vR (b + 90), vR (b + 12 + 7), vI (pw : Int)]) (b := b + 12) (st := []) lvX8_171 dX8_settledComeBack_45 h15 (Nat.le_of_ble_eq_true rfl) (by omega) (Nat.zero_le _) (Nat.zero_le _) (c_sameSteps (d := d + 1) hn hpw hpw2 rY5 rs5 h15 h45 hs5) ?_
  have eB : au n (F3 5) = mp (n + 1) M (au n (F 0)) 32 := by
    rw [w5.2.1 5 (by omega), f3, f2]
  have eC : au n Y5 = mp (n + 1) M (au n (F 0)) (t + 32) := by
    rw [e5, eA, f2, ← mp_add (by omega) (by omega)]
  rintro r h9 ⟨rfl, g1⟩
  rcases g1 with ⟨rfl, g1⟩ | ⟨rfl, g1⟩
  · exact r_bool (pc := 48) dX8_settledComeBack_48 rfl rfl (Nat.le_refl _) (Or.inr rfl) ⟨⟨kn3, F3, w5, f3.trans f2⟩, fun a z1 z2 => (c5 a z1 (by omega)).trans ((va_up_ne _ _ z1).trans (c1 a (by omega))), ⟨_, h45, rY5⟩, Y5, F3 5, eC, eB, Or.inl ⟨rfl, g1⟩⟩
  · exact r_bool (pc := 48) dX8_settledComeBack_48 rfl rfl (Nat.le_refl _) (Or.inl rfl) ⟨⟨kn3, F3, w5, f3.trans f2⟩, fun a z1 z2 => (c5 a z1 (by omega)).trans ((va_up_ne _ _ z1).trans (c1 a (by omega))), ⟨_, h45, rY5⟩, Y5, F3 5, eC, eB, Or.inr ⟨rfl, g1⟩⟩
