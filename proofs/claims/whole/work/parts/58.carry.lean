/-! ===== Powers.carryRow, carryStep ===== -/
theorem bit_step {t i : Nat} (h : t / 2 ^ i % 2 = 1) : t % 2 ^ (i + 1) = 2 ^ i + t % 2 ^ i := by
  rw [Nat.pow_succ, Nat.mod_mul, h, Nat.mul_one, Nat.add_comm]
theorem bit_skip {t i : Nat} (h : ¬ t / 2 ^ i % 2 = 1) : t % 2 ^ (i + 1) = t % 2 ^ i := by
  rw [Nat.pow_succ, Nat.mod_mul, show t / 2 ^ i % 2 = 0 by omega, Nat.mul_zero, Nat.add_zero]
theorem bit_end {t i : Nat} (h : t / 2 ^ i = 0) : t % 2 ^ i = t := Nat.mod_eq_of_lt ((Nat.div_eq_zero_iff_lt (Nat.two_pow_pos i)).mp h)
theorem cpy_lo {f g : Nat → Int} {n j : Nat} (h : j < n) : va_cpy f g 0 0 n j = f j := by
  rw [pk_cpy_in (Nat.zero_le _) (by omega), Nat.zero_add, Nat.sub_zero]
theorem cpy_hi {f g : Nat → Int} {n j : Nat} (h : n ≤ j) : va_cpy f g 0 0 n j = g j := pk_cpy_out (Or.inr (by omega))
theorem rng_cpy {f g : Nat → Int} {n : Nat} (hf : rng f) (hg : rng g) : rng (va_cpy f g 0 0 n) := by
  intro j
  by_cases h : j < n
  · rw [cpy_lo h]; exact hf j
  · rw [cpy_hi (by omega)]; exact hg j
/-- Powers at p, whole, with its spare rows -/
def PX (N : Nat) (h : MH) (p kn M n : Nat) (F : Nat → Nat → Int) : Prop := PW N h p kn M n F ∧ SP kn M n F ∧ (1 ≤ kn ∧ kn ≤ 63) ∧ (∃ f, Hd (0, 0, N) h (p + 65) (eA 0 20 f) ∧ rng f) ∧ ∃ f, Hd (0, 0, N) h (p + 66) (eA 0 4 f) ∧ rng f

theorem cRow_l {κ : KX} {N d p rr kn M n t : Nat} {F : Nat → Nat → Int} {Y0 : Nat → Int} (hn : n ≤ 4) (hM : 2 ≤ M) (hM2 : M ≤ 500) (ht : t < 9223372036854775808) (hkn : kn ≤ 63) (htk : t < 2 ^ kn) (hrr : rr < p ∨ p + 67 ≤ rr) (hk0 : d + 1 ≤ κ.1) (hs : SP kn M n F) {P : Option MV → MH → Prop} : ∀ (k i : Nat) (xi : Int) (h : MH) (Y Z : Nat → Int), i + k = kn → xi = (i : Int) → PW N h p kn M n F → Hd (0, 0, N) h (p + 66) (eA 0 4 Z) → rng Z → Hd (0, 0, N) h rr (eA 0 4 Y) → rng Y → (∀ r, r < n → Y r = goF n M (mp (n + 1) M (au n (F 0)) (t % 2 ^ i)) Y0 r) → (∀ r, n ≤ r → Y r = Y0 r) → (∀ h9 Y9 Z9, PW N h9 p kn M n F → Hd (0, 0, N) h9 (p + 66) (eA 0 4 Z9) → rng Z9 → Hd (0, 0, N) h9 rr (eA 0 4 Y9) → rng Y9 → (∀ b, b ≠ rr → b ≠ p + 66 → h9 b = h b) → (∀ r, r < n → Y9 r = goF n M (mp (n + 1) M (au n (F 0)) t) Y0 r) → (∀ r, n ≤ r → Y9 r = Y0 r) → P none h9) → G mX6_carryRow κ 8 [(0, vR p), (1, vJ (t : Int)), (3, vR rr), (4, vI xi)] [] (0, 0, N) h (Pq mX6_carryRow 0 0 P) := by
  intro k
  induction k with
  | zero =>
    intro i xi h Y Z hk ex hw h3 rZ h4 rY hv hv2 hK
    have h1 := hw.1
    have hik : i = kn := by omega
    refine g_iload (pc := 8) (x := xi) dX6_carryRow_8 rfl ?_
    refine g_aload_n (pc := 10) (r := .inl (some p)) dX6_carryRow_10 rfl ?_
    refine g_getf (pc := 11) (v := vI (kn : Int)) flX6_23 dX6_carryRow_11 h1 rfl ?_
    refine g_icmp_geT (pc := 14) (tgt := 73) dX6_carryRow_14 (by decide) (by omega) (by omega) (by omega) ?_
    exact r_void (pc := 73) dX6_carryRow_73 rfl rfl (Nat.le_refl _) (hK h Y Z hw h3 rZ h4 rY (fun _ _ _ => rfl) (fun r hr => by rw [hv r hr, hik, Nat.mod_eq_of_lt htk]) (hv2))
  | succ k ih =>
    intro i xi h Y Z hk ex hw h3 rZ h4 rY hv hv2 hK
    have h1 := hw.1
    have h2 := hw.2.1
    have hr := hw.2.2.1 i (by omega)
    have hg := hw.2.2.2 i (by omega)
    subst ex
    refine g_iload (pc := 8) (x := (i : Int)) dX6_carryRow_8 rfl ?_
    refine g_aload_n (pc := 10) (r := .inl (some p)) dX6_carryRow_10 rfl ?_
    refine g_getf (pc := 11) (v := vI (kn : Int)) flX6_23 dX6_carryRow_11 h1 rfl ?_
    refine g_icmp_geF (pc := 14) (tgt := 73) dX6_carryRow_14 (by decide) (by omega) (by omega) (by omega) ?_
    obtain ⟨v, ev⟩ : ∃ v, v = t / 2 ^ i := ⟨_, rfl⟩
    have hdl : v ≤ t := by rw [ev]; exact Nat.div_le_self t (2 ^ i)
    refine g_lload_n (pc := 17) (x := (t : Int)) dX6_carryRow_17 rfl ?_
    refine g_iload (pc := 18) (x := (i : Int)) dX6_carryRow_18 rfl ?_
    refine g_lushr (pc := 20) dX6_carryRow_20 ?_
    refine g_top (show vJ (((Int64.ofInt (t : Int)).toUInt64 >>> ((Int32.ofInt (i : Int)).toInt64.toUInt64 &&& Int64.toUInt64 63)).toInt64.toInt) = vJ (v : Int) from congrArg vJ ((lushr_of (n := t) (k := i) (by omega) (by omega)).trans (by rw [ev]))) ?_
    refine g_lconst0 (pc := 21) dX6_carryRow_21 ?_
    refine g_lif_eq (pc := 22) (tgt := 73) dX6_carryRow_22 dX6_carryRow_23 (by decide) (by omega) (by omega) (fun hz => ?_) (fun hz => ?_)
    · exact r_void (pc := 73) dX6_carryRow_73 rfl rfl (Nat.le_refl _) (hK h Y Z hw h3 rZ h4 rY (fun _ _ _ => rfl) (fun r hr => by rw [hv r hr, bit_end (by rw [← ev]; omega)]) (hv2))
    · refine g_lload_n (pc := 26) (x := (t : Int)) dX6_carryRow_26 rfl ?_
      refine g_iload (pc := 27) (x := (i : Int)) dX6_carryRow_27 rfl ?_
      refine g_lushr (pc := 29) dX6_carryRow_29 ?_
      refine g_top (show vJ (((Int64.ofInt (t : Int)).toUInt64 >>> ((Int32.ofInt (i : Int)).toInt64.toUInt64 &&& Int64.toUInt64 63)).toInt64.toInt) = vJ (v : Int) from congrArg vJ ((lushr_of (n := t) (k := i) (by omega) (by omega)).trans (by rw [ev]))) ?_
      refine g_lconst1 (pc := 30) dX6_carryRow_30 ?_
      refine g_land (pc := 31) dX6_carryRow_31 ?_
      refine g_top (show vJ ((Int64.ofInt (v : Int) &&& Int64.ofInt 1).toInt) = vJ ((v % 2 : Nat) : Int) from congrArg vJ (land1_of (n := v) (by omega))) ?_
      refine g_lconst1 (pc := 32) dX6_carryRow_32 ?_
      refine g_lif_ne (pc := 33) (tgt := 67) dX6_carryRow_33 dX6_carryRow_34 (by decide) (by omega) (by omega) (fun hbit => ?_) (fun hbit => ?_)
      · refine g_iinc (pc := 67) (x := (i : Int)) (lo2 := [(0, vR p), (1, vJ (t : Int)), (3, vR rr), (4, vI ((i : Int) + 1))]) dX6_carryRow_67 rfl (by decide) rfl ?_
        refine g_goto (pc := 70) (tgt := 8) dX6_carryRow_70 (by decide) ?_
        exact ih (i + 1) ((i : Int) + 1) h Y Z (by omega) (by omega) hw h3 rZ h4 rY (fun r hr => by rw [hv r hr, bit_skip (by rw [← ev]; omega)]) (hv2) hK
      · refine g_aload_n (pc := 37) (r := .inl (some p)) dX6_carryRow_37 rfl ?_
        refine g_aload_n (pc := 38) (r := .inl (some p)) dX6_carryRow_38 rfl ?_
        refine g_getf (pc := 39) (v := vR (p + 1)) flX6_13 dX6_carryRow_39 h1 rfl ?_
        refine g_iload (pc := 42) (x := (i : Int)) dX6_carryRow_42 rfl ?_
        refine g_aaldN (pc := 44) (j := i) dX6_carryRow_44 h2 (by decide) (by omega) (by omega) (by omega) ?_
        rw [rwF_at (b := p + 2) (n := 63) (i := i) (by omega)]
        refine g_aload_n (pc := 45) (r := .inl (some rr)) dX6_carryRow_45 rfl ?_
        refine g_aload_n (pc := 46) (r := .inl (some p)) dX6_carryRow_46 rfl ?_
        refine g_getf (pc := 47) (v := vR (p + 66)) flX6_20 dX6_carryRow_47 h1 rfl ?_
        refine g_callV0 (pc := 50) (as := [vR (p + 2 + i), vR rr, vR (p + 66)]) (b := p) (st := []) lvX6_45 dX6_carryRow_50 h1 (Nat.le_of_ble_eq_true rfl) (by omega) (Nat.zero_le _) (Nat.zero_le _) (c_apply (κ := κ) (h0 := h) (d := d) hn (by omega) hM2 hg rY (by omega) (by omega) (by omega) h1 hr h4 h3) ?_
        rintro r h5 ⟨rfl, c1, T2, c2, c3, c4⟩
        have h1_1 := h1.keep (c1 _ (by omega))
        have h2_1 := h2.keep (c1 _ (by omega))
        have h3_1 := h3.to c2
        have h4_1 := h4.keep (c1 _ (by omega))
        have rT2 : rng T2 := rng_cp (V := apF n M (F i) Y) (fun j => apF_rng (by omega) hM2 j) rZ c3 c4
        refine g_aload_n (pc := 53) (r := .inl (some p)) dX6_carryRow_53 rfl ?_
        refine g_getf (pc := 54) (v := vR (p + 66)) flX6_20 dX6_carryRow_54 h1_1 rfl ?_
        refine g_iconst (pc := 57) dX6_carryRow_57 ?_
        refine g_aload_n (pc := 58) (r := .inl (some rr)) dX6_carryRow_58 rfl ?_
        refine g_iconst (pc := 59) dX6_carryRow_59 ?_
        refine g_aload_n (pc := 60) (r := .inl (some p)) dX6_carryRow_60 rfl ?_
        refine g_getf (pc := 61) (v := vI (n : Int)) flX6_30 dX6_carryRow_61 h1_1 rfl ?_
        refine g_copy (pc := 64) (st := []) (sp := 0) (dp := 0) (n := n) cpX6_49 dX6_carryRow_64 h3_1 h4_1 (by omega) (by omega) (by omega) (by omega) (by omega) (by omega) (by omega) (by omega) (Nat.le_of_ble_eq_true rfl) ?_
        have h1_2 := h1_1.ne (e := eA 0 4 (va_cpy T2 Y 0 0 n)) (a := rr) (by omega)
        have h2_2 := h2_1.ne (e := eA 0 4 (va_cpy T2 Y 0 0 n)) (a := rr) (by omega)
        have h3_2 := h3_1.ne (e := eA 0 4 (va_cpy T2 Y 0 0 n)) (a := rr) (by omega)
        have h4_2 := h4_1.self (e := eA 0 4 (va_cpy T2 Y 0 0 n))
        have hw6 : PW N (va_up h5 rr (eA 0 4 (va_cpy T2 Y 0 0 n))) p kn M n F := ⟨h1_2, h2_2, fun a ha => ((hw.2.2.1 a ha).keep (c1 _ (by omega))).ne (by omega), hw.2.2.2⟩
        refine g_iinc (pc := 67) (x := (i : Int)) (lo2 := [(0, vR p), (1, vJ (t : Int)), (3, vR rr), (4, vI ((i : Int) + 1))]) dX6_carryRow_67 rfl (by decide) rfl ?_
        refine g_goto (pc := 70) (tgt := 8) dX6_carryRow_70 (by decide) ?_
        refine ih (i + 1) ((i : Int) + 1) _ _ _ (by omega) (by omega) hw6 h3_2 rT2 h4_2 (rng_cpy rT2 rY) (fun r hr => ?_) (fun r hr => ?_) (fun h9 Y9 Z9 q1 q2 q3 q4 q5 q6 => hK h9 Y9 Z9 q1 q2 q3 q4 q5 (fun b b1 b2 => (q6 b b1 b2).trans ((va_up_ne _ _ b1).trans (c1 b b2))))
        · rw [cpy_lo hr, c3 r hr, apF_go hn hr, hs i (by omega), goF_congr (fun a ha => hv a ha), ← act_mm hn (by omega) (aff_mp hn hM (aff_au hn) _), ← mp_add (by omega) (by omega), bit_step (by rw [← ev]; omega)]
        · rw [cpy_hi hr, hv2 r hr]

theorem c_carryRow {N d p rr kn M n t : Nat} {h : MH} {F : Nat → Nat → Int} {Y : Nat → Int} (hn : n ≤ 4) (hM : 2 ≤ M) (hM2 : M ≤ 500) (ht : t < 9223372036854775808) (hrr : rr < p ∨ p + 67 ≤ rr) (hw : PX N h p kn M n F) (h4 : Hd (0, 0, N) h rr (eA 0 4 Y)) (rY : rng Y) (bY : ∀ r, r < n → Y r < M) : Ok mX6_carryRow (d + 3) 0 0 [vR p, vJ (t : Int), vR rr] N h (fun r h2 => r = none ∧ (∃ kn2 F2, PX N h2 p kn2 M n F2 ∧ F2 0 = F 0 ∧ kn ≤ kn2) ∧ (∀ b, b ≠ rr → (b < p ∨ p + 67 ≤ b) → h2 b = h b) ∧ ∃ Y2, h2 rr = eA 0 4 Y2 ∧ rng Y2 ∧ (∀ r, r < n → Y2 r = goF n M (mp (n + 1) M (au n (F 0)) t) Y r) ∧ ∀ r, n ≤ r → Y2 r = Y r) := by
  refine Ok.of pfX6_carryRow rfl (Nat.le_of_ble_eq_true rfl) (fun Ls sx => ?_)
  show G mX6_carryRow (d + 3, 0, 0, Ls, sx) 0 [(0, vR p), (1, vJ (t : Int)), (3, vR rr)] [] (0, 0, N) h _
  obtain ⟨hw, hs, ⟨k1, k2⟩, ⟨f5, h5, r5⟩, ⟨Z, h3, rZ⟩⟩ := hw
  have h1 := hw.1
  refine g_aload_n (pc := 0) (r := .inl (some p)) dX6_carryRow_0 rfl ?_
  refine g_lload_n (pc := 1) (x := (t : Int)) dX6_carryRow_1 rfl ?_
  refine g_callV0 (pc := 2) (as := [vJ (t : Int)]) (b := p) (st := []) lvX6_41 dX6_carryRow_2 h1 (Nat.le_of_ble_eq_true rfl) (by omega) (Nat.zero_le _) (Nat.zero_le _) (c_reach (d := d) hn hM hM2 ht k1 k2 hw hs) ?_
  rintro r h6 ⟨rfl, kn2, F2, w2, s2, k3, k4, tk, f0, c1⟩
  refine g_iconst (pc := 5) dX6_carryRow_5 ?_
  refine g_istore (pc := 6) (lo2 := [(0, vR p), (1, vJ (t : Int)), (3, vR rr), (4, vI 0)]) dX6_carryRow_6 (by decide) rfl ?_
  refine cRow_l (d := d) (Y0 := Y) hn hM hM2 ht k4 tk hrr (show d + 1 ≤ d + 3 by omega) s2 kn2 0 _ h6 Y Z (by omega) rfl w2 (h3.keep (c1 _ (by omega))) rZ (h4.keep (c1 _ (by omega))) rY (fun r hr => ?_) (fun _ _ => rfl) (fun h9 Y9 Z9 q1 q2 q3 q4 q5 q6 q7 q8 => ⟨rfl, ⟨kn2, F2, ⟨q1, s2, ⟨by omega, k4⟩, ⟨f5, (h5.keep (c1 _ (by omega))).keep (q6 _ (by omega) (by omega)), r5⟩, ⟨Z9, q2, q3⟩⟩, f0, k3⟩, fun b b1 b2 => (q6 b b1 (by omega)).trans (c1 b (by omega)), Y9, q4.2, q5, fun r hr => by rw [q7 r hr, f0], q8⟩)
  rw [show t % 2 ^ 0 = 0 from Nat.mod_one t]
  exact (go_m1 hn hr ⟨(rY r).1, bY r hr⟩).symm

theorem au_cpy {n : Nat} {f g : Nat → Int} (hn : n ≤ 4) : au n (va_cpy f g 0 0 20) = au n f := by
  refine ext5 au_out au_out (fun r c hr hc => ?_)
  rw [au_at hn hr hc, au_at hn hr hc]
  split
  · rfl
  · split
    · exact cpy_lo (by omega)
    · exact cpy_lo (by omega)

theorem cStep_l {κ : KX} {N d p rr kn M n t : Nat} {F : Nat → Nat → Int} {Y0 : Nat → Int} (hn : n ≤ 4) (hM : 2 ≤ M) (hM2 : M ≤ 500) (ht : t < 9223372036854775808) (hkn : kn ≤ 63) (htk : t < 2 ^ kn) (hrr : rr < p ∨ p + 67 ≤ rr) (hk0 : d + 1 ≤ κ.1) (hs : SP kn M n F) {P : Option MV → MH → Prop} : ∀ (k i : Nat) (xi : Int) (h : MH) (Y Z : Nat → Int), i + k = kn → xi = (i : Int) → PW N h p kn M n F → Hd (0, 0, N) h (p + 65) (eA 0 20 Z) → rng Z → Hd (0, 0, N) h rr (eA 0 20 Y) → rng Y → au n Y = mm (n + 1) M (mp (n + 1) M (au n (F 0)) (t % 2 ^ i)) (au n Y0) → (∀ h9 Y9 Z9, PW N h9 p kn M n F → Hd (0, 0, N) h9 (p + 65) (eA 0 20 Z9) → rng Z9 → Hd (0, 0, N) h9 rr (eA 0 20 Y9) → rng Y9 → (∀ b, b ≠ rr → b ≠ p + 65 → h9 b = h b) → au n Y9 = mm (n + 1) M (mp (n + 1) M (au n (F 0)) t) (au n Y0) → P none h9) → G mX6_carryStep κ 8 [(0, vR p), (1, vJ (t : Int)), (3, vR rr), (4, vI xi)] [] (0, 0, N) h (Pq mX6_carryStep 0 0 P) := by
  intro k
  induction k with
  | zero =>
    intro i xi h Y Z hk ex hw h3 rZ h4 rY hv hK
    have h1 := hw.1
    have hik : i = kn := by omega
    refine g_iload (pc := 8) (x := xi) dX6_carryStep_8 rfl ?_
    refine g_aload_n (pc := 10) (r := .inl (some p)) dX6_carryStep_10 rfl ?_
    refine g_getf (pc := 11) (v := vI (kn : Int)) flX6_23 dX6_carryStep_11 h1 rfl ?_
    refine g_icmp_geT (pc := 14) (tgt := 71) dX6_carryStep_14 (by decide) (by omega) (by omega) (by omega) ?_
    exact r_void (pc := 71) dX6_carryStep_71 rfl rfl (Nat.le_refl _) (hK h Y Z hw h3 rZ h4 rY (fun _ _ _ => rfl) (by rw [hv, hik, Nat.mod_eq_of_lt htk]))
  | succ k ih =>
    intro i xi h Y Z hk ex hw h3 rZ h4 rY hv hK
    have h1 := hw.1
    have h2 := hw.2.1
    have hr := hw.2.2.1 i (by omega)
    have hg := hw.2.2.2 i (by omega)
    subst ex
    refine g_iload (pc := 8) (x := (i : Int)) dX6_carryStep_8 rfl ?_
    refine g_aload_n (pc := 10) (r := .inl (some p)) dX6_carryStep_10 rfl ?_
    refine g_getf (pc := 11) (v := vI (kn : Int)) flX6_23 dX6_carryStep_11 h1 rfl ?_
    refine g_icmp_geF (pc := 14) (tgt := 71) dX6_carryStep_14 (by decide) (by omega) (by omega) (by omega) ?_
    obtain ⟨v, ev⟩ : ∃ v, v = t / 2 ^ i := ⟨_, rfl⟩
    have hdl : v ≤ t := by rw [ev]; exact Nat.div_le_self t (2 ^ i)
    refine g_lload_n (pc := 17) (x := (t : Int)) dX6_carryStep_17 rfl ?_
    refine g_iload (pc := 18) (x := (i : Int)) dX6_carryStep_18 rfl ?_
    refine g_lushr (pc := 20) dX6_carryStep_20 ?_
    refine g_top (show vJ (((Int64.ofInt (t : Int)).toUInt64 >>> ((Int32.ofInt (i : Int)).toInt64.toUInt64 &&& Int64.toUInt64 63)).toInt64.toInt) = vJ (v : Int) from congrArg vJ ((lushr_of (n := t) (k := i) (by omega) (by omega)).trans (by rw [ev]))) ?_
    refine g_lconst0 (pc := 21) dX6_carryStep_21 ?_
    refine g_lif_eq (pc := 22) (tgt := 71) dX6_carryStep_22 dX6_carryStep_23 (by decide) (by omega) (by omega) (fun hz => ?_) (fun hz => ?_)
    · exact r_void (pc := 71) dX6_carryStep_71 rfl rfl (Nat.le_refl _) (hK h Y Z hw h3 rZ h4 rY (fun _ _ _ => rfl) (by rw [hv, bit_end (by rw [← ev]; omega)]))
    · refine g_lload_n (pc := 26) (x := (t : Int)) dX6_carryStep_26 rfl ?_
      refine g_iload (pc := 27) (x := (i : Int)) dX6_carryStep_27 rfl ?_
      refine g_lushr (pc := 29) dX6_carryStep_29 ?_
      refine g_top (show vJ (((Int64.ofInt (t : Int)).toUInt64 >>> ((Int32.ofInt (i : Int)).toInt64.toUInt64 &&& Int64.toUInt64 63)).toInt64.toInt) = vJ (v : Int) from congrArg vJ ((lushr_of (n := t) (k := i) (by omega) (by omega)).trans (by rw [ev]))) ?_
      refine g_lconst1 (pc := 30) dX6_carryStep_30 ?_
      refine g_land (pc := 31) dX6_carryStep_31 ?_
      refine g_top (show vJ ((Int64.ofInt (v : Int) &&& Int64.ofInt 1).toInt) = vJ ((v % 2 : Nat) : Int) from congrArg vJ (land1_of (n := v) (by omega))) ?_
      refine g_lconst1 (pc := 32) dX6_carryStep_32 ?_
      refine g_lif_ne (pc := 33) (tgt := 65) dX6_carryStep_33 dX6_carryStep_34 (by decide) (by omega) (by omega) (fun hbit => ?_) (fun hbit => ?_)
      · refine g_iinc (pc := 65) (x := (i : Int)) (lo2 := [(0, vR p), (1, vJ (t : Int)), (3, vR rr), (4, vI ((i : Int) + 1))]) dX6_carryStep_65 rfl (by decide) rfl ?_
        refine g_goto (pc := 68) (tgt := 8) dX6_carryStep_68 (by decide) ?_
        exact ih (i + 1) ((i : Int) + 1) h Y Z (by omega) (by omega) hw h3 rZ h4 rY (by rw [hv, bit_skip (by rw [← ev]; omega)]) hK
      · refine g_aload_n (pc := 37) (r := .inl (some p)) dX6_carryStep_37 rfl ?_
        refine g_aload_n (pc := 38) (r := .inl (some p)) dX6_carryStep_38 rfl ?_
        refine g_getf (pc := 39) (v := vR (p + 1)) flX6_13 dX6_carryStep_39 h1 rfl ?_
        refine g_iload (pc := 42) (x := (i : Int)) dX6_carryStep_42 rfl ?_
        refine g_aaldN (pc := 44) (j := i) dX6_carryStep_44 h2 (by decide) (by omega) (by omega) (by omega) ?_
        rw [rwF_at (b := p + 2) (n := 63) (i := i) (by omega)]
        refine g_aload_n (pc := 45) (r := .inl (some rr)) dX6_carryStep_45 rfl ?_
        refine g_aload_n (pc := 46) (r := .inl (some p)) dX6_carryStep_46 rfl ?_
        refine g_getf (pc := 47) (v := vR (p + 65)) flX6_16 dX6_carryStep_47 h1 rfl ?_
        refine g_callV0 (pc := 50) (as := [vR (p + 2 + i), vR rr, vR (p + 65)]) (b := p) (st := []) lvX6_55 dX6_carryStep_50 h1 (Nat.le_of_ble_eq_true rfl) (by omega) (Nat.zero_le _) (Nat.zero_le _) (c_compose (d := d) hn (by omega) hM2 hg rY (by omega) (by omega) (by omega) h1 hr h4 h3) ?_
        rintro r h5 ⟨rfl, c1, c2⟩
        have h1_1 := h1.keep (c1 _ (by omega))
        have h2_1 := h2.keep (c1 _ (by omega))
        have h3_1 := h3.to c2
        have h4_1 := h4.keep (c1 _ (by omega))
        have rT2 : rng (coF n M (F i) Y Z) := rng_co (by omega) hM2 rZ
        refine g_aload_n (pc := 53) (r := .inl (some p)) dX6_carryStep_53 rfl ?_
        refine g_getf (pc := 54) (v := vR (p + 65)) flX6_16 dX6_carryStep_54 h1_1 rfl ?_
        refine g_iconst (pc := 57) dX6_carryStep_57 ?_
        refine g_aload_n (pc := 58) (r := .inl (some rr)) dX6_carryStep_58 rfl ?_
        refine g_iconst (pc := 59) dX6_carryStep_59 ?_
        refine g_bipush (pc := 60) dX6_carryStep_60 (by decide +kernel) ?_
        refine g_copy (pc := 62) (st := []) (sp := 0) (dp := 0) (n := 20) cpX6_49 dX6_carryStep_62 h3_1 h4_1 (by omega) (by omega) (by omega) (by omega) (by omega) (by omega) (by omega) (by omega) (Nat.le_of_ble_eq_true rfl) ?_
        have h1_2 := h1_1.ne (e := eA 0 20 (va_cpy (coF n M (F i) Y Z) Y 0 0 20)) (a := rr) (by omega)
        have h2_2 := h2_1.ne (e := eA 0 20 (va_cpy (coF n M (F i) Y Z) Y 0 0 20)) (a := rr) (by omega)
        have h3_2 := h3_1.ne (e := eA 0 20 (va_cpy (coF n M (F i) Y Z) Y 0 0 20)) (a := rr) (by omega)
        have h4_2 := h4_1.self (e := eA 0 20 (va_cpy (coF n M (F i) Y Z) Y 0 0 20))
        have hw6 : PW N (va_up h5 rr (eA 0 20 (va_cpy (coF n M (F i) Y Z) Y 0 0 20))) p kn M n F := ⟨h1_2, h2_2, fun a ha => ((hw.2.2.1 a ha).keep (c1 _ (by omega))).ne (by omega), hw.2.2.2⟩
        refine g_iinc (pc := 65) (x := (i : Int)) (lo2 := [(0, vR p), (1, vJ (t : Int)), (3, vR rr), (4, vI ((i : Int) + 1))]) dX6_carryStep_65 rfl (by decide) rfl ?_
        refine g_goto (pc := 68) (tgt := 8) dX6_carryStep_68 (by decide) ?_
        refine ih (i + 1) ((i : Int) + 1) _ _ _ (by omega) (by omega) hw6 h3_2 rT2 h4_2 (rng_cpy rT2 rY) ?_ (fun h9 Y9 Z9 q1 q2 q3 q4 q5 q6 => hK h9 Y9 Z9 q1 q2 q3 q4 q5 (fun b b1 b2 => (q6 b b1 b2).trans ((va_up_ne _ _ b1).trans (c1 b b2))))
        have e7 : au n (va_cpy (coF n M (F i) Y Z) Y 0 0 20) = au n (coF n M (F i) Y Z) := au_cpy hn
        rw [e7, au_mm hn hM, hs i (by omega), hv, ← mm_assoc (by omega), ← mp_add (by omega) (by omega), bit_step (by rw [← ev]; omega)]

theorem c_carryStep {N d p rr kn M n t : Nat} {h : MH} {F : Nat → Nat → Int} {Y : Nat → Int} (hn : n ≤ 4) (hM : 2 ≤ M) (hM2 : M ≤ 500) (ht : t < 9223372036854775808) (hrr : rr < p ∨ p + 67 ≤ rr) (hw : PX N h p kn M n F) (h4 : Hd (0, 0, N) h rr (eA 0 20 Y)) (rY : rng Y) (cY : can (n + 1) M (au n Y)) : Ok mX6_carryStep (d + 3) 0 0 [vR p, vJ (t : Int), vR rr] N h (fun r h2 => r = none ∧ (∃ kn2 F2, PX N h2 p kn2 M n F2 ∧ F2 0 = F 0 ∧ kn ≤ kn2) ∧ (∀ b, b ≠ rr → (b < p ∨ p + 67 ≤ b) → h2 b = h b) ∧ ∃ Y2, h2 rr = eA 0 20 Y2 ∧ rng Y2 ∧ au n Y2 = mm (n + 1) M (mp (n + 1) M (au n (F 0)) t) (au n Y)) := by
  refine Ok.of pfX6_carryStep rfl (Nat.le_of_ble_eq_true rfl) (fun Ls sx => ?_)
  show G mX6_carryStep (d + 3, 0, 0, Ls, sx) 0 [(0, vR p), (1, vJ (t : Int)), (3, vR rr)] [] (0, 0, N) h _
  obtain ⟨hw, hs, ⟨k1, k2⟩, ⟨Z, h3, rZ⟩, ⟨f5, h5, r5⟩⟩ := hw
  have h1 := hw.1
  refine g_aload_n (pc := 0) (r := .inl (some p)) dX6_carryStep_0 rfl ?_
  refine g_lload_n (pc := 1) (x := (t : Int)) dX6_carryStep_1 rfl ?_
  refine g_callV0 (pc := 2) (as := [vJ (t : Int)]) (b := p) (st := []) lvX6_41 dX6_carryStep_2 h1 (Nat.le_of_ble_eq_true rfl) (by omega) (Nat.zero_le _) (Nat.zero_le _) (c_reach (d := d) hn hM hM2 ht k1 k2 hw hs) ?_
  rintro r h6 ⟨rfl, kn2, F2, w2, s2, k3, k4, tk, f0, c1⟩
  refine g_iconst (pc := 5) dX6_carryStep_5 ?_
  refine g_istore (pc := 6) (lo2 := [(0, vR p), (1, vJ (t : Int)), (3, vR rr), (4, vI 0)]) dX6_carryStep_6 (by decide) rfl ?_
  refine cStep_l (d := d) (Y0 := Y) hn hM hM2 ht k4 tk hrr (show d + 1 ≤ d + 3 by omega) s2 kn2 0 _ h6 Y Z (by omega) rfl w2 (h3.keep (c1 _ (by omega))) rZ (h4.keep (c1 _ (by omega))) rY ?_ (fun h9 Y9 Z9 q1 q2 q3 q4 q5 q6 q7 => ⟨rfl, ⟨kn2, F2, ⟨q1, s2, ⟨by omega, k4⟩, ⟨Z9, q2, q3⟩, ⟨f5, (h5.keep (c1 _ (by omega))).keep (q6 _ (by omega) (by omega)), r5⟩⟩, f0, k3⟩, fun b b1 b2 => (q6 b b1 (by omega)).trans (c1 b (by omega)), Y9, q4.2, q5, by rw [q7, f0]⟩)
  rw [show t % 2 ^ 0 = 0 from Nat.mod_one t]
  exact (mm_1l (by omega) cY).symm
