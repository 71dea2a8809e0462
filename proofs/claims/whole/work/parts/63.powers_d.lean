/-! ===== Powers.fillStill, sameSteps; Rounds: copyRow, stepOf, rowComesBack ===== -/
theorem still9_l {κ : KX} {N p ss9 kn M n : Nat} (hn : n ≤ 4) (hp : p ≠ ss9) {P : Option MV → MH → Prop} : ∀ (k j : Nat) (xj : Int) (h : MH) (Y : Nat → Int), j + k = n → xj = (j : Int) → Hd (0, 0, N) h p (eO 6 [vR (p + 1), vR (p + 65), vR (p + 66), vI (kn : Int), vI (M : Int), vI (n : Int)]) → Hd (0, 0, N) h ss9 (eA 0 20 Y) → (∀ h2 Y2, Hd (0, 0, N) h2 ss9 (eA 0 20 Y2) → (∀ b, b ≠ ss9 → h2 b = h b) → (∀ r, j ≤ r → r < n → Y2 (6 * r) = 1) → (∀ i, (∀ r, j ≤ r → r < n → i ≠ 6 * r) → Y2 i = Y i) → P none h2) → G mX6_fillStill κ 7 [(0, vR p), (1, vR ss9), (2, vI xj)] [] (0, 0, N) h (Pq mX6_fillStill 0 0 P) := by
  intro k
  induction k with
  | zero =>
    intro j xj h Y hk ex h1 h4 hK
    refine g_iload_n (pc := 7) (x := xj) dX6_fillStill_7 rfl ?_
    refine g_aload_n (pc := 8) (r := .inl (some p)) dX6_fillStill_8 rfl ?_
    refine g_getf (pc := 9) (v := vI (n : Int)) flX6_30 dX6_fillStill_9 h1 rfl ?_
    refine g_icmp_geT (pc := 12) (tgt := 29) dX6_fillStill_12 (by decide) (by omega) (by omega) (by omega) ?_
    exact r_void (pc := 29) dX6_fillStill_29 rfl rfl (Nat.le_refl _) (hK h Y h4 (fun _ _ => rfl) (fun r _ _ => by omega) (fun _ _ => rfl))
  | succ k ih =>
    intro j xj h Y hk ex h1 h4 hK
    refine g_iload_n (pc := 7) (x := xj) dX6_fillStill_7 rfl ?_
    refine g_aload_n (pc := 8) (r := .inl (some p)) dX6_fillStill_8 rfl ?_
    refine g_getf (pc := 9) (v := vI (n : Int)) flX6_30 dX6_fillStill_9 h1 rfl ?_
    refine g_icmp_geF (pc := 12) (tgt := 29) dX6_fillStill_12 (by decide) (by omega) (by omega) (by omega) ?_
    refine g_aload_n (pc := 15) (r := .inl (some ss9)) dX6_fillStill_15 rfl ?_
    refine g_iload_n (pc := 16) (x := xj) dX6_fillStill_16 rfl ?_
    refine g_iconst (pc := 17) dX6_fillStill_17 ?_
    refine g_imul (pc := 18) dX6_fillStill_18 ?_
    refine g_iload_n (pc := 19) (x := xj) dX6_fillStill_19 rfl ?_
    refine g_iadd (pc := 20) dX6_fillStill_20 ?_
    refine g_iconst (pc := 21) dX6_fillStill_21 ?_
    refine g_iastN (pc := 22) (j := 6 * j) dX6_fillStill_22 h4 (by omega) (by omega) (by omega) ?_
    have h1_1 := h1.ne (e := eA 0 20 (va_up Y (6 * j) 1)) (a := ss9) (by omega)
    have h4_1 := h4.self (e := eA 0 20 (va_up Y (6 * j) 1))
    refine g_iinc (pc := 23) (x := xj) (lo2 := [(0, vR p), (1, vR ss9), (2, vI (xj + 1))]) dX6_fillStill_23 rfl (by decide) rfl ?_
    refine g_goto (pc := 26) (tgt := 7) dX6_fillStill_26 (by decide) ?_
    refine ih (j + 1) (xj + 1) _ _ (by omega) (by omega) h1_1 h4_1 (fun h2 Y2 q1 q2 q3 q4 => hK h2 Y2 q1 (fun b hb => (q2 b hb).trans (va_up_ne _ _ hb)) (fun r a1 a2 => ?_) (fun i a1 => ?_))
    · by_cases hj : r = j
      · subst hj
        rw [q4 _ (fun r2 z1 z2 => by omega), va_up_self]
      · exact q3 r (by omega) a2
    · rw [q4 i (fun r2 z1 z2 => a1 r2 (by omega) z2), va_up_ne _ _ (a1 j (Nat.le_refl _) (by omega))]

theorem c_fillStill {N d p ss9 kn M n : Nat} {h : MH} {Y : Nat → Int} (hn : n ≤ 4) (hM : 2 ≤ M) (hp : p ≠ ss9) (h1 : Hd (0, 0, N) h p (eO 6 [vR (p + 1), vR (p + 65), vR (p + 66), vI (kn : Int), vI (M : Int), vI (n : Int)])) (h4 : Hd (0, 0, N) h ss9 (eA 0 20 Y)) (rY : rng Y) : Ok mX6_fillStill (d + 1) 0 0 [vR p, vR ss9] N h (fun r h2 => r = none ∧ (∀ b, b ≠ ss9 → h2 b = h b) ∧ ∃ Y2, h2 ss9 = eA 0 20 Y2 ∧ rng Y2 ∧ au n Y2 = m1 (n + 1) M) := by
  refine Ok.of pfX6_fillStill rfl (Nat.le_of_ble_eq_true rfl) (fun Ls sx => ?_)
  show G mX6_fillStill (d + 1, 0, 0, Ls, sx) 0 [(0, vR p), (1, vR ss9)] [] (0, 0, N) h _
  refine g_aload_n (pc := 0) (r := .inl (some ss9)) dX6_fillStill_0 rfl ?_
  refine g_iconst (pc := 1) dX6_fillStill_1 ?_
  refine g_callS0 (pc := 2) (as := [vR ss9, vI 0]) (st := []) lsX6_33 dX6_fillStill_2 (Nat.le_of_ble_eq_true rfl) (by omega) (Nat.zero_le _) (Nat.zero_le _) (c_fill (d := d) (v := 0) (by omega) h4) ?_
  rintro r h5 ⟨rfl, c1, S, c2, c3, c4⟩
  have h1_1 := h1.keep (c1 _ (by omega))
  have h4_1 := h4.to c2
  refine g_iconst (pc := 5) dX6_fillStill_5 ?_
  refine g_istore_n (pc := 6) (lo2 := [(0, vR p), (1, vR ss9), (2, vI 0)]) dX6_fillStill_6 (by decide) rfl ?_
  refine still9_l hn hp n 0 _ h5 S (by omega) rfl h1_1 h4_1 (fun h6 Y2 q1 q2 q3 q4 => ⟨rfl, fun b hb => (q2 b hb).trans (c1 b hb), Y2, q1.2, fun j => ?_, ?_⟩)
  · by_cases hj : ∀ r, 0 ≤ r → r < n → j ≠ 6 * r
    · rw [q4 j hj]
      by_cases h20 : j < 20
      · rw [c3 j h20]; omega
      · rw [c4 j (by omega)]; exact rY j
    · obtain ⟨r, hr⟩ := Classical.not_forall.mp hj
      have hr2 : r < n ∧ j = 6 * r := by
        refine ⟨Classical.byContradiction fun z => hr (fun _ z2 => absurd z2 z), Classical.byContradiction fun z => hr (fun _ _ => z)⟩
      rw [hr2.2, q3 r (Nat.zero_le _) hr2.1]
      omega
  · refine ext5 au_out (fun j hj => if_neg hj) (fun r c hr hc => ?_)
    rw [au_at hn hr hc, m1_at (by omega) hr hc, show (1 : Int) % (M : Int) = 1 from Int.emod_eq_of_lt (by omega) (by omega)]
    by_cases e1 : r = n
    · rw [if_pos e1]
      by_cases e2 : c = n
      · rw [if_pos e2, if_pos (by omega)]
      · rw [if_neg e2, if_neg (by omega)]
    · rw [if_neg e1]
      by_cases e2 : c = n
      · rw [if_pos e2, if_neg (by omega), q4 _ (fun r2 z1 z2 => by omega), c3 _ (by omega)]
      · rw [if_neg e2]
        by_cases e3 : r = c
        · rw [if_pos e3, show 5 * r + c = 6 * r by omega, q3 r (Nat.zero_le _) (by omega)]
        · rw [if_neg e3, q4 _ (fun r2 z1 z2 => by omega), c3 _ (by omega)]

theorem same_l1 {κ : KX} {N d p aa bb kn M n pw : Nat} {h : MH} {A B : Nat → Int} (hn : n ≤ 4) (hpw : 0 < pw) (hpw2 : pw ≤ 500) (rA : rng A) (rB : rng B) (h1 : Hd (0, 0, N) h p (eO 6 [vR (p + 1), vR (p + 65), vR (p + 66), vI (kn : Int), vI (M : Int), vI (n : Int)])) (ha : Hd (0, 0, N) h aa (eA 0 20 A)) (hb : Hd (0, 0, N) h bb (eA 0 20 B)) (hk0 : d + 2 ≤ κ.1) {P : Option MV → MH → Prop} (p0 : ¬ (∀ r, r < n → ∀ c, (c < n ∨ c = 4) → (A (5 * r + c) - B (5 * r + c)) % (pw : Int) = 0) → P (some (vI 0)) h) {r : Nat} (hr : r < n) {x4 x5 : Int} (h5 : x5 = ((5 * r : Nat) : Int)) : ∀ (k c : Nat) (x6 : Int), c + k = n → x6 = (c : Int) → (∀ a, a < c → (A (5 * r + a) - B (5 * r + a)) % (pw : Int) = 0) → ((∀ a, a < n → (A (5 * r + a) - B (5 * r + a)) % (pw : Int) = 0) → G mX6_sameSteps κ 61 [(0, vR p), (1, vR aa), (2, vR bb), (3, vI (pw : Int)), (4, vI x4), (5, vI x5)] [] (0, 0, N) h (Pq mX6_sameSteps 0 0 P)) → G mX6_sameSteps κ 21 [(0, vR p), (1, vR aa), (2, vR bb), (3, vI (pw : Int)), (4, vI x4), (5, vI x5), (6, vI x6)] [] (0, 0, N) h (Pq mX6_sameSteps 0 0 P) := by
  intro k
  induction k with
  | zero =>
    intro c x6 hk ex hv hK
    refine g_iload (pc := 21) (x := x6) dX6_sameSteps_21 rfl ?_
    refine g_aload_n (pc := 23) (r := .inl (some p)) dX6_sameSteps_23 rfl ?_
    refine g_getf (pc := 24) (v := vI (n : Int)) flX6_30 dX6_sameSteps_24 h1 rfl ?_
    refine g_icmp_geT (pc := 27) (tgt := 61) dX6_sameSteps_27 (by decide) (by omega) (by omega) (by omega) ?_
    refine g_pick [0, 1, 2, 3, 4, 5] (lo2 := [(0, vR p), (1, vR aa), (2, vR bb), (3, vI (pw : Int)), (4, vI x4), (5, vI x5)]) rfl ?_
    exact hK (fun a h9 => hv a (by omega))
  | succ k ih =>
    intro c x6 hk ex hv hK
    have r1 := rA (5 * r + c)
    have r2 := rB (5 * r + c)
    have m1 := Int.emod_nonneg (A (5 * r + c) - B (5 * r + c)) (show (pw : Int) ≠ 0 by omega)
    have m2 := Int.emod_lt_of_pos (A (5 * r + c) - B (5 * r + c)) (show 0 < (pw : Int) by omega)
    refine g_iload (pc := 21) (x := x6) dX6_sameSteps_21 rfl ?_
    refine g_aload_n (pc := 23) (r := .inl (some p)) dX6_sameSteps_23 rfl ?_
    refine g_getf (pc := 24) (v := vI (n : Int)) flX6_30 dX6_sameSteps_24 h1 rfl ?_
    refine g_icmp_geF (pc := 27) (tgt := 61) dX6_sameSteps_27 (by decide) (by omega) (by omega) (by omega) ?_
    refine g_aload_n (pc := 30) (r := .inl (some aa)) dX6_sameSteps_30 rfl ?_
    refine g_iload (pc := 31) (x := x5) dX6_sameSteps_31 rfl ?_
    refine g_iload (pc := 33) (x := x6) dX6_sameSteps_33 rfl ?_
    refine g_iadd (pc := 35) dX6_sameSteps_35 ?_
    refine g_ialdN (pc := 36) (j := 5 * r + c) dX6_sameSteps_36 ha (by omega) (by omega) (by omega) ?_
    refine g_aload_n (pc := 37) (r := .inl (some bb)) dX6_sameSteps_37 rfl ?_
    refine g_iload (pc := 38) (x := x5) dX6_sameSteps_38 rfl ?_
    refine g_iload (pc := 40) (x := x6) dX6_sameSteps_40 rfl ?_
    refine g_iadd (pc := 42) dX6_sameSteps_42 ?_
    refine g_ialdN (pc := 43) (j := 5 * r + c) dX6_sameSteps_43 hb (by omega) (by omega) (by omega) ?_
    refine g_isub (pc := 44) dX6_sameSteps_44 ?_
    refine g_i2l (pc := 45) dX6_sameSteps_45 (by omega) ?_
    refine g_iload_n (pc := 46) (x := (pw : Int)) dX6_sameSteps_46 rfl ?_
    refine g_callS0 (pc := 47) (as := [vJ ((A (5 * r + c)) - (B (5 * r + c))), vI (pw : Int)]) (st := []) lsX6_58 dX6_sameSteps_47 (Nat.le_of_ble_eq_true rfl) (by omega) (Nat.zero_le _) (Nat.zero_le _) (c_restOf (d := d) (by omega) (by omega) (by omega)) ?_
    rintro q h9 ⟨rfl, rfl⟩
    refine g_if_eq (pc := 50) (tgt := 55) dX6_sameSteps_50 (by decide) (by omega) (fun hc => ?_) (fun hc => ?_)
    · refine g_iinc (pc := 55) (x := x6) (lo2 := [(0, vR p), (1, vR aa), (2, vR bb), (3, vI (pw : Int)), (4, vI x4), (5, vI x5), (6, vI (x6 + 1))]) dX6_sameSteps_55 rfl (by decide) rfl ?_
      refine g_goto (pc := 58) (tgt := 21) dX6_sameSteps_58 (by decide) ?_
      exact ih (c + 1) (x6 + 1) (by omega) (by omega) (lt_s hv hc) hK
    · refine g_iconst (pc := 53) dX6_sameSteps_53 ?_
      exact r_bool (pc := 54) dX6_sameSteps_54 rfl rfl (Nat.le_refl _) (Or.inl rfl) (p0 (fun z => hc (z r hr c (Or.inl (by omega)))))

theorem same_l2 {κ : KX} {N d p aa bb kn M n pw : Nat} {h : MH} {A B : Nat → Int} (hn : n ≤ 4) (hpw : 0 < pw) (hpw2 : pw ≤ 500) (rA : rng A) (rB : rng B) (h1 : Hd (0, 0, N) h p (eO 6 [vR (p + 1), vR (p + 65), vR (p + 66), vI (kn : Int), vI (M : Int), vI (n : Int)])) (ha : Hd (0, 0, N) h aa (eA 0 20 A)) (hb : Hd (0, 0, N) h bb (eA 0 20 B)) (hk0 : d + 2 ≤ κ.1) {P : Option MV → MH → Prop} (p0 : ¬ (∀ r, r < n → ∀ c, (c < n ∨ c = 4) → (A (5 * r + c) - B (5 * r + c)) % (pw : Int) = 0) → P (some (vI 0)) h) (p1 : (∀ r, r < n → ∀ c, (c < n ∨ c = 4) → (A (5 * r + c) - B (5 * r + c)) % (pw : Int) = 0) → P (some (vI 1)) h) : ∀ (k r : Nat) (x4 : Int), r + k = n → x4 = (r : Int) → (∀ a, a < r → ∀ c, (c < n ∨ c = 4) → (A (5 * a + c) - B (5 * a + c)) % (pw : Int) = 0) → G mX6_sameSteps κ 3 [(0, vR p), (1, vR aa), (2, vR bb), (3, vI (pw : Int)), (4, vI x4)] [] (0, 0, N) h (Pq mX6_sameSteps 0 0 P) := by
  intro k
  induction k with
  | zero =>
    intro r x4 hk ex hv
    refine g_iload (pc := 3) (x := x4) dX6_sameSteps_3 rfl ?_
    refine g_aload_n (pc := 5) (r := .inl (some p)) dX6_sameSteps_5 rfl ?_
    refine g_getf (pc := 6) (v := vI (n : Int)) flX6_30 dX6_sameSteps_6 h1 rfl ?_
    refine g_icmp_geT (pc := 9) (tgt := 90) dX6_sameSteps_9 (by decide) (by omega) (by omega) (by omega) ?_
    refine g_iconst (pc := 90) dX6_sameSteps_90 ?_
    exact r_bool (pc := 91) dX6_sameSteps_91 rfl rfl (Nat.le_refl _) (Or.inr rfl) (p1 (fun r h9 => hv r (by omega)))
  | succ k ih =>
    intro r x4 hk ex hv
    have r1 := rA (5 * r + 4)
    have r2 := rB (5 * r + 4)
    have m1 := Int.emod_nonneg (A (5 * r + 4) - B (5 * r + 4)) (show (pw : Int) ≠ 0 by omega)
    have m2 := Int.emod_lt_of_pos (A (5 * r + 4) - B (5 * r + 4)) (show 0 < (pw : Int) by omega)
    refine g_iload (pc := 3) (x := x4) dX6_sameSteps_3 rfl ?_
    refine g_aload_n (pc := 5) (r := .inl (some p)) dX6_sameSteps_5 rfl ?_
    refine g_getf (pc := 6) (v := vI (n : Int)) flX6_30 dX6_sameSteps_6 h1 rfl ?_
    refine g_icmp_geF (pc := 9) (tgt := 90) dX6_sameSteps_9 (by decide) (by omega) (by omega) (by omega) ?_
    refine g_iload (pc := 12) (x := x4) dX6_sameSteps_12 rfl ?_
    refine g_iconst (pc := 14) dX6_sameSteps_14 ?_
    refine g_imul (pc := 15) dX6_sameSteps_15 ?_
    refine g_istore (pc := 16) (lo2 := [(0, vR p), (1, vR aa), (2, vR bb), (3, vI (pw : Int)), (4, vI x4), (5, vI (x4 * 5))]) dX6_sameSteps_16 (by decide) rfl ?_
    refine g_iconst (pc := 18) dX6_sameSteps_18 ?_
    refine g_istore (pc := 19) (lo2 := [(0, vR p), (1, vR aa), (2, vR bb), (3, vI (pw : Int)), (4, vI x4), (5, vI (x4 * 5)), (6, vI 0)]) dX6_sameSteps_19 (by decide) rfl ?_
    refine same_l1 (d := d) (r := r) (x5 := x4 * 5) hn hpw hpw2 rA rB h1 ha hb hk0 p0 (by omega) (by omega) n 0 _ (by omega) rfl (fun a h9 => by omega) (fun hrow => ?_)
    refine g_aload_n (pc := 61) (r := .inl (some aa)) dX6_sameSteps_61 rfl ?_
    refine g_iload (pc := 62) (x := x4 * 5) dX6_sameSteps_62 rfl ?_
    refine g_iconst (pc := 64) dX6_sameSteps_64 ?_
    refine g_iadd (pc := 65) dX6_sameSteps_65 ?_
    refine g_ialdN (pc := 66) (j := 5 * r + 4) dX6_sameSteps_66 ha (by omega) (by omega) (by omega) ?_
    refine g_aload_n (pc := 67) (r := .inl (some bb)) dX6_sameSteps_67 rfl ?_
    refine g_iload (pc := 68) (x := x4 * 5) dX6_sameSteps_68 rfl ?_
    refine g_iconst (pc := 70) dX6_sameSteps_70 ?_
    refine g_iadd (pc := 71) dX6_sameSteps_71 ?_
    refine g_ialdN (pc := 72) (j := 5 * r + 4) dX6_sameSteps_72 hb (by omega) (by omega) (by omega) ?_
    refine g_isub (pc := 73) dX6_sameSteps_73 ?_
    refine g_i2l (pc := 74) dX6_sameSteps_74 (by omega) ?_
    refine g_iload_n (pc := 75) (x := (pw : Int)) dX6_sameSteps_75 rfl ?_
    refine g_callS0 (pc := 76) (as := [vJ ((A (5 * r + 4)) - (B (5 * r + 4))), vI (pw : Int)]) (st := []) lsX6_58 dX6_sameSteps_76 (Nat.le_of_ble_eq_true rfl) (by omega) (Nat.zero_le _) (Nat.zero_le _) (c_restOf (d := d) (by omega) (by omega) (by omega)) ?_
    rintro q h9 ⟨rfl, rfl⟩
    refine g_if_eq (pc := 79) (tgt := 84) dX6_sameSteps_79 (by decide) (by omega) (fun hc => ?_) (fun hc => ?_)
    · refine g_iinc (pc := 84) (x := x4) (lo2 := [(0, vR p), (1, vR aa), (2, vR bb), (3, vI (pw : Int)), (4, vI (x4 + 1)), (5, vI (x4 * 5))]) dX6_sameSteps_84 rfl (by decide) rfl ?_
      refine g_goto (pc := 87) (tgt := 3) dX6_sameSteps_87 (by decide) ?_
      refine g_pick [0, 1, 2, 3, 4] (lo2 := [(0, vR p), (1, vR aa), (2, vR bb), (3, vI (pw : Int)), (4, vI (x4 + 1))]) rfl ?_
      refine ih (r + 1) (x4 + 1) (by omega) (by omega) (lt_s hv (fun c h9 => ?_))
      rcases h9 with h9 | h9
      · exact hrow c h9
      · rw [h9]; exact hc
    · refine g_iconst (pc := 82) dX6_sameSteps_82 ?_
      exact r_bool (pc := 83) dX6_sameSteps_83 rfl rfl (Nat.le_refl _) (Or.inl rfl) (p0 (fun z => hc (z r (by omega) 4 (Or.inr rfl))))

theorem c_sameSteps {N d p aa bb kn M n pw : Nat} {h : MH} {A B : Nat → Int} (hn : n ≤ 4) (hpw : 0 < pw) (hpw2 : pw ≤ 500) (rA : rng A) (rB : rng B) (h1 : Hd (0, 0, N) h p (eO 6 [vR (p + 1), vR (p + 65), vR (p + 66), vI (kn : Int), vI (M : Int), vI (n : Int)])) (ha : Hd (0, 0, N) h aa (eA 0 20 A)) (hb : Hd (0, 0, N) h bb (eA 0 20 B)) : Ok mX6_sameSteps (d + 2) 0 0 [vR p, vR aa, vR bb, vI (pw : Int)] N h (fun r h2 => h2 = h ∧ ((r = some (vI 1) ∧ (∀ r, r < n → ∀ c, (c < n ∨ c = 4) → (A (5 * r + c) - B (5 * r + c)) % (pw : Int) = 0)) ∨ (r = some (vI 0) ∧ ¬ (∀ r, r < n → ∀ c, (c < n ∨ c = 4) → (A (5 * r + c) - B (5 * r + c)) % (pw : Int) = 0)))) := by
  refine Ok.of pfX6_sameSteps rfl (Nat.le_of_ble_eq_true rfl) (fun Ls sx => ?_)
  show G mX6_sameSteps (d + 2, 0, 0, Ls, sx) 0 [(0, vR p), (1, vR aa), (2, vR bb), (3, vI (pw : Int))] [] (0, 0, N) h _
  refine g_iconst (pc := 0) dX6_sameSteps_0 ?_
  refine g_istore (pc := 1) (lo2 := [(0, vR p), (1, vR aa), (2, vR bb), (3, vI (pw : Int)), (4, vI 0)]) dX6_sameSteps_1 (by decide) rfl ?_
  exact same_l2 (d := d) hn hpw hpw2 rA rB h1 ha hb (Nat.le_refl _) (fun q => ⟨rfl, Or.inr ⟨rfl, q⟩⟩) (fun q => ⟨rfl, Or.inl ⟨rfl, q⟩⟩) n 0 _ (by omega) rfl (fun i hi => by omega)

theorem c_copyRow {N d aa bb : Nat} {h : MH} {A B : Nat → Int} (ha : Hd (0, 0, N) h aa (eA 0 4 A)) (hb : Hd (0, 0, N) h bb (eA 0 4 B)) : Ok mX8_copyRow (d + 1) 0 0 [vR aa, vR bb] N h (fun r h2 => r = none ∧ h2 bb = eA 0 4 (va_cpy A B 0 0 4) ∧ ∀ b, b ≠ bb → h2 b = h b) := by
  refine Ok.of pfX8_copyRow rfl (Nat.le_of_ble_eq_true rfl) (fun Ls sx => ?_)
  show G mX8_copyRow (d + 1, 0, 0, Ls, sx) 0 [(0, vR aa), (1, vR bb)] [] (0, 0, N) h _
  refine g_aload_n (pc := 0) (r := .inl (some aa)) dX8_copyRow_0 rfl ?_
  refine g_iconst (pc := 1) dX8_copyRow_1 ?_
  refine g_aload_n (pc := 2) (r := .inl (some bb)) dX8_copyRow_2 rfl ?_
  refine g_iconst (pc := 3) dX8_copyRow_3 ?_
  refine g_iconst (pc := 4) dX8_copyRow_4 ?_
  refine g_copy (pc := 5) (st := []) (sp := 0) (dp := 0) (n := 4) cpX8_165 dX8_copyRow_5 ha hb rfl rfl rfl (by omega) (by omega) (by omega) (by omega) (by omega) (Nat.le_of_ble_eq_true rfl) ?_
  exact r_void (pc := 8) dX8_copyRow_8 rfl rfl (Nat.le_refl _) ⟨rfl, va_up_self _ _ _, fun b b1 => va_up_ne _ _ b1⟩
