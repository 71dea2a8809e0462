/-! ===== all: the class and the reference ===== -/
theorem orh_l {N d b M Ls : Nat} {sx T : Nat → Int} {h : MH} (hM : 2 ≤ M) (hM2 : M ≤ 500) (hT : 0 ≤ T 0 ∧ T 0 < M) (hg : Nat.gcd M (T 4).natAbs = 1) (hpc : PC N h b M) : ∀ (f i : Nat) (xi : Int), i + f = 4 → xi = (i : Int) → (∀ j, j < i → j < (fcs M).length → hullOk (pe M j) (T 0)) → G mX1_oneRoundHoldsAll (d + 2, 0, 0, Ls, sx) 48 [(0, vR b), (1, vI (T 0 - 1)), (2, vR (b + 7)), (3, vI 4), (4, vI xi)] [] (0, 0, N) h (Pq mX1_oneRoundHoldsAll 0 0 (fun r9 h2 => h2 = h ∧ r9 = some (vI ((ind (allR (T 0) (T 4) M) : Nat) : Int)))) := by
  intro f
  induction f with
  | zero =>
    intro i xi hf ex hj
    have hlen := (fcs_ok hM hM2).1
    have hpa := hpc.1
    refine g_iload (pc := 48) (x := xi) dX1_oneRoundHoldsAll_48 rfl ?_
    refine g_iload_n (pc := 50) (x := 4) dX1_oneRoundHoldsAll_50 rfl ?_
    refine g_icmp_geT (pc := 51) (tgt := 108) dX1_oneRoundHoldsAll_51 (by decide) (by omega) (by omega) (by omega) ?_
    refine g_iconst (pc := 108) dX1_oneRoundHoldsAll_108 ?_
    have ha : allR (T 0) (T 4) M := (hull_iff hM hM2).mpr ⟨hg, fun e he => by
      obtain ⟨j, j1, j2⟩ := pe_of he
      rw [← j2]
      exact hj j (by omega) j1⟩
    exact r_bool (pc := 109) dX1_oneRoundHoldsAll_109 rfl rfl (Nat.le_refl _) (Or.inr rfl) ⟨rfl, by rw [ind_t ha]; rfl⟩
  | succ f ih =>
    intro i xi hf ex hj
    have hlen := (fcs_ok hM hM2).1
    have hpa := hpc.1
    have hci := hpc.2 i (by omega)
    refine g_iload (pc := 48) (x := xi) dX1_oneRoundHoldsAll_48 rfl ?_
    refine g_iload_n (pc := 50) (x := 4) dX1_oneRoundHoldsAll_50 rfl ?_
    refine g_icmp_geF (pc := 51) (tgt := 108) dX1_oneRoundHoldsAll_51 (by decide) (by omega) (by omega) (by omega) ?_
    refine g_aload_n (pc := 54) (r := .inl (some (b + 7))) dX1_oneRoundHoldsAll_54 rfl ?_
    refine g_iload (pc := 55) (x := xi) dX1_oneRoundHoldsAll_55 rfl ?_
    refine g_aaldN (pc := 57) (j := i) dX1_oneRoundHoldsAll_57 hpa (by decide) (by omega) (by omega) (by omega) ?_
    rw [rwF_at (b := b + 8) (n := 4) (i := i) (by omega)]
    refine g_astore (pc := 58) (r := .inl (some (b + 8 + i))) (lo2 := [(0, vR b), (1, vI (T 0 - 1)), (2, vR (b + 7)), (3, vI 4), (4, vI xi), (5, vR (b + 8 + i))]) dX1_oneRoundHoldsAll_58 (by decide) rfl ?_
    by_cases hi : i < (fcs M).length
    · obtain ⟨b1, b2, b3, b4⟩ := (fcs_ok hM hM2).2.1 _ (pe_mem hi)
      have hb : (pe M i).1 ^ (pe M i).2 ≤ 500 := Nat.le_trans (Nat.le_of_dvd (by omega) b4) hM2
      have hb1 : 2 ≤ (pe M i).1 ^ (pe M i).2 := by
        have := Nat.pow_le_pow_right (show 0 < (pe M i).1 by have := b1.1; omega) b3
        rw [Nat.pow_one] at this
        have := b1.1
        omega
      have b5 := b1.1
      obtain ⟨q, eq⟩ : ∃ q, q = (pe M i).1 ^ (pe M i).2 := ⟨_, rfl⟩
      obtain ⟨p, ep⟩ : ∃ p, p = (pe M i).1 := ⟨_, rfl⟩
      have hho : hullOk (pe M i) (T 0) ↔ ((if q % 4 = 0 then 4 else p : Nat) : Int) ∣ T 0 - 1 := by
        unfold hullOk
        rw [eq, ep]
      rw [← eq] at hb hb1 b4
      rw [← ep] at b2 b5
      have hci2 : Hd (0, 0, N) h (b + 8 + i) (eO 4 [vI (p : Int), vI (q : Int), vI ((pe M i).2 : Int)]) := by rw [eq, ep]; exact hci
      have em : (q : Int).tmod 4 = ((q % 4 : Nat) : Int) := tmodN rfl rfl
      refine g_aload (pc := 60) (r := .inl (some (b + 8 + i))) dX1_oneRoundHoldsAll_60 rfl ?_
      refine g_getf (pc := 62) (v := vI (q : Int)) flX1_115 dX1_oneRoundHoldsAll_62 hci2 rfl ?_
      refine g_iconst (pc := 65) dX1_oneRoundHoldsAll_65 ?_
      refine g_irem (pc := 66) dX1_oneRoundHoldsAll_66 (by omega) (by omega) (by omega) ?_
      rw [em]
      refine g_if_ne (pc := 67) (tgt := 74) dX1_oneRoundHoldsAll_67 (by decide) (by omega) (fun hc => ?_) (fun hc => ?_)
      · rw [if_neg (show ¬ q % 4 = 0 by omega)] at hho
        refine g_aload (pc := 74) (r := .inl (some (b + 8 + i))) dX1_oneRoundHoldsAll_74 rfl ?_
        refine g_getf (pc := 76) (v := vI (p : Int)) flX1_125 dX1_oneRoundHoldsAll_76 hci2 rfl ?_
        refine g_istore (pc := 79) (lo2 := [(0, vR b), (1, vI (T 0 - 1)), (2, vR (b + 7)), (3, vI 4), (4, vI xi), (5, vR (b + 8 + i)), (6, vI (p : Int))]) dX1_oneRoundHoldsAll_79 (by decide) rfl ?_
        refine g_aload (pc := 81) (r := .inl (some (b + 8 + i))) dX1_oneRoundHoldsAll_81 rfl ?_
        refine g_getf (pc := 83) (v := vI (q : Int)) flX1_115 dX1_oneRoundHoldsAll_83 hci2 rfl ?_
        refine g_iconst (pc := 86) dX1_oneRoundHoldsAll_86 ?_
        refine g_icmp_leF (pc := 87) (tgt := 102) dX1_oneRoundHoldsAll_87 (by decide) (by omega) (by omega) (by omega) ?_
        refine g_iload_n (pc := 90) (x := T 0 - 1) dX1_oneRoundHoldsAll_90 rfl ?_
        refine g_i2l (pc := 91) dX1_oneRoundHoldsAll_91 (by omega) ?_
        refine g_iload (pc := 92) (x := (p : Int)) dX1_oneRoundHoldsAll_92 rfl ?_
        refine g_callS0 (pc := 94) (as := [vJ (T 0 - 1), vI (p : Int)]) (st := []) lsX1_94 dX1_oneRoundHoldsAll_94 (Nat.le_of_ble_eq_true rfl) (by omega) (Nat.zero_le _) (Nat.zero_le _) (c_restOf (d := d) (by omega) (by omega) (by omega)) ?_
        rintro r h1 ⟨e9, e8⟩
        subst e9
        subst e8
        have r0 := Int.emod_nonneg (T 0 - 1) (show (p : Int) ≠ 0 by omega)
        have r1 := Int.emod_lt_of_pos (T 0 - 1) (show 0 < (p : Int) by omega)
        refine g_if_eq (pc := 97) (tgt := 102) dX1_oneRoundHoldsAll_97 (by decide) (by omega) (fun hz => ?_) (fun hz => ?_)
        · refine g_iinc (pc := 102) (x := xi) (lo2 := [(0, vR b), (1, vI (T 0 - 1)), (2, vR (b + 7)), (3, vI 4), (4, vI (xi + 1)), (5, vR (b + 8 + i)), (6, vI (p : Int))]) dX1_oneRoundHoldsAll_102 rfl (by decide) rfl ?_
          refine g_goto (pc := 105) (tgt := 48) dX1_oneRoundHoldsAll_105 (by decide) ?_
          refine g_pick [0, 1, 2, 3, 4] (lo2 := [(0, vR b), (1, vI (T 0 - 1)), (2, vR (b + 7)), (3, vI 4), (4, vI (xi + 1))]) rfl ?_
          refine ih (i + 1) _ (by omega) (by omega) (fun j j1 j2 => ?_)
          by_cases e : j = i
          · rw [e, hho]
            exact Int.dvd_of_emod_eq_zero hz
          · exact hj j (by omega) j2
        · refine g_iconst (pc := 100) dX1_oneRoundHoldsAll_100 ?_
          have ha : ¬ allR (T 0) (T 4) M := fun y => hz (Int.emod_eq_zero_of_dvd (hho.mp (((hull_iff hM hM2).mp y).2 _ (pe_mem hi))))
          exact r_bool (pc := 101) dX1_oneRoundHoldsAll_101 rfl rfl (Nat.le_refl _) (Or.inl rfl) ⟨rfl, by rw [ind_f ha]; rfl⟩
      · rw [if_pos (show q % 4 = 0 by omega)] at hho
        refine g_iconst (pc := 70) dX1_oneRoundHoldsAll_70 ?_
        refine g_goto (pc := 71) (tgt := 79) dX1_oneRoundHoldsAll_71 (by decide) ?_
        refine g_istore (pc := 79) (lo2 := [(0, vR b), (1, vI (T 0 - 1)), (2, vR (b + 7)), (3, vI 4), (4, vI xi), (5, vR (b + 8 + i)), (6, vI 4)]) dX1_oneRoundHoldsAll_79 (by decide) rfl ?_
        refine g_aload (pc := 81) (r := .inl (some (b + 8 + i))) dX1_oneRoundHoldsAll_81 rfl ?_
        refine g_getf (pc := 83) (v := vI (q : Int)) flX1_115 dX1_oneRoundHoldsAll_83 hci2 rfl ?_
        refine g_iconst (pc := 86) dX1_oneRoundHoldsAll_86 ?_
        refine g_icmp_leF (pc := 87) (tgt := 102) dX1_oneRoundHoldsAll_87 (by decide) (by omega) (by omega) (by omega) ?_
        refine g_iload_n (pc := 90) (x := T 0 - 1) dX1_oneRoundHoldsAll_90 rfl ?_
        refine g_i2l (pc := 91) dX1_oneRoundHoldsAll_91 (by omega) ?_
        refine g_iload (pc := 92) (x := 4) dX1_oneRoundHoldsAll_92 rfl ?_
        refine g_callS0 (pc := 94) (as := [vJ (T 0 - 1), vI 4]) (st := []) lsX1_94 dX1_oneRoundHoldsAll_94 (Nat.le_of_ble_eq_true rfl) (by omega) (Nat.zero_le _) (Nat.zero_le _) (c_restOf (d := d) (by omega) (by omega) (by omega)) ?_
        rintro r h1 ⟨e9, e8⟩
        subst e9
        subst e8
        have r0 := Int.emod_nonneg (T 0 - 1) (show (4 : Int) ≠ 0 by omega)
        have r1 := Int.emod_lt_of_pos (T 0 - 1) (show 0 < (4 : Int) by omega)
        refine g_if_eq (pc := 97) (tgt := 102) dX1_oneRoundHoldsAll_97 (by decide) (by omega) (fun hz => ?_) (fun hz => ?_)
        · refine g_iinc (pc := 102) (x := xi) (lo2 := [(0, vR b), (1, vI (T 0 - 1)), (2, vR (b + 7)), (3, vI 4), (4, vI (xi + 1)), (5, vR (b + 8 + i)), (6, vI 4)]) dX1_oneRoundHoldsAll_102 rfl (by decide) rfl ?_
          refine g_goto (pc := 105) (tgt := 48) dX1_oneRoundHoldsAll_105 (by decide) ?_
          refine g_pick [0, 1, 2, 3, 4] (lo2 := [(0, vR b), (1, vI (T 0 - 1)), (2, vR (b + 7)), (3, vI 4), (4, vI (xi + 1))]) rfl ?_
          refine ih (i + 1) _ (by omega) (by omega) (fun j j1 j2 => ?_)
          by_cases e : j = i
          · rw [e, hho]
            exact Int.dvd_of_emod_eq_zero hz
          · exact hj j (by omega) j2
        · refine g_iconst (pc := 100) dX1_oneRoundHoldsAll_100 ?_
          have ha : ¬ allR (T 0) (T 4) M := fun y => hz (Int.emod_eq_zero_of_dvd (hho.mp (((hull_iff hM hM2).mp y).2 _ (pe_mem hi))))
          exact r_bool (pc := 101) dX1_oneRoundHoldsAll_101 rfl rfl (Nat.le_refl _) (Or.inl rfl) ⟨rfl, by rw [ind_f ha]; rfl⟩
    · have hpo := pe_out (M := M) (i := i) (by omega)
      have hci2 : Hd (0, 0, N) h (b + 8 + i) (eO 4 [vI 0, vI 1, vI 0]) := by rw [show (eO 4 [vI 0, vI 1, vI 0] : ME) = ptE (pe M i) by rw [hpo]; rfl]; exact hci
      refine g_aload (pc := 60) (r := .inl (some (b + 8 + i))) dX1_oneRoundHoldsAll_60 rfl ?_
      refine g_getf (pc := 62) (v := vI 1) flX1_115 dX1_oneRoundHoldsAll_62 hci2 rfl ?_
      refine g_iconst (pc := 65) dX1_oneRoundHoldsAll_65 ?_
      refine g_irem (pc := 66) dX1_oneRoundHoldsAll_66 (by omega) (by omega) (by omega) ?_
      rw [show (1 : Int).tmod 4 = 1 from rfl]
      refine g_if_neT (pc := 67) (tgt := 74) dX1_oneRoundHoldsAll_67 (by decide) (by omega) (by omega) ?_
      refine g_aload (pc := 74) (r := .inl (some (b + 8 + i))) dX1_oneRoundHoldsAll_74 rfl ?_
      refine g_getf (pc := 76) (v := vI 0) flX1_125 dX1_oneRoundHoldsAll_76 hci2 rfl ?_
      refine g_istore (pc := 79) (lo2 := [(0, vR b), (1, vI (T 0 - 1)), (2, vR (b + 7)), (3, vI 4), (4, vI xi), (5, vR (b + 8 + i)), (6, vI 0)]) dX1_oneRoundHoldsAll_79 (by decide) rfl ?_
      refine g_aload (pc := 81) (r := .inl (some (b + 8 + i))) dX1_oneRoundHoldsAll_81 rfl ?_
      refine g_getf (pc := 83) (v := vI 1) flX1_115 dX1_oneRoundHoldsAll_83 hci2 rfl ?_
      refine g_iconst (pc := 86) dX1_oneRoundHoldsAll_86 ?_
      refine g_icmp_leT (pc := 87) (tgt := 102) dX1_oneRoundHoldsAll_87 (by decide) (by omega) (by omega) (by omega) ?_
      refine g_iinc (pc := 102) (x := xi) (lo2 := [(0, vR b), (1, vI (T 0 - 1)), (2, vR (b + 7)), (3, vI 4), (4, vI (xi + 1)), (5, vR (b + 8 + i)), (6, vI 0)]) dX1_oneRoundHoldsAll_102 rfl (by decide) rfl ?_
      refine g_goto (pc := 105) (tgt := 48) dX1_oneRoundHoldsAll_105 (by decide) ?_
      refine g_pick [0, 1, 2, 3, 4] (lo2 := [(0, vR b), (1, vI (T 0 - 1)), (2, vR (b + 7)), (3, vI 4), (4, vI (xi + 1))]) rfl ?_
      exact ih (i + 1) _ (by omega) (by omega) (fun j j1 j2 => hj j (by omega) j2)

theorem c_oneRound {N d b kd M n : Nat} {T : Nat → Int} {h : MH} (hM : 2 ≤ M) (hM2 : M ≤ 500) (hT : 0 ≤ T 0 ∧ T 0 < M) (hT4 : 0 ≤ T 4 ∧ T 4 < M) (hm : Hd (0, 0, N) h b (mlO b 1 (kd : Int) (M : Int) (n : Int))) (hpc : PC N h b M) (hw : PT N h (b + 12) M n T) : Ok mX1_oneRoundHoldsAll (d + 2) 0 0 [vR b] N h (fun r9 h2 => h2 = h ∧ r9 = some (vI ((ind (allR (T 0) (T 4) M) : Nat) : Int))) := by
  refine Ok.of pfX1_oneRoundHoldsAll rfl (Nat.le_of_ble_eq_true rfl) (fun Ls sx => ?_)
  show G mX1_oneRoundHoldsAll (d + 2, 0, 0, Ls, sx) 0 [(0, vR b)] [] (0, 0, N) h _
  obtain ⟨kn, F, hPX, hF⟩ := id hw
  subst hF
  have hPW := hPX.1
  have hpo := hPW.1
  obtain ⟨y, ey⟩ : ∃ y : Nat, F 0 4 = (y : Int) := ⟨(F 0 4).toNat, by omega⟩
  have hpa := hpc.1
  refine g_aload_n (pc := 0) (r := .inl (some b)) dX1_oneRoundHoldsAll_0 rfl ?_
  refine g_getf (pc := 1) (v := vR (b + 12)) flX1_39 dX1_oneRoundHoldsAll_1 hm rfl ?_
  refine g_iconst (pc := 4) dX1_oneRoundHoldsAll_4 ?_
  refine g_iconst (pc := 5) dX1_oneRoundHoldsAll_5 ?_
  refine g_callV0 (pc := 6) (as := [vI 0, vI 0]) (b := b + 12) (st := []) lvX1_121 dX1_oneRoundHoldsAll_6 hpo (Nat.le_of_ble_eq_true rfl) (by omega) (Nat.zero_le _) (Nat.zero_le _) (c_told (d := d + 1) (r := 0) (c := 0) (by omega) (by omega) hPW) ?_
  rintro r h1 ⟨e9, e8⟩
  subst e9
  subst e8
  refine g_iconst (pc := 9) dX1_oneRoundHoldsAll_9 ?_
  refine g_isub (pc := 10) dX1_oneRoundHoldsAll_10 ?_
  refine g_istore_n (pc := 11) (lo2 := [(0, vR b), (1, vI ((F 0 0) - 1))]) dX1_oneRoundHoldsAll_11 (by decide) rfl ?_
  refine g_aload_n (pc := 12) (r := .inl (some b)) dX1_oneRoundHoldsAll_12 rfl ?_
  refine g_getf (pc := 13) (v := vI (M : Int)) flX1_60 dX1_oneRoundHoldsAll_13 hm rfl ?_
  refine g_i2l (pc := 16) dX1_oneRoundHoldsAll_16 (by omega) ?_
  refine g_aload_n (pc := 17) (r := .inl (some b)) dX1_oneRoundHoldsAll_17 rfl ?_
  refine g_getf (pc := 18) (v := vR (b + 12)) flX1_39 dX1_oneRoundHoldsAll_18 hm rfl ?_
  refine g_iconst (pc := 21) dX1_oneRoundHoldsAll_21 ?_
  refine g_iconst (pc := 22) dX1_oneRoundHoldsAll_22 ?_
  refine g_callV0 (pc := 23) (as := [vI 0, vI 4]) (b := b + 12) (st := [vJ (M : Int)]) lvX1_121 dX1_oneRoundHoldsAll_23 hpo (Nat.le_of_ble_eq_true rfl) (by omega) (Nat.zero_le _) (Nat.zero_le _) (c_told (d := d + 1) (r := 0) (c := 4) (by omega) (by omega) hPW) ?_
  rintro r h2 ⟨e9, e8⟩
  subst e9
  subst e8
  refine g_top (show vI (F 0 (5 * 0 + 4)) = vI (y : Int) from congrArg vI ey) ?_
  refine g_i2l (pc := 26) dX1_oneRoundHoldsAll_26 (by omega) ?_
  refine g_callS0 (pc := 27) (as := [vJ (M : Int), vJ (y : Int)]) (st := []) lsX1_111 dX1_oneRoundHoldsAll_27 (Nat.le_of_ble_eq_true rfl) (by omega) (Nat.zero_le _) (Nat.zero_le _) (c_commonDivisor (d := d + 1) (by omega) (by omega)) ?_
  rintro r h3 ⟨e9, e8⟩
  subst e9
  subst e8
  have g1 := Nat.gcd_le_left y (show 0 < M by omega)
  have ey2 : (F 0 4).natAbs = y := by rw [ey]; exact Int.natAbs_natCast y
  refine g_lconst1 (pc := 30) dX1_oneRoundHoldsAll_30 ?_
  refine g_lif_eq (pc := 31) (tgt := 37) dX1_oneRoundHoldsAll_31 dX1_oneRoundHoldsAll_32 (by decide) (by omega) (by omega) (fun hc => ?_) (fun hc => ?_)
  · refine g_aload_n (pc := 37) (r := .inl (some b)) dX1_oneRoundHoldsAll_37 rfl ?_
    refine g_getf (pc := 38) (v := vR (b + 7)) flX1_31 dX1_oneRoundHoldsAll_38 hm rfl ?_
    refine g_astore_n (pc := 41) (r := .inl (some (b + 7))) (lo2 := [(0, vR b), (1, vI ((F 0 0) - 1)), (2, vR (b + 7))]) dX1_oneRoundHoldsAll_41 (by decide) rfl ?_
    refine g_aload_n (pc := 42) (r := .inl (some (b + 7))) dX1_oneRoundHoldsAll_42 rfl ?_
    refine g_qlen (pc := 43) dX1_oneRoundHoldsAll_43 hpa (by decide) ?_
    refine g_istore_n (pc := 44) (lo2 := [(0, vR b), (1, vI ((F 0 0) - 1)), (2, vR (b + 7)), (3, vI ((4 : Nat) : Int))]) dX1_oneRoundHoldsAll_44 (by decide) rfl ?_
    refine g_iconst (pc := 45) dX1_oneRoundHoldsAll_45 ?_
    refine g_istore (pc := 46) (lo2 := [(0, vR b), (1, vI ((F 0 0) - 1)), (2, vR (b + 7)), (3, vI ((4 : Nat) : Int)), (4, vI 0)]) dX1_oneRoundHoldsAll_46 (by decide) rfl ?_
    exact orh_l (T := F 0) hM hM2 hT (by rw [ey2]; omega) hpc 4 0 _ (by omega) rfl (fun j j1 _ => absurd j1 (Nat.not_lt_zero j))
  · refine g_iconst (pc := 35) dX1_oneRoundHoldsAll_35 ?_
    have ha : ¬ allR (F 0 0) (F 0 4) M := fun z => hc (by have := ((hull_iff hM hM2).mp z).1; rw [ey2] at this; omega)
    exact r_bool (pc := 36) dX1_oneRoundHoldsAll_36 rfl rfl (Nat.le_refl _) (Or.inl rfl) ⟨rfl, by rw [ind_f ha]; rfl⟩

theorem mal_l {N d x i M Ls : Nat} {sx Tb Mo : Nat → Int} {a c th wd pm fm mu um pr ts : Int} {h : MH} (hM : 2 ≤ M) (hM2 : M ≤ 500) (hi : i < 6) (ha : 0 ≤ a ∧ a < M) (hc : 0 ≤ c ∧ c < M) (hTa : Tb (16 * i) = a) (hMc : Mo (4 * i) = c) (hx : Hd (0, 0, N) h x (mdl x th wd pm fm mu um pr ts)) (hTb : Hd (0, 0, N) h (x + 5) (eA 0 96 Tb)) (hMo : Hd (0, 0, N) h (x + 6) (eA 0 24 Mo)) : ∀ (f n : Nat) (xn : Int), n + f = M → xn = (n : Int) → 1 ≤ n → (∀ k, 1 ≤ k → k < n → ob a c M k ≠ 0) → G mX11_all (d, 0, 0, Ls, sx) 46 [(0, vR x), (1, vI (i : Int)), (2, vI (M : Int)), (3, vI (ob a c M n)), (4, vI xn)] [] (0, 0, N) h (Pq mX11_all 0 0 (fun r9 h2 => h2 = h ∧ r9 = some (vI ((ind (allR a c M) : Nat) : Int)))) := by
  intro f
  induction f with
  | zero =>
    intro n xn hf ex n1 hk
    have ob1 := ob_bd (a := a) (c := c) (show 0 < M by omega) n
    refine g_iload_n (pc := 46) (x := ob a c M n) dX11_all_46 rfl ?_
    refine g_if_eq (pc := 47) (tgt := 85) dX11_all_47 (by decide) (by omega) (fun h0 => ?_) (fun h0 => ?_)
    · refine g_iload_n (pc := 85) (x := ob a c M n) dX11_all_85 rfl ?_
      refine g_if_neF (pc := 86) (tgt := 99) dX11_all_86 (by decide) (by omega) (by omega) ?_
      refine g_iload (pc := 89) (x := xn) dX11_all_89 rfl ?_
      refine g_iload_n (pc := 91) (x := (M : Int)) dX11_all_91 rfl ?_
      refine g_icmp_neF (pc := 92) (tgt := 99) dX11_all_92 (by decide) (by omega) (by omega) (by omega) ?_
      refine g_iconst (pc := 95) dX11_all_95 ?_
      refine g_goto (pc := 96) (tgt := 100) dX11_all_96 (by decide) ?_
      have eM : n = M := by omega
      have h0b : ob a c M M = 0 := by rw [eM] at h0; exact h0
      have hal : allR a c M := ⟨h0b, fun k k1 k2 => hk k k1 (by omega)⟩
      exact r_int (pc := 100) dX11_all_100 rfl rfl (Nat.le_refl _) ⟨rfl, by rw [ind_t hal]; rfl⟩
    · refine g_iload (pc := 50) (x := xn) dX11_all_50 rfl ?_
      refine g_iload_n (pc := 52) (x := (M : Int)) dX11_all_52 rfl ?_
      refine g_icmp_geT (pc := 53) (tgt := 85) dX11_all_53 (by decide) (by omega) (by omega) (by omega) ?_
      refine g_iload_n (pc := 85) (x := ob a c M n) dX11_all_85 rfl ?_
      refine g_if_neT (pc := 86) (tgt := 99) dX11_all_86 (by decide) (by omega) (by omega) ?_
      refine g_iconst (pc := 99) dX11_all_99 ?_
      have hal : ¬ allR a c M := fun z => h0 (by rw [show n = M by omega]; exact z.1)
      exact r_int (pc := 100) dX11_all_100 rfl rfl (Nat.le_refl _) ⟨rfl, by rw [ind_f hal]; rfl⟩
  | succ f ih =>
    intro n xn hf ex n1 hk
    have ob1 := ob_bd (a := a) (c := c) (show 0 < M by omega) n
    refine g_iload_n (pc := 46) (x := ob a c M n) dX11_all_46 rfl ?_
    refine g_if_eq (pc := 47) (tgt := 85) dX11_all_47 (by decide) (by omega) (fun h0 => ?_) (fun h0 => ?_)
    · refine g_iload_n (pc := 85) (x := ob a c M n) dX11_all_85 rfl ?_
      refine g_if_neF (pc := 86) (tgt := 99) dX11_all_86 (by decide) (by omega) (by omega) ?_
      refine g_iload (pc := 89) (x := xn) dX11_all_89 rfl ?_
      refine g_iload_n (pc := 91) (x := (M : Int)) dX11_all_91 rfl ?_
      refine g_icmp_neT (pc := 92) (tgt := 99) dX11_all_92 (by decide) (by omega) (by omega) (by omega) ?_
      refine g_iconst (pc := 99) dX11_all_99 ?_
      have hal : ¬ allR a c M := fun z => z.2 n n1 (by omega) h0
      exact r_int (pc := 100) dX11_all_100 rfl rfl (Nat.le_refl _) ⟨rfl, by rw [ind_f hal]; rfl⟩
    · refine g_iload (pc := 50) (x := xn) dX11_all_50 rfl ?_
      refine g_iload_n (pc := 52) (x := (M : Int)) dX11_all_52 rfl ?_
      refine g_icmp_geF (pc := 53) (tgt := 85) dX11_all_53 (by decide) (by omega) (by omega) (by omega) ?_
      have m1 : 0 ≤ ob a c M n * a := Int.mul_nonneg (by omega) (by omega)
      have m2 : ob a c M n * a ≤ 500 * 500 := Int.mul_le_mul (by omega) (by omega) (by omega) (by omega)
      have em : (ob a c M n * a + c).tmod (M : Int) = ob a c M (n + 1) := Int.tmod_eq_emod_of_nonneg (by omega)
      refine g_iload_n (pc := 56) (x := ob a c M n) dX11_all_56 rfl ?_
      refine g_aload_n (pc := 57) (r := .inl (some x)) dX11_all_57 rfl ?_
      refine g_getf (pc := 58) (v := vR (x + 5)) flX11_23 dX11_all_58 hx rfl ?_
      refine g_bipush (pc := 61) dX11_all_61 (by decide +kernel) ?_
      refine g_iload_n (pc := 63) (x := (i : Int)) dX11_all_63 rfl ?_
      refine g_imul (pc := 64) dX11_all_64 ?_
      refine g_ialdN (pc := 65) (j := 16 * i) dX11_all_65 hTb (by omega) (by omega) (by omega) ?_
      rw [hTa]
      refine g_imul (pc := 66) dX11_all_66 ?_
      refine g_aload_n (pc := 67) (r := .inl (some x)) dX11_all_67 rfl ?_
      refine g_getf (pc := 68) (v := vR (x + 6)) flX11_26 dX11_all_68 hx rfl ?_
      refine g_iconst (pc := 71) dX11_all_71 ?_
      refine g_iload_n (pc := 72) (x := (i : Int)) dX11_all_72 rfl ?_
      refine g_imul (pc := 73) dX11_all_73 ?_
      refine g_ialdN (pc := 74) (j := 4 * i) dX11_all_74 hMo (by omega) (by omega) (by omega) ?_
      rw [hMc]
      refine g_iadd (pc := 75) dX11_all_75 ?_
      refine g_iload_n (pc := 76) (x := (M : Int)) dX11_all_76 rfl ?_
      refine g_irem (pc := 77) dX11_all_77 (by omega) (by omega) (by omega) ?_
      rw [em]
      refine g_istore_n (pc := 78) (lo2 := [(0, vR x), (1, vI (i : Int)), (2, vI (M : Int)), (3, vI (ob a c M (n + 1))), (4, vI xn)]) dX11_all_78 (by decide) rfl ?_
      refine g_iinc (pc := 79) (x := xn) (lo2 := [(0, vR x), (1, vI (i : Int)), (2, vI (M : Int)), (3, vI (ob a c M (n + 1))), (4, vI (xn + 1))]) dX11_all_79 rfl (by decide) rfl ?_
      refine g_goto (pc := 82) (tgt := 46) dX11_all_82 (by decide) ?_
      refine ih (n + 1) _ (by omega) (by omega) (by omega) (fun k k1 k2 => ?_)
      by_cases e : k = n
      · rw [e]
        exact h0
      · exact hk k k1 (by omega)
