/-! ===== Rounds: wholeRound ===== -/
/-- the cells of a mill's parts -/
def PC (N : Nat) (h : MH) (b M : Nat) : Prop := Hd (0, 0, N) h (b + 7) (eQ 5 4 (rwF (b + 8) 4)) ∧ ∀ i, i < 4 → Hd (0, 0, N) h (b + 8 + i) (ptE (pe M i))
theorem PC.keep {N : Nat} {h h2 : MH} {b M : Nat} (hp : PC N h b M) (k : ∀ a, b + 7 ≤ a → a < b + 12 → h2 a = h a) : PC N h2 b M := ⟨hp.1.keep (k _ (by omega) (by omega)), fun i hi => (hp.2 i hi).keep (k _ (by omega) (by omega))⟩
/-- the rounds of the steps modulo the parts -/
theorem Wf_ex {n M : Nat} {T : Nat → Int} (n1 : 1 ≤ n) (hn : n ≤ 4) (h2 : 2 ≤ M) (h5 : M ≤ 500) : ∃ Wf : Nat → Nat, (∀ i, i < (fcs M).length → isPer (mp (n + 1) ((pe M i).1 ^ (pe M i).2) (au n T)) 32 (Wf i)) ∧ (∀ i, (fcs M).length ≤ i → Wf i = 1) := by
  obtain ⟨a1, a2, a3, a4, a5⟩ := fcs_ok h2 h5
  have hex : ∀ i, ∃ W, (i < (fcs M).length → isPer (mp (n + 1) ((pe M i).1 ^ (pe M i).2) (au n T)) 32 W) ∧ ((fcs M).length ≤ i → W = 1) := by
    intro i
    by_cases hi : i < (fcs M).length
    · obtain ⟨b1, b2, b3, b4⟩ := a2 _ (pe_mem hi)
      obtain ⟨k, hk⟩ : ∃ k, (pe M i).2 = k + 1 := ⟨(pe M i).2 - 1, by omega⟩
      have hb : (pe M i).1 ^ (k + 1) ≤ 500 := by
        rw [← hk]
        exact Nat.le_trans (Nat.le_of_dvd (by omega) b4) h5
      obtain ⟨W, hW⟩ := per_ex (mp_det (w := n + 1) (q := (pe M i).1 ^ (k + 1)) (A := au n T)) (E_pos (k := k) b1.1 n1 hn) (per_mp b1 hn hb (Nf_ok b1 n1 hn) (Lf_ok (by have := b1.1; omega) hn) (aff_au hn) (Nat.le_refl 32))
      exact ⟨W, fun _ => by rw [hk]; exact hW, fun z => by omega⟩
    · exact ⟨1, fun z => absurd z hi, fun _ => rfl⟩
  exact ⟨fun i => Classical.choose (hex i), fun i hi => (Classical.choose_spec (hex i)).1 hi, fun i hi => (Classical.choose_spec (hex i)).2 hi⟩
theorem Wf_E {n M i W : Nat} {T : Nat → Int} (n1 : 1 ≤ n) (hn : n ≤ 4) (h2 : 2 ≤ M) (h5 : M ≤ 500) (hi : i < (fcs M).length) (hW : isPer (mp (n + 1) ((pe M i).1 ^ (pe M i).2) (au n T)) 32 W) : W ∣ Lf (pe M i).1 n * Nf (pe M i).1 n * (pe M i).1 ^ ((pe M i).2 - 1) := by
  obtain ⟨a1, a2, a3, a4, a5⟩ := fcs_ok h2 h5
  obtain ⟨b1, b2, b3, b4⟩ := a2 _ (pe_mem hi)
  obtain ⟨k, hk⟩ : ∃ k, (pe M i).2 = k + 1 := ⟨(pe M i).2 - 1, by omega⟩
  have hb : (pe M i).1 ^ (k + 1) ≤ 500 := by
    rw [← hk]
    exact Nat.le_trans (Nat.le_of_dvd (by omega) b4) h5
  have h1 := per_mp b1 hn hb (Nf_ok b1 n1 hn) (Lf_ok (by have := b1.1; omega) hn) (aff_au (S := T) hn) (Nat.le_refl 32)
  rw [hk] at hW ⊢
  exact (hW.2 _).mp h1
theorem Wf_lcm {n M : Nat} {T : Nat → Int} {Wf : Nat → Nat} (n1 : 1 ≤ n) (hn : n ≤ 4) (h2 : 2 ≤ M) (h5 : M ≤ 500) (hW : ∀ i, i < (fcs M).length → isPer (mp (n + 1) ((pe M i).1 ^ (pe M i).2) (au n T)) 32 (Wf i)) (hW1 : ∀ i, (fcs M).length ≤ i → Wf i = 1) (k : Nat) : lcmI Wf k ∣ lamb (fcs M) ∧ 1 ≤ lcmI Wf k ∧ lcmI Wf k ≤ 8000000000000000000 := by
  obtain ⟨a1, a2, a3, a4, a5⟩ := fcs_ok h2 h5
  have hl := lamb_pos (l := fcs M) (fun e he => (a2 e he).1.1)
  have hd : lcmI Wf k ∣ lamb (fcs M) := (lcmI_dvd k).mpr (fun j hj => by
    by_cases hc : j < (fcs M).length
    · exact Nat.dvd_trans (Wf_E n1 hn h2 h5 hc (hW j hc)) (E_lamb hn (pe_mem hc))
    · rw [hW1 j (by omega)]
      exact Nat.one_dvd _)
  refine ⟨hd, ?_, Nat.le_trans (Nat.le_of_dvd hl hd) a5⟩
  apply Nat.pos_of_ne_zero
  intro z
  rw [z] at hd
  have := Nat.eq_zero_of_zero_dvd hd
  omega
theorem prm_lcmI {x : Nat} (hx : prm x) {Wf : Nat → Nat} : ∀ k, x ∣ lcmI Wf k ↔ ∃ j, j < k ∧ x ∣ Wf j
  | 0 => ⟨fun h => absurd h (prm_not_one hx), fun ⟨j, h, _⟩ => absurd h (Nat.not_lt_zero j)⟩
  | k + 1 => by
    constructor
    · intro h
      have h1 : x ∣ lcmI Wf k * Wf k := Nat.dvd_trans h (Nat.lcm_dvd_mul _ _)
      rcases prm_dvd_mul hx h1 with h1 | h1
      · obtain ⟨j, j1, j2⟩ := (prm_lcmI hx k).mp h1
        exact ⟨j, by omega, j2⟩
      · exact ⟨k, by omega, h1⟩
    · rintro ⟨j, j1, j2⟩
      refine Nat.dvd_trans j2 ?_
      exact (lcmI_dvd (k + 1)).mp (Nat.dvd_refl _) j j1
/-- the primes object with whatever is in it -/
def PA (N : Nat) (h : MH) (q : Nat) : Prop := ∃ B S, PS N h q B S
theorem PA.keep {N : Nat} {h h2 : MH} {q : Nat} (hp : PA N h q) (k1 : h2 q = h q) (k2 : h2 (q + 1) = h (q + 1)) : PA N h2 q := by
  obtain ⟨B, S, hp⟩ := hp
  exact ⟨B, S, hp.keep k1 k2⟩

theorem whole_l {N d b n M Ls : Nat} {sx : Nat → Int} {T : Nat → Int} {Wf : Nat → Nat} {h0 : MH} (n1 : 1 ≤ n) (hn : n ≤ 4) (hM : 2 ≤ M) (hM2 : M ≤ 500) (hW : ∀ i, i < (fcs M).length → isPer (mp (n + 1) ((pe M i).1 ^ (pe M i).2) (au n T)) 32 (Wf i)) (hW1 : ∀ i, (fcs M).length ≤ i → Wf i = 1) : ∀ (f i t : Nat) (xi : Int) (h : MH), i + f = 4 → xi = (i : Int) → t = lcmI Wf i → PC N h b M → Hd (0, 0, N) h (b + 79) (eO 8 [vR (b + 12), vR (b + 7), vR (b + 80), vR (b + 82), vR (b + 84), vR (b + 90), vR (b + 91), vR (b + 92), vJ 0]) → PT N h (b + 12) M n T → PS N h (b + 80) (BM M) (fun x => prm x ∧ x ∣ lcmI Wf i) → PA N h (b + 82) → Sc N h (b + 90) 20 → (∀ a, (a < b + 12 ∨ b + 84 ≤ a) → a ≠ b + 90 → h a = h0 a) → G mX8_wholeRound (d + 6, 0, 0, Ls, sx) 35 [(0, vR (b + 79)), (1, vJ (t : Int)), (3, vR (b + 7)), (4, vI 4), (5, vI xi)] [] (0, 0, N) h (Pq mX8_wholeRound 0 0 (fun r h2 => r = some (vJ ((lcmI Wf 4 : Nat) : Int)) ∧ PT N h2 (b + 12) M n T ∧ h2 (b + 79) = eO 8 [vR (b + 12), vR (b + 7), vR (b + 80), vR (b + 82), vR (b + 84), vR (b + 90), vR (b + 91), vR (b + 92), vJ ((lcmI Wf 4 : Nat) : Int)] ∧ PS N h2 (b + 80) (BM M) (fun x => prm x ∧ x ∣ lcmI Wf 4) ∧ PA N h2 (b + 82) ∧ Sc N h2 (b + 90) 20 ∧ ∀ a, (a < b + 12 ∨ b + 84 ≤ a) → a ≠ b + 90 → h2 a = h0 a)) := by
  intro f
  induction f with
  | zero =>
    intro i t xi h hf ex et hpc hr hw hps hp2 s90 hk
    obtain ⟨ld, l1, l8⟩ := Wf_lcm n1 hn hM hM2 hW hW1 i
    obtain ⟨hpa, hpe⟩ := id hpc
    have ei : i = 4 := by omega
    subst ei
    subst et
    refine g_iload (pc := 35) (x := xi) dX8_wholeRound_35 rfl ?_
    refine g_iload (pc := 37) (x := 4) dX8_wholeRound_37 rfl ?_
    refine g_icmp_geT (pc := 39) (tgt := 95) dX8_wholeRound_39 (by decide) (by omega) (by omega) (by omega) ?_
    refine g_aload_n (pc := 95) (r := .inl (some (b + 79))) dX8_wholeRound_95 rfl ?_
    refine g_lload_n (pc := 96) (x := ((lcmI Wf 4 : Nat) : Int)) dX8_wholeRound_96 rfl ?_
    refine g_putf (pc := 97) fpX8_48 dX8_wholeRound_97 hr (okv_long _) (Nat.le_of_ble_eq_true rfl) ?_
    have hr_1 := hr.self (e := eO 8 [vR (b + 12), vR (b + 7), vR (b + 80), vR (b + 82), vR (b + 84), vR (b + 90), vR (b + 91), vR (b + 92), vJ ((lcmI Wf 4 : Nat) : Int)])
    have hpa_1 := hpa.ne (e := eO 8 [vR (b + 12), vR (b + 7), vR (b + 80), vR (b + 82), vR (b + 84), vR (b + 90), vR (b + 91), vR (b + 92), vJ ((lcmI Wf 4 : Nat) : Int)]) (a := b + 79) (by omega)
    refine g_aload_n (pc := 100) (r := .inl (some (b + 79))) dX8_wholeRound_100 rfl ?_
    refine g_getf (pc := 101) (v := vJ ((lcmI Wf 4 : Nat) : Int)) flX8_48 dX8_wholeRound_101 hr_1 rfl ?_
    exact r_long (pc := 104) dX8_wholeRound_104 rfl rfl (Nat.le_refl _) ⟨rfl, hw.keep (fun a z1 z2 => va_up_ne _ _ (by omega)), hr_1.2, hps.keep (va_up_ne _ _ (by omega)) (va_up_ne _ _ (by omega)), hp2.keep (va_up_ne _ _ (by omega)) (va_up_ne _ _ (by omega)), s90.keep (va_up_ne _ _ (by omega)), fun a a1 a2 => (va_up_ne _ _ (by omega)).trans (hk a a1 a2)⟩
  | succ f ih =>
    intro i t xi h hf ex et hpc hr hw hps hp2 s90 hk
    obtain ⟨ld, l1, l8⟩ := Wf_lcm n1 hn hM hM2 hW hW1 i
    obtain ⟨hpa, hpe⟩ := id hpc
    have hci := hpe i (by omega)
    have hnext : lcmI Wf (i + 1) = Nat.lcm t (Wf i) := by rw [et]; rfl
    refine g_iload (pc := 35) (x := xi) dX8_wholeRound_35 rfl ?_
    refine g_iload (pc := 37) (x := 4) dX8_wholeRound_37 rfl ?_
    refine g_icmp_geF (pc := 39) (tgt := 95) dX8_wholeRound_39 (by decide) (by omega) (by omega) (by omega) ?_
    refine g_aload_n (pc := 42) (r := .inl (some (b + 7))) dX8_wholeRound_42 rfl ?_
    refine g_iload (pc := 43) (x := xi) dX8_wholeRound_43 rfl ?_
    refine g_aaldN (pc := 45) (j := i) dX8_wholeRound_45 hpa (by decide) (by omega) (by omega) (by omega) ?_
    rw [rwF_at (b := b + 8) (n := 4) (i := i) (by omega)]
    refine g_astore (pc := 46) (r := .inl (some (b + 8 + i))) (lo2 := [(0, vR (b + 79)), (1, vJ (t : Int)), (3, vR (b + 7)), (4, vI 4), (5, vI xi), (6, vR (b + 8 + i))]) dX8_wholeRound_46 (by decide) rfl ?_
    by_cases hi : i < (fcs M).length
    · obtain ⟨-, q2, -⟩ := fcs_ok hM hM2
      obtain ⟨b1, b2, b3, b4⟩ := q2 _ (pe_mem hi)
      obtain ⟨k, hk9⟩ : ∃ k, (pe M i).2 = k + 1 := ⟨(pe M i).2 - 1, by omega⟩
      have hWi := hW i hi
      have hWE := Wf_E n1 hn hM hM2 hi hWi
      have hb : (pe M i).1 ^ (pe M i).2 ≤ 500 := Nat.le_trans (Nat.le_of_dvd (by omega) b4) hM2
      have hb1 : 2 ≤ (pe M i).1 ^ (pe M i).2 := by
        have := Nat.pow_le_pow_right (show 0 < (pe M i).1 by have := b1.1; omega) b3
        rw [Nat.pow_one] at this
        have := b1.1
        omega
      have hBm := fun x x1 x2 => BM_has (n := n) (x := x) hM hM2 n1 hn (pe_mem hi) x1 x2
      have hWb : Wf i ≤ 8000000000000000000 := by
        have := (Wf_lcm n1 hn hM hM2 hW hW1 (i + 1)).2.2
        have := (Wf_lcm n1 hn hM hM2 hW hW1 (i + 1)).2.1
        have h9 : Wf i ∣ lcmI Wf (i + 1) := Nat.dvd_lcm_right _ _
        have := Nat.le_of_dvd (by omega) h9
        omega
      have hBW : ∀ x, prm x → x ∣ Wf i → x ∈ BM M := fun x x1 x2 => hBm x x1 (E_prm b1 x1 (Nat.dvd_trans x2 hWE))
      obtain ⟨B0, S0, hp2⟩ := hp2
      refine g_aload (pc := 48) (r := .inl (some (b + 8 + i))) dX8_wholeRound_48 rfl ?_
      refine g_getf (pc := 50) (v := vI (((pe M i).1 ^ (pe M i).2 : Nat) : Int)) flX8_55 dX8_wholeRound_50 hci rfl ?_
      refine g_iconst (pc := 53) dX8_wholeRound_53 ?_
      refine g_icmp_leF (pc := 54) (tgt := 66) dX8_wholeRound_54 (by decide) (by omega) (by omega) (by omega) ?_
      refine g_aload_n (pc := 57) (r := .inl (some (b + 79))) dX8_wholeRound_57 rfl ?_
      refine g_aload (pc := 58) (r := .inl (some (b + 8 + i))) dX8_wholeRound_58 rfl ?_
      refine g_callV0 (pc := 60) (as := [vR (b + 8 + i)]) (b := b + 79) (st := []) lvX8_61 dX8_wholeRound_60 hr (Nat.le_of_ble_eq_true rfl) (by omega) (Nat.zero_le _) (Nat.zero_le _) (c_roundsModulo (d := d) (b := b) (k := k) (p := (pe M i).1) (o := ((pe M i).2 : Int)) (B2 := BM M) n1 hn hM hM2 b1 b2 (by rw [← hk9]; exact hb) (by rw [← hk9]; exact b4) (by rw [← hk9]; exact hWi) (by omega) (BM_len hM hM2) (fun x hx => by have := (BM_mem hx).2.2; omega) hBW (BM_len hM hM2) (fun x hx => by have := (BM_mem hx).2.2; omega) hBm hr (by rw [← hk9]; exact hci) hw s90 hps hp2) ?_
      rintro r h1 ⟨e9, c1, c2, c3, c4, c5⟩
      subst e9
      have hr_1 := hr.keep (c5 _ (by omega) (by omega) (by omega) (by omega) (by omega) (by omega))
      have hpa_1 := hpa.keep (c5 _ (by omega) (by omega) (by omega) (by omega) (by omega) (by omega))
      have hci_1 := hci.keep (c5 _ (by omega) (by omega) (by omega) (by omega) (by omega) (by omega))
      refine g_goto (pc := 63) (tgt := 67) dX8_wholeRound_63 (by decide) ?_
      refine g_lstore (pc := 67) (lo2 := [(0, vR (b + 79)), (1, vJ (t : Int)), (3, vR (b + 7)), (4, vI 4), (5, vI xi), (6, vR (b + 8 + i)), (7, vJ ((Wf i : Nat) : Int))]) dX8_wholeRound_67 (by decide) rfl ?_
      refine g_lload_n (pc := 69) (x := (t : Int)) dX8_wholeRound_69 rfl ?_
      refine g_lload (pc := 70) (x := ((Wf i : Nat) : Int)) dX8_wholeRound_70 rfl ?_
      have hg1 := Nat.gcd_pos_of_pos_left (Wf i) (show 0 < t by omega)
      have hg2 := Nat.gcd_le_left (Wf i) (show 0 < t by omega)
      have ed := tdivN (rfl : (t : Int) = (t : Int)) (rfl : ((Nat.gcd t (Wf i) : Nat) : Int) = ((Nat.gcd t (Wf i) : Nat) : Int))
      refine g_callS0 (pc := 72) (as := [vJ (t : Int), vJ ((Wf i : Nat) : Int)]) (st := []) lsX8_65 dX8_wholeRound_72 (Nat.le_of_ble_eq_true rfl) (by omega) (Nat.zero_le _) (Nat.zero_le _) (c_commonDivisor (d := d + 5) (x := t) (y := (Wf i)) (by omega) (by omega)) ?_
      rintro r g1 ⟨e9, e8⟩
      subst e9
      subst e8
      refine g_lconst1 (pc := 75) dX8_wholeRound_75 ?_
      refine g_callS0 (pc := 76) (as := [vJ ((Nat.gcd t (Wf i) : Nat) : Int), vJ 1]) (st := []) lsX8_71 dX8_wholeRound_76 (Nat.le_of_ble_eq_true rfl) (by omega) (Nat.zero_le _) (Nat.zero_le _) (c_maxJ (d := d + 5) (by omega) (by omega)) ?_
      rintro r g1 ⟨e9, e8⟩
      subst e9
      subst e8
      rw [show (if ((Nat.gcd t (Wf i) : Nat) : Int) < 1 then (1 : Int) else ((Nat.gcd t (Wf i) : Nat) : Int)) = ((Nat.gcd t (Wf i) : Nat) : Int) from if_neg (by omega)]
      refine g_lstore (pc := 79) (lo2 := [(0, vR (b + 79)), (1, vJ (t : Int)), (3, vR (b + 7)), (4, vI 4), (5, vI xi), (6, vR (b + 8 + i)), (7, vJ ((Wf i : Nat) : Int)), (9, vJ ((Nat.gcd t (Wf i) : Nat) : Int))]) dX8_wholeRound_79 (by decide) rfl ?_
      refine g_lload_n (pc := 81) (x := (t : Int)) dX8_wholeRound_81 rfl ?_
      refine g_lload (pc := 82) (x := ((Nat.gcd t (Wf i) : Nat) : Int)) dX8_wholeRound_82 rfl ?_
      refine g_ldiv (pc := 84) dX8_wholeRound_84 (by omega) (by omega) (by omega) ?_
      refine g_lload (pc := 85) (x := ((Wf i : Nat) : Int)) dX8_wholeRound_85 rfl ?_
      refine g_lmul (pc := 87) dX8_wholeRound_87 ?_
      refine g_lstore_n (pc := 88) (lo2 := [(0, vR (b + 79)), (1, vJ (((t : Int).tdiv ((Nat.gcd t (Wf i) : Nat) : Int)) * ((Wf i : Nat) : Int))), (3, vR (b + 7)), (4, vI 4), (5, vI xi), (6, vR (b + 8 + i)), (7, vJ ((Wf i : Nat) : Int)), (9, vJ ((Nat.gcd t (Wf i) : Nat) : Int))]) dX8_wholeRound_88 (by decide) rfl ?_
      refine g_iinc (pc := 89) (x := xi) (lo2 := [(0, vR (b + 79)), (1, vJ (((t : Int).tdiv ((Nat.gcd t (Wf i) : Nat) : Int)) * ((Wf i : Nat) : Int))), (3, vR (b + 7)), (4, vI 4), (5, vI (xi + 1)), (6, vR (b + 8 + i)), (7, vJ ((Wf i : Nat) : Int)), (9, vJ ((Nat.gcd t (Wf i) : Nat) : Int))]) dX8_wholeRound_89 rfl (by decide) rfl ?_
      refine g_goto (pc := 92) (tgt := 35) dX8_wholeRound_92 (by decide) ?_
      rw [ed, ← Int.natCast_mul, lcm_div_mul t (Wf i) (by omega)]
      refine g_pick [0, 1, 2, 3, 4] (lo2 := [(0, vR (b + 79)), (1, vJ ((Nat.lcm t (Wf i) : Nat) : Int)), (3, vR (b + 7)), (4, vI 4), (5, vI (xi + 1))]) rfl ?_
      refine ih (i + 1) (Nat.lcm t (Wf i)) _ _ (by omega) (by omega) hnext.symm (hpc.keep (fun a z1 z2 => c5 a (by omega) (by omega) (by omega) (by omega) (by omega) (by omega))) hr_1 c1 (c3.eqv (fun x => ?_)) ⟨_, _, c4⟩ c2 (fun a a1 a2 => (c5 a (by omega) (by omega) (by omega) (by omega) a2 (by omega)).trans (hk a a1 a2))
      constructor
      · rintro (⟨z1, z2⟩ | ⟨z1, z2⟩)
        · exact ⟨z1, Nat.dvd_trans z2 (Nat.dvd_lcm_left _ _)⟩
        · exact ⟨z1, Nat.dvd_trans z2 (Nat.dvd_lcm_right _ _)⟩
      · rintro ⟨z1, z2⟩
        rcases prm_dvd_mul z1 (Nat.dvd_trans z2 (Nat.lcm_dvd_mul _ _)) with z3 | z3
        · exact Or.inl ⟨z1, z3⟩
        · exact Or.inr ⟨z1, z3⟩
    · have hpo := pe_out (M := M) (i := i) (by omega)
      have hW1i := hW1 i (by omega)
      have hpw : (pe M i).1 ^ (pe M i).2 = 1 := by rw [hpo]; rfl
      refine g_aload (pc := 48) (r := .inl (some (b + 8 + i))) dX8_wholeRound_48 rfl ?_
      refine g_getf (pc := 50) (v := vI (((pe M i).1 ^ (pe M i).2 : Nat) : Int)) flX8_55 dX8_wholeRound_50 hci rfl ?_
      refine g_iconst (pc := 53) dX8_wholeRound_53 ?_
      refine g_icmp_leT (pc := 54) (tgt := 66) dX8_wholeRound_54 (by decide) (by omega) (by omega) (by omega) ?_
      refine g_lconst1 (pc := 66) dX8_wholeRound_66 ?_
      refine g_lstore (pc := 67) (lo2 := [(0, vR (b + 79)), (1, vJ (t : Int)), (3, vR (b + 7)), (4, vI 4), (5, vI xi), (6, vR (b + 8 + i)), (7, vJ 1)]) dX8_wholeRound_67 (by decide) rfl ?_
      refine g_lload_n (pc := 69) (x := (t : Int)) dX8_wholeRound_69 rfl ?_
      refine g_lload (pc := 70) (x := 1) dX8_wholeRound_70 rfl ?_
      have hg1 := Nat.gcd_pos_of_pos_left 1 (show 0 < t by omega)
      have hg2 := Nat.gcd_le_left 1 (show 0 < t by omega)
      have ed := tdivN (rfl : (t : Int) = (t : Int)) (rfl : ((Nat.gcd t 1 : Nat) : Int) = ((Nat.gcd t 1 : Nat) : Int))
      refine g_callS0 (pc := 72) (as := [vJ (t : Int), vJ 1]) (st := []) lsX8_65 dX8_wholeRound_72 (Nat.le_of_ble_eq_true rfl) (by omega) (Nat.zero_le _) (Nat.zero_le _) (c_commonDivisor (d := d + 5) (x := t) (y := 1) (by omega) (by omega)) ?_
      rintro r g1 ⟨e9, e8⟩
      subst e9
      subst e8
      refine g_lconst1 (pc := 75) dX8_wholeRound_75 ?_
      refine g_callS0 (pc := 76) (as := [vJ ((Nat.gcd t 1 : Nat) : Int), vJ 1]) (st := []) lsX8_71 dX8_wholeRound_76 (Nat.le_of_ble_eq_true rfl) (by omega) (Nat.zero_le _) (Nat.zero_le _) (c_maxJ (d := d + 5) (by omega) (by omega)) ?_
      rintro r g1 ⟨e9, e8⟩
      subst e9
      subst e8
      rw [show (if ((Nat.gcd t 1 : Nat) : Int) < 1 then (1 : Int) else ((Nat.gcd t 1 : Nat) : Int)) = ((Nat.gcd t 1 : Nat) : Int) from if_neg (by omega)]
      refine g_lstore (pc := 79) (lo2 := [(0, vR (b + 79)), (1, vJ (t : Int)), (3, vR (b + 7)), (4, vI 4), (5, vI xi), (6, vR (b + 8 + i)), (7, vJ 1), (9, vJ ((Nat.gcd t 1 : Nat) : Int))]) dX8_wholeRound_79 (by decide) rfl ?_
      refine g_lload_n (pc := 81) (x := (t : Int)) dX8_wholeRound_81 rfl ?_
      refine g_lload (pc := 82) (x := ((Nat.gcd t 1 : Nat) : Int)) dX8_wholeRound_82 rfl ?_
      refine g_ldiv (pc := 84) dX8_wholeRound_84 (by omega) (by omega) (by omega) ?_
      refine g_lload (pc := 85) (x := 1) dX8_wholeRound_85 rfl ?_
      refine g_lmul (pc := 87) dX8_wholeRound_87 ?_
      refine g_lstore_n (pc := 88) (lo2 := [(0, vR (b + 79)), (1, vJ (((t : Int).tdiv ((Nat.gcd t 1 : Nat) : Int)) * 1)), (3, vR (b + 7)), (4, vI 4), (5, vI xi), (6, vR (b + 8 + i)), (7, vJ 1), (9, vJ ((Nat.gcd t 1 : Nat) : Int))]) dX8_wholeRound_88 (by decide) rfl ?_
      refine g_iinc (pc := 89) (x := xi) (lo2 := [(0, vR (b + 79)), (1, vJ (((t : Int).tdiv ((Nat.gcd t 1 : Nat) : Int)) * 1)), (3, vR (b + 7)), (4, vI 4), (5, vI (xi + 1)), (6, vR (b + 8 + i)), (7, vJ 1), (9, vJ ((Nat.gcd t 1 : Nat) : Int))]) dX8_wholeRound_89 rfl (by decide) rfl ?_
      refine g_goto (pc := 92) (tgt := 35) dX8_wholeRound_92 (by decide) ?_
      rw [ed, show ((t / Nat.gcd t 1 : Nat) : Int) * 1 = ((Nat.lcm t 1 : Nat) : Int) by rw [Nat.lcm_one_right, Nat.gcd_one_right, Nat.div_one, Int.mul_one]]
      refine g_pick [0, 1, 2, 3, 4] (lo2 := [(0, vR (b + 79)), (1, vJ ((Nat.lcm t 1 : Nat) : Int)), (3, vR (b + 7)), (4, vI 4), (5, vI (xi + 1))]) rfl ?_
      refine ih (i + 1) (Nat.lcm t 1) _ _ (by omega) (by omega) (by rw [hnext, hW1i]) hpc hr hw (hps.eqv (fun x => ?_)) hp2 s90 hk
      rw [hnext, hW1i, Nat.lcm_one_right, et]

theorem c_wholeRound {N d b n M W : Nat} {wh : Int} {T : Nat → Int} {h : MH} (n1 : 1 ≤ n) (hn : n ≤ 4) (hM : 2 ≤ M) (hM2 : M ≤ 500) (hW : isPer (mp (n + 1) M (au n T)) 32 W) (hpc : PC N h b M) (hr : Hd (0, 0, N) h (b + 79) (eO 8 [vR (b + 12), vR (b + 7), vR (b + 80), vR (b + 82), vR (b + 84), vR (b + 90), vR (b + 91), vR (b + 92), vJ wh])) (hw : PT N h (b + 12) M n T) (hp80 : (wh = 0 ∧ PA N h (b + 80)) ∨ (wh = (W : Int) ∧ PS N h (b + 80) (BM M) (fun x => prm x ∧ x ∣ W))) (hp82 : PA N h (b + 82)) (s90 : Sc N h (b + 90) 20) : (1 ≤ W ∧ W ≤ 8000000000000000000) ∧ Ok mX8_wholeRound (d + 6) 0 0 [vR (b + 79)] N h (fun r h2 => r = some (vJ (W : Int)) ∧ PT N h2 (b + 12) M n T ∧ h2 (b + 79) = eO 8 [vR (b + 12), vR (b + 7), vR (b + 80), vR (b + 82), vR (b + 84), vR (b + 90), vR (b + 91), vR (b + 92), vJ (W : Int)] ∧ PS N h2 (b + 80) (BM M) (fun x => prm x ∧ x ∣ W) ∧ PA N h2 (b + 82) ∧ Sc N h2 (b + 90) 20 ∧ ∀ a, (a < b + 12 ∨ b + 84 ≤ a) → a ≠ b + 90 → h2 a = h a) := by
  obtain ⟨Wf, hWf, hW1⟩ := Wf_ex (T := T) n1 hn hM hM2
  have hlen := (fcs_ok hM hM2).1
  obtain ⟨-, l1, l8⟩ := Wf_lcm n1 hn hM hM2 hWf hW1 4
  have eW : W = lcmI Wf 4 := per_uniq hW (per_parts hM hM2 hWf 4 hlen hW1)
  refine ⟨by rw [eW]; exact ⟨l1, l8⟩, ?_⟩
  rw [eW] at hp80 ⊢
  rcases hp80 with ⟨e0, hp80⟩ | ⟨e0, hp80⟩
  · refine Ok.of pfX8_wholeRound rfl (Nat.le_of_ble_eq_true rfl) (fun Ls sx => ?_)
    show G mX8_wholeRound (d + 6, 0, 0, Ls, sx) 0 [(0, vR (b + 79))] [] (0, 0, N) h _
    obtain ⟨hpa, hpe⟩ := id hpc
    subst e0
    obtain ⟨B0, S0, hp80⟩ := hp80
    obtain ⟨l80, L80, hd80, -⟩ := id hp80
    refine g_aload_n (pc := 0) (r := .inl (some (b + 79))) dX8_wholeRound_0 rfl ?_
    refine g_getf (pc := 1) (v := vJ 0) flX8_48 dX8_wholeRound_1 hr rfl ?_
    refine g_lconst0 (pc := 4) dX8_wholeRound_4 ?_
    refine g_lif_leT (pc := 5) (tgt := 14) dX8_wholeRound_5 dX8_wholeRound_6 (by decide) (by omega) (by omega) (by omega) ?_
    refine g_aload_n (pc := 14) (r := .inl (some (b + 79))) dX8_wholeRound_14 rfl ?_
    refine g_getf (pc := 15) (v := vR (b + 80)) flX8_12 dX8_wholeRound_15 hr rfl ?_
    refine g_callV0 (pc := 18) (as := []) (b := b + 80) (st := []) lvX8_52 dX8_wholeRound_18 hd80 (Nat.le_of_ble_eq_true rfl) (by omega) (Nat.zero_le _) (Nat.zero_le _) (c_psclear (d := d + 5) hp80) ?_
    rintro r h1 ⟨rfl, c1, c2⟩
    have hr_1 := hr.keep (c2 _ (by omega))
    have hpa_1 := hpa.keep (c2 _ (by omega))
    refine g_lconst1 (pc := 21) dX8_wholeRound_21 ?_
    refine g_lstore_n (pc := 22) (lo2 := [(0, vR (b + 79)), (1, vJ 1)]) dX8_wholeRound_22 (by decide) rfl ?_
    refine g_aload_n (pc := 23) (r := .inl (some (b + 79))) dX8_wholeRound_23 rfl ?_
    refine g_getf (pc := 24) (v := vR (b + 7)) flX8_44 dX8_wholeRound_24 hr_1 rfl ?_
    refine g_astore_n (pc := 27) (r := .inl (some (b + 7))) (lo2 := [(0, vR (b + 79)), (1, vJ 1), (3, vR (b + 7))]) dX8_wholeRound_27 (by decide) rfl ?_
    refine g_aload_n (pc := 28) (r := .inl (some (b + 7))) dX8_wholeRound_28 rfl ?_
    refine g_qlen (pc := 29) dX8_wholeRound_29 hpa_1 (by decide) ?_
    refine g_istore (pc := 30) (lo2 := [(0, vR (b + 79)), (1, vJ 1), (3, vR (b + 7)), (4, vI ((4 : Nat) : Int))]) dX8_wholeRound_30 (by decide) rfl ?_
    refine g_iconst (pc := 32) dX8_wholeRound_32 ?_
    refine g_istore (pc := 33) (lo2 := [(0, vR (b + 79)), (1, vJ 1), (3, vR (b + 7)), (4, vI ((4 : Nat) : Int)), (5, vI 0)]) dX8_wholeRound_33 (by decide) rfl ?_
    exact whole_l n1 hn hM hM2 hWf hW1 4 0 1 _ h1 (by omega) rfl rfl (hpc.keep (fun a z1 z2 => c2 a (by omega))) hr_1 (hw.keep (fun a z1 z2 => c2 a (by omega))) ((c1.re (fun _ z => z.elim)).eqv (fun x => ⟨fun z => z.elim, fun z => prm_not_one z.1 z.2⟩)) (hp82.keep (c2 _ (by omega)) (c2 _ (by omega))) (s90.keep (c2 _ (by omega))) (fun a a1 a2 => c2 a (by omega))
  · refine Ok.of pfX8_wholeRound rfl (Nat.le_of_ble_eq_true rfl) (fun Ls sx => ?_)
    show G mX8_wholeRound (d + 6, 0, 0, Ls, sx) 0 [(0, vR (b + 79))] [] (0, 0, N) h _
    subst e0
    refine g_aload_n (pc := 0) (r := .inl (some (b + 79))) dX8_wholeRound_0 rfl ?_
    refine g_getf (pc := 1) (v := vJ ((lcmI Wf 4 : Nat) : Int)) flX8_48 dX8_wholeRound_1 hr rfl ?_
    refine g_lconst0 (pc := 4) dX8_wholeRound_4 ?_
    refine g_lif_leF (pc := 5) (tgt := 14) dX8_wholeRound_5 dX8_wholeRound_6 (by decide) (by omega) (by omega) (by omega) ?_
    refine g_aload_n (pc := 9) (r := .inl (some (b + 79))) dX8_wholeRound_9 rfl ?_
    refine g_getf (pc := 10) (v := vJ ((lcmI Wf 4 : Nat) : Int)) flX8_48 dX8_wholeRound_10 hr rfl ?_
    exact r_long (pc := 13) dX8_wholeRound_13 rfl rfl (Nat.le_refl _) ⟨rfl, hw, hr.2, hp80, hp82, s90, fun _ _ _ => rfl⟩
