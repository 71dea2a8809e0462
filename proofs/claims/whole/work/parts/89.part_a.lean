/-! ===== Part: enoughTurns, listPrimes, joined ===== -/
/-- a multiple of p^i - 1 for all i up to n -/
def Lf (p n : Nat) : Nat := (p - 1) * (if 1 < n then p + 1 else 1) * (if 2 < n then p * p + p + 1 else 1) * (if 3 < n then p * p + 1 else 1)
/-- the least power of p above n -/
def Nf (p n : Nat) : Nat := if p ≤ n then (if p * p ≤ n then p * p * p else p * p) else p
theorem pw_div {p k : Nat} (hp : 0 < p) : ((p ^ (k + 1) : Nat) : Int).tdiv (p : Int) = ((p ^ k : Nat) : Int) := by
  rw [tdivN rfl rfl, Nat.pow_succ, Nat.mul_div_cancel _ hp]
theorem prm_dvd_iff {x a b : Nat} (hx : prm x) : x ∣ a * b ↔ x ∣ a ∨ x ∣ b := ⟨prm_dvd_mul hx, fun z => z.elim (fun y => Nat.dvd_mul_right_of_dvd y b) (fun y => Nat.dvd_mul_left_of_dvd y a)⟩
theorem prm_dvd_prm {x p : Nat} (hx : prm x) (hp : prm p) : x ∣ p ↔ x = p := ⟨prm_eq hx hp, fun z => z ▸ Nat.dvd_refl _⟩
theorem prm_not_one {x : Nat} (hx : prm x) : ¬ x ∣ 1 := fun h => by
  have := Nat.le_of_dvd (by omega) h
  have := hx.1
  omega

theorem lf_1 {p n x : Nat} (h : x ∣ p - 1) : x ∣ Lf p n * p := by
  unfold Lf
  exact Nat.dvd_mul_right_of_dvd (Nat.dvd_mul_right_of_dvd (Nat.dvd_mul_right_of_dvd (Nat.dvd_mul_right_of_dvd h _) _) _) _
theorem lf_2 {p n x : Nat} (hn : 1 < n) (h : x ∣ p + 1) : x ∣ Lf p n * p := by
  unfold Lf
  rw [if_pos hn]
  exact Nat.dvd_mul_right_of_dvd (Nat.dvd_mul_right_of_dvd (Nat.dvd_mul_right_of_dvd (Nat.dvd_mul_left_of_dvd h _) _) _) _
theorem lf_3 {p n x : Nat} (hn : 2 < n) (h : x ∣ p * p + p + 1) : x ∣ Lf p n * p := by
  unfold Lf
  rw [if_pos hn]
  exact Nat.dvd_mul_right_of_dvd (Nat.dvd_mul_right_of_dvd (Nat.dvd_mul_left_of_dvd h _) _) _
theorem lf_4 {p n x : Nat} (hn : 3 < n) (h : x ∣ p * p + 1) : x ∣ Lf p n * p := by
  unfold Lf
  rw [if_pos hn]
  exact Nat.dvd_mul_right_of_dvd (Nat.dvd_mul_left_of_dvd h _) _

theorem enough_1 {N d q p k : Nat} {o : Int} {h : MH} (p2 : 2 ≤ p) (p5 : p ≤ 500) (pb : p ^ (k + 1) ≤ 500) (hq : Hd (0, 0, N) h q (eO 4 [vI (p : Int), vI ((p ^ (k + 1) : Nat) : Int), vI o])) : Ok mX4_enoughTurns d 0 0 [vR q, vI 1] N h (fun r h2 => h2 = h ∧ r = some (vJ ((Lf p 1 * Nf p 1 * p ^ k : Nat) : Int))) := by
  refine Ok.of pfX4_enoughTurns rfl (Nat.le_of_ble_eq_true rfl) (fun Ls sx => ?_)
  show G mX4_enoughTurns (d, 0, 0, Ls, sx) 0 [(0, vR q), (1, vI 1)] [] (0, 0, N) h _
  have e1 : ((p - 1 : Nat) : Int) = (p : Int) - 1 := by omega
  have ppb : p * p ≤ 250000 := by
    have := Nat.mul_le_mul p5 p5
    omega
  have eL : Lf p 1 = (p - 1) * 1 * 1 * 1 := by simp [Lf]
  have ed := pw_div (k := k) (show 0 < p by omega)
  have kb : p ^ k ≤ 500 := Nat.le_trans (Nat.pow_le_pow_right (by omega) (by omega)) pb
  generalize p ^ (k + 1) = P at *
  generalize p ^ k = K at *
  refine g_aload_n (pc := 0) (r := .inl (some q)) dX4_enoughTurns_0 rfl ?_
  refine g_getf (pc := 1) (v := vI (p : Int)) flX4_13 dX4_enoughTurns_1 hq rfl ?_
  refine g_iconst (pc := 4) dX4_enoughTurns_4 ?_
  refine g_isub (pc := 5) dX4_enoughTurns_5 ?_
  refine g_i2l (pc := 6) dX4_enoughTurns_6 (by omega) ?_
  refine g_lstore_n (pc := 7) (lo2 := [(0, vR q), (1, vI 1), (2, vJ ((p : Int) - 1))]) dX4_enoughTurns_7 (by decide) rfl ?_
  refine g_iload_n (pc := 8) (x := 1) dX4_enoughTurns_8 rfl ?_
  refine g_iconst (pc := 9) dX4_enoughTurns_9 ?_
  refine g_icmp_leT (pc := 10) (tgt := 23) dX4_enoughTurns_10 (by decide) (by omega) (by omega) (by omega) ?_
  refine g_iload_n (pc := 23) (x := 1) dX4_enoughTurns_23 rfl ?_
  refine g_iconst (pc := 24) dX4_enoughTurns_24 ?_
  refine g_icmp_leT (pc := 25) (tgt := 48) dX4_enoughTurns_25 (by decide) (by omega) (by omega) (by omega) ?_
  refine g_iload_n (pc := 48) (x := 1) dX4_enoughTurns_48 rfl ?_
  refine g_iconst (pc := 49) dX4_enoughTurns_49 ?_
  refine g_icmp_leT (pc := 50) (tgt := 68) dX4_enoughTurns_50 (by decide) (by omega) (by omega) (by omega) ?_
  refine g_lconst1 (pc := 68) dX4_enoughTurns_68 ?_
  refine g_lstore (pc := 69) (lo2 := [(0, vR q), (1, vI 1), (2, vJ ((p : Int) - 1)), (4, vJ 1)]) dX4_enoughTurns_69 (by decide) rfl ?_
  refine g_iconst (pc := 71) dX4_enoughTurns_71 ?_
  refine g_istore (pc := 72) (lo2 := [(0, vR q), (1, vI 1), (2, vJ ((p : Int) - 1)), (4, vJ 1), (6, vI 0)]) dX4_enoughTurns_72 (by decide) rfl ?_
  refine g_iload (pc := 74) (x := 0) dX4_enoughTurns_74 rfl ?_
  refine g_iconst (pc := 76) dX4_enoughTurns_76 ?_
  refine g_icmp_geF (pc := 77) (tgt := 104) dX4_enoughTurns_77 (by decide) (by omega) (by omega) (by omega) ?_
  refine g_lload (pc := 80) (x := 1) dX4_enoughTurns_80 rfl ?_
  refine g_iload_n (pc := 82) (x := 1) dX4_enoughTurns_82 rfl ?_
  refine g_i2l (pc := 83) dX4_enoughTurns_83 (by omega) ?_
  refine g_lif_gtF (pc := 84) (tgt := 104) dX4_enoughTurns_84 dX4_enoughTurns_85 (by decide) (by omega) (by omega) (by omega) ?_
  refine g_lload (pc := 88) (x := 1) dX4_enoughTurns_88 rfl ?_
  refine g_aload_n (pc := 90) (r := .inl (some q)) dX4_enoughTurns_90 rfl ?_
  refine g_getf (pc := 91) (v := vI (p : Int)) flX4_13 dX4_enoughTurns_91 hq rfl ?_
  refine g_i2l (pc := 94) dX4_enoughTurns_94 (by omega) ?_
  refine g_lmul (pc := 95) dX4_enoughTurns_95 ?_
  refine g_lstore (pc := 96) (lo2 := [(0, vR q), (1, vI 1), (2, vJ ((p : Int) - 1)), (4, vJ (1 * (p : Int))), (6, vI 0)]) dX4_enoughTurns_96 (by decide) rfl ?_
  refine g_iinc (pc := 98) (x := 0) (lo2 := [(0, vR q), (1, vI 1), (2, vJ ((p : Int) - 1)), (4, vJ (1 * (p : Int))), (6, vI (0 + 1))]) dX4_enoughTurns_98 rfl (by decide) rfl ?_
  refine g_goto (pc := 101) (tgt := 74) dX4_enoughTurns_101 (by decide) ?_
  refine g_iload (pc := 74) (x := 0 + 1) dX4_enoughTurns_74 rfl ?_
  refine g_iconst (pc := 76) dX4_enoughTurns_76 ?_
  refine g_icmp_geF (pc := 77) (tgt := 104) dX4_enoughTurns_77 (by decide) (by omega) (by omega) (by omega) ?_
  refine g_lload (pc := 80) (x := 1 * (p : Int)) dX4_enoughTurns_80 rfl ?_
  refine g_iload_n (pc := 82) (x := 1) dX4_enoughTurns_82 rfl ?_
  refine g_i2l (pc := 83) dX4_enoughTurns_83 (by omega) ?_
  rw [Int.one_mul]
  refine g_lif_gt (pc := 84) (tgt := 104) dX4_enoughTurns_84 dX4_enoughTurns_85 (by decide) (by omega) (by omega) (fun h1 => ?_) (fun h1 => ?_)
  · refine g_aload_n (pc := 104) (r := .inl (some q)) dX4_enoughTurns_104 rfl ?_
    refine g_getf (pc := 105) (v := vI (p : Int)) flX4_13 dX4_enoughTurns_105 hq rfl ?_
    refine g_if_leF (pc := 108) (tgt := 129) dX4_enoughTurns_108 (by decide) (by omega) (by omega) ?_
    refine g_lload_n (pc := 111) (x := (p : Int) - 1) dX4_enoughTurns_111 rfl ?_
    refine g_lload (pc := 112) (x := (p : Int)) dX4_enoughTurns_112 rfl ?_
    refine g_lmul (pc := 114) dX4_enoughTurns_114 ?_
    refine g_aload_n (pc := 115) (r := .inl (some q)) dX4_enoughTurns_115 rfl ?_
    refine g_getf (pc := 116) (v := vI (P : Int)) flX4_7 dX4_enoughTurns_116 hq rfl ?_
    refine g_aload_n (pc := 119) (r := .inl (some q)) dX4_enoughTurns_119 rfl ?_
    refine g_getf (pc := 120) (v := vI (p : Int)) flX4_13 dX4_enoughTurns_120 hq rfl ?_
    refine g_idiv (pc := 123) dX4_enoughTurns_123 (by omega) (by omega) (by omega) ?_
    rw [ed]
    refine g_i2l (pc := 124) dX4_enoughTurns_124 (by omega) ?_
    refine g_lmul (pc := 125) dX4_enoughTurns_125 ?_
    refine g_goto (pc := 126) (tgt := 130) dX4_enoughTurns_126 (by decide) ?_
    refine r_long (pc := 130) dX4_enoughTurns_130 rfl rfl (Nat.le_refl _) ⟨rfl, congrArg (fun z => some (vJ z)) ?_⟩
    have eN : Nf p 1 = p := if_neg (by omega)
    rw [eL, eN]
    simp only [Int.natCast_mul, Int.natCast_add, e1]
    grind
  · refine g_lload (pc := 88) (x := (p : Int)) dX4_enoughTurns_88 rfl ?_
    refine g_aload_n (pc := 90) (r := .inl (some q)) dX4_enoughTurns_90 rfl ?_
    refine g_getf (pc := 91) (v := vI (p : Int)) flX4_13 dX4_enoughTurns_91 hq rfl ?_
    refine g_i2l (pc := 94) dX4_enoughTurns_94 (by omega) ?_
    refine g_lmul (pc := 95) dX4_enoughTurns_95 ?_
    refine g_lstore (pc := 96) (lo2 := [(0, vR q), (1, vI 1), (2, vJ ((p : Int) - 1)), (4, vJ ((p : Int) * (p : Int))), (6, vI (0 + 1))]) dX4_enoughTurns_96 (by decide) rfl ?_
    refine g_iinc (pc := 98) (x := 0 + 1) (lo2 := [(0, vR q), (1, vI 1), (2, vJ ((p : Int) - 1)), (4, vJ ((p : Int) * (p : Int))), (6, vI (0 + 1 + 1))]) dX4_enoughTurns_98 rfl (by decide) rfl ?_
    refine g_goto (pc := 101) (tgt := 74) dX4_enoughTurns_101 (by decide) ?_
    refine g_iload (pc := 74) (x := 0 + 1 + 1) dX4_enoughTurns_74 rfl ?_
    refine g_iconst (pc := 76) dX4_enoughTurns_76 ?_
    refine g_icmp_geF (pc := 77) (tgt := 104) dX4_enoughTurns_77 (by decide) (by omega) (by omega) (by omega) ?_
    refine g_lload (pc := 80) (x := (p : Int) * (p : Int)) dX4_enoughTurns_80 rfl ?_
    refine g_iload_n (pc := 82) (x := 1) dX4_enoughTurns_82 rfl ?_
    refine g_i2l (pc := 83) dX4_enoughTurns_83 (by omega) ?_
    refine g_lif_gt (pc := 84) (tgt := 104) dX4_enoughTurns_84 dX4_enoughTurns_85 (by decide) (by omega) (by omega) (fun h2 => ?_) (fun h2 => ?_)
    · refine g_aload_n (pc := 104) (r := .inl (some q)) dX4_enoughTurns_104 rfl ?_
      refine g_getf (pc := 105) (v := vI (p : Int)) flX4_13 dX4_enoughTurns_105 hq rfl ?_
      refine g_if_leF (pc := 108) (tgt := 129) dX4_enoughTurns_108 (by decide) (by omega) (by omega) ?_
      refine g_lload_n (pc := 111) (x := (p : Int) - 1) dX4_enoughTurns_111 rfl ?_
      refine g_lload (pc := 112) (x := (p : Int) * (p : Int)) dX4_enoughTurns_112 rfl ?_
      refine g_lmul (pc := 114) dX4_enoughTurns_114 ?_
      refine g_aload_n (pc := 115) (r := .inl (some q)) dX4_enoughTurns_115 rfl ?_
      refine g_getf (pc := 116) (v := vI (P : Int)) flX4_7 dX4_enoughTurns_116 hq rfl ?_
      refine g_aload_n (pc := 119) (r := .inl (some q)) dX4_enoughTurns_119 rfl ?_
      refine g_getf (pc := 120) (v := vI (p : Int)) flX4_13 dX4_enoughTurns_120 hq rfl ?_
      refine g_idiv (pc := 123) dX4_enoughTurns_123 (by omega) (by omega) (by omega) ?_
      rw [ed]
      refine g_i2l (pc := 124) dX4_enoughTurns_124 (by omega) ?_
      refine g_lmul (pc := 125) dX4_enoughTurns_125 ?_
      refine g_goto (pc := 126) (tgt := 130) dX4_enoughTurns_126 (by decide) ?_
      refine r_long (pc := 130) dX4_enoughTurns_130 rfl rfl (Nat.le_refl _) ⟨rfl, congrArg (fun z => some (vJ z)) ?_⟩
      have eN : Nf p 1 = p * p := (if_pos (by omega)).trans (if_neg (by omega))
      rw [eL, eN]
      simp only [Int.natCast_mul, Int.natCast_add, e1]
      grind
    · refine g_lload (pc := 88) (x := (p : Int) * (p : Int)) dX4_enoughTurns_88 rfl ?_
      refine g_aload_n (pc := 90) (r := .inl (some q)) dX4_enoughTurns_90 rfl ?_
      refine g_getf (pc := 91) (v := vI (p : Int)) flX4_13 dX4_enoughTurns_91 hq rfl ?_
      refine g_i2l (pc := 94) dX4_enoughTurns_94 (by omega) ?_
      refine g_lmul (pc := 95) dX4_enoughTurns_95 ?_
      refine g_lstore (pc := 96) (lo2 := [(0, vR q), (1, vI 1), (2, vJ ((p : Int) - 1)), (4, vJ (((p : Int) * (p : Int)) * (p : Int))), (6, vI (0 + 1 + 1))]) dX4_enoughTurns_96 (by decide) rfl ?_
      refine g_iinc (pc := 98) (x := 0 + 1 + 1) (lo2 := [(0, vR q), (1, vI 1), (2, vJ ((p : Int) - 1)), (4, vJ (((p : Int) * (p : Int)) * (p : Int))), (6, vI (0 + 1 + 1 + 1))]) dX4_enoughTurns_98 rfl (by decide) rfl ?_
      refine g_goto (pc := 101) (tgt := 74) dX4_enoughTurns_101 (by decide) ?_
      refine g_iload (pc := 74) (x := 0 + 1 + 1 + 1) dX4_enoughTurns_74 rfl ?_
      refine g_iconst (pc := 76) dX4_enoughTurns_76 ?_
      refine g_icmp_geT (pc := 77) (tgt := 104) dX4_enoughTurns_77 (by decide) (by omega) (by omega) (by omega) ?_
      refine g_aload_n (pc := 104) (r := .inl (some q)) dX4_enoughTurns_104 rfl ?_
      refine g_getf (pc := 105) (v := vI (p : Int)) flX4_13 dX4_enoughTurns_105 hq rfl ?_
      refine g_if_leF (pc := 108) (tgt := 129) dX4_enoughTurns_108 (by decide) (by omega) (by omega) ?_
      refine g_lload_n (pc := 111) (x := (p : Int) - 1) dX4_enoughTurns_111 rfl ?_
      refine g_lload (pc := 112) (x := ((p : Int) * (p : Int)) * (p : Int)) dX4_enoughTurns_112 rfl ?_
      refine g_lmul (pc := 114) dX4_enoughTurns_114 ?_
      refine g_aload_n (pc := 115) (r := .inl (some q)) dX4_enoughTurns_115 rfl ?_
      refine g_getf (pc := 116) (v := vI (P : Int)) flX4_7 dX4_enoughTurns_116 hq rfl ?_
      refine g_aload_n (pc := 119) (r := .inl (some q)) dX4_enoughTurns_119 rfl ?_
      refine g_getf (pc := 120) (v := vI (p : Int)) flX4_13 dX4_enoughTurns_120 hq rfl ?_
      refine g_idiv (pc := 123) dX4_enoughTurns_123 (by omega) (by omega) (by omega) ?_
      rw [ed]
      refine g_i2l (pc := 124) dX4_enoughTurns_124 (by omega) ?_
      refine g_lmul (pc := 125) dX4_enoughTurns_125 ?_
      refine g_goto (pc := 126) (tgt := 130) dX4_enoughTurns_126 (by decide) ?_
      refine r_long (pc := 130) dX4_enoughTurns_130 rfl rfl (Nat.le_refl _) ⟨rfl, congrArg (fun z => some (vJ z)) ?_⟩
      have eN : Nf p 1 = p * p * p := (if_pos (by omega)).trans (if_pos (by omega))
      rw [eL, eN]
      simp only [Int.natCast_mul, Int.natCast_add, e1]
      grind

theorem enough_2 {N d q p k : Nat} {o : Int} {h : MH} (p2 : 2 ≤ p) (p5 : p ≤ 500) (pb : p ^ (k + 1) ≤ 500) (hq : Hd (0, 0, N) h q (eO 4 [vI (p : Int), vI ((p ^ (k + 1) : Nat) : Int), vI o])) : Ok mX4_enoughTurns d 0 0 [vR q, vI 2] N h (fun r h2 => h2 = h ∧ r = some (vJ ((Lf p 2 * Nf p 2 * p ^ k : Nat) : Int))) := by
  refine Ok.of pfX4_enoughTurns rfl (Nat.le_of_ble_eq_true rfl) (fun Ls sx => ?_)
  show G mX4_enoughTurns (d, 0, 0, Ls, sx) 0 [(0, vR q), (1, vI 2)] [] (0, 0, N) h _
  have e1 : ((p - 1 : Nat) : Int) = (p : Int) - 1 := by omega
  have ppb : p * p ≤ 250000 := by
    have := Nat.mul_le_mul p5 p5
    omega
  have eL : Lf p 2 = (p - 1) * (p + 1) * 1 * 1 := by simp [Lf]
  have ed := pw_div (k := k) (show 0 < p by omega)
  have kb : p ^ k ≤ 500 := Nat.le_trans (Nat.pow_le_pow_right (by omega) (by omega)) pb
  generalize p ^ (k + 1) = P at *
  generalize p ^ k = K at *
  refine g_aload_n (pc := 0) (r := .inl (some q)) dX4_enoughTurns_0 rfl ?_
  refine g_getf (pc := 1) (v := vI (p : Int)) flX4_13 dX4_enoughTurns_1 hq rfl ?_
  refine g_iconst (pc := 4) dX4_enoughTurns_4 ?_
  refine g_isub (pc := 5) dX4_enoughTurns_5 ?_
  refine g_i2l (pc := 6) dX4_enoughTurns_6 (by omega) ?_
  refine g_lstore_n (pc := 7) (lo2 := [(0, vR q), (1, vI 2), (2, vJ ((p : Int) - 1))]) dX4_enoughTurns_7 (by decide) rfl ?_
  refine g_iload_n (pc := 8) (x := 2) dX4_enoughTurns_8 rfl ?_
  refine g_iconst (pc := 9) dX4_enoughTurns_9 ?_
  refine g_icmp_leF (pc := 10) (tgt := 23) dX4_enoughTurns_10 (by decide) (by omega) (by omega) (by omega) ?_
  refine g_lload_n (pc := 13) (x := (p : Int) - 1) dX4_enoughTurns_13 rfl ?_
  refine g_aload_n (pc := 14) (r := .inl (some q)) dX4_enoughTurns_14 rfl ?_
  refine g_getf (pc := 15) (v := vI (p : Int)) flX4_13 dX4_enoughTurns_15 hq rfl ?_
  refine g_iconst (pc := 18) dX4_enoughTurns_18 ?_
  refine g_iadd (pc := 19) dX4_enoughTurns_19 ?_
  refine g_i2l (pc := 20) dX4_enoughTurns_20 (by omega) ?_
  refine g_lmul (pc := 21) dX4_enoughTurns_21 ?_
  refine g_lstore_n (pc := 22) (lo2 := [(0, vR q), (1, vI 2), (2, vJ (((p : Int) - 1) * ((p : Int) + 1)))]) dX4_enoughTurns_22 (by decide) rfl ?_
  refine g_iload_n (pc := 23) (x := 2) dX4_enoughTurns_23 rfl ?_
  refine g_iconst (pc := 24) dX4_enoughTurns_24 ?_
  refine g_icmp_leT (pc := 25) (tgt := 48) dX4_enoughTurns_25 (by decide) (by omega) (by omega) (by omega) ?_
  refine g_iload_n (pc := 48) (x := 2) dX4_enoughTurns_48 rfl ?_
  refine g_iconst (pc := 49) dX4_enoughTurns_49 ?_
  refine g_icmp_leT (pc := 50) (tgt := 68) dX4_enoughTurns_50 (by decide) (by omega) (by omega) (by omega) ?_
  refine g_lconst1 (pc := 68) dX4_enoughTurns_68 ?_
  refine g_lstore (pc := 69) (lo2 := [(0, vR q), (1, vI 2), (2, vJ (((p : Int) - 1) * ((p : Int) + 1))), (4, vJ 1)]) dX4_enoughTurns_69 (by decide) rfl ?_
  refine g_iconst (pc := 71) dX4_enoughTurns_71 ?_
  refine g_istore (pc := 72) (lo2 := [(0, vR q), (1, vI 2), (2, vJ (((p : Int) - 1) * ((p : Int) + 1))), (4, vJ 1), (6, vI 0)]) dX4_enoughTurns_72 (by decide) rfl ?_
  refine g_iload (pc := 74) (x := 0) dX4_enoughTurns_74 rfl ?_
  refine g_iconst (pc := 76) dX4_enoughTurns_76 ?_
  refine g_icmp_geF (pc := 77) (tgt := 104) dX4_enoughTurns_77 (by decide) (by omega) (by omega) (by omega) ?_
  refine g_lload (pc := 80) (x := 1) dX4_enoughTurns_80 rfl ?_
  refine g_iload_n (pc := 82) (x := 2) dX4_enoughTurns_82 rfl ?_
  refine g_i2l (pc := 83) dX4_enoughTurns_83 (by omega) ?_
  refine g_lif_gtF (pc := 84) (tgt := 104) dX4_enoughTurns_84 dX4_enoughTurns_85 (by decide) (by omega) (by omega) (by omega) ?_
  refine g_lload (pc := 88) (x := 1) dX4_enoughTurns_88 rfl ?_
  refine g_aload_n (pc := 90) (r := .inl (some q)) dX4_enoughTurns_90 rfl ?_
  refine g_getf (pc := 91) (v := vI (p : Int)) flX4_13 dX4_enoughTurns_91 hq rfl ?_
  refine g_i2l (pc := 94) dX4_enoughTurns_94 (by omega) ?_
  refine g_lmul (pc := 95) dX4_enoughTurns_95 ?_
  refine g_lstore (pc := 96) (lo2 := [(0, vR q), (1, vI 2), (2, vJ (((p : Int) - 1) * ((p : Int) + 1))), (4, vJ (1 * (p : Int))), (6, vI 0)]) dX4_enoughTurns_96 (by decide) rfl ?_
  refine g_iinc (pc := 98) (x := 0) (lo2 := [(0, vR q), (1, vI 2), (2, vJ (((p : Int) - 1) * ((p : Int) + 1))), (4, vJ (1 * (p : Int))), (6, vI (0 + 1))]) dX4_enoughTurns_98 rfl (by decide) rfl ?_
  refine g_goto (pc := 101) (tgt := 74) dX4_enoughTurns_101 (by decide) ?_
  refine g_iload (pc := 74) (x := 0 + 1) dX4_enoughTurns_74 rfl ?_
  refine g_iconst (pc := 76) dX4_enoughTurns_76 ?_
  refine g_icmp_geF (pc := 77) (tgt := 104) dX4_enoughTurns_77 (by decide) (by omega) (by omega) (by omega) ?_
  refine g_lload (pc := 80) (x := 1 * (p : Int)) dX4_enoughTurns_80 rfl ?_
  refine g_iload_n (pc := 82) (x := 2) dX4_enoughTurns_82 rfl ?_
  refine g_i2l (pc := 83) dX4_enoughTurns_83 (by omega) ?_
  rw [Int.one_mul]
  refine g_lif_gt (pc := 84) (tgt := 104) dX4_enoughTurns_84 dX4_enoughTurns_85 (by decide) (by omega) (by omega) (fun h1 => ?_) (fun h1 => ?_)
  · refine g_aload_n (pc := 104) (r := .inl (some q)) dX4_enoughTurns_104 rfl ?_
    refine g_getf (pc := 105) (v := vI (p : Int)) flX4_13 dX4_enoughTurns_105 hq rfl ?_
    refine g_if_leF (pc := 108) (tgt := 129) dX4_enoughTurns_108 (by decide) (by omega) (by omega) ?_
    refine g_lload_n (pc := 111) (x := ((p : Int) - 1) * ((p : Int) + 1)) dX4_enoughTurns_111 rfl ?_
    refine g_lload (pc := 112) (x := (p : Int)) dX4_enoughTurns_112 rfl ?_
    refine g_lmul (pc := 114) dX4_enoughTurns_114 ?_
    refine g_aload_n (pc := 115) (r := .inl (some q)) dX4_enoughTurns_115 rfl ?_
    refine g_getf (pc := 116) (v := vI (P : Int)) flX4_7 dX4_enoughTurns_116 hq rfl ?_
    refine g_aload_n (pc := 119) (r := .inl (some q)) dX4_enoughTurns_119 rfl ?_
    refine g_getf (pc := 120) (v := vI (p : Int)) flX4_13 dX4_enoughTurns_120 hq rfl ?_
    refine g_idiv (pc := 123) dX4_enoughTurns_123 (by omega) (by omega) (by omega) ?_
    rw [ed]
    refine g_i2l (pc := 124) dX4_enoughTurns_124 (by omega) ?_
    refine g_lmul (pc := 125) dX4_enoughTurns_125 ?_
    refine g_goto (pc := 126) (tgt := 130) dX4_enoughTurns_126 (by decide) ?_
    refine r_long (pc := 130) dX4_enoughTurns_130 rfl rfl (Nat.le_refl _) ⟨rfl, congrArg (fun z => some (vJ z)) ?_⟩
    have eN : Nf p 2 = p := if_neg (by omega)
    rw [eL, eN]
    simp only [Int.natCast_mul, Int.natCast_add, e1]
    grind
  · refine g_lload (pc := 88) (x := (p : Int)) dX4_enoughTurns_88 rfl ?_
    refine g_aload_n (pc := 90) (r := .inl (some q)) dX4_enoughTurns_90 rfl ?_
    refine g_getf (pc := 91) (v := vI (p : Int)) flX4_13 dX4_enoughTurns_91 hq rfl ?_
    refine g_i2l (pc := 94) dX4_enoughTurns_94 (by omega) ?_
    refine g_lmul (pc := 95) dX4_enoughTurns_95 ?_
    refine g_lstore (pc := 96) (lo2 := [(0, vR q), (1, vI 2), (2, vJ (((p : Int) - 1) * ((p : Int) + 1))), (4, vJ ((p : Int) * (p : Int))), (6, vI (0 + 1))]) dX4_enoughTurns_96 (by decide) rfl ?_
    refine g_iinc (pc := 98) (x := 0 + 1) (lo2 := [(0, vR q), (1, vI 2), (2, vJ (((p : Int) - 1) * ((p : Int) + 1))), (4, vJ ((p : Int) * (p : Int))), (6, vI (0 + 1 + 1))]) dX4_enoughTurns_98 rfl (by decide) rfl ?_
    refine g_goto (pc := 101) (tgt := 74) dX4_enoughTurns_101 (by decide) ?_
    refine g_iload (pc := 74) (x := 0 + 1 + 1) dX4_enoughTurns_74 rfl ?_
    refine g_iconst (pc := 76) dX4_enoughTurns_76 ?_
    refine g_icmp_geF (pc := 77) (tgt := 104) dX4_enoughTurns_77 (by decide) (by omega) (by omega) (by omega) ?_
    refine g_lload (pc := 80) (x := (p : Int) * (p : Int)) dX4_enoughTurns_80 rfl ?_
    refine g_iload_n (pc := 82) (x := 2) dX4_enoughTurns_82 rfl ?_
    refine g_i2l (pc := 83) dX4_enoughTurns_83 (by omega) ?_
    refine g_lif_gt (pc := 84) (tgt := 104) dX4_enoughTurns_84 dX4_enoughTurns_85 (by decide) (by omega) (by omega) (fun h2 => ?_) (fun h2 => ?_)
    · refine g_aload_n (pc := 104) (r := .inl (some q)) dX4_enoughTurns_104 rfl ?_
      refine g_getf (pc := 105) (v := vI (p : Int)) flX4_13 dX4_enoughTurns_105 hq rfl ?_
      refine g_if_leF (pc := 108) (tgt := 129) dX4_enoughTurns_108 (by decide) (by omega) (by omega) ?_
      refine g_lload_n (pc := 111) (x := ((p : Int) - 1) * ((p : Int) + 1)) dX4_enoughTurns_111 rfl ?_
      refine g_lload (pc := 112) (x := (p : Int) * (p : Int)) dX4_enoughTurns_112 rfl ?_
      refine g_lmul (pc := 114) dX4_enoughTurns_114 ?_
      refine g_aload_n (pc := 115) (r := .inl (some q)) dX4_enoughTurns_115 rfl ?_
      refine g_getf (pc := 116) (v := vI (P : Int)) flX4_7 dX4_enoughTurns_116 hq rfl ?_
      refine g_aload_n (pc := 119) (r := .inl (some q)) dX4_enoughTurns_119 rfl ?_
      refine g_getf (pc := 120) (v := vI (p : Int)) flX4_13 dX4_enoughTurns_120 hq rfl ?_
      refine g_idiv (pc := 123) dX4_enoughTurns_123 (by omega) (by omega) (by omega) ?_
      rw [ed]
      refine g_i2l (pc := 124) dX4_enoughTurns_124 (by omega) ?_
      refine g_lmul (pc := 125) dX4_enoughTurns_125 ?_
      refine g_goto (pc := 126) (tgt := 130) dX4_enoughTurns_126 (by decide) ?_
      refine r_long (pc := 130) dX4_enoughTurns_130 rfl rfl (Nat.le_refl _) ⟨rfl, congrArg (fun z => some (vJ z)) ?_⟩
      have eN : Nf p 2 = p * p := (if_pos (by omega)).trans (if_neg (by omega))
      rw [eL, eN]
      simp only [Int.natCast_mul, Int.natCast_add, e1]
      grind
    · refine g_lload (pc := 88) (x := (p : Int) * (p : Int)) dX4_enoughTurns_88 rfl ?_
      refine g_aload_n (pc := 90) (r := .inl (some q)) dX4_enoughTurns_90 rfl ?_
      refine g_getf (pc := 91) (v := vI (p : Int)) flX4_13 dX4_enoughTurns_91 hq rfl ?_
      refine g_i2l (pc := 94) dX4_enoughTurns_94 (by omega) ?_
      refine g_lmul (pc := 95) dX4_enoughTurns_95 ?_
      refine g_lstore (pc := 96) (lo2 := [(0, vR q), (1, vI 2), (2, vJ (((p : Int) - 1) * ((p : Int) + 1))), (4, vJ (((p : Int) * (p : Int)) * (p : Int))), (6, vI (0 + 1 + 1))]) dX4_enoughTurns_96 (by decide) rfl ?_
      refine g_iinc (pc := 98) (x := 0 + 1 + 1) (lo2 := [(0, vR q), (1, vI 2), (2, vJ (((p : Int) - 1) * ((p : Int) + 1))), (4, vJ (((p : Int) * (p : Int)) * (p : Int))), (6, vI (0 + 1 + 1 + 1))]) dX4_enoughTurns_98 rfl (by decide) rfl ?_
      refine g_goto (pc := 101) (tgt := 74) dX4_enoughTurns_101 (by decide) ?_
      refine g_iload (pc := 74) (x := 0 + 1 + 1 + 1) dX4_enoughTurns_74 rfl ?_
      refine g_iconst (pc := 76) dX4_enoughTurns_76 ?_
      refine g_icmp_geT (pc := 77) (tgt := 104) dX4_enoughTurns_77 (by decide) (by omega) (by omega) (by omega) ?_
      refine g_aload_n (pc := 104) (r := .inl (some q)) dX4_enoughTurns_104 rfl ?_
      refine g_getf (pc := 105) (v := vI (p : Int)) flX4_13 dX4_enoughTurns_105 hq rfl ?_
      refine g_if_leF (pc := 108) (tgt := 129) dX4_enoughTurns_108 (by decide) (by omega) (by omega) ?_
      refine g_lload_n (pc := 111) (x := ((p : Int) - 1) * ((p : Int) + 1)) dX4_enoughTurns_111 rfl ?_
      refine g_lload (pc := 112) (x := ((p : Int) * (p : Int)) * (p : Int)) dX4_enoughTurns_112 rfl ?_
      refine g_lmul (pc := 114) dX4_enoughTurns_114 ?_
      refine g_aload_n (pc := 115) (r := .inl (some q)) dX4_enoughTurns_115 rfl ?_
      refine g_getf (pc := 116) (v := vI (P : Int)) flX4_7 dX4_enoughTurns_116 hq rfl ?_
      refine g_aload_n (pc := 119) (r := .inl (some q)) dX4_enoughTurns_119 rfl ?_
      refine g_getf (pc := 120) (v := vI (p : Int)) flX4_13 dX4_enoughTurns_120 hq rfl ?_
      refine g_idiv (pc := 123) dX4_enoughTurns_123 (by omega) (by omega) (by omega) ?_
      rw [ed]
      refine g_i2l (pc := 124) dX4_enoughTurns_124 (by omega) ?_
      refine g_lmul (pc := 125) dX4_enoughTurns_125 ?_
      refine g_goto (pc := 126) (tgt := 130) dX4_enoughTurns_126 (by decide) ?_
      refine r_long (pc := 130) dX4_enoughTurns_130 rfl rfl (Nat.le_refl _) ⟨rfl, congrArg (fun z => some (vJ z)) ?_⟩
      have eN : Nf p 2 = p * p * p := (if_pos (by omega)).trans (if_pos (by omega))
      rw [eL, eN]
      simp only [Int.natCast_mul, Int.natCast_add, e1]
      grind

theorem enough_3 {N d q p k : Nat} {o : Int} {h : MH} (p2 : 2 ≤ p) (p5 : p ≤ 500) (pb : p ^ (k + 1) ≤ 500) (hq : Hd (0, 0, N) h q (eO 4 [vI (p : Int), vI ((p ^ (k + 1) : Nat) : Int), vI o])) : Ok mX4_enoughTurns d 0 0 [vR q, vI 3] N h (fun r h2 => h2 = h ∧ r = some (vJ ((Lf p 3 * Nf p 3 * p ^ k : Nat) : Int))) := by
  refine Ok.of pfX4_enoughTurns rfl (Nat.le_of_ble_eq_true rfl) (fun Ls sx => ?_)
  show G mX4_enoughTurns (d, 0, 0, Ls, sx) 0 [(0, vR q), (1, vI 3)] [] (0, 0, N) h _
  have e1 : ((p - 1 : Nat) : Int) = (p : Int) - 1 := by omega
  have ppb : p * p ≤ 250000 := by
    have := Nat.mul_le_mul p5 p5
    omega
  have eL : Lf p 3 = (p - 1) * (p + 1) * (p * p + p + 1) * 1 := by simp [Lf]
  have ed := pw_div (k := k) (show 0 < p by omega)
  have kb : p ^ k ≤ 500 := Nat.le_trans (Nat.pow_le_pow_right (by omega) (by omega)) pb
  generalize p ^ (k + 1) = P at *
  generalize p ^ k = K at *
  refine g_aload_n (pc := 0) (r := .inl (some q)) dX4_enoughTurns_0 rfl ?_
  refine g_getf (pc := 1) (v := vI (p : Int)) flX4_13 dX4_enoughTurns_1 hq rfl ?_
  refine g_iconst (pc := 4) dX4_enoughTurns_4 ?_
  refine g_isub (pc := 5) dX4_enoughTurns_5 ?_
  refine g_i2l (pc := 6) dX4_enoughTurns_6 (by omega) ?_
  refine g_lstore_n (pc := 7) (lo2 := [(0, vR q), (1, vI 3), (2, vJ ((p : Int) - 1))]) dX4_enoughTurns_7 (by decide) rfl ?_
  refine g_iload_n (pc := 8) (x := 3) dX4_enoughTurns_8 rfl ?_
  refine g_iconst (pc := 9) dX4_enoughTurns_9 ?_
  refine g_icmp_leF (pc := 10) (tgt := 23) dX4_enoughTurns_10 (by decide) (by omega) (by omega) (by omega) ?_
  refine g_lload_n (pc := 13) (x := (p : Int) - 1) dX4_enoughTurns_13 rfl ?_
  refine g_aload_n (pc := 14) (r := .inl (some q)) dX4_enoughTurns_14 rfl ?_
  refine g_getf (pc := 15) (v := vI (p : Int)) flX4_13 dX4_enoughTurns_15 hq rfl ?_
  refine g_iconst (pc := 18) dX4_enoughTurns_18 ?_
  refine g_iadd (pc := 19) dX4_enoughTurns_19 ?_
  refine g_i2l (pc := 20) dX4_enoughTurns_20 (by omega) ?_
  refine g_lmul (pc := 21) dX4_enoughTurns_21 ?_
  refine g_lstore_n (pc := 22) (lo2 := [(0, vR q), (1, vI 3), (2, vJ (((p : Int) - 1) * ((p : Int) + 1)))]) dX4_enoughTurns_22 (by decide) rfl ?_
  refine g_iload_n (pc := 23) (x := 3) dX4_enoughTurns_23 rfl ?_
  refine g_iconst (pc := 24) dX4_enoughTurns_24 ?_
  refine g_icmp_leF (pc := 25) (tgt := 48) dX4_enoughTurns_25 (by decide) (by omega) (by omega) (by omega) ?_
  refine g_lload_n (pc := 28) (x := ((p : Int) - 1) * ((p : Int) + 1)) dX4_enoughTurns_28 rfl ?_
  refine g_aload_n (pc := 29) (r := .inl (some q)) dX4_enoughTurns_29 rfl ?_
  refine g_getf (pc := 30) (v := vI (p : Int)) flX4_13 dX4_enoughTurns_30 hq rfl ?_
  refine g_aload_n (pc := 33) (r := .inl (some q)) dX4_enoughTurns_33 rfl ?_
  refine g_getf (pc := 34) (v := vI (p : Int)) flX4_13 dX4_enoughTurns_34 hq rfl ?_
  refine g_imul (pc := 37) dX4_enoughTurns_37 ?_
  refine g_aload_n (pc := 38) (r := .inl (some q)) dX4_enoughTurns_38 rfl ?_
  refine g_getf (pc := 39) (v := vI (p : Int)) flX4_13 dX4_enoughTurns_39 hq rfl ?_
  refine g_iadd (pc := 42) dX4_enoughTurns_42 ?_
  refine g_iconst (pc := 43) dX4_enoughTurns_43 ?_
  refine g_iadd (pc := 44) dX4_enoughTurns_44 ?_
  refine g_i2l (pc := 45) dX4_enoughTurns_45 (by omega) ?_
  refine g_lmul (pc := 46) dX4_enoughTurns_46 ?_
  refine g_lstore_n (pc := 47) (lo2 := [(0, vR q), (1, vI 3), (2, vJ ((((p : Int) - 1) * ((p : Int) + 1)) * ((((p : Int) * (p : Int)) + (p : Int)) + 1)))]) dX4_enoughTurns_47 (by decide) rfl ?_
  refine g_iload_n (pc := 48) (x := 3) dX4_enoughTurns_48 rfl ?_
  refine g_iconst (pc := 49) dX4_enoughTurns_49 ?_
  refine g_icmp_leT (pc := 50) (tgt := 68) dX4_enoughTurns_50 (by decide) (by omega) (by omega) (by omega) ?_
  refine g_lconst1 (pc := 68) dX4_enoughTurns_68 ?_
  refine g_lstore (pc := 69) (lo2 := [(0, vR q), (1, vI 3), (2, vJ ((((p : Int) - 1) * ((p : Int) + 1)) * ((((p : Int) * (p : Int)) + (p : Int)) + 1))), (4, vJ 1)]) dX4_enoughTurns_69 (by decide) rfl ?_
  refine g_iconst (pc := 71) dX4_enoughTurns_71 ?_
  refine g_istore (pc := 72) (lo2 := [(0, vR q), (1, vI 3), (2, vJ ((((p : Int) - 1) * ((p : Int) + 1)) * ((((p : Int) * (p : Int)) + (p : Int)) + 1))), (4, vJ 1), (6, vI 0)]) dX4_enoughTurns_72 (by decide) rfl ?_
  refine g_iload (pc := 74) (x := 0) dX4_enoughTurns_74 rfl ?_
  refine g_iconst (pc := 76) dX4_enoughTurns_76 ?_
  refine g_icmp_geF (pc := 77) (tgt := 104) dX4_enoughTurns_77 (by decide) (by omega) (by omega) (by omega) ?_
  refine g_lload (pc := 80) (x := 1) dX4_enoughTurns_80 rfl ?_
  refine g_iload_n (pc := 82) (x := 3) dX4_enoughTurns_82 rfl ?_
  refine g_i2l (pc := 83) dX4_enoughTurns_83 (by omega) ?_
  refine g_lif_gtF (pc := 84) (tgt := 104) dX4_enoughTurns_84 dX4_enoughTurns_85 (by decide) (by omega) (by omega) (by omega) ?_
  refine g_lload (pc := 88) (x := 1) dX4_enoughTurns_88 rfl ?_
  refine g_aload_n (pc := 90) (r := .inl (some q)) dX4_enoughTurns_90 rfl ?_
  refine g_getf (pc := 91) (v := vI (p : Int)) flX4_13 dX4_enoughTurns_91 hq rfl ?_
  refine g_i2l (pc := 94) dX4_enoughTurns_94 (by omega) ?_
  refine g_lmul (pc := 95) dX4_enoughTurns_95 ?_
  refine g_lstore (pc := 96) (lo2 := [(0, vR q), (1, vI 3), (2, vJ ((((p : Int) - 1) * ((p : Int) + 1)) * ((((p : Int) * (p : Int)) + (p : Int)) + 1))), (4, vJ (1 * (p : Int))), (6, vI 0)]) dX4_enoughTurns_96 (by decide) rfl ?_
  refine g_iinc (pc := 98) (x := 0) (lo2 := [(0, vR q), (1, vI 3), (2, vJ ((((p : Int) - 1) * ((p : Int) + 1)) * ((((p : Int) * (p : Int)) + (p : Int)) + 1))), (4, vJ (1 * (p : Int))), (6, vI (0 + 1))]) dX4_enoughTurns_98 rfl (by decide) rfl ?_
  refine g_goto (pc := 101) (tgt := 74) dX4_enoughTurns_101 (by decide) ?_
  refine g_iload (pc := 74) (x := 0 + 1) dX4_enoughTurns_74 rfl ?_
  refine g_iconst (pc := 76) dX4_enoughTurns_76 ?_
  refine g_icmp_geF (pc := 77) (tgt := 104) dX4_enoughTurns_77 (by decide) (by omega) (by omega) (by omega) ?_
  refine g_lload (pc := 80) (x := 1 * (p : Int)) dX4_enoughTurns_80 rfl ?_
  refine g_iload_n (pc := 82) (x := 3) dX4_enoughTurns_82 rfl ?_
  refine g_i2l (pc := 83) dX4_enoughTurns_83 (by omega) ?_
  rw [Int.one_mul]
  refine g_lif_gt (pc := 84) (tgt := 104) dX4_enoughTurns_84 dX4_enoughTurns_85 (by decide) (by omega) (by omega) (fun h1 => ?_) (fun h1 => ?_)
  · refine g_aload_n (pc := 104) (r := .inl (some q)) dX4_enoughTurns_104 rfl ?_
    refine g_getf (pc := 105) (v := vI (p : Int)) flX4_13 dX4_enoughTurns_105 hq rfl ?_
    refine g_if_leF (pc := 108) (tgt := 129) dX4_enoughTurns_108 (by decide) (by omega) (by omega) ?_
    refine g_lload_n (pc := 111) (x := (((p : Int) - 1) * ((p : Int) + 1)) * ((((p : Int) * (p : Int)) + (p : Int)) + 1)) dX4_enoughTurns_111 rfl ?_
    refine g_lload (pc := 112) (x := (p : Int)) dX4_enoughTurns_112 rfl ?_
    refine g_lmul (pc := 114) dX4_enoughTurns_114 ?_
    refine g_aload_n (pc := 115) (r := .inl (some q)) dX4_enoughTurns_115 rfl ?_
    refine g_getf (pc := 116) (v := vI (P : Int)) flX4_7 dX4_enoughTurns_116 hq rfl ?_
    refine g_aload_n (pc := 119) (r := .inl (some q)) dX4_enoughTurns_119 rfl ?_
    refine g_getf (pc := 120) (v := vI (p : Int)) flX4_13 dX4_enoughTurns_120 hq rfl ?_
    refine g_idiv (pc := 123) dX4_enoughTurns_123 (by omega) (by omega) (by omega) ?_
    rw [ed]
    refine g_i2l (pc := 124) dX4_enoughTurns_124 (by omega) ?_
    refine g_lmul (pc := 125) dX4_enoughTurns_125 ?_
    refine g_goto (pc := 126) (tgt := 130) dX4_enoughTurns_126 (by decide) ?_
    refine r_long (pc := 130) dX4_enoughTurns_130 rfl rfl (Nat.le_refl _) ⟨rfl, congrArg (fun z => some (vJ z)) ?_⟩
    have eN : Nf p 3 = p := if_neg (by omega)
    rw [eL, eN]
    simp only [Int.natCast_mul, Int.natCast_add, e1]
    grind
  · refine g_lload (pc := 88) (x := (p : Int)) dX4_enoughTurns_88 rfl ?_
    refine g_aload_n (pc := 90) (r := .inl (some q)) dX4_enoughTurns_90 rfl ?_
    refine g_getf (pc := 91) (v := vI (p : Int)) flX4_13 dX4_enoughTurns_91 hq rfl ?_
    refine g_i2l (pc := 94) dX4_enoughTurns_94 (by omega) ?_
    refine g_lmul (pc := 95) dX4_enoughTurns_95 ?_
    refine g_lstore (pc := 96) (lo2 := [(0, vR q), (1, vI 3), (2, vJ ((((p : Int) - 1) * ((p : Int) + 1)) * ((((p : Int) * (p : Int)) + (p : Int)) + 1))), (4, vJ ((p : Int) * (p : Int))), (6, vI (0 + 1))]) dX4_enoughTurns_96 (by decide) rfl ?_
    refine g_iinc (pc := 98) (x := 0 + 1) (lo2 := [(0, vR q), (1, vI 3), (2, vJ ((((p : Int) - 1) * ((p : Int) + 1)) * ((((p : Int) * (p : Int)) + (p : Int)) + 1))), (4, vJ ((p : Int) * (p : Int))), (6, vI (0 + 1 + 1))]) dX4_enoughTurns_98 rfl (by decide) rfl ?_
    refine g_goto (pc := 101) (tgt := 74) dX4_enoughTurns_101 (by decide) ?_
    refine g_iload (pc := 74) (x := 0 + 1 + 1) dX4_enoughTurns_74 rfl ?_
    refine g_iconst (pc := 76) dX4_enoughTurns_76 ?_
    refine g_icmp_geF (pc := 77) (tgt := 104) dX4_enoughTurns_77 (by decide) (by omega) (by omega) (by omega) ?_
    refine g_lload (pc := 80) (x := (p : Int) * (p : Int)) dX4_enoughTurns_80 rfl ?_
    refine g_iload_n (pc := 82) (x := 3) dX4_enoughTurns_82 rfl ?_
    refine g_i2l (pc := 83) dX4_enoughTurns_83 (by omega) ?_
    refine g_lif_gt (pc := 84) (tgt := 104) dX4_enoughTurns_84 dX4_enoughTurns_85 (by decide) (by omega) (by omega) (fun h2 => ?_) (fun h2 => ?_)
    · refine g_aload_n (pc := 104) (r := .inl (some q)) dX4_enoughTurns_104 rfl ?_
      refine g_getf (pc := 105) (v := vI (p : Int)) flX4_13 dX4_enoughTurns_105 hq rfl ?_
      refine g_if_leF (pc := 108) (tgt := 129) dX4_enoughTurns_108 (by decide) (by omega) (by omega) ?_
      refine g_lload_n (pc := 111) (x := (((p : Int) - 1) * ((p : Int) + 1)) * ((((p : Int) * (p : Int)) + (p : Int)) + 1)) dX4_enoughTurns_111 rfl ?_
      refine g_lload (pc := 112) (x := (p : Int) * (p : Int)) dX4_enoughTurns_112 rfl ?_
      refine g_lmul (pc := 114) dX4_enoughTurns_114 ?_
      refine g_aload_n (pc := 115) (r := .inl (some q)) dX4_enoughTurns_115 rfl ?_
      refine g_getf (pc := 116) (v := vI (P : Int)) flX4_7 dX4_enoughTurns_116 hq rfl ?_
      refine g_aload_n (pc := 119) (r := .inl (some q)) dX4_enoughTurns_119 rfl ?_
      refine g_getf (pc := 120) (v := vI (p : Int)) flX4_13 dX4_enoughTurns_120 hq rfl ?_
      refine g_idiv (pc := 123) dX4_enoughTurns_123 (by omega) (by omega) (by omega) ?_
      rw [ed]
      refine g_i2l (pc := 124) dX4_enoughTurns_124 (by omega) ?_
      refine g_lmul (pc := 125) dX4_enoughTurns_125 ?_
      refine g_goto (pc := 126) (tgt := 130) dX4_enoughTurns_126 (by decide) ?_
      refine r_long (pc := 130) dX4_enoughTurns_130 rfl rfl (Nat.le_refl _) ⟨rfl, congrArg (fun z => some (vJ z)) ?_⟩
      have eN : Nf p 3 = p * p := (if_pos (by omega)).trans (if_neg (by omega))
      rw [eL, eN]
      simp only [Int.natCast_mul, Int.natCast_add, e1]
      grind
    · refine g_lload (pc := 88) (x := (p : Int) * (p : Int)) dX4_enoughTurns_88 rfl ?_
      refine g_aload_n (pc := 90) (r := .inl (some q)) dX4_enoughTurns_90 rfl ?_
      refine g_getf (pc := 91) (v := vI (p : Int)) flX4_13 dX4_enoughTurns_91 hq rfl ?_
      refine g_i2l (pc := 94) dX4_enoughTurns_94 (by omega) ?_
      refine g_lmul (pc := 95) dX4_enoughTurns_95 ?_
      refine g_lstore (pc := 96) (lo2 := [(0, vR q), (1, vI 3), (2, vJ ((((p : Int) - 1) * ((p : Int) + 1)) * ((((p : Int) * (p : Int)) + (p : Int)) + 1))), (4, vJ (((p : Int) * (p : Int)) * (p : Int))), (6, vI (0 + 1 + 1))]) dX4_enoughTurns_96 (by decide) rfl ?_
      refine g_iinc (pc := 98) (x := 0 + 1 + 1) (lo2 := [(0, vR q), (1, vI 3), (2, vJ ((((p : Int) - 1) * ((p : Int) + 1)) * ((((p : Int) * (p : Int)) + (p : Int)) + 1))), (4, vJ (((p : Int) * (p : Int)) * (p : Int))), (6, vI (0 + 1 + 1 + 1))]) dX4_enoughTurns_98 rfl (by decide) rfl ?_
      refine g_goto (pc := 101) (tgt := 74) dX4_enoughTurns_101 (by decide) ?_
      refine g_iload (pc := 74) (x := 0 + 1 + 1 + 1) dX4_enoughTurns_74 rfl ?_
      refine g_iconst (pc := 76) dX4_enoughTurns_76 ?_
      refine g_icmp_geT (pc := 77) (tgt := 104) dX4_enoughTurns_77 (by decide) (by omega) (by omega) (by omega) ?_
      refine g_aload_n (pc := 104) (r := .inl (some q)) dX4_enoughTurns_104 rfl ?_
      refine g_getf (pc := 105) (v := vI (p : Int)) flX4_13 dX4_enoughTurns_105 hq rfl ?_
      refine g_if_leF (pc := 108) (tgt := 129) dX4_enoughTurns_108 (by decide) (by omega) (by omega) ?_
      refine g_lload_n (pc := 111) (x := (((p : Int) - 1) * ((p : Int) + 1)) * ((((p : Int) * (p : Int)) + (p : Int)) + 1)) dX4_enoughTurns_111 rfl ?_
      refine g_lload (pc := 112) (x := ((p : Int) * (p : Int)) * (p : Int)) dX4_enoughTurns_112 rfl ?_
      refine g_lmul (pc := 114) dX4_enoughTurns_114 ?_
      refine g_aload_n (pc := 115) (r := .inl (some q)) dX4_enoughTurns_115 rfl ?_
      refine g_getf (pc := 116) (v := vI (P : Int)) flX4_7 dX4_enoughTurns_116 hq rfl ?_
      refine g_aload_n (pc := 119) (r := .inl (some q)) dX4_enoughTurns_119 rfl ?_
      refine g_getf (pc := 120) (v := vI (p : Int)) flX4_13 dX4_enoughTurns_120 hq rfl ?_
      refine g_idiv (pc := 123) dX4_enoughTurns_123 (by omega) (by omega) (by omega) ?_
      rw [ed]
      refine g_i2l (pc := 124) dX4_enoughTurns_124 (by omega) ?_
      refine g_lmul (pc := 125) dX4_enoughTurns_125 ?_
      refine g_goto (pc := 126) (tgt := 130) dX4_enoughTurns_126 (by decide) ?_
      refine r_long (pc := 130) dX4_enoughTurns_130 rfl rfl (Nat.le_refl _) ⟨rfl, congrArg (fun z => some (vJ z)) ?_⟩
      have eN : Nf p 3 = p * p * p := (if_pos (by omega)).trans (if_pos (by omega))
      rw [eL, eN]
      simp only [Int.natCast_mul, Int.natCast_add, e1]
      grind

theorem enough_4 {N d q p k : Nat} {o : Int} {h : MH} (p2 : 2 ≤ p) (p5 : p ≤ 500) (pb : p ^ (k + 1) ≤ 500) (hq : Hd (0, 0, N) h q (eO 4 [vI (p : Int), vI ((p ^ (k + 1) : Nat) : Int), vI o])) : Ok mX4_enoughTurns d 0 0 [vR q, vI 4] N h (fun r h2 => h2 = h ∧ r = some (vJ ((Lf p 4 * Nf p 4 * p ^ k : Nat) : Int))) := by
  refine Ok.of pfX4_enoughTurns rfl (Nat.le_of_ble_eq_true rfl) (fun Ls sx => ?_)
  show G mX4_enoughTurns (d, 0, 0, Ls, sx) 0 [(0, vR q), (1, vI 4)] [] (0, 0, N) h _
  have e1 : ((p - 1 : Nat) : Int) = (p : Int) - 1 := by omega
  have ppb : p * p ≤ 250000 := by
    have := Nat.mul_le_mul p5 p5
    omega
  have eL : Lf p 4 = (p - 1) * (p + 1) * (p * p + p + 1) * (p * p + 1) := by simp [Lf]
  have ed := pw_div (k := k) (show 0 < p by omega)
  have kb : p ^ k ≤ 500 := Nat.le_trans (Nat.pow_le_pow_right (by omega) (by omega)) pb
  generalize p ^ (k + 1) = P at *
  generalize p ^ k = K at *
  refine g_aload_n (pc := 0) (r := .inl (some q)) dX4_enoughTurns_0 rfl ?_
  refine g_getf (pc := 1) (v := vI (p : Int)) flX4_13 dX4_enoughTurns_1 hq rfl ?_
  refine g_iconst (pc := 4) dX4_enoughTurns_4 ?_
  refine g_isub (pc := 5) dX4_enoughTurns_5 ?_
  refine g_i2l (pc := 6) dX4_enoughTurns_6 (by omega) ?_
  refine g_lstore_n (pc := 7) (lo2 := [(0, vR q), (1, vI 4), (2, vJ ((p : Int) - 1))]) dX4_enoughTurns_7 (by decide) rfl ?_
  refine g_iload_n (pc := 8) (x := 4) dX4_enoughTurns_8 rfl ?_
  refine g_iconst (pc := 9) dX4_enoughTurns_9 ?_
  refine g_icmp_leF (pc := 10) (tgt := 23) dX4_enoughTurns_10 (by decide) (by omega) (by omega) (by omega) ?_
  refine g_lload_n (pc := 13) (x := (p : Int) - 1) dX4_enoughTurns_13 rfl ?_
  refine g_aload_n (pc := 14) (r := .inl (some q)) dX4_enoughTurns_14 rfl ?_
  refine g_getf (pc := 15) (v := vI (p : Int)) flX4_13 dX4_enoughTurns_15 hq rfl ?_
  refine g_iconst (pc := 18) dX4_enoughTurns_18 ?_
  refine g_iadd (pc := 19) dX4_enoughTurns_19 ?_
  refine g_i2l (pc := 20) dX4_enoughTurns_20 (by omega) ?_
  refine g_lmul (pc := 21) dX4_enoughTurns_21 ?_
  refine g_lstore_n (pc := 22) (lo2 := [(0, vR q), (1, vI 4), (2, vJ (((p : Int) - 1) * ((p : Int) + 1)))]) dX4_enoughTurns_22 (by decide) rfl ?_
  refine g_iload_n (pc := 23) (x := 4) dX4_enoughTurns_23 rfl ?_
  refine g_iconst (pc := 24) dX4_enoughTurns_24 ?_
  refine g_icmp_leF (pc := 25) (tgt := 48) dX4_enoughTurns_25 (by decide) (by omega) (by omega) (by omega) ?_
  refine g_lload_n (pc := 28) (x := ((p : Int) - 1) * ((p : Int) + 1)) dX4_enoughTurns_28 rfl ?_
  refine g_aload_n (pc := 29) (r := .inl (some q)) dX4_enoughTurns_29 rfl ?_
  refine g_getf (pc := 30) (v := vI (p : Int)) flX4_13 dX4_enoughTurns_30 hq rfl ?_
  refine g_aload_n (pc := 33) (r := .inl (some q)) dX4_enoughTurns_33 rfl ?_
  refine g_getf (pc := 34) (v := vI (p : Int)) flX4_13 dX4_enoughTurns_34 hq rfl ?_
  refine g_imul (pc := 37) dX4_enoughTurns_37 ?_
  refine g_aload_n (pc := 38) (r := .inl (some q)) dX4_enoughTurns_38 rfl ?_
  refine g_getf (pc := 39) (v := vI (p : Int)) flX4_13 dX4_enoughTurns_39 hq rfl ?_
  refine g_iadd (pc := 42) dX4_enoughTurns_42 ?_
  refine g_iconst (pc := 43) dX4_enoughTurns_43 ?_
  refine g_iadd (pc := 44) dX4_enoughTurns_44 ?_
  refine g_i2l (pc := 45) dX4_enoughTurns_45 (by omega) ?_
  refine g_lmul (pc := 46) dX4_enoughTurns_46 ?_
  refine g_lstore_n (pc := 47) (lo2 := [(0, vR q), (1, vI 4), (2, vJ ((((p : Int) - 1) * ((p : Int) + 1)) * ((((p : Int) * (p : Int)) + (p : Int)) + 1)))]) dX4_enoughTurns_47 (by decide) rfl ?_
  refine g_iload_n (pc := 48) (x := 4) dX4_enoughTurns_48 rfl ?_
  refine g_iconst (pc := 49) dX4_enoughTurns_49 ?_
  refine g_icmp_leF (pc := 50) (tgt := 68) dX4_enoughTurns_50 (by decide) (by omega) (by omega) (by omega) ?_
  refine g_lload_n (pc := 53) (x := (((p : Int) - 1) * ((p : Int) + 1)) * ((((p : Int) * (p : Int)) + (p : Int)) + 1)) dX4_enoughTurns_53 rfl ?_
  refine g_aload_n (pc := 54) (r := .inl (some q)) dX4_enoughTurns_54 rfl ?_
  refine g_getf (pc := 55) (v := vI (p : Int)) flX4_13 dX4_enoughTurns_55 hq rfl ?_
  refine g_aload_n (pc := 58) (r := .inl (some q)) dX4_enoughTurns_58 rfl ?_
  refine g_getf (pc := 59) (v := vI (p : Int)) flX4_13 dX4_enoughTurns_59 hq rfl ?_
  refine g_imul (pc := 62) dX4_enoughTurns_62 ?_
  refine g_iconst (pc := 63) dX4_enoughTurns_63 ?_
  refine g_iadd (pc := 64) dX4_enoughTurns_64 ?_
  refine g_i2l (pc := 65) dX4_enoughTurns_65 (by omega) ?_
  refine g_lmul (pc := 66) dX4_enoughTurns_66 ?_
  refine g_lstore_n (pc := 67) (lo2 := [(0, vR q), (1, vI 4), (2, vJ (((((p : Int) - 1) * ((p : Int) + 1)) * ((((p : Int) * (p : Int)) + (p : Int)) + 1)) * (((p : Int) * (p : Int)) + 1)))]) dX4_enoughTurns_67 (by decide) rfl ?_
  refine g_lconst1 (pc := 68) dX4_enoughTurns_68 ?_
  refine g_lstore (pc := 69) (lo2 := [(0, vR q), (1, vI 4), (2, vJ (((((p : Int) - 1) * ((p : Int) + 1)) * ((((p : Int) * (p : Int)) + (p : Int)) + 1)) * (((p : Int) * (p : Int)) + 1))), (4, vJ 1)]) dX4_enoughTurns_69 (by decide) rfl ?_
  refine g_iconst (pc := 71) dX4_enoughTurns_71 ?_
  refine g_istore (pc := 72) (lo2 := [(0, vR q), (1, vI 4), (2, vJ (((((p : Int) - 1) * ((p : Int) + 1)) * ((((p : Int) * (p : Int)) + (p : Int)) + 1)) * (((p : Int) * (p : Int)) + 1))), (4, vJ 1), (6, vI 0)]) dX4_enoughTurns_72 (by decide) rfl ?_
  refine g_iload (pc := 74) (x := 0) dX4_enoughTurns_74 rfl ?_
  refine g_iconst (pc := 76) dX4_enoughTurns_76 ?_
  refine g_icmp_geF (pc := 77) (tgt := 104) dX4_enoughTurns_77 (by decide) (by omega) (by omega) (by omega) ?_
  refine g_lload (pc := 80) (x := 1) dX4_enoughTurns_80 rfl ?_
  refine g_iload_n (pc := 82) (x := 4) dX4_enoughTurns_82 rfl ?_
  refine g_i2l (pc := 83) dX4_enoughTurns_83 (by omega) ?_
  refine g_lif_gtF (pc := 84) (tgt := 104) dX4_enoughTurns_84 dX4_enoughTurns_85 (by decide) (by omega) (by omega) (by omega) ?_
  refine g_lload (pc := 88) (x := 1) dX4_enoughTurns_88 rfl ?_
  refine g_aload_n (pc := 90) (r := .inl (some q)) dX4_enoughTurns_90 rfl ?_
  refine g_getf (pc := 91) (v := vI (p : Int)) flX4_13 dX4_enoughTurns_91 hq rfl ?_
  refine g_i2l (pc := 94) dX4_enoughTurns_94 (by omega) ?_
  refine g_lmul (pc := 95) dX4_enoughTurns_95 ?_
  refine g_lstore (pc := 96) (lo2 := [(0, vR q), (1, vI 4), (2, vJ (((((p : Int) - 1) * ((p : Int) + 1)) * ((((p : Int) * (p : Int)) + (p : Int)) + 1)) * (((p : Int) * (p : Int)) + 1))), (4, vJ (1 * (p : Int))), (6, vI 0)]) dX4_enoughTurns_96 (by decide) rfl ?_
  refine g_iinc (pc := 98) (x := 0) (lo2 := [(0, vR q), (1, vI 4), (2, vJ (((((p : Int) - 1) * ((p : Int) + 1)) * ((((p : Int) * (p : Int)) + (p : Int)) + 1)) * (((p : Int) * (p : Int)) + 1))), (4, vJ (1 * (p : Int))), (6, vI (0 + 1))]) dX4_enoughTurns_98 rfl (by decide) rfl ?_
  refine g_goto (pc := 101) (tgt := 74) dX4_enoughTurns_101 (by decide) ?_
  refine g_iload (pc := 74) (x := 0 + 1) dX4_enoughTurns_74 rfl ?_
  refine g_iconst (pc := 76) dX4_enoughTurns_76 ?_
  refine g_icmp_geF (pc := 77) (tgt := 104) dX4_enoughTurns_77 (by decide) (by omega) (by omega) (by omega) ?_
  refine g_lload (pc := 80) (x := 1 * (p : Int)) dX4_enoughTurns_80 rfl ?_
  refine g_iload_n (pc := 82) (x := 4) dX4_enoughTurns_82 rfl ?_
  refine g_i2l (pc := 83) dX4_enoughTurns_83 (by omega) ?_
  rw [Int.one_mul]
  refine g_lif_gt (pc := 84) (tgt := 104) dX4_enoughTurns_84 dX4_enoughTurns_85 (by decide) (by omega) (by omega) (fun h1 => ?_) (fun h1 => ?_)
  · refine g_aload_n (pc := 104) (r := .inl (some q)) dX4_enoughTurns_104 rfl ?_
    refine g_getf (pc := 105) (v := vI (p : Int)) flX4_13 dX4_enoughTurns_105 hq rfl ?_
    refine g_if_leF (pc := 108) (tgt := 129) dX4_enoughTurns_108 (by decide) (by omega) (by omega) ?_
    refine g_lload_n (pc := 111) (x := ((((p : Int) - 1) * ((p : Int) + 1)) * ((((p : Int) * (p : Int)) + (p : Int)) + 1)) * (((p : Int) * (p : Int)) + 1)) dX4_enoughTurns_111 rfl ?_
    refine g_lload (pc := 112) (x := (p : Int)) dX4_enoughTurns_112 rfl ?_
    refine g_lmul (pc := 114) dX4_enoughTurns_114 ?_
    refine g_aload_n (pc := 115) (r := .inl (some q)) dX4_enoughTurns_115 rfl ?_
    refine g_getf (pc := 116) (v := vI (P : Int)) flX4_7 dX4_enoughTurns_116 hq rfl ?_
    refine g_aload_n (pc := 119) (r := .inl (some q)) dX4_enoughTurns_119 rfl ?_
    refine g_getf (pc := 120) (v := vI (p : Int)) flX4_13 dX4_enoughTurns_120 hq rfl ?_
    refine g_idiv (pc := 123) dX4_enoughTurns_123 (by omega) (by omega) (by omega) ?_
    rw [ed]
    refine g_i2l (pc := 124) dX4_enoughTurns_124 (by omega) ?_
    refine g_lmul (pc := 125) dX4_enoughTurns_125 ?_
    refine g_goto (pc := 126) (tgt := 130) dX4_enoughTurns_126 (by decide) ?_
    refine r_long (pc := 130) dX4_enoughTurns_130 rfl rfl (Nat.le_refl _) ⟨rfl, congrArg (fun z => some (vJ z)) ?_⟩
    have eN : Nf p 4 = p := if_neg (by omega)
    rw [eL, eN]
    simp only [Int.natCast_mul, Int.natCast_add, e1]
    grind
  · refine g_lload (pc := 88) (x := (p : Int)) dX4_enoughTurns_88 rfl ?_
    refine g_aload_n (pc := 90) (r := .inl (some q)) dX4_enoughTurns_90 rfl ?_
    refine g_getf (pc := 91) (v := vI (p : Int)) flX4_13 dX4_enoughTurns_91 hq rfl ?_
    refine g_i2l (pc := 94) dX4_enoughTurns_94 (by omega) ?_
    refine g_lmul (pc := 95) dX4_enoughTurns_95 ?_
    refine g_lstore (pc := 96) (lo2 := [(0, vR q), (1, vI 4), (2, vJ (((((p : Int) - 1) * ((p : Int) + 1)) * ((((p : Int) * (p : Int)) + (p : Int)) + 1)) * (((p : Int) * (p : Int)) + 1))), (4, vJ ((p : Int) * (p : Int))), (6, vI (0 + 1))]) dX4_enoughTurns_96 (by decide) rfl ?_
    refine g_iinc (pc := 98) (x := 0 + 1) (lo2 := [(0, vR q), (1, vI 4), (2, vJ (((((p : Int) - 1) * ((p : Int) + 1)) * ((((p : Int) * (p : Int)) + (p : Int)) + 1)) * (((p : Int) * (p : Int)) + 1))), (4, vJ ((p : Int) * (p : Int))), (6, vI (0 + 1 + 1))]) dX4_enoughTurns_98 rfl (by decide) rfl ?_
    refine g_goto (pc := 101) (tgt := 74) dX4_enoughTurns_101 (by decide) ?_
    refine g_iload (pc := 74) (x := 0 + 1 + 1) dX4_enoughTurns_74 rfl ?_
    refine g_iconst (pc := 76) dX4_enoughTurns_76 ?_
    refine g_icmp_geF (pc := 77) (tgt := 104) dX4_enoughTurns_77 (by decide) (by omega) (by omega) (by omega) ?_
    refine g_lload (pc := 80) (x := (p : Int) * (p : Int)) dX4_enoughTurns_80 rfl ?_
    refine g_iload_n (pc := 82) (x := 4) dX4_enoughTurns_82 rfl ?_
    refine g_i2l (pc := 83) dX4_enoughTurns_83 (by omega) ?_
    refine g_lif_gt (pc := 84) (tgt := 104) dX4_enoughTurns_84 dX4_enoughTurns_85 (by decide) (by omega) (by omega) (fun h2 => ?_) (fun h2 => ?_)
    · refine g_aload_n (pc := 104) (r := .inl (some q)) dX4_enoughTurns_104 rfl ?_
      refine g_getf (pc := 105) (v := vI (p : Int)) flX4_13 dX4_enoughTurns_105 hq rfl ?_
      refine g_if_leF (pc := 108) (tgt := 129) dX4_enoughTurns_108 (by decide) (by omega) (by omega) ?_
      refine g_lload_n (pc := 111) (x := ((((p : Int) - 1) * ((p : Int) + 1)) * ((((p : Int) * (p : Int)) + (p : Int)) + 1)) * (((p : Int) * (p : Int)) + 1)) dX4_enoughTurns_111 rfl ?_
      refine g_lload (pc := 112) (x := (p : Int) * (p : Int)) dX4_enoughTurns_112 rfl ?_
      refine g_lmul (pc := 114) dX4_enoughTurns_114 ?_
      refine g_aload_n (pc := 115) (r := .inl (some q)) dX4_enoughTurns_115 rfl ?_
      refine g_getf (pc := 116) (v := vI (P : Int)) flX4_7 dX4_enoughTurns_116 hq rfl ?_
      refine g_aload_n (pc := 119) (r := .inl (some q)) dX4_enoughTurns_119 rfl ?_
      refine g_getf (pc := 120) (v := vI (p : Int)) flX4_13 dX4_enoughTurns_120 hq rfl ?_
      refine g_idiv (pc := 123) dX4_enoughTurns_123 (by omega) (by omega) (by omega) ?_
      rw [ed]
      refine g_i2l (pc := 124) dX4_enoughTurns_124 (by omega) ?_
      refine g_lmul (pc := 125) dX4_enoughTurns_125 ?_
      refine g_goto (pc := 126) (tgt := 130) dX4_enoughTurns_126 (by decide) ?_
      refine r_long (pc := 130) dX4_enoughTurns_130 rfl rfl (Nat.le_refl _) ⟨rfl, congrArg (fun z => some (vJ z)) ?_⟩
      have eN : Nf p 4 = p * p := (if_pos (by omega)).trans (if_neg (by omega))
      rw [eL, eN]
      simp only [Int.natCast_mul, Int.natCast_add, e1]
      grind
    · refine g_lload (pc := 88) (x := (p : Int) * (p : Int)) dX4_enoughTurns_88 rfl ?_
      refine g_aload_n (pc := 90) (r := .inl (some q)) dX4_enoughTurns_90 rfl ?_
      refine g_getf (pc := 91) (v := vI (p : Int)) flX4_13 dX4_enoughTurns_91 hq rfl ?_
      refine g_i2l (pc := 94) dX4_enoughTurns_94 (by omega) ?_
      refine g_lmul (pc := 95) dX4_enoughTurns_95 ?_
      refine g_lstore (pc := 96) (lo2 := [(0, vR q), (1, vI 4), (2, vJ (((((p : Int) - 1) * ((p : Int) + 1)) * ((((p : Int) * (p : Int)) + (p : Int)) + 1)) * (((p : Int) * (p : Int)) + 1))), (4, vJ (((p : Int) * (p : Int)) * (p : Int))), (6, vI (0 + 1 + 1))]) dX4_enoughTurns_96 (by decide) rfl ?_
      refine g_iinc (pc := 98) (x := 0 + 1 + 1) (lo2 := [(0, vR q), (1, vI 4), (2, vJ (((((p : Int) - 1) * ((p : Int) + 1)) * ((((p : Int) * (p : Int)) + (p : Int)) + 1)) * (((p : Int) * (p : Int)) + 1))), (4, vJ (((p : Int) * (p : Int)) * (p : Int))), (6, vI (0 + 1 + 1 + 1))]) dX4_enoughTurns_98 rfl (by decide) rfl ?_
      refine g_goto (pc := 101) (tgt := 74) dX4_enoughTurns_101 (by decide) ?_
      refine g_iload (pc := 74) (x := 0 + 1 + 1 + 1) dX4_enoughTurns_74 rfl ?_
      refine g_iconst (pc := 76) dX4_enoughTurns_76 ?_
      refine g_icmp_geT (pc := 77) (tgt := 104) dX4_enoughTurns_77 (by decide) (by omega) (by omega) (by omega) ?_
      refine g_aload_n (pc := 104) (r := .inl (some q)) dX4_enoughTurns_104 rfl ?_
      refine g_getf (pc := 105) (v := vI (p : Int)) flX4_13 dX4_enoughTurns_105 hq rfl ?_
      refine g_if_leF (pc := 108) (tgt := 129) dX4_enoughTurns_108 (by decide) (by omega) (by omega) ?_
      refine g_lload_n (pc := 111) (x := ((((p : Int) - 1) * ((p : Int) + 1)) * ((((p : Int) * (p : Int)) + (p : Int)) + 1)) * (((p : Int) * (p : Int)) + 1)) dX4_enoughTurns_111 rfl ?_
      refine g_lload (pc := 112) (x := ((p : Int) * (p : Int)) * (p : Int)) dX4_enoughTurns_112 rfl ?_
      refine g_lmul (pc := 114) dX4_enoughTurns_114 ?_
      refine g_aload_n (pc := 115) (r := .inl (some q)) dX4_enoughTurns_115 rfl ?_
      refine g_getf (pc := 116) (v := vI (P : Int)) flX4_7 dX4_enoughTurns_116 hq rfl ?_
      refine g_aload_n (pc := 119) (r := .inl (some q)) dX4_enoughTurns_119 rfl ?_
      refine g_getf (pc := 120) (v := vI (p : Int)) flX4_13 dX4_enoughTurns_120 hq rfl ?_
      refine g_idiv (pc := 123) dX4_enoughTurns_123 (by omega) (by omega) (by omega) ?_
      rw [ed]
      refine g_i2l (pc := 124) dX4_enoughTurns_124 (by omega) ?_
      refine g_lmul (pc := 125) dX4_enoughTurns_125 ?_
      refine g_goto (pc := 126) (tgt := 130) dX4_enoughTurns_126 (by decide) ?_
      refine r_long (pc := 130) dX4_enoughTurns_130 rfl rfl (Nat.le_refl _) ⟨rfl, congrArg (fun z => some (vJ z)) ?_⟩
      have eN : Nf p 4 = p * p * p := (if_pos (by omega)).trans (if_pos (by omega))
      rw [eL, eN]
      simp only [Int.natCast_mul, Int.natCast_add, e1]
      grind

theorem c_enough {N d q p k n : Nat} {o : Int} {h : MH} (n1 : 1 ≤ n) (n4 : n ≤ 4) (p2 : 2 ≤ p) (p5 : p ≤ 500) (pb : p ^ (k + 1) ≤ 500) (hq : Hd (0, 0, N) h q (eO 4 [vI (p : Int), vI ((p ^ (k + 1) : Nat) : Int), vI o])) : Ok mX4_enoughTurns d 0 0 [vR q, vI (n : Int)] N h (fun r h2 => h2 = h ∧ r = some (vJ ((Lf p n * Nf p n * p ^ k : Nat) : Int))) := by
  have hc : n = 1 ∨ n = 2 ∨ n = 3 ∨ n = 4 := by omega
  rcases hc with rfl | rfl | rfl | rfl
  · exact enough_1 p2 p5 pb hq
  · exact enough_2 p2 p5 pb hq
  · exact enough_3 p2 p5 pb hq
  · exact enough_4 p2 p5 pb hq

theorem c_psclear {N d q : Nat} {h : MH} {B : List Nat} {S : Nat → Prop} (hp : PS N h q B S) : Ok mX7_clear d 0 0 [vR q] N h (fun r h2 => r = none ∧ PS N h2 q B (fun _ => False) ∧ ∀ b, b ≠ q → h2 b = h b) := by
  obtain ⟨l, L, a1, a2, a3, a4, a5, a6⟩ := hp
  refine Ok.mono (c_prclear (d := d) a1) ?_
  rintro r h2 ⟨e, c1, c2⟩
  exact ⟨e, ⟨[], L, ⟨a1.1, c1⟩, a2.keep (c2 _ (by omega)), fun i hi => absurd hi (Nat.not_lt_zero i), List.nodup_nil, fun x hx => absurd hx List.not_mem_nil, fun x => ⟨fun hx => absurd hx List.not_mem_nil, fun z => z.elim⟩⟩, c2⟩
theorem PS.re {N : Nat} {h : MH} {q : Nat} {B B2 : List Nat} {S : Nat → Prop} (hp : PS N h q B S) (k : ∀ x, S x → x ∈ B2) : PS N h q B2 S := by
  obtain ⟨l, L, a1, a2, a3, a4, a5, a6⟩ := hp
  exact ⟨l, L, a1, a2, a3, a4, fun x hx => k x ((a6 x).mp hx), a6⟩

theorem listp_1 {N d q t p k : Nat} {o : Int} {h : MH} {B B0 : List Nat} {S : Nat → Prop} (hB : B.length ≤ 16) (hBi : ∀ x, x ∈ B → x ≤ 2147483647) (hBp : ∀ x, prm x → x ∣ Lf p 1 * p → x ∈ B) (hpp : prm p) (p5 : p ≤ 499) (nq : q ≠ t) (nq2 : q ≠ t + 1) (hq : Hd (0, 0, N) h q (eO 4 [vI (p : Int), vI ((p ^ (k + 1) : Nat) : Int), vI o])) (ht : PS N h t B0 S) : Ok mX4_listPrimes (d + 2) 0 0 [vR q, vI 1, vR t] N h (fun r h2 => r = none ∧ PS N h2 t B (fun x => prm x ∧ x ∣ Lf p 1 * p) ∧ ∀ b, b ≠ t → b ≠ t + 1 → h2 b = h b) := by
  refine Ok.of pfX4_listPrimes rfl (Nat.le_of_ble_eq_true rfl) (fun Ls sx => ?_)
  show G mX4_listPrimes (d + 2, 0, 0, Ls, sx) 0 [(0, vR q), (1, vI 1), (2, vR t)] [] (0, 0, N) h _
  have p2 := hpp.1
  have pp : (p : Int) * (p : Int) = ((p * p : Nat) : Int) := (Int.natCast_mul p p).symm
  have ppb : p * p ≤ 249001 := by
    have := Nat.mul_le_mul p5 p5
    omega
  obtain ⟨tl, tL, t1, t2⟩ := id ht
  refine g_aload_n (pc := 0) (r := .inl (some t)) dX4_listPrimes_0 rfl ?_
  refine g_callV0 (pc := 1) (as := []) (b := t) (st := []) lvX4_32 dX4_listPrimes_1 t1 (Nat.le_of_ble_eq_true rfl) (by omega) (Nat.zero_le _) (Nat.zero_le _) (c_psclear (d := d + 1) ht) ?_
  rintro r h3 ⟨rfl, s0, k0⟩
  replace s0 := s0.re (B2 := B) (fun _ z => z.elim)
  have hq_1 := hq.keep (k0 _ nq)
  refine g_iload_n (pc := 4) (x := 1) dX4_listPrimes_4 rfl ?_
  refine g_iconst (pc := 5) dX4_listPrimes_5 ?_
  refine g_icmp_leT (pc := 6) (tgt := 24) dX4_listPrimes_6 (by decide) (by omega) (by omega) (by omega) ?_
  refine g_iload_n (pc := 24) (x := 1) dX4_listPrimes_24 rfl ?_
  refine g_iconst (pc := 25) dX4_listPrimes_25 ?_
  refine g_icmp_leT (pc := 26) (tgt := 49) dX4_listPrimes_26 (by decide) (by omega) (by omega) (by omega) ?_
  refine g_iload_n (pc := 49) (x := 1) dX4_listPrimes_49 rfl ?_
  refine g_iconst (pc := 50) dX4_listPrimes_50 ?_
  refine g_icmp_leT (pc := 51) (tgt := 64) dX4_listPrimes_51 (by decide) (by omega) (by omega) (by omega) ?_
  obtain ⟨tl0, tL0, t1_0, t2_0⟩ := id s0
  refine g_aload_n (pc := 64) (r := .inl (some t)) dX4_listPrimes_64 rfl ?_
  refine g_aload_n (pc := 65) (r := .inl (some q)) dX4_listPrimes_65 rfl ?_
  refine g_getf (pc := 66) (v := vI (p : Int)) flX4_13 dX4_listPrimes_66 hq_1 rfl ?_
  refine g_iconst (pc := 69) dX4_listPrimes_69 ?_
  refine g_isub (pc := 70) dX4_listPrimes_70 ?_
  rw [show (p : Int) - 1 = ((p - 1 : Nat) : Int) by omega]
  refine g_callV0 (pc := 71) (as := [vI ((p - 1 : Nat) : Int)]) (b := t) (st := []) lvX4_37 dX4_listPrimes_71 t1_0 (Nat.le_of_ble_eq_true rfl) (by omega) (Nat.zero_le _) (Nat.zero_le _) (c_addThoseOf (d := d) (nn := p - 1) hB hBi (by omega) (by omega) (fun x x1 x2 => hBp x x1 (lf_1 x2)) s0) ?_
  rintro r h4 ⟨rfl, s1, k1⟩
  have hq_2 := hq_1.keep (k1 _ nq nq2)
  obtain ⟨tl1, tL1, t1_1, t2_1⟩ := id s1
  refine g_aload_n (pc := 74) (r := .inl (some t)) dX4_listPrimes_74 rfl ?_
  refine g_aload_n (pc := 75) (r := .inl (some q)) dX4_listPrimes_75 rfl ?_
  refine g_getf (pc := 76) (v := vI (p : Int)) flX4_13 dX4_listPrimes_76 hq_2 rfl ?_
  refine g_callV0 (pc := 79) (as := [vI (p : Int)]) (b := t) (st := []) lvX4_41 dX4_listPrimes_79 t1_1 (Nat.le_of_ble_eq_true rfl) (by omega) (Nat.zero_le _) (Nat.zero_le _) (c_psadd (d := d + 1) (p := p) hB hBi (hBp p hpp (Nat.dvd_mul_left p _)) s1) ?_
  rintro r h5 ⟨rfl, s2, k2⟩
  refine r_void (pc := 82) dX4_listPrimes_82 rfl rfl (Nat.le_refl _) ⟨rfl, s2.eqv (fun x => ?_), fun b b1 b2 => (k2 b b1 b2).trans ((k1 b b1 b2).trans (k0 b b1))⟩
  by_cases hx : prm x
  · have hd := prm_dvd_prm hx hpp
    unfold Lf
    simp only [Nat.reduceLT, Nat.lt_irrefl, if_true, if_false, Nat.mul_one, prm_dvd_iff hx, hd, hx, true_and, false_or]
    all_goals grind
  · constructor
    · intro z
      exact absurd hpp (fun y => by grind)
    · exact fun z => absurd z.1 hx

theorem listp_2 {N d q t p k : Nat} {o : Int} {h : MH} {B B0 : List Nat} {S : Nat → Prop} (hB : B.length ≤ 16) (hBi : ∀ x, x ∈ B → x ≤ 2147483647) (hBp : ∀ x, prm x → x ∣ Lf p 2 * p → x ∈ B) (hpp : prm p) (p5 : p ≤ 499) (nq : q ≠ t) (nq2 : q ≠ t + 1) (hq : Hd (0, 0, N) h q (eO 4 [vI (p : Int), vI ((p ^ (k + 1) : Nat) : Int), vI o])) (ht : PS N h t B0 S) : Ok mX4_listPrimes (d + 2) 0 0 [vR q, vI 2, vR t] N h (fun r h2 => r = none ∧ PS N h2 t B (fun x => prm x ∧ x ∣ Lf p 2 * p) ∧ ∀ b, b ≠ t → b ≠ t + 1 → h2 b = h b) := by
  refine Ok.of pfX4_listPrimes rfl (Nat.le_of_ble_eq_true rfl) (fun Ls sx => ?_)
  show G mX4_listPrimes (d + 2, 0, 0, Ls, sx) 0 [(0, vR q), (1, vI 2), (2, vR t)] [] (0, 0, N) h _
  have p2 := hpp.1
  have pp : (p : Int) * (p : Int) = ((p * p : Nat) : Int) := (Int.natCast_mul p p).symm
  have ppb : p * p ≤ 249001 := by
    have := Nat.mul_le_mul p5 p5
    omega
  obtain ⟨tl, tL, t1, t2⟩ := id ht
  refine g_aload_n (pc := 0) (r := .inl (some t)) dX4_listPrimes_0 rfl ?_
  refine g_callV0 (pc := 1) (as := []) (b := t) (st := []) lvX4_32 dX4_listPrimes_1 t1 (Nat.le_of_ble_eq_true rfl) (by omega) (Nat.zero_le _) (Nat.zero_le _) (c_psclear (d := d + 1) ht) ?_
  rintro r h3 ⟨rfl, s0, k0⟩
  replace s0 := s0.re (B2 := B) (fun _ z => z.elim)
  have hq_1 := hq.keep (k0 _ nq)
  refine g_iload_n (pc := 4) (x := 2) dX4_listPrimes_4 rfl ?_
  refine g_iconst (pc := 5) dX4_listPrimes_5 ?_
  refine g_icmp_leT (pc := 6) (tgt := 24) dX4_listPrimes_6 (by decide) (by omega) (by omega) (by omega) ?_
  refine g_iload_n (pc := 24) (x := 2) dX4_listPrimes_24 rfl ?_
  refine g_iconst (pc := 25) dX4_listPrimes_25 ?_
  refine g_icmp_leT (pc := 26) (tgt := 49) dX4_listPrimes_26 (by decide) (by omega) (by omega) (by omega) ?_
  refine g_iload_n (pc := 49) (x := 2) dX4_listPrimes_49 rfl ?_
  refine g_iconst (pc := 50) dX4_listPrimes_50 ?_
  refine g_icmp_leF (pc := 51) (tgt := 64) dX4_listPrimes_51 (by decide) (by omega) (by omega) (by omega) ?_
  obtain ⟨tl0, tL0, t1_0, t2_0⟩ := id s0
  refine g_aload_n (pc := 54) (r := .inl (some t)) dX4_listPrimes_54 rfl ?_
  refine g_aload_n (pc := 55) (r := .inl (some q)) dX4_listPrimes_55 rfl ?_
  refine g_getf (pc := 56) (v := vI (p : Int)) flX4_13 dX4_listPrimes_56 hq_1 rfl ?_
  refine g_iconst (pc := 59) dX4_listPrimes_59 ?_
  refine g_iadd (pc := 60) dX4_listPrimes_60 ?_
  rw [show (p : Int) + 1 = ((p + 1 : Nat) : Int) by rfl]
  refine g_callV0 (pc := 61) (as := [vI ((p + 1 : Nat) : Int)]) (b := t) (st := []) lvX4_37 dX4_listPrimes_61 t1_0 (Nat.le_of_ble_eq_true rfl) (by omega) (Nat.zero_le _) (Nat.zero_le _) (c_addThoseOf (d := d) (nn := p + 1) hB hBi (by omega) (by omega) (fun x x1 x2 => hBp x x1 (lf_2 (by omega) x2)) s0) ?_
  rintro r h4 ⟨rfl, s1, k1⟩
  have hq_2 := hq_1.keep (k1 _ nq nq2)
  obtain ⟨tl1, tL1, t1_1, t2_1⟩ := id s1
  refine g_aload_n (pc := 64) (r := .inl (some t)) dX4_listPrimes_64 rfl ?_
  refine g_aload_n (pc := 65) (r := .inl (some q)) dX4_listPrimes_65 rfl ?_
  refine g_getf (pc := 66) (v := vI (p : Int)) flX4_13 dX4_listPrimes_66 hq_2 rfl ?_
  refine g_iconst (pc := 69) dX4_listPrimes_69 ?_
  refine g_isub (pc := 70) dX4_listPrimes_70 ?_
  rw [show (p : Int) - 1 = ((p - 1 : Nat) : Int) by omega]
  refine g_callV0 (pc := 71) (as := [vI ((p - 1 : Nat) : Int)]) (b := t) (st := []) lvX4_37 dX4_listPrimes_71 t1_1 (Nat.le_of_ble_eq_true rfl) (by omega) (Nat.zero_le _) (Nat.zero_le _) (c_addThoseOf (d := d) (nn := p - 1) hB hBi (by omega) (by omega) (fun x x1 x2 => hBp x x1 (lf_1 x2)) s1) ?_
  rintro r h5 ⟨rfl, s2, k2⟩
  have hq_3 := hq_2.keep (k2 _ nq nq2)
  obtain ⟨tl2, tL2, t1_2, t2_2⟩ := id s2
  refine g_aload_n (pc := 74) (r := .inl (some t)) dX4_listPrimes_74 rfl ?_
  refine g_aload_n (pc := 75) (r := .inl (some q)) dX4_listPrimes_75 rfl ?_
  refine g_getf (pc := 76) (v := vI (p : Int)) flX4_13 dX4_listPrimes_76 hq_3 rfl ?_
  refine g_callV0 (pc := 79) (as := [vI (p : Int)]) (b := t) (st := []) lvX4_41 dX4_listPrimes_79 t1_2 (Nat.le_of_ble_eq_true rfl) (by omega) (Nat.zero_le _) (Nat.zero_le _) (c_psadd (d := d + 1) (p := p) hB hBi (hBp p hpp (Nat.dvd_mul_left p _)) s2) ?_
  rintro r h6 ⟨rfl, s3, k3⟩
  refine r_void (pc := 82) dX4_listPrimes_82 rfl rfl (Nat.le_refl _) ⟨rfl, s3.eqv (fun x => ?_), fun b b1 b2 => (k3 b b1 b2).trans ((k2 b b1 b2).trans ((k1 b b1 b2).trans (k0 b b1)))⟩
  by_cases hx : prm x
  · have hd := prm_dvd_prm hx hpp
    unfold Lf
    simp only [Nat.reduceLT, Nat.lt_irrefl, if_true, if_false, Nat.mul_one, prm_dvd_iff hx, hd, hx, true_and, false_or]
    all_goals grind
  · constructor
    · intro z
      exact absurd hpp (fun y => by grind)
    · exact fun z => absurd z.1 hx

theorem listp_3 {N d q t p k : Nat} {o : Int} {h : MH} {B B0 : List Nat} {S : Nat → Prop} (hB : B.length ≤ 16) (hBi : ∀ x, x ∈ B → x ≤ 2147483647) (hBp : ∀ x, prm x → x ∣ Lf p 3 * p → x ∈ B) (hpp : prm p) (p5 : p ≤ 499) (nq : q ≠ t) (nq2 : q ≠ t + 1) (hq : Hd (0, 0, N) h q (eO 4 [vI (p : Int), vI ((p ^ (k + 1) : Nat) : Int), vI o])) (ht : PS N h t B0 S) : Ok mX4_listPrimes (d + 2) 0 0 [vR q, vI 3, vR t] N h (fun r h2 => r = none ∧ PS N h2 t B (fun x => prm x ∧ x ∣ Lf p 3 * p) ∧ ∀ b, b ≠ t → b ≠ t + 1 → h2 b = h b) := by
  refine Ok.of pfX4_listPrimes rfl (Nat.le_of_ble_eq_true rfl) (fun Ls sx => ?_)
  show G mX4_listPrimes (d + 2, 0, 0, Ls, sx) 0 [(0, vR q), (1, vI 3), (2, vR t)] [] (0, 0, N) h _
  have p2 := hpp.1
  have pp : (p : Int) * (p : Int) = ((p * p : Nat) : Int) := (Int.natCast_mul p p).symm
  have ppb : p * p ≤ 249001 := by
    have := Nat.mul_le_mul p5 p5
    omega
  obtain ⟨tl, tL, t1, t2⟩ := id ht
  refine g_aload_n (pc := 0) (r := .inl (some t)) dX4_listPrimes_0 rfl ?_
  refine g_callV0 (pc := 1) (as := []) (b := t) (st := []) lvX4_32 dX4_listPrimes_1 t1 (Nat.le_of_ble_eq_true rfl) (by omega) (Nat.zero_le _) (Nat.zero_le _) (c_psclear (d := d + 1) ht) ?_
  rintro r h3 ⟨rfl, s0, k0⟩
  replace s0 := s0.re (B2 := B) (fun _ z => z.elim)
  have hq_1 := hq.keep (k0 _ nq)
  refine g_iload_n (pc := 4) (x := 3) dX4_listPrimes_4 rfl ?_
  refine g_iconst (pc := 5) dX4_listPrimes_5 ?_
  refine g_icmp_leT (pc := 6) (tgt := 24) dX4_listPrimes_6 (by decide) (by omega) (by omega) (by omega) ?_
  refine g_iload_n (pc := 24) (x := 3) dX4_listPrimes_24 rfl ?_
  refine g_iconst (pc := 25) dX4_listPrimes_25 ?_
  refine g_icmp_leF (pc := 26) (tgt := 49) dX4_listPrimes_26 (by decide) (by omega) (by omega) (by omega) ?_
  obtain ⟨tl0, tL0, t1_0, t2_0⟩ := id s0
  refine g_aload_n (pc := 29) (r := .inl (some t)) dX4_listPrimes_29 rfl ?_
  refine g_aload_n (pc := 30) (r := .inl (some q)) dX4_listPrimes_30 rfl ?_
  refine g_getf (pc := 31) (v := vI (p : Int)) flX4_13 dX4_listPrimes_31 hq_1 rfl ?_
  refine g_aload_n (pc := 34) (r := .inl (some q)) dX4_listPrimes_34 rfl ?_
  refine g_getf (pc := 35) (v := vI (p : Int)) flX4_13 dX4_listPrimes_35 hq_1 rfl ?_
  refine g_imul (pc := 38) dX4_listPrimes_38 ?_
  refine g_aload_n (pc := 39) (r := .inl (some q)) dX4_listPrimes_39 rfl ?_
  refine g_getf (pc := 40) (v := vI (p : Int)) flX4_13 dX4_listPrimes_40 hq_1 rfl ?_
  refine g_iadd (pc := 43) dX4_listPrimes_43 ?_
  refine g_iconst (pc := 44) dX4_listPrimes_44 ?_
  refine g_iadd (pc := 45) dX4_listPrimes_45 ?_
  rw [show (((p : Int) * (p : Int)) + (p : Int)) + 1 = ((p * p + p + 1 : Nat) : Int) by rw [pp]; rfl]
  refine g_callV0 (pc := 46) (as := [vI ((p * p + p + 1 : Nat) : Int)]) (b := t) (st := []) lvX4_37 dX4_listPrimes_46 t1_0 (Nat.le_of_ble_eq_true rfl) (by omega) (Nat.zero_le _) (Nat.zero_le _) (c_addThoseOf (d := d) (nn := p * p + p + 1) hB hBi (by omega) (by omega) (fun x x1 x2 => hBp x x1 (lf_3 (by omega) x2)) s0) ?_
  rintro r h4 ⟨rfl, s1, k1⟩
  have hq_2 := hq_1.keep (k1 _ nq nq2)
  refine g_iload_n (pc := 49) (x := 3) dX4_listPrimes_49 rfl ?_
  refine g_iconst (pc := 50) dX4_listPrimes_50 ?_
  refine g_icmp_leF (pc := 51) (tgt := 64) dX4_listPrimes_51 (by decide) (by omega) (by omega) (by omega) ?_
  obtain ⟨tl1, tL1, t1_1, t2_1⟩ := id s1
  refine g_aload_n (pc := 54) (r := .inl (some t)) dX4_listPrimes_54 rfl ?_
  refine g_aload_n (pc := 55) (r := .inl (some q)) dX4_listPrimes_55 rfl ?_
  refine g_getf (pc := 56) (v := vI (p : Int)) flX4_13 dX4_listPrimes_56 hq_2 rfl ?_
  refine g_iconst (pc := 59) dX4_listPrimes_59 ?_
  refine g_iadd (pc := 60) dX4_listPrimes_60 ?_
  rw [show (p : Int) + 1 = ((p + 1 : Nat) : Int) by rfl]
  refine g_callV0 (pc := 61) (as := [vI ((p + 1 : Nat) : Int)]) (b := t) (st := []) lvX4_37 dX4_listPrimes_61 t1_1 (Nat.le_of_ble_eq_true rfl) (by omega) (Nat.zero_le _) (Nat.zero_le _) (c_addThoseOf (d := d) (nn := p + 1) hB hBi (by omega) (by omega) (fun x x1 x2 => hBp x x1 (lf_2 (by omega) x2)) s1) ?_
  rintro r h5 ⟨rfl, s2, k2⟩
  have hq_3 := hq_2.keep (k2 _ nq nq2)
  obtain ⟨tl2, tL2, t1_2, t2_2⟩ := id s2
  refine g_aload_n (pc := 64) (r := .inl (some t)) dX4_listPrimes_64 rfl ?_
  refine g_aload_n (pc := 65) (r := .inl (some q)) dX4_listPrimes_65 rfl ?_
  refine g_getf (pc := 66) (v := vI (p : Int)) flX4_13 dX4_listPrimes_66 hq_3 rfl ?_
  refine g_iconst (pc := 69) dX4_listPrimes_69 ?_
  refine g_isub (pc := 70) dX4_listPrimes_70 ?_
  rw [show (p : Int) - 1 = ((p - 1 : Nat) : Int) by omega]
  refine g_callV0 (pc := 71) (as := [vI ((p - 1 : Nat) : Int)]) (b := t) (st := []) lvX4_37 dX4_listPrimes_71 t1_2 (Nat.le_of_ble_eq_true rfl) (by omega) (Nat.zero_le _) (Nat.zero_le _) (c_addThoseOf (d := d) (nn := p - 1) hB hBi (by omega) (by omega) (fun x x1 x2 => hBp x x1 (lf_1 x2)) s2) ?_
  rintro r h6 ⟨rfl, s3, k3⟩
  have hq_4 := hq_3.keep (k3 _ nq nq2)
  obtain ⟨tl3, tL3, t1_3, t2_3⟩ := id s3
  refine g_aload_n (pc := 74) (r := .inl (some t)) dX4_listPrimes_74 rfl ?_
  refine g_aload_n (pc := 75) (r := .inl (some q)) dX4_listPrimes_75 rfl ?_
  refine g_getf (pc := 76) (v := vI (p : Int)) flX4_13 dX4_listPrimes_76 hq_4 rfl ?_
  refine g_callV0 (pc := 79) (as := [vI (p : Int)]) (b := t) (st := []) lvX4_41 dX4_listPrimes_79 t1_3 (Nat.le_of_ble_eq_true rfl) (by omega) (Nat.zero_le _) (Nat.zero_le _) (c_psadd (d := d + 1) (p := p) hB hBi (hBp p hpp (Nat.dvd_mul_left p _)) s3) ?_
  rintro r h7 ⟨rfl, s4, k4⟩
  refine r_void (pc := 82) dX4_listPrimes_82 rfl rfl (Nat.le_refl _) ⟨rfl, s4.eqv (fun x => ?_), fun b b1 b2 => (k4 b b1 b2).trans ((k3 b b1 b2).trans ((k2 b b1 b2).trans ((k1 b b1 b2).trans (k0 b b1))))⟩
  by_cases hx : prm x
  · have hd := prm_dvd_prm hx hpp
    unfold Lf
    simp only [Nat.reduceLT, Nat.lt_irrefl, if_true, if_false, Nat.mul_one, prm_dvd_iff hx, hd, hx, true_and, false_or]
    all_goals grind
  · constructor
    · intro z
      exact absurd hpp (fun y => by grind)
    · exact fun z => absurd z.1 hx

theorem listp_4 {N d q t p k : Nat} {o : Int} {h : MH} {B B0 : List Nat} {S : Nat → Prop} (hB : B.length ≤ 16) (hBi : ∀ x, x ∈ B → x ≤ 2147483647) (hBp : ∀ x, prm x → x ∣ Lf p 4 * p → x ∈ B) (hpp : prm p) (p5 : p ≤ 499) (nq : q ≠ t) (nq2 : q ≠ t + 1) (hq : Hd (0, 0, N) h q (eO 4 [vI (p : Int), vI ((p ^ (k + 1) : Nat) : Int), vI o])) (ht : PS N h t B0 S) : Ok mX4_listPrimes (d + 2) 0 0 [vR q, vI 4, vR t] N h (fun r h2 => r = none ∧ PS N h2 t B (fun x => prm x ∧ x ∣ Lf p 4 * p) ∧ ∀ b, b ≠ t → b ≠ t + 1 → h2 b = h b) := by
  refine Ok.of pfX4_listPrimes rfl (Nat.le_of_ble_eq_true rfl) (fun Ls sx => ?_)
  show G mX4_listPrimes (d + 2, 0, 0, Ls, sx) 0 [(0, vR q), (1, vI 4), (2, vR t)] [] (0, 0, N) h _
  have p2 := hpp.1
  have pp : (p : Int) * (p : Int) = ((p * p : Nat) : Int) := (Int.natCast_mul p p).symm
  have ppb : p * p ≤ 249001 := by
    have := Nat.mul_le_mul p5 p5
    omega
  obtain ⟨tl, tL, t1, t2⟩ := id ht
  refine g_aload_n (pc := 0) (r := .inl (some t)) dX4_listPrimes_0 rfl ?_
  refine g_callV0 (pc := 1) (as := []) (b := t) (st := []) lvX4_32 dX4_listPrimes_1 t1 (Nat.le_of_ble_eq_true rfl) (by omega) (Nat.zero_le _) (Nat.zero_le _) (c_psclear (d := d + 1) ht) ?_
  rintro r h3 ⟨rfl, s0, k0⟩
  replace s0 := s0.re (B2 := B) (fun _ z => z.elim)
  have hq_1 := hq.keep (k0 _ nq)
  refine g_iload_n (pc := 4) (x := 4) dX4_listPrimes_4 rfl ?_
  refine g_iconst (pc := 5) dX4_listPrimes_5 ?_
  refine g_icmp_leF (pc := 6) (tgt := 24) dX4_listPrimes_6 (by decide) (by omega) (by omega) (by omega) ?_
  obtain ⟨tl0, tL0, t1_0, t2_0⟩ := id s0
  refine g_aload_n (pc := 9) (r := .inl (some t)) dX4_listPrimes_9 rfl ?_
  refine g_aload_n (pc := 10) (r := .inl (some q)) dX4_listPrimes_10 rfl ?_
  refine g_getf (pc := 11) (v := vI (p : Int)) flX4_13 dX4_listPrimes_11 hq_1 rfl ?_
  refine g_aload_n (pc := 14) (r := .inl (some q)) dX4_listPrimes_14 rfl ?_
  refine g_getf (pc := 15) (v := vI (p : Int)) flX4_13 dX4_listPrimes_15 hq_1 rfl ?_
  refine g_imul (pc := 18) dX4_listPrimes_18 ?_
  refine g_iconst (pc := 19) dX4_listPrimes_19 ?_
  refine g_iadd (pc := 20) dX4_listPrimes_20 ?_
  rw [show ((p : Int) * (p : Int)) + 1 = ((p * p + 1 : Nat) : Int) by rw [pp]; rfl]
  refine g_callV0 (pc := 21) (as := [vI ((p * p + 1 : Nat) : Int)]) (b := t) (st := []) lvX4_37 dX4_listPrimes_21 t1_0 (Nat.le_of_ble_eq_true rfl) (by omega) (Nat.zero_le _) (Nat.zero_le _) (c_addThoseOf (d := d) (nn := p * p + 1) hB hBi (by omega) (by omega) (fun x x1 x2 => hBp x x1 (lf_4 (by omega) x2)) s0) ?_
  rintro r h4 ⟨rfl, s1, k1⟩
  have hq_2 := hq_1.keep (k1 _ nq nq2)
  refine g_iload_n (pc := 24) (x := 4) dX4_listPrimes_24 rfl ?_
  refine g_iconst (pc := 25) dX4_listPrimes_25 ?_
  refine g_icmp_leF (pc := 26) (tgt := 49) dX4_listPrimes_26 (by decide) (by omega) (by omega) (by omega) ?_
  obtain ⟨tl1, tL1, t1_1, t2_1⟩ := id s1
  refine g_aload_n (pc := 29) (r := .inl (some t)) dX4_listPrimes_29 rfl ?_
  refine g_aload_n (pc := 30) (r := .inl (some q)) dX4_listPrimes_30 rfl ?_
  refine g_getf (pc := 31) (v := vI (p : Int)) flX4_13 dX4_listPrimes_31 hq_2 rfl ?_
  refine g_aload_n (pc := 34) (r := .inl (some q)) dX4_listPrimes_34 rfl ?_
  refine g_getf (pc := 35) (v := vI (p : Int)) flX4_13 dX4_listPrimes_35 hq_2 rfl ?_
  refine g_imul (pc := 38) dX4_listPrimes_38 ?_
  refine g_aload_n (pc := 39) (r := .inl (some q)) dX4_listPrimes_39 rfl ?_
  refine g_getf (pc := 40) (v := vI (p : Int)) flX4_13 dX4_listPrimes_40 hq_2 rfl ?_
  refine g_iadd (pc := 43) dX4_listPrimes_43 ?_
  refine g_iconst (pc := 44) dX4_listPrimes_44 ?_
  refine g_iadd (pc := 45) dX4_listPrimes_45 ?_
  rw [show (((p : Int) * (p : Int)) + (p : Int)) + 1 = ((p * p + p + 1 : Nat) : Int) by rw [pp]; rfl]
  refine g_callV0 (pc := 46) (as := [vI ((p * p + p + 1 : Nat) : Int)]) (b := t) (st := []) lvX4_37 dX4_listPrimes_46 t1_1 (Nat.le_of_ble_eq_true rfl) (by omega) (Nat.zero_le _) (Nat.zero_le _) (c_addThoseOf (d := d) (nn := p * p + p + 1) hB hBi (by omega) (by omega) (fun x x1 x2 => hBp x x1 (lf_3 (by omega) x2)) s1) ?_
  rintro r h5 ⟨rfl, s2, k2⟩
  have hq_3 := hq_2.keep (k2 _ nq nq2)
  refine g_iload_n (pc := 49) (x := 4) dX4_listPrimes_49 rfl ?_
  refine g_iconst (pc := 50) dX4_listPrimes_50 ?_
  refine g_icmp_leF (pc := 51) (tgt := 64) dX4_listPrimes_51 (by decide) (by omega) (by omega) (by omega) ?_
  obtain ⟨tl2, tL2, t1_2, t2_2⟩ := id s2
  refine g_aload_n (pc := 54) (r := .inl (some t)) dX4_listPrimes_54 rfl ?_
  refine g_aload_n (pc := 55) (r := .inl (some q)) dX4_listPrimes_55 rfl ?_
  refine g_getf (pc := 56) (v := vI (p : Int)) flX4_13 dX4_listPrimes_56 hq_3 rfl ?_
  refine g_iconst (pc := 59) dX4_listPrimes_59 ?_
  refine g_iadd (pc := 60) dX4_listPrimes_60 ?_
  rw [show (p : Int) + 1 = ((p + 1 : Nat) : Int) by rfl]
  refine g_callV0 (pc := 61) (as := [vI ((p + 1 : Nat) : Int)]) (b := t) (st := []) lvX4_37 dX4_listPrimes_61 t1_2 (Nat.le_of_ble_eq_true rfl) (by omega) (Nat.zero_le _) (Nat.zero_le _) (c_addThoseOf (d := d) (nn := p + 1) hB hBi (by omega) (by omega) (fun x x1 x2 => hBp x x1 (lf_2 (by omega) x2)) s2) ?_
  rintro r h6 ⟨rfl, s3, k3⟩
  have hq_4 := hq_3.keep (k3 _ nq nq2)
  obtain ⟨tl3, tL3, t1_3, t2_3⟩ := id s3
  refine g_aload_n (pc := 64) (r := .inl (some t)) dX4_listPrimes_64 rfl ?_
  refine g_aload_n (pc := 65) (r := .inl (some q)) dX4_listPrimes_65 rfl ?_
  refine g_getf (pc := 66) (v := vI (p : Int)) flX4_13 dX4_listPrimes_66 hq_4 rfl ?_
  refine g_iconst (pc := 69) dX4_listPrimes_69 ?_
  refine g_isub (pc := 70) dX4_listPrimes_70 ?_
  rw [show (p : Int) - 1 = ((p - 1 : Nat) : Int) by omega]
  refine g_callV0 (pc := 71) (as := [vI ((p - 1 : Nat) : Int)]) (b := t) (st := []) lvX4_37 dX4_listPrimes_71 t1_3 (Nat.le_of_ble_eq_true rfl) (by omega) (Nat.zero_le _) (Nat.zero_le _) (c_addThoseOf (d := d) (nn := p - 1) hB hBi (by omega) (by omega) (fun x x1 x2 => hBp x x1 (lf_1 x2)) s3) ?_
  rintro r h7 ⟨rfl, s4, k4⟩
  have hq_5 := hq_4.keep (k4 _ nq nq2)
  obtain ⟨tl4, tL4, t1_4, t2_4⟩ := id s4
  refine g_aload_n (pc := 74) (r := .inl (some t)) dX4_listPrimes_74 rfl ?_
  refine g_aload_n (pc := 75) (r := .inl (some q)) dX4_listPrimes_75 rfl ?_
  refine g_getf (pc := 76) (v := vI (p : Int)) flX4_13 dX4_listPrimes_76 hq_5 rfl ?_
  refine g_callV0 (pc := 79) (as := [vI (p : Int)]) (b := t) (st := []) lvX4_41 dX4_listPrimes_79 t1_4 (Nat.le_of_ble_eq_true rfl) (by omega) (Nat.zero_le _) (Nat.zero_le _) (c_psadd (d := d + 1) (p := p) hB hBi (hBp p hpp (Nat.dvd_mul_left p _)) s4) ?_
  rintro r h8 ⟨rfl, s5, k5⟩
  refine r_void (pc := 82) dX4_listPrimes_82 rfl rfl (Nat.le_refl _) ⟨rfl, s5.eqv (fun x => ?_), fun b b1 b2 => (k5 b b1 b2).trans ((k4 b b1 b2).trans ((k3 b b1 b2).trans ((k2 b b1 b2).trans ((k1 b b1 b2).trans (k0 b b1)))))⟩
  by_cases hx : prm x
  · have hd := prm_dvd_prm hx hpp
    unfold Lf
    simp only [Nat.reduceLT, Nat.lt_irrefl, if_true, if_false, Nat.mul_one, prm_dvd_iff hx, hd, hx, true_and, false_or]
    all_goals grind
  · constructor
    · intro z
      exact absurd hpp (fun y => by grind)
    · exact fun z => absurd z.1 hx

theorem c_listPrimes {N d q t p k n : Nat} {o : Int} {h : MH} {B B0 : List Nat} {S : Nat → Prop} (n1 : 1 ≤ n) (n4 : n ≤ 4) (hB : B.length ≤ 16) (hBi : ∀ x, x ∈ B → x ≤ 2147483647) (hBp : ∀ x, prm x → x ∣ Lf p n * p → x ∈ B) (hpp : prm p) (p5 : p ≤ 499) (nq : q ≠ t) (nq2 : q ≠ t + 1) (hq : Hd (0, 0, N) h q (eO 4 [vI (p : Int), vI ((p ^ (k + 1) : Nat) : Int), vI o])) (ht : PS N h t B0 S) : Ok mX4_listPrimes (d + 2) 0 0 [vR q, vI (n : Int), vR t] N h (fun r h2 => r = none ∧ PS N h2 t B (fun x => prm x ∧ x ∣ Lf p n * p) ∧ ∀ b, b ≠ t → b ≠ t + 1 → h2 b = h b) := by
  have hc : n = 1 ∨ n = 2 ∨ n = 3 ∨ n = 4 := by omega
  rcases hc with rfl | rfl | rfl | rfl
  · exact listp_1 hB hBi hBp hpp p5 nq nq2 hq ht
  · exact listp_2 hB hBi hBp hpp p5 nq nq2 hq ht
  · exact listp_3 hB hBi hBp hpp p5 nq nq2 hq ht
  · exact listp_4 hB hBi hBp hpp p5 nq nq2 hq ht

theorem c_joined {N d q t M : Nat} {p v o old : Int} {h : MH} (ht : 1 ≤ t) (hM : M ≤ 500) (hM0 : 1 ≤ M) (htM : t ∣ M) (hg : Nat.Coprime t (M / t)) (hv : i32 v) (ho : 0 ≤ old ∧ old < M) (hq : Hd (0, 0, N) h q (eO 4 [vI p, vI (t : Int), vI o])) : Ok mX4_joined (d + 3) 0 0 [vR q, vI old, vI v, vI (M : Int)] N h (fun r h2 => h2 = h ∧ ∃ x : Int, r = some (vI x) ∧ 0 ≤ x ∧ x < M ∧ (t : Int) ∣ x - v ∧ ((M / t : Nat) : Int) ∣ x - old) := by
  refine Ok.of pfX4_joined rfl (Nat.le_of_ble_eq_true rfl) (fun Ls sx => ?_)
  show G mX4_joined (d + 3, 0, 0, Ls, sx) 0 [(0, vR q), (1, vI old), (2, vI v), (3, vI (M : Int))] [] (0, 0, N) h _
  have t5 := Nat.le_of_dvd hM0 htM
  have ed := tdivN (rfl : (M : Int) = (M : Int)) (rfl : (t : Int) = (t : Int))
  have mt := Nat.mul_div_cancel' htM
  have m5 : M / t ≤ 500 := Nat.le_trans (Nat.div_le_self _ _) hM
  generalize M / t = u at *
  refine g_aload_n (pc := 0) (r := .inl (some q)) dX4_joined_0 rfl ?_
  refine g_getf (pc := 1) (v := vI (t : Int)) flX4_7 dX4_joined_1 hq rfl ?_
  refine g_iconst (pc := 4) dX4_joined_4 ?_
  refine g_icmp_geT (pc := 5) (tgt := 10) dX4_joined_5 (by decide) (by omega) (by omega) (by omega) ?_
  refine g_iload_n (pc := 10) (x := (M : Int)) dX4_joined_10 rfl ?_
  refine g_aload_n (pc := 11) (r := .inl (some q)) dX4_joined_11 rfl ?_
  refine g_getf (pc := 12) (v := vI (t : Int)) flX4_7 dX4_joined_12 hq rfl ?_
  refine g_idiv (pc := 15) dX4_joined_15 (by omega) (by omega) (by omega) ?_
  refine g_istore (pc := 16) (lo2 := [(0, vR q), (1, vI old), (2, vI v), (3, vI (M : Int)), (4, vI ((M : Int).tdiv (t : Int)))]) dX4_joined_16 (by decide) rfl ?_
  refine g_iload_n (pc := 18) (x := v) dX4_joined_18 rfl ?_
  refine g_i2l (pc := 19) dX4_joined_19 (by omega) ?_
  refine g_iload_n (pc := 20) (x := old) dX4_joined_20 rfl ?_
  refine g_i2l (pc := 21) dX4_joined_21 (by omega) ?_
  refine g_lsub (pc := 22) dX4_joined_22 ?_
  refine g_aload_n (pc := 23) (r := .inl (some q)) dX4_joined_23 rfl ?_
  refine g_getf (pc := 24) (v := vI (t : Int)) flX4_7 dX4_joined_24 hq rfl ?_
  rw [ed]
  refine g_callS0 (pc := 27) (as := [vJ (v - old), vI (t : Int)]) (st := []) lsX4_22 dX4_joined_27 (Nat.le_of_ble_eq_true rfl) (by omega) (Nat.zero_le _) (Nat.zero_le _) (c_restOf (d := d + 1) (by omega) (by omega) (by omega)) ?_
  rintro r h2 ⟨e9, rfl⟩
  subst e9
  have g0 := Int.emod_nonneg (v - old) (show (t : Int) ≠ 0 by omega)
  have g1 := Int.emod_lt_of_pos (v - old) (show (0 : Int) < t by omega)
  refine g_istore (pc := 30) (lo2 := [(0, vR q), (1, vI old), (2, vI v), (3, vI (M : Int)), (4, vI (u : Int)), (5, vI ((v - old) % (t : Int)))]) dX4_joined_30 (by decide) rfl ?_
  refine g_iload (pc := 32) (x := (v - old) % (t : Int)) dX4_joined_32 rfl ?_
  refine g_i2l (pc := 34) dX4_joined_34 (by omega) ?_
  refine g_iload (pc := 35) (x := (u : Int)) dX4_joined_35 rfl ?_
  refine g_aload_n (pc := 37) (r := .inl (some q)) dX4_joined_37 rfl ?_
  refine g_getf (pc := 38) (v := vI (t : Int)) flX4_7 dX4_joined_38 hq rfl ?_
  refine g_callS0 (pc := 41) (as := [vI (u : Int), vI (t : Int)]) (st := [vJ ((v - old) % (t : Int))]) lsX4_28 dX4_joined_41 (Nat.le_of_ble_eq_true rfl) (by omega) (Nat.zero_le _) (Nat.zero_le _) (c_inverse (d := d) (by omega) (by omega) (by omega)) ?_
  rintro r h2 ⟨e9, y, e8, y1, y2⟩
  subst e9
  subst e8
  have hgu : Nat.gcd t (((u : Nat) : Int) % (t : Int)).toNat = 1 := by
    rw [show ((u : Int) % (t : Int)) = ((u % t : Nat) : Int) from rfl, Int.toNat_natCast]
    have := Nat.gcd_rec t u
    rw [Nat.gcd_comm (u % t) t] at this
    rw [← this]
    exact hg
  obtain ⟨ya, yb, yc⟩ := y1 hgu
  have z1 := mul_bd (A := 500) (B := 500) (show -500 ≤ (v - old) % (t : Int) ∧ (v - old) % (t : Int) ≤ 500 by omega) (show -500 ≤ y ∧ y ≤ 500 by omega)
  refine g_i2l (pc := 44) dX4_joined_44 (by omega) ?_
  refine g_lmul (pc := 45) dX4_joined_45 ?_
  refine g_aload_n (pc := 46) (r := .inl (some q)) dX4_joined_46 rfl ?_
  refine g_getf (pc := 47) (v := vI (t : Int)) flX4_7 dX4_joined_47 hq rfl ?_
  refine g_callS0 (pc := 50) (as := [vJ (((v - old) % (t : Int)) * y), vI (t : Int)]) (st := []) lsX4_22 dX4_joined_50 (Nat.le_of_ble_eq_true rfl) (by omega) (Nat.zero_le _) (Nat.zero_le _) (c_restOf (d := d + 1) (by omega) (by omega) (by omega)) ?_
  rintro r h2 ⟨e9, rfl⟩
  subst e9
  have k0 := Int.emod_nonneg ((v - old) % (t : Int) * y) (show (t : Int) ≠ 0 by omega)
  have k1 := Int.emod_lt_of_pos ((v - old) % (t : Int) * y) (show (0 : Int) < t by omega)
  have z2 := mul_bd (A := 500) (B := 500) (show -500 ≤ (u : Int) ∧ (u : Int) ≤ 500 by omega) (show -500 ≤ ((v - old) % (t : Int) * y) % (t : Int) ∧ ((v - old) % (t : Int) * y) % (t : Int) ≤ 500 by omega)
  refine g_istore (pc := 53) (lo2 := [(0, vR q), (1, vI old), (2, vI v), (3, vI (M : Int)), (4, vI (u : Int)), (5, vI ((v - old) % (t : Int))), (6, vI (((v - old) % (t : Int) * y) % (t : Int)))]) dX4_joined_53 (by decide) rfl ?_
  refine g_iload_n (pc := 55) (x := old) dX4_joined_55 rfl ?_
  refine g_i2l (pc := 56) dX4_joined_56 (by omega) ?_
  refine g_iload (pc := 57) (x := (u : Int)) dX4_joined_57 rfl ?_
  refine g_i2l (pc := 59) dX4_joined_59 (by omega) ?_
  refine g_iload (pc := 60) (x := ((v - old) % (t : Int) * y) % (t : Int)) dX4_joined_60 rfl ?_
  refine g_i2l (pc := 62) dX4_joined_62 (by omega) ?_
  refine g_lmul (pc := 63) dX4_joined_63 ?_
  refine g_ladd (pc := 64) dX4_joined_64 ?_
  refine g_iload_n (pc := 65) (x := (M : Int)) dX4_joined_65 rfl ?_
  refine g_callS0 (pc := 66) (as := [vJ (old + ((u : Int) * (((v - old) % (t : Int) * y) % (t : Int)))), vI (M : Int)]) (st := []) lsX4_22 dX4_joined_66 (Nat.le_of_ble_eq_true rfl) (by omega) (Nat.zero_le _) (Nat.zero_le _) (c_restOf (d := d + 1) (by omega) (by omega) (by omega)) ?_
  rintro r h2 ⟨e9, rfl⟩
  subst e9
  refine r_int (pc := 69) dX4_joined_69 rfl rfl (Nat.le_refl _) ⟨rfl, _, rfl, Int.emod_nonneg _ (by omega), Int.emod_lt_of_pos _ (by omega), ?_, ?_⟩
  · have a1 := Int.mul_ediv_add_emod (old + (u : Int) * (((v - old) % (t : Int) * y) % (t : Int))) (M : Int)
    have a2 := Int.mul_ediv_add_emod ((v - old) % (t : Int) * y) (t : Int)
    have a3 := Int.mul_ediv_add_emod (v - old) (t : Int)
    obtain ⟨c, hc⟩ := yc
    have hmt : (M : Int) = (t : Int) * (u : Int) := by rw [← mt, Int.natCast_mul]
    generalize (old + (u : Int) * (((v - old) % (t : Int) * y) % (t : Int))) / (M : Int) = s1 at *
    generalize (old + (u : Int) * (((v - old) % (t : Int) * y) % (t : Int))) % (M : Int) = s2 at *
    generalize ((v - old) % (t : Int) * y) / (t : Int) = s3 at *
    generalize ((v - old) % (t : Int) * y) % (t : Int) = s4 at *
    generalize (v - old) / (t : Int) = s5 at *
    generalize (v - old) % (t : Int) = s6 at *
    refine ⟨s6 * c - (u : Int) * s3 - s5 - (u : Int) * s1, ?_⟩
    grind
  · have a1 := Int.mul_ediv_add_emod (old + (u : Int) * (((v - old) % (t : Int) * y) % (t : Int))) (M : Int)
    have hmt : (M : Int) = (t : Int) * (u : Int) := by rw [← mt, Int.natCast_mul]
    generalize (old + (u : Int) * (((v - old) % (t : Int) * y) % (t : Int))) / (M : Int) = s1 at *
    generalize (old + (u : Int) * (((v - old) % (t : Int) * y) % (t : Int))) % (M : Int) = s2 at *
    generalize ((v - old) % (t : Int) * y) % (t : Int) = s4 at *
    refine ⟨s4 - (t : Int) * s1, ?_⟩
    grind
