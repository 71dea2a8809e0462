/-! ===== common divisors ===== -/
theorem mod_half {y r : Nat} (h0 : 0 < r) (h : r < y) : 2 * (y % r) < y := by
  have h1 := Nat.mod_lt y h0
  by_cases hr : 2 * r ≤ y
  · omega
  · rw [Nat.mod_eq_sub_mod (Nat.le_of_lt h), Nat.mod_eq_of_lt (by omega)]
    omega
theorem gcd_step (x y : Nat) : Nat.gcd y (x % y) = Nat.gcd x y := by
  rw [Nat.gcd_comm y, ← Nat.gcd_rec, Nat.gcd_comm]
theorem tmodN {x y : Nat} {a b : Int} (ha : a = (x : Int)) (hb : b = (y : Int)) : a.tmod b = ((x % y : Nat) : Int) := by
  subst ha
  subst hb
  exact Int.tmod_eq_emod_of_nonneg (by omega)
theorem tdivN {x y : Nat} {a b : Int} (ha : a = (x : Int)) (hb : b = (y : Int)) : a.tdiv b = ((x / y : Nat) : Int) := by
  subst ha
  subst hb
  exact Int.tdiv_eq_ediv_of_nonneg (by omega)

theorem common_l {κ : KX} {N : Nat} {h : MH} {a b : Int} {P : Option MV → MH → Prop} : ∀ (y x : Nat) (xx yy : Int), xx = (x : Int) → yy = (y : Int) → x ≤ 2147483647 → y ≤ 2147483647 → P (some (vI ((Nat.gcd x y : Nat) : Int))) h → G mX11_common κ 4 [(0, vI a), (1, vI b), (2, vI xx), (3, vI yy)] [] (0, 0, N) h (Pq mX11_common 0 0 P) := by
  intro y
  induction y using Nat.strongRecOn with
  | ind y ih =>
    intro x xx yy ex ey bx by_ hP
    by_cases h0 : y = 0
    · rw [h0, Nat.gcd_zero_right] at hP
      refine g_iload_n (pc := 4) (x := yy) dX11_common_4 rfl ?_
      refine g_if_leT (pc := 5) (tgt := 21) dX11_common_5 (by decide) (by omega) (by omega) ?_
      refine g_iload_n (pc := 21) (x := xx) dX11_common_21 rfl ?_
      rw [ex]
      exact r_int (pc := 22) dX11_common_22 rfl rfl (Nat.le_refl _) hP
    · have hl := Nat.mod_lt x (Nat.pos_of_ne_zero h0)
      have em := tmodN ex ey
      refine g_iload_n (pc := 4) (x := yy) dX11_common_4 rfl ?_
      refine g_if_leF (pc := 5) (tgt := 21) dX11_common_5 (by decide) (by omega) (by omega) ?_
      refine g_iload_n (pc := 8) (x := xx) dX11_common_8 rfl ?_
      refine g_iload_n (pc := 9) (x := yy) dX11_common_9 rfl ?_
      refine g_irem (pc := 10) dX11_common_10 (by omega) (by omega) (by omega) ?_
      refine g_istore (pc := 11) (lo2 := [(0, vI a), (1, vI b), (2, vI xx), (3, vI yy), (4, vI (xx.tmod yy))]) dX11_common_11 (by decide) rfl ?_
      refine g_iload_n (pc := 13) (x := yy) dX11_common_13 rfl ?_
      refine g_istore_n (pc := 14) (lo2 := [(0, vI a), (1, vI b), (2, vI yy), (3, vI yy), (4, vI (xx.tmod yy))]) dX11_common_14 (by decide) rfl ?_
      refine g_iload (pc := 15) (x := xx.tmod yy) dX11_common_15 rfl ?_
      refine g_istore_n (pc := 17) (lo2 := [(0, vI a), (1, vI b), (2, vI yy), (3, vI (xx.tmod yy)), (4, vI (xx.tmod yy))]) dX11_common_17 (by decide) rfl ?_
      refine g_goto (pc := 18) (tgt := 4) dX11_common_18 (by decide) ?_
      refine g_pick [0, 1, 2, 3] (lo2 := [(0, vI a), (1, vI b), (2, vI yy), (3, vI (xx.tmod yy))]) rfl ?_
      exact ih (x % y) hl y _ _ ey em by_ (by omega) (by rw [gcd_step]; exact hP)

theorem c_common {N d : Nat} {h : MH} {x y : Nat} (hx : x ≤ 2147483647) (hy : y ≤ 2147483647) : Ok mX11_common d 0 0 [vI (x : Int), vI (y : Int)] N h (fun r h2 => h2 = h ∧ r = some (vI ((Nat.gcd x y : Nat) : Int))) := by
  refine Ok.of pfX11_common rfl (Nat.le_of_ble_eq_true rfl) (fun Ls sx => ?_)
  show G mX11_common (d, 0, 0, Ls, sx) 0 [(0, vI (x : Int)), (1, vI (y : Int))] [] (0, 0, N) h _
  refine g_iload_n (pc := 0) (x := (x : Int)) dX11_common_0 rfl ?_
  refine g_istore_n (pc := 1) (lo2 := [(0, vI (x : Int)), (1, vI (y : Int)), (2, vI (x : Int))]) dX11_common_1 (by decide) rfl ?_
  refine g_iload_n (pc := 2) (x := (y : Int)) dX11_common_2 rfl ?_
  refine g_istore_n (pc := 3) (lo2 := [(0, vI (x : Int)), (1, vI (y : Int)), (2, vI (x : Int)), (3, vI (y : Int))]) dX11_common_3 (by decide) rfl ?_
  exact common_l y x _ _ rfl rfl hx hy ⟨rfl, rfl⟩

theorem commonOf_l {κ : KX} {N : Nat} {h : MH} {a b : Int} {P : Option MV → MH → Prop} : ∀ (y x : Nat) (xx yy : Int), xx = (x : Int) → yy = (y : Int) → x ≤ 9223372036854775807 → y ≤ 9223372036854775807 → P (some (vJ ((Nat.gcd x y : Nat) : Int))) h → G mX11_commonOf κ 6 [(0, vJ a), (2, vJ b), (4, vJ xx), (6, vJ yy)] [] (0, 0, N) h (Pq mX11_commonOf 0 0 P) := by
  intro y
  induction y using Nat.strongRecOn with
  | ind y ih =>
    intro x xx yy ex ey bx by_ hP
    by_cases h0 : y = 0
    · rw [h0, Nat.gcd_zero_right] at hP
      refine g_lload (pc := 6) (x := yy) dX11_commonOf_6 rfl ?_
      refine g_lconst0 (pc := 8) dX11_commonOf_8 ?_
      refine g_lif_leT (pc := 9) (tgt := 31) dX11_commonOf_9 dX11_commonOf_10 (by decide) (by omega) (by omega) (by omega) ?_
      refine g_lload (pc := 31) (x := xx) dX11_commonOf_31 rfl ?_
      rw [ex]
      exact r_long (pc := 33) dX11_commonOf_33 rfl rfl (Nat.le_refl _) hP
    · have hl := Nat.mod_lt x (Nat.pos_of_ne_zero h0)
      have em := tmodN ex ey
      refine g_lload (pc := 6) (x := yy) dX11_commonOf_6 rfl ?_
      refine g_lconst0 (pc := 8) dX11_commonOf_8 ?_
      refine g_lif_leF (pc := 9) (tgt := 31) dX11_commonOf_9 dX11_commonOf_10 (by decide) (by omega) (by omega) (by omega) ?_
      refine g_lload (pc := 13) (x := xx) dX11_commonOf_13 rfl ?_
      refine g_lload (pc := 15) (x := yy) dX11_commonOf_15 rfl ?_
      refine g_lrem (pc := 17) dX11_commonOf_17 (by omega) (by omega) (by omega) ?_
      refine g_lstore (pc := 18) (lo2 := [(0, vJ a), (2, vJ b), (4, vJ xx), (6, vJ yy), (8, vJ (xx.tmod yy))]) dX11_commonOf_18 (by decide) rfl ?_
      refine g_lload (pc := 20) (x := yy) dX11_commonOf_20 rfl ?_
      refine g_lstore (pc := 22) (lo2 := [(0, vJ a), (2, vJ b), (4, vJ yy), (6, vJ yy), (8, vJ (xx.tmod yy))]) dX11_commonOf_22 (by decide) rfl ?_
      refine g_lload (pc := 24) (x := xx.tmod yy) dX11_commonOf_24 rfl ?_
      refine g_lstore (pc := 26) (lo2 := [(0, vJ a), (2, vJ b), (4, vJ yy), (6, vJ (xx.tmod yy)), (8, vJ (xx.tmod yy))]) dX11_commonOf_26 (by decide) rfl ?_
      refine g_goto (pc := 28) (tgt := 6) dX11_commonOf_28 (by decide) ?_
      refine g_pick [0, 1, 2, 3] (lo2 := [(0, vJ a), (2, vJ b), (4, vJ yy), (6, vJ (xx.tmod yy))]) rfl ?_
      exact ih (x % y) hl y _ _ ey em by_ (by omega) (by rw [gcd_step]; exact hP)

theorem c_commonOf {N d : Nat} {h : MH} {x y : Nat} (hx : x ≤ 9223372036854775807) (hy : y ≤ 9223372036854775807) : Ok mX11_commonOf d 0 0 [vJ (x : Int), vJ (y : Int)] N h (fun r h2 => h2 = h ∧ r = some (vJ ((Nat.gcd x y : Nat) : Int))) := by
  refine Ok.of pfX11_commonOf rfl (Nat.le_of_ble_eq_true rfl) (fun Ls sx => ?_)
  show G mX11_commonOf (d, 0, 0, Ls, sx) 0 [(0, vJ (x : Int)), (2, vJ (y : Int))] [] (0, 0, N) h _
  refine g_lload_n (pc := 0) (x := (x : Int)) dX11_commonOf_0 rfl ?_
  refine g_lstore (pc := 1) (lo2 := [(0, vJ (x : Int)), (2, vJ (y : Int)), (4, vJ (x : Int))]) dX11_commonOf_1 (by decide) rfl ?_
  refine g_lload_n (pc := 3) (x := (y : Int)) dX11_commonOf_3 rfl ?_
  refine g_lstore (pc := 4) (lo2 := [(0, vJ (x : Int)), (2, vJ (y : Int)), (4, vJ (x : Int)), (6, vJ (y : Int))]) dX11_commonOf_4 (by decide) rfl ?_
  exact commonOf_l y x _ _ rfl rfl hx hy ⟨rfl, rfl⟩

theorem c_together {N d : Nat} {h : MH} {x y : Nat} (hx : x ≤ 9223372036854775807) (hy : y ≤ 9223372036854775807) (h0 : 0 < x) : Ok mX11_together (d + 1) 0 0 [vJ (x : Int), vJ (y : Int)] N h (fun r h2 => h2 = h ∧ r = some (vJ ((x / Nat.gcd x y * y : Nat) : Int))) := by
  refine Ok.of pfX11_together rfl (Nat.le_of_ble_eq_true rfl) (fun Ls sx => ?_)
  show G mX11_together (d + 1, 0, 0, Ls, sx) 0 [(0, vJ (x : Int)), (2, vJ (y : Int))] [] (0, 0, N) h _
  refine g_lload_n (pc := 0) (x := (x : Int)) dX11_together_0 rfl ?_
  refine g_lload_n (pc := 1) (x := (x : Int)) dX11_together_1 rfl ?_
  refine g_lload_n (pc := 2) (x := (y : Int)) dX11_together_2 rfl ?_
  refine g_callS0 (pc := 3) (as := [vJ (x : Int), vJ (y : Int)]) (st := [vJ (x : Int)]) lsX11_180 dX11_together_3 (Nat.le_of_ble_eq_true rfl) (by omega) (Nat.zero_le _) (Nat.zero_le _) (c_commonOf (d := d) hx hy) ?_
  rintro r h2 ⟨rfl, rfl⟩
  have g1 := Nat.gcd_le_left y h0
  have g0 := Nat.gcd_pos_of_pos_left y h0
  have ed : (x : Int).tdiv ((Nat.gcd x y : Nat) : Int) = ((x / Nat.gcd x y : Nat) : Int) := tdivN rfl rfl
  refine g_ldiv (pc := 6) dX11_together_6 (by omega) (by omega) (by omega) ?_
  refine g_lload_n (pc := 7) (x := (y : Int)) dX11_together_7 rfl ?_
  refine g_lmul (pc := 8) dX11_together_8 ?_
  rw [ed]
  exact r_long (pc := 9) dX11_together_9 rfl rfl (Nat.le_refl _) ⟨rfl, by rw [Int.natCast_mul]⟩

theorem cd_l {κ : KX} {N : Nat} {h : MH} {a b : Int} {P : Option MV → MH → Prop} : ∀ (k x y : Nat) (xx yy xi : Int), xx = (x : Int) → yy = (y : Int) → x ≤ 9223372036854775807 → y < 2 ^ k → y ≤ 9223372036854775807 → 0 ≤ xi → xi + 2 * k ≤ 127 → P (some (vJ ((Nat.gcd x y : Nat) : Int))) h → G mX3_commonDivisor κ 9 [(0, vJ a), (2, vJ b), (4, vJ xx), (6, vJ yy), (8, vI xi)] [] (0, 0, N) h (Pq mX3_commonDivisor 0 0 P) := by
  intro k
  induction k with
  | zero =>
    intro x y xx yy xi ex ey bx hy by_ i0 i1 hP
    have y0 : y = 0 := by omega
    rw [y0, Nat.gcd_zero_right] at hP
    refine g_iload (pc := 9) (x := xi) dX3_commonDivisor_9 rfl ?_
    refine g_sipush (pc := 11) dX3_commonDivisor_11 (by decide +kernel) ?_
    refine g_icmp_geF (pc := 14) (tgt := 45) dX3_commonDivisor_14 (by decide) (by omega) (by omega) (by omega) ?_
    refine g_lload (pc := 17) (x := yy) dX3_commonDivisor_17 rfl ?_
    refine g_lconst0 (pc := 19) dX3_commonDivisor_19 ?_
    refine g_lif_eqT (pc := 20) (tgt := 45) dX3_commonDivisor_20 dX3_commonDivisor_21 (by decide) (by omega) (by omega) (by omega) ?_
    refine g_lload (pc := 45) (x := xx) dX3_commonDivisor_45 rfl ?_
    rw [ex]
    exact r_long (pc := 47) dX3_commonDivisor_47 rfl rfl (Nat.le_refl _) hP
  | succ k ih =>
    intro x y xx yy xi ex ey bx hy by_ i0 i1 hP
    by_cases y0 : y = 0
    · rw [y0, Nat.gcd_zero_right] at hP
      refine g_iload (pc := 9) (x := xi) dX3_commonDivisor_9 rfl ?_
      refine g_sipush (pc := 11) dX3_commonDivisor_11 (by decide +kernel) ?_
      refine g_icmp_geF (pc := 14) (tgt := 45) dX3_commonDivisor_14 (by decide) (by omega) (by omega) (by omega) ?_
      refine g_lload (pc := 17) (x := yy) dX3_commonDivisor_17 rfl ?_
      refine g_lconst0 (pc := 19) dX3_commonDivisor_19 ?_
      refine g_lif_eqT (pc := 20) (tgt := 45) dX3_commonDivisor_20 dX3_commonDivisor_21 (by decide) (by omega) (by omega) (by omega) ?_
      refine g_lload (pc := 45) (x := xx) dX3_commonDivisor_45 rfl ?_
      rw [ex]
      exact r_long (pc := 47) dX3_commonDivisor_47 rfl rfl (Nat.le_refl _) hP
    · have hl := Nat.mod_lt x (Nat.pos_of_ne_zero y0)
      have em := tmodN ex ey
      have ep : 2 ^ (k + 1) = 2 * 2 ^ k := by rw [Nat.pow_succ, Nat.mul_comm]
      refine g_iload (pc := 9) (x := xi) dX3_commonDivisor_9 rfl ?_
      refine g_sipush (pc := 11) dX3_commonDivisor_11 (by decide +kernel) ?_
      refine g_icmp_geF (pc := 14) (tgt := 45) dX3_commonDivisor_14 (by decide) (by omega) (by omega) (by omega) ?_
      refine g_lload (pc := 17) (x := yy) dX3_commonDivisor_17 rfl ?_
      refine g_lconst0 (pc := 19) dX3_commonDivisor_19 ?_
      refine g_lif_eqF (pc := 20) (tgt := 45) dX3_commonDivisor_20 dX3_commonDivisor_21 (by decide) (by omega) (by omega) (by omega) ?_
      refine g_lload (pc := 24) (x := xx) dX3_commonDivisor_24 rfl ?_
      refine g_lload (pc := 26) (x := yy) dX3_commonDivisor_26 rfl ?_
      refine g_lrem (pc := 28) dX3_commonDivisor_28 (by omega) (by omega) (by omega) ?_
      refine g_lstore (pc := 29) (lo2 := [(0, vJ a), (2, vJ b), (4, vJ xx), (6, vJ yy), (8, vI xi), (9, vJ (xx.tmod yy))]) dX3_commonDivisor_29 (by decide) rfl ?_
      refine g_lload (pc := 31) (x := yy) dX3_commonDivisor_31 rfl ?_
      refine g_lstore (pc := 33) (lo2 := [(0, vJ a), (2, vJ b), (4, vJ yy), (6, vJ yy), (8, vI xi), (9, vJ (xx.tmod yy))]) dX3_commonDivisor_33 (by decide) rfl ?_
      refine g_lload (pc := 35) (x := xx.tmod yy) dX3_commonDivisor_35 rfl ?_
      refine g_lstore (pc := 37) (lo2 := [(0, vJ a), (2, vJ b), (4, vJ yy), (6, vJ (xx.tmod yy)), (8, vI xi), (9, vJ (xx.tmod yy))]) dX3_commonDivisor_37 (by decide) rfl ?_
      refine g_iinc (pc := 39) (x := xi) (lo2 := [(0, vJ a), (2, vJ b), (4, vJ yy), (6, vJ (xx.tmod yy)), (8, vI (xi + 1)), (9, vJ (xx.tmod yy))]) dX3_commonDivisor_39 rfl (by decide) rfl ?_
      refine g_goto (pc := 42) (tgt := 9) dX3_commonDivisor_42 (by decide) ?_
      refine g_pick [0, 1, 2, 3, 4] (lo2 := [(0, vJ a), (2, vJ b), (4, vJ yy), (6, vJ (xx.tmod yy)), (8, vI (xi + 1))]) rfl ?_
      rw [← gcd_step] at hP
      by_cases r0 : x % y = 0
      · rw [r0, Nat.gcd_zero_right] at hP
        refine g_iload (pc := 9) (x := xi + 1) dX3_commonDivisor_9 rfl ?_
        refine g_sipush (pc := 11) dX3_commonDivisor_11 (by decide +kernel) ?_
        refine g_icmp_geF (pc := 14) (tgt := 45) dX3_commonDivisor_14 (by decide) (by omega) (by omega) (by omega) ?_
        refine g_lload (pc := 17) (x := xx.tmod yy) dX3_commonDivisor_17 rfl ?_
        refine g_lconst0 (pc := 19) dX3_commonDivisor_19 ?_
        refine g_lif_eqT (pc := 20) (tgt := 45) dX3_commonDivisor_20 dX3_commonDivisor_21 (by decide) (by omega) (by omega) (by omega) ?_
        refine g_lload (pc := 45) (x := yy) dX3_commonDivisor_45 rfl ?_
        rw [ey]
        exact r_long (pc := 47) dX3_commonDivisor_47 rfl rfl (Nat.le_refl _) hP
      · have hl2 := Nat.mod_lt y (Nat.pos_of_ne_zero r0)
        have em2 := tmodN ey em
        have hh := mod_half (Nat.pos_of_ne_zero r0) hl
        refine g_iload (pc := 9) (x := xi + 1) dX3_commonDivisor_9 rfl ?_
        refine g_sipush (pc := 11) dX3_commonDivisor_11 (by decide +kernel) ?_
        refine g_icmp_geF (pc := 14) (tgt := 45) dX3_commonDivisor_14 (by decide) (by omega) (by omega) (by omega) ?_
        refine g_lload (pc := 17) (x := xx.tmod yy) dX3_commonDivisor_17 rfl ?_
        refine g_lconst0 (pc := 19) dX3_commonDivisor_19 ?_
        refine g_lif_eqF (pc := 20) (tgt := 45) dX3_commonDivisor_20 dX3_commonDivisor_21 (by decide) (by omega) (by omega) (by omega) ?_
        refine g_lload (pc := 24) (x := yy) dX3_commonDivisor_24 rfl ?_
        refine g_lload (pc := 26) (x := xx.tmod yy) dX3_commonDivisor_26 rfl ?_
        refine g_lrem (pc := 28) dX3_commonDivisor_28 (by omega) (by omega) (by omega) ?_
        refine g_lstore (pc := 29) (lo2 := [(0, vJ a), (2, vJ b), (4, vJ yy), (6, vJ (xx.tmod yy)), (8, vI (xi + 1)), (9, vJ (yy.tmod (xx.tmod yy)))]) dX3_commonDivisor_29 (by decide) rfl ?_
        refine g_lload (pc := 31) (x := xx.tmod yy) dX3_commonDivisor_31 rfl ?_
        refine g_lstore (pc := 33) (lo2 := [(0, vJ a), (2, vJ b), (4, vJ (xx.tmod yy)), (6, vJ (xx.tmod yy)), (8, vI (xi + 1)), (9, vJ (yy.tmod (xx.tmod yy)))]) dX3_commonDivisor_33 (by decide) rfl ?_
        refine g_lload (pc := 35) (x := yy.tmod (xx.tmod yy)) dX3_commonDivisor_35 rfl ?_
        refine g_lstore (pc := 37) (lo2 := [(0, vJ a), (2, vJ b), (4, vJ (xx.tmod yy)), (6, vJ (yy.tmod (xx.tmod yy))), (8, vI (xi + 1)), (9, vJ (yy.tmod (xx.tmod yy)))]) dX3_commonDivisor_37 (by decide) rfl ?_
        refine g_iinc (pc := 39) (x := xi + 1) (lo2 := [(0, vJ a), (2, vJ b), (4, vJ (xx.tmod yy)), (6, vJ (yy.tmod (xx.tmod yy))), (8, vI (xi + 1 + 1)), (9, vJ (yy.tmod (xx.tmod yy)))]) dX3_commonDivisor_39 rfl (by decide) rfl ?_
        refine g_goto (pc := 42) (tgt := 9) dX3_commonDivisor_42 (by decide) ?_
        refine g_pick [0, 1, 2, 3, 4] (lo2 := [(0, vJ a), (2, vJ b), (4, vJ (xx.tmod yy)), (6, vJ (yy.tmod (xx.tmod yy))), (8, vI (xi + 1 + 1))]) rfl ?_
        exact ih (x % y) (y % (x % y)) _ _ _ em em2 (by omega) (by omega) (by omega) (by omega) (by omega) (by rw [gcd_step]; exact hP)

theorem c_commonDivisor {N d : Nat} {h : MH} {x y : Nat} (hx : x ≤ 9223372036854775807) (hy : y ≤ 9223372036854775807) : Ok mX3_commonDivisor d 0 0 [vJ (x : Int), vJ (y : Int)] N h (fun r h2 => h2 = h ∧ r = some (vJ ((Nat.gcd x y : Nat) : Int))) := by
  refine Ok.of pfX3_commonDivisor rfl (Nat.le_of_ble_eq_true rfl) (fun Ls sx => ?_)
  show G mX3_commonDivisor (d, 0, 0, Ls, sx) 0 [(0, vJ (x : Int)), (2, vJ (y : Int))] [] (0, 0, N) h _
  refine g_lload_n (pc := 0) (x := (x : Int)) dX3_commonDivisor_0 rfl ?_
  refine g_lstore (pc := 1) (lo2 := [(0, vJ (x : Int)), (2, vJ (y : Int)), (4, vJ (x : Int))]) dX3_commonDivisor_1 (by decide) rfl ?_
  refine g_lload_n (pc := 3) (x := (y : Int)) dX3_commonDivisor_3 rfl ?_
  refine g_lstore (pc := 4) (lo2 := [(0, vJ (x : Int)), (2, vJ (y : Int)), (4, vJ (x : Int)), (6, vJ (y : Int))]) dX3_commonDivisor_4 (by decide) rfl ?_
  refine g_iconst (pc := 6) dX3_commonDivisor_6 ?_
  refine g_istore (pc := 7) (lo2 := [(0, vJ (x : Int)), (2, vJ (y : Int)), (4, vJ (x : Int)), (6, vJ (y : Int)), (8, vI 0)]) dX3_commonDivisor_7 (by decide) rfl ?_
  exact cd_l 63 x y _ _ _ rfl rfl hx (by omega) hy (by omega) (by omega) ⟨rfl, rfl⟩
