/-! ===== Numbers: inverse, isTellingPrime ===== -/
theorem dvd_red {m : Nat} {p v c : Int} (h : (m : Int) ∣ p * v - c) : (m : Int) ∣ p % (m : Int) * v - c := by
  have h1 : p % (m : Int) * v - c = (p * v - c) - (m : Int) * (p / (m : Int) * v) := by
    have h2 := Int.mul_ediv_add_emod p (m : Int)
    grind
  rw [h1]
  exact Int.dvd_sub h (Int.dvd_mul_right _ _)

theorem inv_l {d N m g : Nat} {Ls : Nat} {sx : Nat → Int} {h : MH} {v v0 : Int} {P : Option MV → MH → Prop} (hm : 1 ≤ m) (hm2 : m ≤ 500) (hP1 : g = 1 → ∀ r : Int, 0 ≤ r → r < m → (m : Int) ∣ r * v0 - 1 → P (some (vI r)) h) (hP0 : g ≠ 1 → P (some (vI 0)) h) : ∀ (k x y a b : Nat) (xx yy pa no xi s : Int), xx = (x : Int) → yy = (y : Int) → y < x → x ≤ m → x * y < 2 ^ k → 0 ≤ xi → xi + k ≤ 63 → (s = 1 ∨ s = -1) → no = s * a → pa = -(s * b) → b ≤ m → a * x + b * y = m → (m : Int) ∣ no * v0 - y → (m : Int) ∣ pa * v0 - x → Nat.gcd x y = g → G mX3_inverse (d + 2, 0, 0, Ls, sx) 18 [(0, vI v), (1, vI (m : Int)), (2, vI xx), (3, vI yy), (4, vI pa), (5, vI no), (6, vI xi)] [] (0, 0, N) h (Pq mX3_inverse 0 0 P) := by
  intro k
  induction k with
  | zero =>
    intro x y a b xx yy pa no xi s ex ey hyx hxm hk i0 i1 hs eno epa hb hab d1 d2 hg
    have rp : i32 pa := by
      rcases hs with hs | hs <;> rw [hs] at epa <;> omega
    have y0 : y = 0 := by
      rcases Nat.eq_zero_or_pos y with z | z
      · exact z
      · have := Nat.mul_pos (show 0 < x by omega) z
        omega
    rw [y0, Nat.gcd_zero_right] at hg
    refine g_iload (pc := 18) (x := xi) dX3_inverse_18 rfl ?_
    refine g_bipush (pc := 20) dX3_inverse_20 (by decide +kernel) ?_
    refine g_icmp_geF (pc := 22) (tgt := 71) dX3_inverse_22 (by decide) (by omega) (by omega) (by omega) ?_
    refine g_iload_n (pc := 25) (x := yy) dX3_inverse_25 rfl ?_
    refine g_if_eqT (pc := 26) (tgt := 71) dX3_inverse_26 (by decide) (by omega) (by omega) ?_
    refine g_iload_n (pc := 71) (x := xx) dX3_inverse_71 rfl ?_
    refine g_iconst (pc := 72) dX3_inverse_72 ?_
    refine g_icmp_ne (pc := 73) (tgt := 86) dX3_inverse_73 (by decide) (by omega) (by omega) (fun hc => ?_) (fun hc => ?_)
    · refine g_iconst (pc := 86) dX3_inverse_86 ?_
      exact r_int (pc := 87) dX3_inverse_87 rfl rfl (Nat.le_refl _) (hP0 (by omega))
    · refine g_iload (pc := 76) (x := pa) dX3_inverse_76 rfl ?_
      refine g_i2l (pc := 78) dX3_inverse_78 (by omega) ?_
      refine g_iload_n (pc := 79) (x := (m : Int)) dX3_inverse_79 rfl ?_
      refine g_callS0 (pc := 80) (as := [vJ pa, vI (m : Int)]) (st := []) lsX3_15 dX3_inverse_80 (Nat.le_of_ble_eq_true rfl) (by omega) (Nat.zero_le _) (Nat.zero_le _) (c_restOf (d := d) (by omega) (by omega) (by omega)) ?_
      rintro r h2 ⟨e9, rfl⟩
      subst e9
      refine g_goto (pc := 83) (tgt := 87) dX3_inverse_83 (by decide) ?_
      exact r_int (pc := 87) dX3_inverse_87 rfl rfl (Nat.le_refl _) (hP1 (by omega) _ (Int.emod_nonneg _ (by omega)) (Int.emod_lt_of_pos _ (by omega)) (dvd_red (by rw [show (1 : Int) = (x : Int) by omega]; exact d2)))
  | succ k ih =>
    intro x y a b xx yy pa no xi s ex ey hyx hxm hk i0 i1 hs eno epa hb hab d1 d2 hg
    by_cases y0 : y = 0
    · have rp : i32 pa := by
        rcases hs with hs | hs <;> rw [hs] at epa <;> omega
      have y0 : y = 0 := y0
      rw [y0, Nat.gcd_zero_right] at hg
      refine g_iload (pc := 18) (x := xi) dX3_inverse_18 rfl ?_
      refine g_bipush (pc := 20) dX3_inverse_20 (by decide +kernel) ?_
      refine g_icmp_geF (pc := 22) (tgt := 71) dX3_inverse_22 (by decide) (by omega) (by omega) (by omega) ?_
      refine g_iload_n (pc := 25) (x := yy) dX3_inverse_25 rfl ?_
      refine g_if_eqT (pc := 26) (tgt := 71) dX3_inverse_26 (by decide) (by omega) (by omega) ?_
      refine g_iload_n (pc := 71) (x := xx) dX3_inverse_71 rfl ?_
      refine g_iconst (pc := 72) dX3_inverse_72 ?_
      refine g_icmp_ne (pc := 73) (tgt := 86) dX3_inverse_73 (by decide) (by omega) (by omega) (fun hc => ?_) (fun hc => ?_)
      · refine g_iconst (pc := 86) dX3_inverse_86 ?_
        exact r_int (pc := 87) dX3_inverse_87 rfl rfl (Nat.le_refl _) (hP0 (by omega))
      · refine g_iload (pc := 76) (x := pa) dX3_inverse_76 rfl ?_
        refine g_i2l (pc := 78) dX3_inverse_78 (by omega) ?_
        refine g_iload_n (pc := 79) (x := (m : Int)) dX3_inverse_79 rfl ?_
        refine g_callS0 (pc := 80) (as := [vJ pa, vI (m : Int)]) (st := []) lsX3_15 dX3_inverse_80 (Nat.le_of_ble_eq_true rfl) (by omega) (Nat.zero_le _) (Nat.zero_le _) (c_restOf (d := d) (by omega) (by omega) (by omega)) ?_
        rintro r h2 ⟨e9, rfl⟩
        subst e9
        refine g_goto (pc := 83) (tgt := 87) dX3_inverse_83 (by decide) ?_
        exact r_int (pc := 87) dX3_inverse_87 rfl rfl (Nat.le_refl _) (hP1 (by omega) _ (Int.emod_nonneg _ (by omega)) (Int.emod_lt_of_pos _ (by omega)) (dvd_red (by rw [show (1 : Int) = (x : Int) by omega]; exact d2)))
    · have hl := Nat.mod_lt x (Nat.pos_of_ne_zero y0)
      have em := tmodN ex ey
      have ed := tdivN ex ey
      have hh := mod_half (Nat.pos_of_ne_zero y0) hyx
      have hq := Nat.div_add_mod x y
      have hql : x / y ≤ 500 := Nat.le_trans (Nat.div_le_self _ _) (by omega)
      refine g_iload (pc := 18) (x := xi) dX3_inverse_18 rfl ?_
      refine g_bipush (pc := 20) dX3_inverse_20 (by decide +kernel) ?_
      refine g_icmp_geF (pc := 22) (tgt := 71) dX3_inverse_22 (by decide) (by omega) (by omega) (by omega) ?_
      refine g_iload_n (pc := 25) (x := yy) dX3_inverse_25 rfl ?_
      refine g_if_eqF (pc := 26) (tgt := 71) dX3_inverse_26 (by decide) (by omega) (by omega) ?_
      refine g_iload_n (pc := 29) (x := xx) dX3_inverse_29 rfl ?_
      refine g_iload_n (pc := 30) (x := yy) dX3_inverse_30 rfl ?_
      refine g_idiv (pc := 31) dX3_inverse_31 (by omega) (by omega) (by omega) ?_
      refine g_istore (pc := 32) (lo2 := [(0, vI v), (1, vI (m : Int)), (2, vI xx), (3, vI yy), (4, vI pa), (5, vI no), (6, vI xi), (7, vI (xx.tdiv yy))]) dX3_inverse_32 (by decide) rfl ?_
      refine g_iload_n (pc := 34) (x := xx) dX3_inverse_34 rfl ?_
      refine g_iload (pc := 35) (x := xx.tdiv yy) dX3_inverse_35 rfl ?_
      refine g_iload_n (pc := 37) (x := yy) dX3_inverse_37 rfl ?_
      refine g_imul (pc := 38) dX3_inverse_38 ?_
      refine g_isub (pc := 39) dX3_inverse_39 ?_
      refine g_istore (pc := 40) (lo2 := [(0, vI v), (1, vI (m : Int)), (2, vI xx), (3, vI yy), (4, vI pa), (5, vI no), (6, vI xi), (7, vI (xx.tdiv yy)), (8, vI (xx - ((xx.tdiv yy) * yy)))]) dX3_inverse_40 (by decide) rfl ?_
      refine g_iload (pc := 42) (x := pa) dX3_inverse_42 rfl ?_
      refine g_iload (pc := 44) (x := xx.tdiv yy) dX3_inverse_44 rfl ?_
      refine g_iload (pc := 46) (x := no) dX3_inverse_46 rfl ?_
      refine g_imul (pc := 48) dX3_inverse_48 ?_
      refine g_isub (pc := 49) dX3_inverse_49 ?_
      refine g_istore (pc := 50) (lo2 := [(0, vI v), (1, vI (m : Int)), (2, vI xx), (3, vI yy), (4, vI pa), (5, vI no), (6, vI xi), (7, vI (xx.tdiv yy)), (8, vI (xx - ((xx.tdiv yy) * yy))), (9, vI (pa - ((xx.tdiv yy) * no)))]) dX3_inverse_50 (by decide) rfl ?_
      refine g_iload_n (pc := 52) (x := yy) dX3_inverse_52 rfl ?_
      refine g_istore_n (pc := 53) (lo2 := [(0, vI v), (1, vI (m : Int)), (2, vI yy), (3, vI yy), (4, vI pa), (5, vI no), (6, vI xi), (7, vI (xx.tdiv yy)), (8, vI (xx - ((xx.tdiv yy) * yy))), (9, vI (pa - ((xx.tdiv yy) * no)))]) dX3_inverse_53 (by decide) rfl ?_
      refine g_iload (pc := 54) (x := xx - ((xx.tdiv yy) * yy)) dX3_inverse_54 rfl ?_
      refine g_istore_n (pc := 56) (lo2 := [(0, vI v), (1, vI (m : Int)), (2, vI yy), (3, vI (xx - ((xx.tdiv yy) * yy))), (4, vI pa), (5, vI no), (6, vI xi), (7, vI (xx.tdiv yy)), (8, vI (xx - ((xx.tdiv yy) * yy))), (9, vI (pa - ((xx.tdiv yy) * no)))]) dX3_inverse_56 (by decide) rfl ?_
      refine g_iload (pc := 57) (x := no) dX3_inverse_57 rfl ?_
      refine g_istore (pc := 59) (lo2 := [(0, vI v), (1, vI (m : Int)), (2, vI yy), (3, vI (xx - ((xx.tdiv yy) * yy))), (4, vI no), (5, vI no), (6, vI xi), (7, vI (xx.tdiv yy)), (8, vI (xx - ((xx.tdiv yy) * yy))), (9, vI (pa - ((xx.tdiv yy) * no)))]) dX3_inverse_59 (by decide) rfl ?_
      refine g_iload (pc := 61) (x := pa - ((xx.tdiv yy) * no)) dX3_inverse_61 rfl ?_
      refine g_istore (pc := 63) (lo2 := [(0, vI v), (1, vI (m : Int)), (2, vI yy), (3, vI (xx - ((xx.tdiv yy) * yy))), (4, vI no), (5, vI (pa - ((xx.tdiv yy) * no))), (6, vI xi), (7, vI (xx.tdiv yy)), (8, vI (xx - ((xx.tdiv yy) * yy))), (9, vI (pa - ((xx.tdiv yy) * no)))]) dX3_inverse_63 (by decide) rfl ?_
      refine g_iinc (pc := 65) (x := xi) (lo2 := [(0, vI v), (1, vI (m : Int)), (2, vI yy), (3, vI (xx - ((xx.tdiv yy) * yy))), (4, vI no), (5, vI (pa - ((xx.tdiv yy) * no))), (6, vI (xi + 1)), (7, vI (xx.tdiv yy)), (8, vI (xx - ((xx.tdiv yy) * yy))), (9, vI (pa - ((xx.tdiv yy) * no)))]) dX3_inverse_65 rfl (by decide) rfl ?_
      refine g_goto (pc := 68) (tgt := 18) dX3_inverse_68 (by decide) ?_
      refine g_pick [0, 1, 2, 3, 4, 5, 6] (lo2 := [(0, vI v), (1, vI (m : Int)), (2, vI yy), (3, vI (xx - ((xx.tdiv yy) * yy))), (4, vI no), (5, vI (pa - ((xx.tdiv yy) * no))), (6, vI (xi + 1))]) rfl ?_
      have e1 : xx - xx.tdiv yy * yy = ((x % y : Nat) : Int) := by
        rw [ed, ex, ey, ← Int.natCast_mul, Nat.mul_comm]
        omega
      have e2 : pa - xx.tdiv yy * no = -s * ((b + x / y * a : Nat) : Int) := by
        rw [ed, eno, epa]
        push_cast
        grind
      have e3 : (b + x / y * a) * y + a * (x % y) = m := by
        rw [← hab]
        generalize x / y = q at *
        generalize x % y = r at *
        subst hq
        grind
      have hx1 : 2 * (y * (x % y)) < 2 * 2 ^ k := by
        have z1 := Nat.mul_le_mul_left y (Nat.le_of_lt hh)
        have z2 : 2 * (y * (x % y)) = y * (2 * (x % y)) := by grind
        have z3 : y * x = x * y := Nat.mul_comm _ _
        rw [Nat.pow_succ] at hk
        omega
      have ha : a ≤ m := by
        have := Nat.mul_le_mul_left a (show 1 ≤ x by omega)
        omega
      refine ih y (x % y) (b + x / y * a) a _ _ _ _ _ (-s) ey e1 hl (by omega) (by omega) (by omega) (by omega) (by omega) e2 (by rw [eno]; grind) ha e3 ?_ d1 (by rw [gcd_step]; exact hg)
      have e5 : (pa - xx.tdiv yy * no) * v0 - ((x % y : Nat) : Int) = (pa * v0 - (x : Int)) - xx.tdiv yy * (no * v0 - (y : Int)) := by
        rw [← e1, ex, ey]
        grind
      rw [e5]
      exact Int.dvd_sub d2 (Int.dvd_mul_of_dvd_right d1)

theorem c_inverse {N d m : Nat} {h : MH} {v : Int} (hv : i32 v) (hm : 1 ≤ m) (hm2 : m ≤ 500) : Ok mX3_inverse (d + 2) 0 0 [vI v, vI (m : Int)] N h (fun r h2 => h2 = h ∧ ∃ w : Int, r = some (vI w) ∧ (Nat.gcd m (v % (m : Int)).toNat = 1 → 0 ≤ w ∧ w < m ∧ (m : Int) ∣ w * v - 1) ∧ (Nat.gcd m (v % (m : Int)).toNat ≠ 1 → w = 0)) := by
  refine Ok.of pfX3_inverse rfl (Nat.le_of_ble_eq_true rfl) (fun Ls sx => ?_)
  show G mX3_inverse (d + 2, 0, 0, Ls, sx) 0 [(0, vI v), (1, vI (m : Int))] [] (0, 0, N) h _
  refine g_iload_n (pc := 0) (x := (m : Int)) dX3_inverse_0 rfl ?_
  refine g_istore_n (pc := 1) (lo2 := [(0, vI v), (1, vI (m : Int)), (2, vI (m : Int))]) dX3_inverse_1 (by decide) rfl ?_
  refine g_iload_n (pc := 2) (x := v) dX3_inverse_2 rfl ?_
  refine g_i2l (pc := 3) dX3_inverse_3 (by omega) ?_
  refine g_iload_n (pc := 4) (x := (m : Int)) dX3_inverse_4 rfl ?_
  refine g_callS0 (pc := 5) (as := [vJ v, vI (m : Int)]) (st := []) lsX3_15 dX3_inverse_5 (Nat.le_of_ble_eq_true rfl) (by omega) (Nat.zero_le _) (Nat.zero_le _) (c_restOf (d := d) (by omega) (by omega) (by omega)) ?_
  rintro r h2 ⟨e9, rfl⟩
  subst e9
  refine g_istore_n (pc := 8) (lo2 := [(0, vI v), (1, vI (m : Int)), (2, vI (m : Int)), (3, vI (v % (m : Int)))]) dX3_inverse_8 (by decide) rfl ?_
  refine g_iconst (pc := 9) dX3_inverse_9 ?_
  refine g_istore (pc := 10) (lo2 := [(0, vI v), (1, vI (m : Int)), (2, vI (m : Int)), (3, vI (v % (m : Int))), (4, vI 0)]) dX3_inverse_10 (by decide) rfl ?_
  refine g_iconst (pc := 12) dX3_inverse_12 ?_
  refine g_istore (pc := 13) (lo2 := [(0, vI v), (1, vI (m : Int)), (2, vI (m : Int)), (3, vI (v % (m : Int))), (4, vI 0), (5, vI 1)]) dX3_inverse_13 (by decide) rfl ?_
  refine g_iconst (pc := 15) dX3_inverse_15 ?_
  refine g_istore (pc := 16) (lo2 := [(0, vI v), (1, vI (m : Int)), (2, vI (m : Int)), (3, vI (v % (m : Int))), (4, vI 0), (5, vI 1), (6, vI 0)]) dX3_inverse_16 (by decide) rfl ?_
  have n0 := Int.emod_nonneg v (show (m : Int) ≠ 0 by omega)
  have n1 := Int.emod_lt_of_pos v (show (0 : Int) < m by omega)
  obtain ⟨y, ey⟩ : ∃ y : Nat, (v % (m : Int)) = (y : Int) := ⟨(v % (m : Int)).toNat, by omega⟩
  have ey2 : (v % (m : Int)).toNat = y := by omega
  refine inv_l (v0 := v) (g := Nat.gcd m y) hm hm2 (fun g1 r r0 r1 r2 => ⟨rfl, r, rfl, fun _ => ⟨r0, r1, r2⟩, fun z => absurd (by rw [ey2]; exact g1) z⟩) (fun g1 => ⟨rfl, 0, rfl, fun z => absurd (by rw [ey2] at z; exact z) g1, fun _ => rfl⟩) 18 m y 1 0 _ _ _ _ _ 1 rfl ey (by omega) (Nat.le_refl _) ?_ (by omega) (by omega) (Or.inl rfl) (by omega) (by omega) (by omega) (by omega) ?_ ?_ rfl
  · have := Nat.mul_le_mul (show m ≤ 500 by omega) (show y ≤ 500 by omega)
    omega
  · rw [← ey, Int.one_mul]
    exact Int.dvd_self_sub_emod
  · rw [Int.zero_mul, Int.zero_sub]
    exact Int.dvd_neg.mpr (Int.dvd_refl _)

/-- primes up to 499, as the class and the reference ask for them -/
def tprime (p : Int) : Prop := 2 ≤ p ∧ p ≤ 499 ∧ ∀ j : Nat, 2 ≤ j → (j : Int) < p → ¬ p.toNat % j = 0
theorem noDiv_all {p k : Nat} (h1 : p < k * k) (h2 : noDiv p k) : ∀ j, 2 ≤ j → j < p → ¬ p % j = 0 := by
  intro j j2 jp hj
  by_cases hk : j < k
  · exact h2 j j2 hk hj
  · have hd : p = j * (p / j) := by
      have := Nat.div_add_mod p j
      omega
    have hq2 : 2 ≤ p / j := by
      apply Nat.le_of_not_lt
      intro z
      generalize p / j = t at hd z
      have hc : t = 0 ∨ t = 1 := by omega
      rcases hc with hc | hc <;> rw [hc] at hd <;> omega
    have hqk : p / j < k := by
      apply Nat.lt_of_not_le
      intro z
      have := Nat.mul_le_mul (Nat.le_of_not_lt hk) z
      omega
    refine h2 (p / j) hq2 hqk ?_
    have e : p = p / j * j := by rw [Nat.mul_comm]; exact hd
    generalize p / j = q at *
    rw [e]
    exact Nat.mul_mod_right q j

theorem c_isTellingPrime {N d : Nat} {h : MH} {p : Int} (hp : i32 p) : Ok mX3_isTellingPrime d 0 0 [vI p] N h (fun r h2 => h2 = h ∧ ((r = some (vI 1) ∧ tprime p) ∨ (r = some (vI 0) ∧ ¬ tprime p))) := by
  refine Ok.of pfX3_isTellingPrime rfl (Nat.le_of_ble_eq_true rfl) (fun Ls sx => ?_)
  show G mX3_isTellingPrime (d, 0, 0, Ls, sx) 0 [(0, vI p)] [] (0, 0, N) h _
  refine g_iload_n (pc := 0) (x := p) dX3_isTellingPrime_0 rfl ?_
  refine g_iconst (pc := 1) dX3_isTellingPrime_1 ?_
  refine g_icmp_lt (pc := 2) (tgt := 12) dX3_isTellingPrime_2 (by decide) (by omega) (by omega) (fun h0 => ?_) (fun h0 => ?_)
  · refine g_iconst (pc := 12) dX3_isTellingPrime_12 ?_
    exact r_bool (pc := 13) dX3_isTellingPrime_13 rfl rfl (Nat.le_refl _) (Or.inl rfl) ⟨rfl, Or.inr ⟨rfl, fun z => by have := z.1; omega⟩⟩
  · refine g_iload_n (pc := 5) (x := p) dX3_isTellingPrime_5 rfl ?_
    refine g_sipush (pc := 6) dX3_isTellingPrime_6 (by decide +kernel) ?_
    refine g_icmp_le (pc := 9) (tgt := 14) dX3_isTellingPrime_9 (by decide) (by omega) (by omega) (fun h1 => ?_) (fun h1 => ?_)
    · obtain ⟨p, rfl⟩ : ∃ q : Nat, p = (q : Int) := ⟨p.toNat, by omega⟩
      refine g_iconst (pc := 14) dX3_isTellingPrime_14 ?_
      refine g_istore_n (pc := 15) (lo2 := [(0, vI (p : Int)), (1, vI 2)]) dX3_isTellingPrime_15 (by decide) rfl ?_
      exact tellp_l (by omega) (fun ⟨k, k1, k2⟩ => ⟨rfl, Or.inl ⟨rfl, by omega, by omega, fun j j2 j3 => by rw [Int.toNat_natCast]; exact noDiv_all k1 k2 j j2 (by omega)⟩⟩) (fun ⟨j, j2, jj, hj⟩ => ⟨rfl, Or.inr ⟨rfl, fun z => z.2.2 j j2 (by have := Nat.mul_le_mul_right j j2; omega) (by rw [Int.toNat_natCast]; exact hj)⟩⟩) 22 2 _ (by omega) rfl (by omega) (fun j j2 j3 => by omega)
    · refine g_iconst (pc := 12) dX3_isTellingPrime_12 ?_
      exact r_bool (pc := 13) dX3_isTellingPrime_13 rfl rfl (Nat.le_refl _) (Or.inl rfl) ⟨rfl, Or.inr ⟨rfl, fun z => by have := z.2.1; omega⟩⟩
