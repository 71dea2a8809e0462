/-! ===== numberOfLeadingZeros of a long; Powers.reach ===== -/
/-- L is the number of bits of t -/
def bitl (t L : Nat) : Prop := t < 2 ^ L ∧ (0 < L → 2 ^ (L - 1) ≤ t)

theorem c_nlzL {d N : Nat} {h : MH} {t : Nat} (ht : t < 9223372036854775808) : Ok mJ13_numberOfLeadingZeros_95d88 (d + 1) 0 0 [vJ (t : Int)] N h (fun r h' => h' = h ∧ ∃ L : Nat, L ≤ 63 ∧ r = some (vI (64 - (L : Int))) ∧ bitl t L) := by
  refine Ok.of pfJ13_numberOfLeadingZeros_95d88 rfl (Nat.le_of_ble_eq_true rfl) (fun Ls sx => ?_)
  show G mJ13_numberOfLeadingZeros_95d88 (d + 1, 0, 0, Ls, sx) 0 [(0, vJ (t : Int))] [] (0, 0, N) h _
  refine g_lload_n (pc := 0) (x := (t : Int)) dJ13_numberOfLeadingZeros_95d88_0 rfl ?_
  refine g_bipush (pc := 1) dJ13_numberOfLeadingZeros_95d88_1 (by decide +kernel) ?_
  refine g_lushr (pc := 3) dJ13_numberOfLeadingZeros_95d88_3 ?_
  refine g_top (show vJ (((Int64.ofInt (t : Int)).toUInt64 >>> ((Int32.ofInt 32).toInt64.toUInt64 &&& Int64.toUInt64 63)).toInt64.toInt) = vJ ((t / 2 ^ 32 : Nat) : Int) from congrArg vJ (lushr_of (n := t) (k := 32) (by omega) (by omega))) ?_
  refine g_l2i (pc := 4) dJ13_numberOfLeadingZeros_95d88_4 ?_
  refine g_istore_n (pc := 5) (lo2 := [(0, vJ (t : Int)), (2, vI ((t / 2 ^ 32 : Nat) : Int))]) dJ13_numberOfLeadingZeros_95d88_5 (by decide) rfl ?_
  refine g_iload_n (pc := 6) (x := ((t / 2 ^ 32 : Nat) : Int)) dJ13_numberOfLeadingZeros_95d88_6 rfl ?_
  refine g_if_ne (pc := 7) (tgt := 21) dJ13_numberOfLeadingZeros_95d88_7 (by decide) (by omega) (fun hc => ?_) (fun hc => ?_)
  · refine g_iload_n (pc := 21) (x := ((t / 2 ^ 32 : Nat) : Int)) dJ13_numberOfLeadingZeros_95d88_21 rfl ?_
    refine g_callS0 (pc := 22) (as := [vI ((t / 2 ^ 32 : Nat) : Int)]) (st := []) lsJ13_308 dJ13_numberOfLeadingZeros_95d88_22 (Nat.le_of_ble_eq_true rfl) (by omega) (Nat.zero_le _) (Nat.zero_le _) (c_nlzI (d := d) (x := t / 2 ^ 32) (by omega) (by omega)) ?_
    rintro r h' ⟨rfl, b, b1, rfl, b2, b3⟩
    have e1 := (Nat.le_div_iff_mul_le (show 0 < 2 ^ 32 from Nat.two_pow_pos 32)).mp b2
    have e2 := (Nat.div_lt_iff_lt_mul (show 0 < 2 ^ 32 from Nat.two_pow_pos 32)).mp b3
    rw [← Nat.pow_add] at e1 e2
    have b4 : b ≤ 30 := by
      apply Nat.le_of_not_lt
      intro q
      have := Nat.pow_le_pow_right (show 0 < 2 by decide) (show 63 ≤ b + 32 by omega)
      omega
    exact r_int (pc := 25) dJ13_numberOfLeadingZeros_95d88_25 rfl rfl (Nat.le_refl _) ⟨rfl, b + 33, by omega, by congr 2; omega, by rw [show b + 33 = b + 1 + 32 by omega]; exact e2, fun _ => by rw [show b + 33 - 1 = b + 32 by omega]; exact e1⟩
  · have t32 : t < 4294967296 := by omega
    refine g_bipush (pc := 10) dJ13_numberOfLeadingZeros_95d88_10 (by decide +kernel) ?_
    refine g_lload_n (pc := 12) (x := (t : Int)) dJ13_numberOfLeadingZeros_95d88_12 rfl ?_
    refine g_l2i (pc := 13) dJ13_numberOfLeadingZeros_95d88_13 ?_
    by_cases z : t = 0
    · rw [show ((t : Nat) : Int) = 0 by omega]
      refine g_callS0 (pc := 14) (as := [vI 0]) (st := [vI 32]) lsJ13_308 dJ13_numberOfLeadingZeros_95d88_14 (Nat.le_of_ble_eq_true rfl) (by omega) (Nat.zero_le _) (Nat.zero_le _) (c_nlzI0 (d := d)) ?_
      rintro r h' ⟨rfl, rfl⟩
      refine g_iadd (pc := 17) dJ13_numberOfLeadingZeros_95d88_17 ?_
      refine g_goto (pc := 18) (tgt := 25) dJ13_numberOfLeadingZeros_95d88_18 (by decide) ?_
      exact r_int (pc := 25) dJ13_numberOfLeadingZeros_95d88_25 rfl rfl (Nat.le_refl _) ⟨rfl, 0, by omega, rfl, by rw [z]; exact Nat.one_pos, fun q => by omega⟩
    · by_cases z2 : t < 2147483648
      · refine g_callS0 (pc := 14) (as := [vI (t : Int)]) (st := [vI 32]) lsJ13_308 dJ13_numberOfLeadingZeros_95d88_14 (Nat.le_of_ble_eq_true rfl) (by omega) (Nat.zero_le _) (Nat.zero_le _) (c_nlzI (d := d) (x := t) (by omega) (by omega)) ?_
        rintro r h' ⟨rfl, b, b1, rfl, b2, b3⟩
        refine g_iadd (pc := 17) dJ13_numberOfLeadingZeros_95d88_17 ?_
        refine g_goto (pc := 18) (tgt := 25) dJ13_numberOfLeadingZeros_95d88_18 (by decide) ?_
        exact r_int (pc := 25) dJ13_numberOfLeadingZeros_95d88_25 rfl rfl (Nat.le_refl _) ⟨rfl, b + 1, by omega, by congr 2; omega, b3, fun _ => b2⟩
      · refine g_same (y := (t : Int) - 4294967296) ?_ ?_
        · rw [Int32.ofInt_sub]
          have : Int32.ofInt 4294967296 = 0 := by decide +kernel
          rw [this, Int32.sub_zero]
        · refine g_callS0 (pc := 14) (as := [vI ((t : Int) - 4294967296)]) (st := [vI 32]) lsJ13_308 dJ13_numberOfLeadingZeros_95d88_14 (Nat.le_of_ble_eq_true rfl) (by omega) (Nat.zero_le _) (Nat.zero_le _) (c_nlzIn (d := d) (x := (t : Int) - 4294967296) (by omega) (by omega)) ?_
          rintro r h' ⟨rfl, rfl⟩
          refine g_iadd (pc := 17) dJ13_numberOfLeadingZeros_95d88_17 ?_
          refine g_goto (pc := 18) (tgt := 25) dJ13_numberOfLeadingZeros_95d88_18 (by decide) ?_
          exact r_int (pc := 25) dJ13_numberOfLeadingZeros_95d88_25 rfl rfl (Nat.le_refl _) ⟨rfl, 32, by omega, rfl, by omega, fun _ => by omega⟩
