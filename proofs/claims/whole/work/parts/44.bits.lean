theorem wb_tb (n : Nat) : (lN n).toBitVec = BitVec.ofNat 64 n := rfl
theorem wb_inj {a b : Int64} (h : a.toBitVec = b.toBitVec) : a = b := Int64.toBitVec_inj.mp h
theorem wb_tn {n : Nat} (h : n < 2 ^ 64) : (lN n).toBitVec.toNat = n := by rw [wb_tb, BitVec.toNat_ofNat, Nat.mod_eq_of_lt h]
theorem wb_of (x : Int64) : ∃ n, n < 2 ^ 64 ∧ x = lN n := ⟨x.toBitVec.toNat, x.toBitVec.isLt, wb_inj (by rw [wb_tb]; simp)⟩
theorem wb_of32 (x : Int32) : ∃ n, n < 2 ^ 32 ∧ x = nI n := ⟨x.toBitVec.toNat, x.toBitVec.isLt, Int32.toBitVec_inj.mp (by show _ = BitVec.ofNat 32 _; simp)⟩
theorem wb_c : ∀ k, k < 64 → ((nI k).toInt64 &&& 63) = lN k := by decide +kernel
theorem wb_cu : ∀ k, k < 64 → ((nI k).toInt64.toUInt64 &&& Int64.toUInt64 63) = UInt64.ofNat k := by decide +kernel
theorem wb_sm : ∀ k, k < 64 → (BitVec.ofNat 64 k).smod 64 = BitVec.ofNat 64 k := by decide +kernel
theorem wb_pw {a b : Nat} (h : a ≤ b) : 2 ^ b = 2 ^ a * 2 ^ (b - a) := by rw [← Nat.pow_add]; congr 1; omega
theorem wb_lt2 {a b : Nat} (h : a < b) : 2 ^ a < 2 ^ b := Nat.pow_lt_pow_right (by decide) h
theorem wb_mod (n : Nat) : lN n = lN (n % 2 ^ 64) := wb_inj (by rw [wb_tb, wb_tb]; apply BitVec.eq_of_toNat_eq; rw [BitVec.toNat_ofNat, BitVec.toNat_ofNat, Nat.mod_mod])
theorem wb_shr {n k : Nat} (hn : n < 2 ^ 64) (hk : k < 64) : ((lN n).toUInt64 >>> ((nI k).toInt64.toUInt64 &&& Int64.toUInt64 63)).toInt64 = lN (n / 2 ^ k) := by
  rw [wb_cu k hk]
  apply wb_inj
  apply BitVec.eq_of_toNat_eq
  show ((lN n).toUInt64 >>> UInt64.ofNat k).toNat = (BitVec.ofNat 64 _).toNat
  have h1 : (UInt64.ofNat k).toNat = k := by
    show (BitVec.ofNat 64 k).toNat = k
    rw [BitVec.toNat_ofNat, Nat.mod_eq_of_lt (by omega)]
  have h2 : (lN n).toUInt64.toNat = n := wb_tn hn
  rw [UInt64.toNat_shiftRight, h1, h2, Nat.mod_eq_of_lt hk, Nat.shiftRight_eq_div_pow, BitVec.toNat_ofNat, Nat.mod_eq_of_lt (Nat.lt_of_le_of_lt (Nat.div_le_self _ _) hn)]
theorem wb_shl (n : Nat) {k : Nat} (hk : k < 64) : lN n <<< ((nI k).toInt64 &&& 63) = lN (n * 2 ^ k) := by
  rw [wb_c k hk]
  apply wb_inj
  rw [Int64.toBitVec_shiftLeft, wb_tb, wb_tb, wb_tb, wb_sm k hk]
  apply BitVec.eq_of_toNat_eq
  rw [BitVec.shiftLeft_eq', BitVec.toNat_shiftLeft, BitVec.toNat_ofNat, BitVec.toNat_ofNat, BitVec.toNat_ofNat, Nat.mod_eq_of_lt (show k < 2 ^ 64 by omega), Nat.shiftLeft_eq, Nat.mul_mod, Nat.mod_mod, ← Nat.mul_mod]
theorem wb_and {a b : Nat} (ha : a < 2 ^ 64) (hb : b < 2 ^ 64) : lN a &&& lN b = lN (a &&& b) := by
  apply wb_inj
  rw [Int64.toBitVec_and, wb_tb, wb_tb, wb_tb]
  apply BitVec.eq_of_toNat_eq
  rw [BitVec.toNat_and, BitVec.toNat_ofNat, BitVec.toNat_ofNat, BitVec.toNat_ofNat, Nat.mod_eq_of_lt ha, Nat.mod_eq_of_lt hb, Nat.mod_eq_of_lt (Nat.and_lt_two_pow _ hb)]
theorem wb_or {a b : Nat} (ha : a < 2 ^ 64) (hb : b < 2 ^ 64) : lN a ||| lN b = lN (a ||| b) := by
  apply wb_inj
  rw [Int64.toBitVec_or, wb_tb, wb_tb, wb_tb]
  apply BitVec.eq_of_toNat_eq
  rw [BitVec.toNat_or, BitVec.toNat_ofNat, BitVec.toNat_ofNat, BitVec.toNat_ofNat, Nat.mod_eq_of_lt ha, Nat.mod_eq_of_lt hb, Nat.mod_eq_of_lt (Nat.or_lt_two_pow ha hb)]
theorem wb_mask {n k : Nat} (hn : n < 2 ^ 64) (hk : k < 64) : lN n &&& lN (2 ^ k - 1) = lN (n % 2 ^ k) := by
  rw [wb_and hn (by have := wb_lt2 hk; omega), Nat.and_two_pow_sub_one_eq_mod]
theorem wb_a1 {n : Nat} (hn : n < 2 ^ 64) : lN n &&& 1 = lN (n % 2) := wb_mask (k := 1) hn (by decide)
theorem wb_bit {n k : Nat} (hn : n < 2 ^ 64) (hk : k < 64) : ((lN n).toUInt64 >>> ((nI k).toInt64.toUInt64 &&& Int64.toUInt64 63)).toInt64 &&& 1 = lN (n / 2 ^ k % 2) := by
  rw [wb_shr hn hk, wb_a1 (Nat.lt_of_le_of_lt (Nat.div_le_self _ _) hn)]

/-! ===== bits, as whole numbers ===== -/
theorem oL (n : Nat) : Int64.ofInt (n : Int) = lN n := Int64.ofInt_eq_ofNat
theorem oI (n : Nat) : Int32.ofInt (n : Int) = nI n := Int32.ofInt_eq_ofNat
theorem lN_int {n : Nat} (h : n < 2 ^ 63) : (lN n).toInt = (n : Int) := pk_lT h
theorem nI_int {n : Nat} (h : n < 2 ^ 31) : (nI n).toInt = (n : Int) := nI_toInt h
theorem lushr_of {n k : Nat} (hn : n < 2 ^ 63) (hk : k < 64) : ((Int64.ofInt (n : Int)).toUInt64 >>> ((Int32.ofInt (k : Int)).toInt64.toUInt64 &&& Int64.toUInt64 63)).toInt64.toInt = ((n / 2 ^ k : Nat) : Int) := by
  rw [oL, oI, wb_shr (by omega) hk, lN_int (Nat.lt_of_le_of_lt (Nat.div_le_self _ _) hn)]
theorem land1_of {n : Nat} (hn : n < 2 ^ 63) : (Int64.ofInt (n : Int) &&& Int64.ofInt 1).toInt = ((n % 2 : Nat) : Int) := by
  rw [oL, show Int64.ofInt 1 = 1 from rfl, wb_a1 (by omega), lN_int (by omega)]
theorem iushr_of {n k : Nat} (hn : n < 2 ^ 31) (hk : k < 32) : ((Int32.ofInt (n : Int)).toUInt32 >>> ((Int32.ofInt (k : Int)).toUInt32 &&& Int32.toUInt32 31)).toInt32.toInt = ((n / 2 ^ k : Nat) : Int) := by
  have hs : ∀ l, l < 32 → (((nI l).toUInt32 &&& Int32.toUInt32 31).toBitVec % 32).toNat = l := by decide +kernel
  rw [oI, oI, pk_ushrN (by omega) (nI k) k (hs k hk), nI_int (Nat.lt_of_le_of_lt (Nat.div_le_self _ _) hn)]
theorem shr_step {K y x c : Nat} (h1 : K * y ≤ x) (h2 : x < K * (y + 1)) (hc : 0 < c) : K * c * (y / c) ≤ x ∧ x < K * c * (y / c + 1) := by
  have e1 := Nat.div_mul_le_self y c
  have e2 := Nat.lt_div_mul_add (a := y) hc
  constructor
  · refine Nat.le_trans ?_ h1
    rw [Nat.mul_assoc]
    exact Nat.mul_le_mul_left K (by rw [Nat.mul_comm]; exact e1)
  · refine Nat.lt_of_lt_of_le h2 ?_
    rw [Nat.mul_assoc]
    refine Nat.mul_le_mul_left K ?_
    rw [Nat.mul_add, Nat.mul_one, Nat.mul_comm]
    omega
section MB2
variable {μ : MI} {κ : KX} {pc : Nat} {lo : List (Nat × MV)} {st : List MV} {ρ : MR} {h : MH} {Q : Option MV → MR → MH → Prop}
/-- the machine can't tell these two from each other -/
theorem g_same {x y : Int} (e : Int32.ofInt x = Int32.ofInt y) (hk : G μ κ pc lo (vI y :: st) ρ h Q) : G μ κ pc lo (vI x :: st) ρ h Q := by
  intro p l e' R s m args below meth c D tc g Zf F E ls H locs hl hW hS
  have K := hk p l e' R s m args below meth c D tc g Zf F E ls H locs hl hW hS
  exact W.eq (by simp only [List.map_cons, rv, e]) K
end MB2
/-- the rows of a grid, one behind the other -/
def rwF (b n i : Nat) : Option Nat := if i < n then some (b + i) else none
theorem rwF_at {b n i : Nat} (h : i < n) : rwF b n i = some (b + i) := if_pos h

theorem c_nlzI {d N : Nat} {h : MH} {x : Nat} (h0 : 0 < x) (hx : x < 2147483648) : Ok mJ6_numberOfLeadingZeros_0f7a4 d 0 0 [vI (x : Int)] N h (fun r h' => h' = h ∧ ∃ b : Nat, b ≤ 31 ∧ r = some (vI (31 - (b : Int))) ∧ 2 ^ b ≤ x ∧ x < 2 ^ (b + 1)) := by
  refine Ok.of pfJ6_numberOfLeadingZeros_0f7a4 rfl (Nat.le_of_ble_eq_true rfl) (fun Ls sx => ?_)
  show G mJ6_numberOfLeadingZeros_0f7a4 (d, 0, 0, Ls, sx) 0 [(0, vI (x : Int))] [] (0, 0, N) h _
  have s5 : ∀ (s y : Nat) (m : Int), 0 < y → y < 4 → m = 31 - (s : Int) → 2 ^ s * y ≤ x → x < 2 ^ s * (y + 1) → G mJ6_numberOfLeadingZeros_0f7a4 (d, 0, 0, Ls, sx) 73 [(0, vI (y : Int)), (1, vI m)] [] (0, 0, N) h (Pq mJ6_numberOfLeadingZeros_0f7a4 0 0 (fun r h' => h' = h ∧ ∃ b : Nat, b ≤ 31 ∧ r = some (vI (31 - (b : Int))) ∧ 2 ^ b ≤ x ∧ x < 2 ^ (b + 1))) := by
    intro s y m y0 y1 em h1 h2
    refine g_iload_n (pc := 73) (x := m) dJ6_numberOfLeadingZeros_0f7a4_73 rfl ?_
    refine g_iload_n (pc := 74) (x := (y : Int)) dJ6_numberOfLeadingZeros_0f7a4_74 rfl ?_
    refine g_iconst (pc := 75) dJ6_numberOfLeadingZeros_0f7a4_75 ?_
    refine g_iushr (pc := 76) dJ6_numberOfLeadingZeros_0f7a4_76 ?_
    refine g_top (show vI (((Int32.ofInt (y : Int)).toUInt32 >>> ((Int32.ofInt 1).toUInt32 &&& Int32.toUInt32 31)).toInt32.toInt) = vI ((y / 2 ^ 1 : Nat) : Int) from congrArg _ (iushr_of (n := y) (k := 1) (by omega) (by omega))) ?_
    refine g_isub (pc := 77) dJ6_numberOfLeadingZeros_0f7a4_77 ?_
    have hy : y = 1 ∨ y = 2 ∨ y = 3 := by omega
    have e1 : 2 ^ (s + 1) = 2 ^ s * 2 := Nat.pow_succ 2 s
    have e2 : 2 ^ (s + 1 + 1) = 2 ^ s * 2 * 2 := by rw [Nat.pow_succ, e1]
    have s31 : s ≤ 31 := by
      apply Nat.le_of_not_lt
      intro q
      have := Nat.pow_le_pow_right (show 0 < 2 by decide) (show 32 ≤ s by omega)
      have : 2 ^ s * 1 ≤ 2 ^ s * y := Nat.mul_le_mul_left _ y0
      omega
    rcases hy with rfl | rfl | rfl
    · exact r_int (pc := 78) dJ6_numberOfLeadingZeros_0f7a4_78 rfl rfl (Nat.le_refl _) ⟨rfl, s, s31, by rw [em]; simp, by omega, by omega⟩
    · have s30 : s + 1 ≤ 31 := by
        apply Nat.le_of_not_lt
        intro q
        have := Nat.pow_le_pow_right (show 0 < 2 by decide) (show 32 ≤ s + 1 by omega)
        omega
      exact r_int (pc := 78) dJ6_numberOfLeadingZeros_0f7a4_78 rfl rfl (Nat.le_refl _) ⟨rfl, s + 1, s30, by rw [em]; congr 2; omega, by omega, by omega⟩
    · have s30 : s + 1 ≤ 31 := by
        apply Nat.le_of_not_lt
        intro q
        have := Nat.pow_le_pow_right (show 0 < 2 by decide) (show 32 ≤ s + 1 by omega)
        omega
      exact r_int (pc := 78) dJ6_numberOfLeadingZeros_0f7a4_78 rfl rfl (Nat.le_refl _) ⟨rfl, s + 1, s30, by rw [em]; congr 2; omega, by omega, by omega⟩
  have s4 : ∀ (s y : Nat) (m : Int), 0 < y → y < 16 → m = 31 - (s : Int) → 2 ^ s * y ≤ x → x < 2 ^ s * (y + 1) → G mJ6_numberOfLeadingZeros_0f7a4 (d, 0, 0, Ls, sx) 61 [(0, vI (y : Int)), (1, vI m)] [] (0, 0, N) h (Pq mJ6_numberOfLeadingZeros_0f7a4 0 0 (fun r h' => h' = h ∧ ∃ b : Nat, b ≤ 31 ∧ r = some (vI (31 - (b : Int))) ∧ 2 ^ b ≤ x ∧ x < 2 ^ (b + 1))) := by
    intro s y m y0 y1 em h1 h2
    refine g_iload_n (pc := 61) (x := (y : Int)) dJ6_numberOfLeadingZeros_0f7a4_61 rfl ?_
    refine g_iconst (pc := 62) dJ6_numberOfLeadingZeros_0f7a4_62 ?_
    refine g_icmp_lt (pc := 63) (tgt := 73) dJ6_numberOfLeadingZeros_0f7a4_63 (by decide) (by omega) (by omega) (fun hc => ?_) (fun hc => ?_)
    · exact s5 s y m y0 (by omega) em h1 h2
    · refine g_iinc (pc := 66) (x := m) (lo2 := [(0, vI (y : Int)), (1, vI (m + (-2)))]) dJ6_numberOfLeadingZeros_0f7a4_66 rfl (by decide) rfl ?_
      refine g_iload_n (pc := 69) (x := (y : Int)) dJ6_numberOfLeadingZeros_0f7a4_69 rfl ?_
      refine g_iconst (pc := 70) dJ6_numberOfLeadingZeros_0f7a4_70 ?_
      refine g_iushr (pc := 71) dJ6_numberOfLeadingZeros_0f7a4_71 ?_
      refine g_top (show vI (((Int32.ofInt (y : Int)).toUInt32 >>> ((Int32.ofInt 2).toUInt32 &&& Int32.toUInt32 31)).toInt32.toInt) = vI ((y / 2 ^ 2 : Nat) : Int) from congrArg _ (iushr_of (n := y) (k := 2) (by omega) (by omega))) ?_
      refine g_istore_n (pc := 72) (lo2 := [(0, vI ((y / 2 ^ 2 : Nat) : Int)), (1, vI (m + (-2)))]) dJ6_numberOfLeadingZeros_0f7a4_72 (by decide) rfl ?_
      obtain ⟨e1, e2⟩ := shr_step (c := 2 ^ 2) h1 h2 (by decide)
      rw [← Nat.pow_add] at e1 e2
      exact s5 (s + 2) _ _ (by omega) (by omega) (by omega) e1 e2
  have s3 : ∀ (s y : Nat) (m : Int), 0 < y → y < 256 → m = 31 - (s : Int) → 2 ^ s * y ≤ x → x < 2 ^ s * (y + 1) → G mJ6_numberOfLeadingZeros_0f7a4 (d, 0, 0, Ls, sx) 48 [(0, vI (y : Int)), (1, vI m)] [] (0, 0, N) h (Pq mJ6_numberOfLeadingZeros_0f7a4 0 0 (fun r h' => h' = h ∧ ∃ b : Nat, b ≤ 31 ∧ r = some (vI (31 - (b : Int))) ∧ 2 ^ b ≤ x ∧ x < 2 ^ (b + 1))) := by
    intro s y m y0 y1 em h1 h2
    refine g_iload_n (pc := 48) (x := (y : Int)) dJ6_numberOfLeadingZeros_0f7a4_48 rfl ?_
    refine g_bipush (pc := 49) dJ6_numberOfLeadingZeros_0f7a4_49 (by decide +kernel) ?_
    refine g_icmp_lt (pc := 51) (tgt := 61) dJ6_numberOfLeadingZeros_0f7a4_51 (by decide) (by omega) (by omega) (fun hc => ?_) (fun hc => ?_)
    · exact s4 s y m y0 (by omega) em h1 h2
    · refine g_iinc (pc := 54) (x := m) (lo2 := [(0, vI (y : Int)), (1, vI (m + (-4)))]) dJ6_numberOfLeadingZeros_0f7a4_54 rfl (by decide) rfl ?_
      refine g_iload_n (pc := 57) (x := (y : Int)) dJ6_numberOfLeadingZeros_0f7a4_57 rfl ?_
      refine g_iconst (pc := 58) dJ6_numberOfLeadingZeros_0f7a4_58 ?_
      refine g_iushr (pc := 59) dJ6_numberOfLeadingZeros_0f7a4_59 ?_
      refine g_top (show vI (((Int32.ofInt (y : Int)).toUInt32 >>> ((Int32.ofInt 4).toUInt32 &&& Int32.toUInt32 31)).toInt32.toInt) = vI ((y / 2 ^ 4 : Nat) : Int) from congrArg _ (iushr_of (n := y) (k := 4) (by omega) (by omega))) ?_
      refine g_istore_n (pc := 60) (lo2 := [(0, vI ((y / 2 ^ 4 : Nat) : Int)), (1, vI (m + (-4)))]) dJ6_numberOfLeadingZeros_0f7a4_60 (by decide) rfl ?_
      obtain ⟨e1, e2⟩ := shr_step (c := 2 ^ 4) h1 h2 (by decide)
      rw [← Nat.pow_add] at e1 e2
      exact s4 (s + 4) _ _ (by omega) (by omega) (by omega) e1 e2
  have s2 : ∀ (s y : Nat) (m : Int), 0 < y → y < 65536 → m = 31 - (s : Int) → 2 ^ s * y ≤ x → x < 2 ^ s * (y + 1) → G mJ6_numberOfLeadingZeros_0f7a4 (d, 0, 0, Ls, sx) 33 [(0, vI (y : Int)), (1, vI m)] [] (0, 0, N) h (Pq mJ6_numberOfLeadingZeros_0f7a4 0 0 (fun r h' => h' = h ∧ ∃ b : Nat, b ≤ 31 ∧ r = some (vI (31 - (b : Int))) ∧ 2 ^ b ≤ x ∧ x < 2 ^ (b + 1))) := by
    intro s y m y0 y1 em h1 h2
    refine g_iload_n (pc := 33) (x := (y : Int)) dJ6_numberOfLeadingZeros_0f7a4_33 rfl ?_
    refine g_sipush (pc := 34) dJ6_numberOfLeadingZeros_0f7a4_34 (by decide +kernel) ?_
    refine g_icmp_lt (pc := 37) (tgt := 48) dJ6_numberOfLeadingZeros_0f7a4_37 (by decide) (by omega) (by omega) (fun hc => ?_) (fun hc => ?_)
    · exact s3 s y m y0 (by omega) em h1 h2
    · refine g_iinc (pc := 40) (x := m) (lo2 := [(0, vI (y : Int)), (1, vI (m + (-8)))]) dJ6_numberOfLeadingZeros_0f7a4_40 rfl (by decide) rfl ?_
      refine g_iload_n (pc := 43) (x := (y : Int)) dJ6_numberOfLeadingZeros_0f7a4_43 rfl ?_
      refine g_bipush (pc := 44) dJ6_numberOfLeadingZeros_0f7a4_44 (by decide +kernel) ?_
      refine g_iushr (pc := 46) dJ6_numberOfLeadingZeros_0f7a4_46 ?_
      refine g_top (show vI (((Int32.ofInt (y : Int)).toUInt32 >>> ((Int32.ofInt 8).toUInt32 &&& Int32.toUInt32 31)).toInt32.toInt) = vI ((y / 2 ^ 8 : Nat) : Int) from congrArg _ (iushr_of (n := y) (k := 8) (by omega) (by omega))) ?_
      refine g_istore_n (pc := 47) (lo2 := [(0, vI ((y / 2 ^ 8 : Nat) : Int)), (1, vI (m + (-8)))]) dJ6_numberOfLeadingZeros_0f7a4_47 (by decide) rfl ?_
      obtain ⟨e1, e2⟩ := shr_step (c := 2 ^ 8) h1 h2 (by decide)
      rw [← Nat.pow_add] at e1 e2
      exact s3 (s + 8) _ _ (by omega) (by omega) (by omega) e1 e2
  have s1 : ∀ (s y : Nat) (m : Int), 0 < y → y < 2147483648 → m = 31 - (s : Int) → 2 ^ s * y ≤ x → x < 2 ^ s * (y + 1) → G mJ6_numberOfLeadingZeros_0f7a4 (d, 0, 0, Ls, sx) 18 [(0, vI (y : Int)), (1, vI m)] [] (0, 0, N) h (Pq mJ6_numberOfLeadingZeros_0f7a4 0 0 (fun r h' => h' = h ∧ ∃ b : Nat, b ≤ 31 ∧ r = some (vI (31 - (b : Int))) ∧ 2 ^ b ≤ x ∧ x < 2 ^ (b + 1))) := by
    intro s y m y0 y1 em h1 h2
    refine g_iload_n (pc := 18) (x := (y : Int)) dJ6_numberOfLeadingZeros_0f7a4_18 rfl ?_
    refine g_ldcw (pc := 19) (n := 65536) dJ6_numberOfLeadingZeros_0f7a4_19 kcJ6_264 ?_
    refine g_icmp_lt (pc := 22) (tgt := 33) dJ6_numberOfLeadingZeros_0f7a4_22 (by decide) (by omega) (by omega) (fun hc => ?_) (fun hc => ?_)
    · exact s2 s y m y0 (by omega) em h1 h2
    · refine g_iinc (pc := 25) (x := m) (lo2 := [(0, vI (y : Int)), (1, vI (m + (-16)))]) dJ6_numberOfLeadingZeros_0f7a4_25 rfl (by decide) rfl ?_
      refine g_iload_n (pc := 28) (x := (y : Int)) dJ6_numberOfLeadingZeros_0f7a4_28 rfl ?_
      refine g_bipush (pc := 29) dJ6_numberOfLeadingZeros_0f7a4_29 (by decide +kernel) ?_
      refine g_iushr (pc := 31) dJ6_numberOfLeadingZeros_0f7a4_31 ?_
      refine g_top (show vI (((Int32.ofInt (y : Int)).toUInt32 >>> ((Int32.ofInt 16).toUInt32 &&& Int32.toUInt32 31)).toInt32.toInt) = vI ((y / 2 ^ 16 : Nat) : Int) from congrArg _ (iushr_of (n := y) (k := 16) (by omega) (by omega))) ?_
      refine g_istore_n (pc := 32) (lo2 := [(0, vI ((y / 2 ^ 16 : Nat) : Int)), (1, vI (m + (-16)))]) dJ6_numberOfLeadingZeros_0f7a4_32 (by decide) rfl ?_
      obtain ⟨e1, e2⟩ := shr_step (c := 2 ^ 16) h1 h2 (by decide)
      rw [← Nat.pow_add] at e1 e2
      exact s2 (s + 16) _ _ (by omega) (by omega) (by omega) e1 e2
  refine g_iload_n (pc := 0) (x := (x : Int)) dJ6_numberOfLeadingZeros_0f7a4_0 rfl ?_
  refine g_if_gtT (pc := 1) (tgt := 15) dJ6_numberOfLeadingZeros_0f7a4_1 (by decide) (by omega) (by omega) ?_
  refine g_bipush (pc := 15) dJ6_numberOfLeadingZeros_0f7a4_15 (by decide +kernel) ?_
  refine g_istore_n (pc := 17) (lo2 := [(0, vI (x : Int)), (1, vI 31)]) dJ6_numberOfLeadingZeros_0f7a4_17 (by decide) rfl ?_
  exact s1 0 x _ h0 hx (by omega) (by omega) (by omega)

theorem c_nlzI0 {d N : Nat} {h : MH} : Ok mJ6_numberOfLeadingZeros_0f7a4 d 0 0 [vI 0] N h (fun r h' => h' = h ∧ r = some (vI 32)) := by
  refine Ok.of pfJ6_numberOfLeadingZeros_0f7a4 rfl (Nat.le_of_ble_eq_true rfl) (fun Ls sx => ?_)
  show G mJ6_numberOfLeadingZeros_0f7a4 (d, 0, 0, Ls, sx) 0 [(0, vI 0)] [] (0, 0, N) h _
  refine g_iload_n (pc := 0) (x := 0) dJ6_numberOfLeadingZeros_0f7a4_0 rfl ?_
  refine g_if_gtF (pc := 1) (tgt := 15) dJ6_numberOfLeadingZeros_0f7a4_1 (by decide) (by omega) (by omega) ?_
  refine g_iload_n (pc := 4) (x := 0) dJ6_numberOfLeadingZeros_0f7a4_4 rfl ?_
  refine g_if_neF (pc := 5) (tgt := 13) dJ6_numberOfLeadingZeros_0f7a4_5 (by decide) (by omega) (by omega) ?_
  refine g_bipush (pc := 8) dJ6_numberOfLeadingZeros_0f7a4_8 (by decide +kernel) ?_
  refine g_goto (pc := 10) (tgt := 14) dJ6_numberOfLeadingZeros_0f7a4_10 (by decide) ?_
  exact r_int (pc := 14) dJ6_numberOfLeadingZeros_0f7a4_14 rfl rfl (Nat.le_refl _) ⟨rfl, rfl⟩

theorem c_nlzIn {d N : Nat} {h : MH} {x : Int} (hx : i32 x) (h0 : x < 0) : Ok mJ6_numberOfLeadingZeros_0f7a4 d 0 0 [vI x] N h (fun r h' => h' = h ∧ r = some (vI 0)) := by
  refine Ok.of pfJ6_numberOfLeadingZeros_0f7a4 rfl (Nat.le_of_ble_eq_true rfl) (fun Ls sx => ?_)
  show G mJ6_numberOfLeadingZeros_0f7a4 (d, 0, 0, Ls, sx) 0 [(0, vI x)] [] (0, 0, N) h _
  refine g_iload_n (pc := 0) (x := x) dJ6_numberOfLeadingZeros_0f7a4_0 rfl ?_
  refine g_if_gtF (pc := 1) (tgt := 15) dJ6_numberOfLeadingZeros_0f7a4_1 (by decide) (by omega) (by omega) ?_
  refine g_iload_n (pc := 4) (x := x) dJ6_numberOfLeadingZeros_0f7a4_4 rfl ?_
  refine g_if_neT (pc := 5) (tgt := 13) dJ6_numberOfLeadingZeros_0f7a4_5 (by decide) (by omega) (by omega) ?_
  refine g_iconst (pc := 13) dJ6_numberOfLeadingZeros_0f7a4_13 ?_
  exact r_int (pc := 14) dJ6_numberOfLeadingZeros_0f7a4_14 rfl rfl (Nat.le_refl _) ⟨rfl, rfl⟩
