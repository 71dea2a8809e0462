/-! ===== Rounds: bitCount, dividedBy, platesInRounds ===== -/
def bc1 (y : Nat) : Nat := y - (y / 2 &&& 0x55555555)
def bc2 (y : Nat) : Nat := (y &&& 0x33333333) + (y / 4 &&& 0x33333333)
def bc3 (y : Nat) : Nat := (y + y / 16) &&& 0x0f0f0f0f
def bc4 (y : Nat) : Nat := y + y / 256
def bc5 (y : Nat) : Nat := y + y / 65536
theorem bc1_e : ∀ y : Nat, y < 2048 → (y : Int) - ((Int32.ofInt (((Int32.ofInt (y : Int)).toUInt32 >>> ((Int32.ofInt 1).toUInt32 &&& Int32.toUInt32 31)).toInt32.toInt) &&& Int32.ofInt 1431655765).toInt) = ((bc1 y : Nat) : Int) := by decide +kernel
theorem bc2_e : ∀ y : Nat, y < 2048 → ((Int32.ofInt (y : Int) &&& Int32.ofInt 858993459).toInt) + ((Int32.ofInt (((Int32.ofInt (y : Int)).toUInt32 >>> ((Int32.ofInt 2).toUInt32 &&& Int32.toUInt32 31)).toInt32.toInt) &&& Int32.ofInt 858993459).toInt) = ((bc2 y : Nat) : Int) := by decide +kernel
theorem bc3_e : ∀ y : Nat, y < 2048 → (Int32.ofInt ((y : Int) + (((Int32.ofInt (y : Int)).toUInt32 >>> ((Int32.ofInt 4).toUInt32 &&& Int32.toUInt32 31)).toInt32.toInt)) &&& Int32.ofInt 252645135).toInt = ((bc3 y : Nat) : Int) := by decide +kernel
theorem bc4_e : ∀ y : Nat, y < 2048 → (y : Int) + (((Int32.ofInt (y : Int)).toUInt32 >>> ((Int32.ofInt 8).toUInt32 &&& Int32.toUInt32 31)).toInt32.toInt) = ((bc4 y : Nat) : Int) := by decide +kernel
theorem bc5_e : ∀ y : Nat, y < 2048 → (y : Int) + (((Int32.ofInt (y : Int)).toUInt32 >>> ((Int32.ofInt 16).toUInt32 &&& Int32.toUInt32 31)).toInt32.toInt) = ((bc5 y : Nat) : Int) := by decide +kernel
theorem bc6_e : ∀ y : Nat, y < 2048 → (Int32.ofInt (y : Int) &&& Int32.ofInt 63).toInt = ((y % 64 : Nat) : Int) := by decide +kernel
theorem bc_all : ∀ x : Nat, x < 2048 → bc1 x < 2048 ∧ bc2 (bc1 x) < 2048 ∧ bc3 (bc2 (bc1 x)) < 2048 ∧ bc4 (bc3 (bc2 (bc1 x))) < 2048 ∧ bc5 (bc4 (bc3 (bc2 (bc1 x)))) < 2048 ∧ bc5 (bc4 (bc3 (bc2 (bc1 x)))) % 64 = bits9 x 11 := by decide +kernel
theorem c_bitCount {N d x : Nat} {h : MH} (hx : x < 2048) : Ok mJ6_bitCount_0f7a4 d 0 0 [vI (x : Int)] N h (fun r h2 => h2 = h ∧ r = some (vI ((bits9 x 11 : Nat) : Int))) := by
  refine Ok.of pfJ6_bitCount_0f7a4 rfl (Nat.le_of_ble_eq_true rfl) (fun Ls sx => ?_)
  show G mJ6_bitCount_0f7a4 (d + 0, 0, 0, Ls, sx) 0 [(0, vI (x : Int))] [] (0, 0, N) h _
  obtain ⟨u1, u2, u3, u4, u5, u6⟩ := bc_all x hx
  refine g_iload_n (pc := 0) (x := (x : Int)) dJ6_bitCount_0f7a4_0 rfl ?_
  refine g_iload_n (pc := 1) (x := (x : Int)) dJ6_bitCount_0f7a4_1 rfl ?_
  refine g_iconst (pc := 2) dJ6_bitCount_0f7a4_2 ?_
  refine g_iushr (pc := 3) dJ6_bitCount_0f7a4_3 ?_
  refine g_ldcw (pc := 4) (n := 1431655765) dJ6_bitCount_0f7a4_4 kcJ6_265 ?_
  refine g_iand (pc := 7) dJ6_bitCount_0f7a4_7 ?_
  refine g_isub (pc := 8) dJ6_bitCount_0f7a4_8 ?_
  rw [bc1_e x hx]
  refine g_istore_n (pc := 9) (lo2 := [(0, vI ((bc1 x : Nat) : Int))]) dJ6_bitCount_0f7a4_9 (by decide) rfl ?_
  refine g_iload_n (pc := 10) (x := ((bc1 x : Nat) : Int)) dJ6_bitCount_0f7a4_10 rfl ?_
  refine g_ldcw (pc := 11) (n := 858993459) dJ6_bitCount_0f7a4_11 kcJ6_266 ?_
  refine g_iand (pc := 14) dJ6_bitCount_0f7a4_14 ?_
  refine g_iload_n (pc := 15) (x := ((bc1 x : Nat) : Int)) dJ6_bitCount_0f7a4_15 rfl ?_
  refine g_iconst (pc := 16) dJ6_bitCount_0f7a4_16 ?_
  refine g_iushr (pc := 17) dJ6_bitCount_0f7a4_17 ?_
  refine g_ldcw (pc := 18) (n := 858993459) dJ6_bitCount_0f7a4_18 kcJ6_266 ?_
  refine g_iand (pc := 21) dJ6_bitCount_0f7a4_21 ?_
  refine g_iadd (pc := 22) dJ6_bitCount_0f7a4_22 ?_
  rw [bc2_e (bc1 x) u1]
  refine g_istore_n (pc := 23) (lo2 := [(0, vI ((bc2 (bc1 x) : Nat) : Int))]) dJ6_bitCount_0f7a4_23 (by decide) rfl ?_
  refine g_iload_n (pc := 24) (x := ((bc2 (bc1 x) : Nat) : Int)) dJ6_bitCount_0f7a4_24 rfl ?_
  refine g_iload_n (pc := 25) (x := ((bc2 (bc1 x) : Nat) : Int)) dJ6_bitCount_0f7a4_25 rfl ?_
  refine g_iconst (pc := 26) dJ6_bitCount_0f7a4_26 ?_
  refine g_iushr (pc := 27) dJ6_bitCount_0f7a4_27 ?_
  refine g_iadd (pc := 28) dJ6_bitCount_0f7a4_28 ?_
  refine g_ldcw (pc := 29) (n := 252645135) dJ6_bitCount_0f7a4_29 kcJ6_267 ?_
  refine g_iand (pc := 32) dJ6_bitCount_0f7a4_32 ?_
  rw [bc3_e (bc2 (bc1 x)) u2]
  refine g_istore_n (pc := 33) (lo2 := [(0, vI ((bc3 (bc2 (bc1 x)) : Nat) : Int))]) dJ6_bitCount_0f7a4_33 (by decide) rfl ?_
  refine g_iload_n (pc := 34) (x := ((bc3 (bc2 (bc1 x)) : Nat) : Int)) dJ6_bitCount_0f7a4_34 rfl ?_
  refine g_iload_n (pc := 35) (x := ((bc3 (bc2 (bc1 x)) : Nat) : Int)) dJ6_bitCount_0f7a4_35 rfl ?_
  refine g_bipush (pc := 36) dJ6_bitCount_0f7a4_36 (by decide +kernel) ?_
  refine g_iushr (pc := 38) dJ6_bitCount_0f7a4_38 ?_
  refine g_iadd (pc := 39) dJ6_bitCount_0f7a4_39 ?_
  rw [bc4_e (bc3 (bc2 (bc1 x))) u3]
  refine g_istore_n (pc := 40) (lo2 := [(0, vI ((bc4 (bc3 (bc2 (bc1 x))) : Nat) : Int))]) dJ6_bitCount_0f7a4_40 (by decide) rfl ?_
  refine g_iload_n (pc := 41) (x := ((bc4 (bc3 (bc2 (bc1 x))) : Nat) : Int)) dJ6_bitCount_0f7a4_41 rfl ?_
  refine g_iload_n (pc := 42) (x := ((bc4 (bc3 (bc2 (bc1 x))) : Nat) : Int)) dJ6_bitCount_0f7a4_42 rfl ?_
  refine g_bipush (pc := 43) dJ6_bitCount_0f7a4_43 (by decide +kernel) ?_
  refine g_iushr (pc := 45) dJ6_bitCount_0f7a4_45 ?_
  refine g_iadd (pc := 46) dJ6_bitCount_0f7a4_46 ?_
  rw [bc5_e (bc4 (bc3 (bc2 (bc1 x)))) u4]
  refine g_istore_n (pc := 47) (lo2 := [(0, vI ((bc5 (bc4 (bc3 (bc2 (bc1 x)))) : Nat) : Int))]) dJ6_bitCount_0f7a4_47 (by decide) rfl ?_
  refine g_iload_n (pc := 48) (x := ((bc5 (bc4 (bc3 (bc2 (bc1 x)))) : Nat) : Int)) dJ6_bitCount_0f7a4_48 rfl ?_
  refine g_bipush (pc := 49) dJ6_bitCount_0f7a4_49 (by decide +kernel) ?_
  refine g_iand (pc := 51) dJ6_bitCount_0f7a4_51 ?_
  rw [bc6_e _ u5, u6]
  exact r_int (pc := 52) dJ6_bitCount_0f7a4_52 rfl rfl (Nat.le_refl _) ⟨rfl, rfl⟩

theorem bits9_le (x : Nat) : ∀ k, bits9 x k ≤ k
  | 0 => Nat.le_refl 0
  | k + 1 => by
    have := bits9_le x k
    have := Nat.mod_lt (x / 2 ^ k) (show 0 < 2 by omega)
    show bits9 x k + x / 2 ^ k % 2 ≤ k + 1
    omega
theorem bits9_hi {x k : Nat} (hx : x < 2 ^ k) : ∀ j, k ≤ j → bits9 x j = bits9 x k
  | 0, h => by rw [show k = 0 by omega]
  | j + 1, h => by
    by_cases hj : k = j + 1
    · rw [hj]
    · have h1 : x / 2 ^ j % 2 = 0 := by rw [Nat.div_eq_of_lt (Nat.lt_of_lt_of_le hx (Nat.pow_le_pow_right (by omega) (by omega)))]
      show bits9 x j + x / 2 ^ j % 2 = _
      rw [h1, Nat.add_zero]
      exact bits9_hi hx j (by omega)
theorem iand1_of : ∀ x : Nat, x < 2048 → (Int32.ofInt (x : Int) &&& Int32.ofInt 1).toInt = ((x % 2 : Nat) : Int) := by decide +kernel
theorem ishl1_of : ∀ k : Nat, k < 12 → (Int32.ofInt 1 <<< (Int32.ofInt (k : Int) &&& 31)).toInt = ((2 ^ k : Nat) : Int) := by decide +kernel
theorem pow_11 : ∀ k : Nat, k < 12 → 2 ^ k ≤ 2048 := by decide +kernel
theorem dvd9_le {ps : Nat → Nat} {l x : Nat} : ∀ k, dvd9 ps l x k ≤ l
  | 0 => Nat.le_refl l
  | k + 1 => by
    show (if x / 2 ^ k % 2 = 1 then dvd9 ps l x k / ps k else dvd9 ps l x k) ≤ l
    have h := dvd9_le (ps := ps) (l := l) (x := x) k
    split
    · exact Nat.le_trans (Nat.div_le_self _ _) h
    · exact h

theorem dvb_l {N d b l x k : Nat} {wh : Int} {LL : Nat → Int} {ps : Nat → Nat} {h : MH} (hk : k ≤ 11) (hx : x < 2048) (hl : l ≤ 1000000000000) (hps : ∀ i, i < k → LL i = (ps i : Int) ∧ 2 ≤ ps i ∧ ps i ≤ 2147483647) (hr : Hd (0, 0, N) h (b + 79) (eO 8 [vR (b + 12), vR (b + 7), vR (b + 80), vR (b + 82), vR (b + 84), vR (b + 90), vR (b + 91), vR (b + 92), vJ wh])) (h82 : Hd (0, 0, N) h (b + 82) (eO 7 [vR (b + 83), vI (k : Int)])) (h83 : Hd (0, 0, N) h (b + 83) (eA 0 16 LL)) {Ls : Nat} {sx : Nat → Int} : ∀ (f i : Nat) (xi : Int), i + f = k → xi = (i : Int) → G mX8_dividedBy (d + 1, 0, 0, Ls, sx) 6 [(0, vR (b + 79)), (1, vJ (l : Int)), (3, vI (x : Int)), (4, vJ ((dvd9 ps l x i : Nat) : Int)), (6, vI xi)] [] (0, 0, N) h (Pq mX8_dividedBy 0 0 (fun r h2 => h2 = h ∧ r = some (vJ ((dvd9 ps l x k : Nat) : Int)))) := by
  intro f
  induction f with
  | zero =>
    intro i xi hf ex
    have ei : i = k := by omega
    subst ei
    refine g_iload (pc := 6) (x := xi) dX8_dividedBy_6 rfl ?_
    refine g_aload_n (pc := 8) (r := .inl (some (b + 79))) dX8_dividedBy_8 rfl ?_
    refine g_getf (pc := 9) (v := vR (b + 82)) flX8_18 dX8_dividedBy_9 hr rfl ?_
    refine g_getf (pc := 12) (v := vI (i : Int)) flX8_94 dX8_dividedBy_12 h82 rfl ?_
    refine g_icmp_geT (pc := 15) (tgt := 54) dX8_dividedBy_15 (by decide) (by omega) (by omega) (by omega) ?_
    refine g_lload (pc := 54) (x := ((dvd9 ps l x i : Nat) : Int)) dX8_dividedBy_54 rfl ?_
    exact r_long (pc := 56) dX8_dividedBy_56 rfl rfl (Nat.le_refl _) ⟨rfl, rfl⟩
  | succ f ih =>
    intro i xi hf ex
    obtain ⟨e1, e2, e3⟩ := hps i (by omega)
    have hle := dvd9_le (ps := ps) (l := l) (x := x) i
    have hs : dvd9 ps l x (i + 1) = if x / 2 ^ i % 2 = 1 then dvd9 ps l x i / ps i else dvd9 ps l x i := rfl
    have hdl : x / 2 ^ i < 2048 := Nat.lt_of_le_of_lt (Nat.div_le_self _ _) hx
    have hbt := Nat.mod_lt (x / 2 ^ i) (show 0 < 2 by omega)
    subst ex
    refine g_iload (pc := 6) (x := (i : Int)) dX8_dividedBy_6 rfl ?_
    refine g_aload_n (pc := 8) (r := .inl (some (b + 79))) dX8_dividedBy_8 rfl ?_
    refine g_getf (pc := 9) (v := vR (b + 82)) flX8_18 dX8_dividedBy_9 hr rfl ?_
    refine g_getf (pc := 12) (v := vI (k : Int)) flX8_94 dX8_dividedBy_12 h82 rfl ?_
    refine g_icmp_geF (pc := 15) (tgt := 54) dX8_dividedBy_15 (by decide) (by omega) (by omega) (by omega) ?_
    refine g_iload_n (pc := 18) (x := (x : Int)) dX8_dividedBy_18 rfl ?_
    refine g_iload (pc := 19) (x := (i : Int)) dX8_dividedBy_19 rfl ?_
    refine g_iushr (pc := 21) dX8_dividedBy_21 ?_
    rw [iushr_of (show x < 2 ^ 31 by omega) (show i < 32 by omega)]
    refine g_iconst (pc := 22) dX8_dividedBy_22 ?_
    refine g_iand (pc := 23) dX8_dividedBy_23 ?_
    rw [iand1_of _ hdl]
    refine g_iconst (pc := 24) dX8_dividedBy_24 ?_
    refine g_icmp_ne (pc := 25) (tgt := 48) dX8_dividedBy_25 (by decide) (by omega) (by omega) (fun hc => ?_) (fun hc => ?_)
    · rw [if_neg (by omega)] at hs
      refine g_iinc (pc := 48) (x := (i : Int)) (lo2 := [(0, vR (b + 79)), (1, vJ (l : Int)), (3, vI (x : Int)), (4, vJ ((dvd9 ps l x i : Nat) : Int)), (6, vI ((i : Int) + 1))]) dX8_dividedBy_48 rfl (by decide) rfl ?_
      refine g_goto (pc := 51) (tgt := 6) dX8_dividedBy_51 (by decide) ?_
      rw [← hs]
      exact ih (i + 1) _ (by omega) (by omega)
    · rw [if_pos (by omega)] at hs
      refine g_lload (pc := 28) (x := ((dvd9 ps l x i : Nat) : Int)) dX8_dividedBy_28 rfl ?_
      refine g_aload_n (pc := 30) (r := .inl (some (b + 79))) dX8_dividedBy_30 rfl ?_
      refine g_getf (pc := 31) (v := vR (b + 82)) flX8_18 dX8_dividedBy_31 hr rfl ?_
      refine g_getf (pc := 34) (v := vR (b + 83)) flX8_97 dX8_dividedBy_34 h82 rfl ?_
      refine g_iload (pc := 37) (x := (i : Int)) dX8_dividedBy_37 rfl ?_
      refine g_ialdN (pc := 39) (j := i) dX8_dividedBy_39 h83 (by omega) (by omega) (by omega) ?_
      rw [e1]
      refine g_iconst (pc := 40) dX8_dividedBy_40 ?_
      refine g_callS0 (pc := 41) (as := [vI (ps i : Int), vI 2]) (st := [vJ ((dvd9 ps l x i : Nat) : Int)]) lsX8_100 dX8_dividedBy_41 (Nat.le_of_ble_eq_true rfl) (by omega) (Nat.zero_le _) (Nat.zero_le _) (c_maxI (d := d) (by omega) (by omega)) ?_
      rintro r h1 ⟨e9, e8⟩
      subst e9
      subst e8
      rw [show (if (ps i : Int) < 2 then (2 : Int) else (ps i : Int)) = (ps i : Int) from if_neg (by omega)]
      refine g_i2l (pc := 44) dX8_dividedBy_44 (by omega) ?_
      refine g_ldiv (pc := 45) dX8_dividedBy_45 (by omega) (by omega) (by omega) ?_
      rw [tdivN (rfl : ((dvd9 ps l x i : Nat) : Int) = _) (rfl : (ps i : Int) = _), ← hs]
      refine g_lstore (pc := 46) (lo2 := [(0, vR (b + 79)), (1, vJ (l : Int)), (3, vI (x : Int)), (4, vJ ((dvd9 ps l x (i + 1) : Nat) : Int)), (6, vI (i : Int))]) dX8_dividedBy_46 (by decide) rfl ?_
      refine g_iinc (pc := 48) (x := (i : Int)) (lo2 := [(0, vR (b + 79)), (1, vJ (l : Int)), (3, vI (x : Int)), (4, vJ ((dvd9 ps l x (i + 1) : Nat) : Int)), (6, vI ((i : Int) + 1))]) dX8_dividedBy_48 rfl (by decide) rfl ?_
      refine g_goto (pc := 51) (tgt := 6) dX8_dividedBy_51 (by decide) ?_
      exact ih (i + 1) _ (by omega) (by omega)

theorem c_dividedBy {N d b l x k : Nat} {wh : Int} {LL : Nat → Int} {ps : Nat → Nat} {h : MH} (hk : k ≤ 11) (hx : x < 2048) (hl : l ≤ 1000000000000) (hps : ∀ i, i < k → LL i = (ps i : Int) ∧ 2 ≤ ps i ∧ ps i ≤ 2147483647) (hr : Hd (0, 0, N) h (b + 79) (eO 8 [vR (b + 12), vR (b + 7), vR (b + 80), vR (b + 82), vR (b + 84), vR (b + 90), vR (b + 91), vR (b + 92), vJ wh])) (h82 : Hd (0, 0, N) h (b + 82) (eO 7 [vR (b + 83), vI (k : Int)])) (h83 : Hd (0, 0, N) h (b + 83) (eA 0 16 LL)) : Ok mX8_dividedBy (d + 1) 0 0 [vR (b + 79), vJ (l : Int), vI (x : Int)] N h (fun r h2 => h2 = h ∧ r = some (vJ ((dvd9 ps l x k : Nat) : Int))) := by
  refine Ok.of pfX8_dividedBy rfl (Nat.le_of_ble_eq_true rfl) (fun Ls sx => ?_)
  show G mX8_dividedBy (d + 1, 0, 0, Ls, sx) 0 [(0, vR (b + 79)), (1, vJ (l : Int)), (3, vI (x : Int))] [] (0, 0, N) h _
  refine g_lload_n (pc := 0) (x := (l : Int)) dX8_dividedBy_0 rfl ?_
  refine g_lstore (pc := 1) (lo2 := [(0, vR (b + 79)), (1, vJ (l : Int)), (3, vI (x : Int)), (4, vJ (l : Int))]) dX8_dividedBy_1 (by decide) rfl ?_
  refine g_iconst (pc := 3) dX8_dividedBy_3 ?_
  refine g_istore (pc := 4) (lo2 := [(0, vR (b + 79)), (1, vJ (l : Int)), (3, vI (x : Int)), (4, vJ (l : Int)), (6, vI 0)]) dX8_dividedBy_4 (by decide) rfl ?_
  exact dvb_l hk hx hl hps hr h82 h83 k 0 _ (by omega) rfl

theorem pir_l1 {N d b M W l Ls : Nat} {sx : Nat → Int} {ls : List Nat} {LL : Nat → Int} {h0 : MH} {Q : Option MV → MR → MH → Prop} (hM : 2 ≤ M) (hM2 : M ≤ 500) (hl : 1 ≤ l) (hlb : l ≤ 1000000000000) (hLL : ∀ i, i < ls.length → LL i = ((ls.getD i 0 : Nat) : Int)) (hls16 : ls.length ≤ 16) (hlsB : ∀ x, x ∈ ls → x ∈ BM M) (hr0 : Hd (0, 0, N) h0 (b + 79) (eO 8 [vR (b + 12), vR (b + 7), vR (b + 80), vR (b + 82), vR (b + 84), vR (b + 90), vR (b + 91), vR (b + 92), vJ (W : Int)])) (h800 : Hd (0, 0, N) h0 (b + 80) (eO 7 [vR (b + 81), vI (ls.length : Int)])) (h810 : Hd (0, 0, N) h0 (b + 81) (eA 0 16 LL)) (hK : ∀ h2 : MH, PS N h2 (b + 82) (BM M) (fun x => x ∈ ls ∧ x ∣ l) → (∀ a, a ≠ b + 82 → a ≠ b + 83 → h2 a = h0 a) → G mX8_platesInRounds (d + 7, 0, 0, Ls, sx) 82 [(0, vR (b + 79)), (1, vJ (l : Int))] [] (0, 0, N) h2 Q) : ∀ (f i : Nat) (xi : Int) (h : MH), i + f = ls.length → xi = (i : Int) → PS N h (b + 82) (BM M) (fun x => x ∈ ls.take i ∧ x ∣ l) → (∀ a, a ≠ b + 82 → a ≠ b + 83 → h a = h0 a) → G mX8_platesInRounds (d + 7, 0, 0, Ls, sx) 28 [(0, vR (b + 79)), (1, vJ (l : Int)), (3, vI xi)] [] (0, 0, N) h Q := by
  intro f
  induction f with
  | zero =>
    intro i xi h hf ex hp hk
    have hr := hr0.keep (hk _ (by omega) (by omega))
    have h80 := h800.keep (hk _ (by omega) (by omega))
    have h81 := h810.keep (hk _ (by omega) (by omega))
    refine g_iload_n (pc := 28) (x := xi) dX8_platesInRounds_28 rfl ?_
    refine g_aload_n (pc := 29) (r := .inl (some (b + 79))) dX8_platesInRounds_29 rfl ?_
    refine g_getf (pc := 30) (v := vR (b + 80)) flX8_12 dX8_platesInRounds_30 hr rfl ?_
    refine g_getf (pc := 33) (v := vI (ls.length : Int)) flX8_94 dX8_platesInRounds_33 h80 rfl ?_
    refine g_icmp_geT (pc := 36) (tgt := 82) dX8_platesInRounds_36 (by decide) (by omega) (by omega) (by omega) ?_
    refine g_pick [0, 1] (lo2 := [(0, vR (b + 79)), (1, vJ (l : Int))]) rfl ?_
    refine hK h ?_ hk
    rw [List.take_of_length_le (by omega)] at hp
    exact hp
  | succ f ih =>
    intro i xi h hf ex hp hk
    have hr := hr0.keep (hk _ (by omega) (by omega))
    have h80 := h800.keep (hk _ (by omega) (by omega))
    have h81 := h810.keep (hk _ (by omega) (by omega))
    have hi : i < ls.length := by omega
    have hmem : ls.getD i 0 ∈ ls := by simp [List.getD, hi]
    obtain ⟨hlp, -, hl2⟩ := BM_mem (hlsB _ hmem)
    have hLi := hLL i hi
    have htk : ls.take (i + 1) = ls.take i ++ [ls.getD i 0] := by
      rw [List.take_succ_eq_append_getElem hi]
      simp [List.getD, hi]
    obtain ⟨p, el⟩ : ∃ p, p = ls.getD i 0 := ⟨_, rfl⟩
    rw [← el] at hlp hl2 hLi hmem htk
    have hl3 := hlp.1
    have em := tmodN (rfl : (l : Int) = (l : Int)) (rfl : (p : Int) = (p : Int))
    have hml := Nat.mod_le l p
    obtain ⟨tl, tL, t1, t2⟩ := id hp
    refine g_iload_n (pc := 28) (x := xi) dX8_platesInRounds_28 rfl ?_
    refine g_aload_n (pc := 29) (r := .inl (some (b + 79))) dX8_platesInRounds_29 rfl ?_
    refine g_getf (pc := 30) (v := vR (b + 80)) flX8_12 dX8_platesInRounds_30 hr rfl ?_
    refine g_getf (pc := 33) (v := vI (ls.length : Int)) flX8_94 dX8_platesInRounds_33 h80 rfl ?_
    refine g_icmp_geF (pc := 36) (tgt := 82) dX8_platesInRounds_36 (by decide) (by omega) (by omega) (by omega) ?_
    refine g_lload_n (pc := 39) (x := (l : Int)) dX8_platesInRounds_39 rfl ?_
    refine g_aload_n (pc := 40) (r := .inl (some (b + 79))) dX8_platesInRounds_40 rfl ?_
    refine g_getf (pc := 41) (v := vR (b + 80)) flX8_12 dX8_platesInRounds_41 hr rfl ?_
    refine g_getf (pc := 44) (v := vR (b + 81)) flX8_97 dX8_platesInRounds_44 h80 rfl ?_
    refine g_iload_n (pc := 47) (x := xi) dX8_platesInRounds_47 rfl ?_
    refine g_ialdN (pc := 48) (j := i) dX8_platesInRounds_48 h81 (by omega) (by omega) (by omega) ?_
    rw [hLi]
    refine g_iconst (pc := 49) dX8_platesInRounds_49 ?_
    refine g_callS0 (pc := 50) (as := [vI (p : Int), vI 2]) (st := [vJ (l : Int)]) lsX8_100 dX8_platesInRounds_50 (Nat.le_of_ble_eq_true rfl) (by omega) (Nat.zero_le _) (Nat.zero_le _) (c_maxI (d := d + 6) (by omega) (by omega)) ?_
    rintro r h1 ⟨e9, e8⟩
    subst e9
    subst e8
    rw [show (if (p : Int) < 2 then (2 : Int) else (p : Int)) = (p : Int) from if_neg (by omega)]
    refine g_i2l (pc := 53) dX8_platesInRounds_53 (by omega) ?_
    refine g_lrem (pc := 54) dX8_platesInRounds_54 (by omega) (by omega) (by omega) ?_
    rw [em]
    refine g_lconst0 (pc := 55) dX8_platesInRounds_55 ?_
    refine g_lif_ne (pc := 56) (tgt := 76) dX8_platesInRounds_56 dX8_platesInRounds_57 (by decide) (by omega) (by omega) (fun hc => ?_) (fun hc => ?_)
    · refine g_iinc (pc := 76) (x := xi) (lo2 := [(0, vR (b + 79)), (1, vJ (l : Int)), (3, vI (xi + 1))]) dX8_platesInRounds_76 rfl (by decide) rfl ?_
      refine g_goto (pc := 79) (tgt := 28) dX8_platesInRounds_79 (by decide) ?_
      refine ih (i + 1) _ h1 (by omega) (by omega) (hp.eqv (fun x => ?_)) hk
      rw [htk, List.mem_append, List.mem_singleton]
      constructor
      · exact fun y => ⟨Or.inl y.1, y.2⟩
      · rintro ⟨y | y, y2⟩
        · exact ⟨y, y2⟩
        · subst y
          exact absurd (Nat.mod_eq_zero_of_dvd y2) (by omega)
    · refine g_aload_n (pc := 60) (r := .inl (some (b + 79))) dX8_platesInRounds_60 rfl ?_
      refine g_getf (pc := 61) (v := vR (b + 82)) flX8_18 dX8_platesInRounds_61 hr rfl ?_
      refine g_aload_n (pc := 64) (r := .inl (some (b + 79))) dX8_platesInRounds_64 rfl ?_
      refine g_getf (pc := 65) (v := vR (b + 80)) flX8_12 dX8_platesInRounds_65 hr rfl ?_
      refine g_getf (pc := 68) (v := vR (b + 81)) flX8_97 dX8_platesInRounds_68 h80 rfl ?_
      refine g_iload_n (pc := 71) (x := xi) dX8_platesInRounds_71 rfl ?_
      refine g_ialdN (pc := 72) (j := i) dX8_platesInRounds_72 h81 (by omega) (by omega) (by omega) ?_
      rw [hLi]
      refine g_callV0 (pc := 73) (as := [vI (p : Int)]) (b := b + 82) (st := []) lvX8_124 dX8_platesInRounds_73 t1 (Nat.le_of_ble_eq_true rfl) (by omega) (Nat.zero_le _) (Nat.zero_le _) (c_psadd (d := d + 6) (BM_len hM hM2) (fun x hx => by have := (BM_mem hx).2.2; omega) (hlsB p hmem) hp) ?_
      rintro r h2 ⟨rfl, s1, k1⟩
      refine g_iinc (pc := 76) (x := xi) (lo2 := [(0, vR (b + 79)), (1, vJ (l : Int)), (3, vI (xi + 1))]) dX8_platesInRounds_76 rfl (by decide) rfl ?_
      refine g_goto (pc := 79) (tgt := 28) dX8_platesInRounds_79 (by decide) ?_
      refine ih (i + 1) _ h2 (by omega) (by omega) (s1.eqv (fun x => ?_)) (fun a z1 z2 => (k1 a z1 z2).trans (hk a z1 z2))
      rw [htk, List.mem_append, List.mem_singleton]
      constructor
      · rintro (y | y)
        · exact ⟨Or.inl y.1, y.2⟩
        · subst y
          exact ⟨Or.inr rfl, Nat.dvd_of_mod_eq_zero (by omega)⟩
      · rintro ⟨y | y, y2⟩
        · exact Or.inl ⟨y, y2⟩
        · exact Or.inr y

theorem pir_l2 {N d b n M l k Ls : Nat} {T LL sx : Nat → Int} {ps : Nat → Nat} {wh : Int} {h0 : MH} (n1 : 1 ≤ n) (hn : n ≤ 4) (hM : 2 ≤ M) (hM2 : M ≤ 500) (hk11 : k ≤ 11) (hlb : l ≤ 1000000000000) (hps : ∀ i, i < k → LL i = (ps i : Int) ∧ 2 ≤ ps i ∧ ps i ≤ 2147483647) (hpc0 : PC N h0 b M) (hr0 : Hd (0, 0, N) h0 (b + 79) (eO 8 [vR (b + 12), vR (b + 7), vR (b + 80), vR (b + 82), vR (b + 84), vR (b + 90), vR (b + 91), vR (b + 92), vJ wh])) (h820 : Hd (0, 0, N) h0 (b + 82) (eO 7 [vR (b + 83), vI (k : Int)])) (h830 : Hd (0, 0, N) h0 (b + 83) (eA 0 16 LL)) : ∀ (f c : Nat) (xc K : Int) (h : MH), c + f = 2 ^ k → xc = (c : Int) → K = ss (fun x => if bits9 x k % 2 = 0 then ((nfM n M (au n T) (dvd9 ps l x k) : Nat) : Int) else -((nfM n M (au n T) (dvd9 ps l x k) : Nat) : Int)) 0 c → PT N h (b + 12) M n T → RD N h b M n T → (∀ a, (a < b + 12 ∨ (b + 79 ≤ a ∧ a < b + 84) ∨ b + 93 ≤ a) → h a = h0 a) → G mX8_platesInRounds (d + 7, 0, 0, Ls, sx) 87 [(0, vR (b + 79)), (1, vJ (l : Int)), (3, vJ K), (5, vI xc)] [] (0, 0, N) h (Pq mX8_platesInRounds 0 0 (fun r9 h2 => r9 = some (vJ (ie ps l k (fun e => ((nfM n M (au n T) e : Nat) : Int)))) ∧ PT N h2 (b + 12) M n T ∧ RD N h2 b M n T ∧ ∀ a, (a < b + 12 ∨ b + 93 ≤ a) → h2 a = h0 a)) := by
  intro f
  induction f with
  | zero =>
    intro c xc K h hf ex eK hw hd hk
    have hr := hr0.keep (hk _ (by omega))
    have h82 := h820.keep (hk _ (by omega))
    have h83 := h830.keep (hk _ (by omega))
    have hpb := pow_11 k (by omega)
    have esh := ishl1_of k (by omega)
    refine g_iload (pc := 87) (x := xc) dX8_platesInRounds_87 rfl ?_
    refine g_iconst (pc := 89) dX8_platesInRounds_89 ?_
    refine g_aload_n (pc := 90) (r := .inl (some (b + 79))) dX8_platesInRounds_90 rfl ?_
    refine g_getf (pc := 91) (v := vR (b + 82)) flX8_18 dX8_platesInRounds_91 hr rfl ?_
    refine g_getf (pc := 94) (v := vI (k : Int)) flX8_94 dX8_platesInRounds_94 h82 rfl ?_
    refine g_ishl (pc := 97) dX8_platesInRounds_97 ?_
    rw [esh]
    refine g_icmp_geT (pc := 98) (tgt := 141) dX8_platesInRounds_98 (by decide) (by omega) (by omega) (by omega) ?_
    refine g_lload_n (pc := 141) (x := K) dX8_platesInRounds_141 rfl ?_
    have eK2 : K = ie ps l k (fun e => ((nfM n M (au n T) e : Nat) : Int)) := by rw [eK, show c = 2 ^ k by omega]; rfl
    rw [eK2]
    exact r_long (pc := 142) dX8_platesInRounds_142 rfl rfl (Nat.le_refl _) ⟨rfl, hw, hd, fun a z => hk a (by omega)⟩
  | succ f ih =>
    intro c xc K h hf ex eK hw hd hk
    have hr := hr0.keep (hk _ (by omega))
    have h82 := h820.keep (hk _ (by omega))
    have h83 := h830.keep (hk _ (by omega))
    have hpb := pow_11 k (by omega)
    have esh := ishl1_of k (by omega)
    subst ex
    refine g_iload (pc := 87) (x := (c : Int)) dX8_platesInRounds_87 rfl ?_
    refine g_iconst (pc := 89) dX8_platesInRounds_89 ?_
    refine g_aload_n (pc := 90) (r := .inl (some (b + 79))) dX8_platesInRounds_90 rfl ?_
    refine g_getf (pc := 91) (v := vR (b + 82)) flX8_18 dX8_platesInRounds_91 hr rfl ?_
    refine g_getf (pc := 94) (v := vI (k : Int)) flX8_94 dX8_platesInRounds_94 h82 rfl ?_
    refine g_ishl (pc := 97) dX8_platesInRounds_97 ?_
    rw [esh]
    refine g_icmp_geF (pc := 98) (tgt := 141) dX8_platesInRounds_98 (by decide) (by omega) (by omega) (by omega) ?_
    have hcx : c < 2048 := by omega
    have hle := dvd9_le (ps := ps) (l := l) (x := c) k
    refine g_aload_n (pc := 101) (r := .inl (some (b + 79))) dX8_platesInRounds_101 rfl ?_
    refine g_aload_n (pc := 102) (r := .inl (some (b + 79))) dX8_platesInRounds_102 rfl ?_
    refine g_lload_n (pc := 103) (x := (l : Int)) dX8_platesInRounds_103 rfl ?_
    refine g_iload (pc := 104) (x := (c : Int)) dX8_platesInRounds_104 rfl ?_
    refine g_callV0 (pc := 106) (as := [vJ (l : Int), vI (c : Int)]) (b := b + 79) (st := [vR (b + 79)]) lvX8_128 dX8_platesInRounds_106 hr (Nat.le_of_ble_eq_true rfl) (by omega) (Nat.zero_le _) (Nat.zero_le _) (c_dividedBy (d := d + 5) (ps := ps) hk11 hcx hlb hps hr h82 h83) ?_
    rintro r h1 ⟨e8, e9⟩
    subst e9
    subst e8
    refine g_callV0 (pc := 109) (as := [vJ ((dvd9 ps l c k : Nat) : Int)]) (b := b + 79) (st := []) lvX8_132 dX8_platesInRounds_109 hr (Nat.le_of_ble_eq_true rfl) (by omega) (Nat.zero_le _) (Nat.zero_le _) (c_platesFixed (d := d + 1) n1 hn hM hM2 (t := dvd9 ps l c k) (by omega) (hpc0.keep (fun a z1 z2 => hk a (by omega))) hw hd) ?_
    rintro r h2 ⟨e9, w2, d2, k2⟩
    subst e9
    refine g_lstore (pc := 112) (lo2 := [(0, vR (b + 79)), (1, vJ (l : Int)), (3, vJ K), (5, vI (c : Int)), (6, vJ ((nfM n M (au n T) (dvd9 ps l c k) : Nat) : Int))]) dX8_platesInRounds_112 (by decide) rfl ?_
    refine g_lload_n (pc := 114) (x := K) dX8_platesInRounds_114 rfl ?_
    refine g_iload (pc := 115) (x := (c : Int)) dX8_platesInRounds_115 rfl ?_
    refine g_callS0 (pc := 117) (as := [vI (c : Int)]) (st := [vJ K]) lsX8_136 dX8_platesInRounds_117 (Nat.le_of_ble_eq_true rfl) (by omega) (Nat.zero_le _) (Nat.zero_le _) (c_bitCount (d := d + 6) hcx) ?_
    rintro r h3 ⟨e8, e9⟩
    subst e9
    subst e8
    rw [bits9_hi (show c < 2 ^ k by omega) 11 hk11]
    refine g_iconst (pc := 120) dX8_platesInRounds_120 ?_
    have hb11 : bits9 c k < 2048 := by
      have := bits9_le c k
      omega
    refine g_irem (pc := 121) dX8_platesInRounds_121 (by omega) (by omega) (by omega) ?_
    rw [show ((bits9 c k : Nat) : Int).tmod 2 = ((bits9 c k % 2 : Nat) : Int) from tmodN rfl rfl]
    have hs9 : ss (fun x => if bits9 x k % 2 = 0 then ((nfM n M (au n T) (dvd9 ps l x k) : Nat) : Int) else -((nfM n M (au n T) (dvd9 ps l x k) : Nat) : Int)) 0 (c + 1) = ss (fun x => if bits9 x k % 2 = 0 then ((nfM n M (au n T) (dvd9 ps l x k) : Nat) : Int) else -((nfM n M (au n T) (dvd9 ps l x k) : Nat) : Int)) 0 c + (fun x => if bits9 x k % 2 = 0 then ((nfM n M (au n T) (dvd9 ps l x k) : Nat) : Int) else -((nfM n M (au n T) (dvd9 ps l x k) : Nat) : Int)) (0 + c) := ss_last _ c 0
    rw [Nat.zero_add] at hs9
    dsimp only at hs9
    have hb2 := Nat.mod_lt (bits9 c k) (show 0 < 2 by omega)
    refine g_if_ne (pc := 122) (tgt := 130) dX8_platesInRounds_122 (by decide) (by omega) (fun hc => ?_) (fun hc => ?_)
    · rw [if_neg (show ¬ bits9 c k % 2 = 0 by omega)] at hs9
      refine g_lload (pc := 130) (x := ((nfM n M (au n T) (dvd9 ps l c k) : Nat) : Int)) dX8_platesInRounds_130 rfl ?_
      refine g_lneg (pc := 132) dX8_platesInRounds_132 ?_
      refine g_ladd (pc := 133) dX8_platesInRounds_133 ?_
      refine g_lstore_n (pc := 134) (lo2 := [(0, vR (b + 79)), (1, vJ (l : Int)), (3, vJ (K + (-((nfM n M (au n T) (dvd9 ps l c k) : Nat) : Int)))), (5, vI (c : Int)), (6, vJ ((nfM n M (au n T) (dvd9 ps l c k) : Nat) : Int))]) dX8_platesInRounds_134 (by decide) rfl ?_
      refine g_iinc (pc := 135) (x := (c : Int)) (lo2 := [(0, vR (b + 79)), (1, vJ (l : Int)), (3, vJ (K + (-((nfM n M (au n T) (dvd9 ps l c k) : Nat) : Int)))), (5, vI ((c : Int) + 1)), (6, vJ ((nfM n M (au n T) (dvd9 ps l c k) : Nat) : Int))]) dX8_platesInRounds_135 rfl (by decide) rfl ?_
      refine g_goto (pc := 138) (tgt := 87) dX8_platesInRounds_138 (by decide) ?_
      refine g_pick [0, 1, 2, 3] (lo2 := [(0, vR (b + 79)), (1, vJ (l : Int)), (3, vJ (K + (-((nfM n M (au n T) (dvd9 ps l c k) : Nat) : Int)))), (5, vI ((c : Int) + 1))]) rfl ?_
      exact ih (c + 1) _ _ h3 (by omega) (by omega) (by rw [hs9, eK]) w2 d2 (fun a z => (k2 a (by omega) (by omega)).trans (hk a z))
    · rw [if_pos (show bits9 c k % 2 = 0 by omega)] at hs9
      refine g_lload (pc := 125) (x := ((nfM n M (au n T) (dvd9 ps l c k) : Nat) : Int)) dX8_platesInRounds_125 rfl ?_
      refine g_goto (pc := 127) (tgt := 133) dX8_platesInRounds_127 (by decide) ?_
      refine g_ladd (pc := 133) dX8_platesInRounds_133 ?_
      refine g_lstore_n (pc := 134) (lo2 := [(0, vR (b + 79)), (1, vJ (l : Int)), (3, vJ (K + ((nfM n M (au n T) (dvd9 ps l c k) : Nat) : Int))), (5, vI (c : Int)), (6, vJ ((nfM n M (au n T) (dvd9 ps l c k) : Nat) : Int))]) dX8_platesInRounds_134 (by decide) rfl ?_
      refine g_iinc (pc := 135) (x := (c : Int)) (lo2 := [(0, vR (b + 79)), (1, vJ (l : Int)), (3, vJ (K + ((nfM n M (au n T) (dvd9 ps l c k) : Nat) : Int))), (5, vI ((c : Int) + 1)), (6, vJ ((nfM n M (au n T) (dvd9 ps l c k) : Nat) : Int))]) dX8_platesInRounds_135 rfl (by decide) rfl ?_
      refine g_goto (pc := 138) (tgt := 87) dX8_platesInRounds_138 (by decide) ?_
      refine g_pick [0, 1, 2, 3] (lo2 := [(0, vR (b + 79)), (1, vJ (l : Int)), (3, vJ (K + ((nfM n M (au n T) (dvd9 ps l c k) : Nat) : Int))), (5, vI ((c : Int) + 1))]) rfl ?_
      exact ih (c + 1) _ _ h3 (by omega) (by omega) (by rw [hs9, eK]) w2 d2 (fun a z => (k2 a (by omega) (by omega)).trans (hk a z))

theorem c_platesInRounds {N d b n M W l : Nat} {T : Nat → Int} {L : List Nat} {h : MH} (n1 : 1 ≤ n) (hn : n ≤ 4) (hM : 2 ≤ M) (hM2 : M ≤ 500) (hW : isPer (mp (n + 1) M (au n T)) 32 W) (hWb : W ≤ 8000000000000000000) (hl : 1 ≤ l) (hlb : l ≤ 1000000000000) (hL : ∀ x ∈ L, 1 ≤ x ∧ x ∣ W) (hf : ∀ m, 1 ≤ m → nfM n M (au n T) m = cD L m) (hpc : PC N h b M) (hw : PT N h (b + 12) M n T) (hd : RD N h b M n T) : Ok mX8_platesInRounds (d + 7) 0 0 [vR (b + 79), vJ (l : Int)] N h (fun r9 h2 => r9 = some (vJ ((cE L l : Nat) : Int)) ∧ PT N h2 (b + 12) M n T ∧ RD N h2 b M n T ∧ ∀ a, (a < b + 12 ∨ b + 93 ≤ a) → h2 a = h a) := by
  refine Ok.of pfX8_platesInRounds rfl (Nat.le_of_ble_eq_true rfl) (fun Ls sx => ?_)
  show G mX8_platesInRounds (d + 7, 0, 0, Ls, sx) 0 [(0, vR (b + 79)), (1, vJ (l : Int))] [] (0, 0, N) h _
  obtain ⟨wh, r1, -⟩ := id hd
  have hW1 := hW.1
  have em := tmodN (rfl : (W : Int) = (W : Int)) (rfl : (l : Int) = (l : Int))
  have hml := Nat.mod_le W l
  refine g_lload_n (pc := 0) (x := (l : Int)) dX8_platesInRounds_0 rfl ?_
  refine g_lconst1 (pc := 1) dX8_platesInRounds_1 ?_
  refine g_lif_ltF (pc := 2) (tgt := 17) dX8_platesInRounds_2 dX8_platesInRounds_3 (by decide) (by omega) (by omega) (by omega) ?_
  refine g_aload_n (pc := 6) (r := .inl (some (b + 79))) dX8_platesInRounds_6 rfl ?_
  refine g_callV0 (pc := 7) (as := []) (b := b + 79) (st := []) lvX8_76 dX8_platesInRounds_7 r1 (Nat.le_of_ble_eq_true rfl) (by omega) (Nat.zero_le _) (Nat.zero_le _) (c_whole (d := d) n1 hn hM hM2 hW hpc hw hd) ?_
  rintro r h1 ⟨rfl, c1, c2, c3⟩
  refine g_lload_n (pc := 10) (x := (l : Int)) dX8_platesInRounds_10 rfl ?_
  refine g_lrem (pc := 11) dX8_platesInRounds_11 (by omega) (by omega) (by omega) ?_
  rw [em]
  refine g_lconst0 (pc := 12) dX8_platesInRounds_12 ?_
  refine g_lif_eq (pc := 13) (tgt := 19) dX8_platesInRounds_13 dX8_platesInRounds_14 (by decide) (by omega) (by omega) (fun hc => ?_) (fun hc => ?_)
  · obtain ⟨s1, s2, s3, s4, s5, s6, s7⟩ := id c2
    obtain ⟨ls, LL, a1, a2, a3, a4, a5, a6⟩ := id s2
    obtain ⟨B0, S0, s3'⟩ := id s3
    obtain ⟨tl, tL, t1, -⟩ := id s3'
    have hlW : l ∣ W := Nat.dvd_of_mod_eq_zero (by omega)
    have hls : ls.length ≤ 16 := Nat.le_trans (a4.length_le_of_subset (fun x hx => a5 x hx)) (BM_len hM hM2)
    refine g_aload_n (pc := 19) (r := .inl (some (b + 79))) dX8_platesInRounds_19 rfl ?_
    refine g_getf (pc := 20) (v := vR (b + 82)) flX8_18 dX8_platesInRounds_20 s1 rfl ?_
    refine g_callV0 (pc := 23) (as := []) (b := b + 82) (st := []) lvX8_52 dX8_platesInRounds_23 t1 (Nat.le_of_ble_eq_true rfl) (by omega) (Nat.zero_le _) (Nat.zero_le _) (c_psclear (d := d + 6) s3') ?_
    rintro r h2 ⟨rfl, v1, k1⟩
    refine g_iconst (pc := 26) dX8_platesInRounds_26 ?_
    refine g_istore_n (pc := 27) (lo2 := [(0, vR (b + 79)), (1, vJ (l : Int)), (3, vI 0)]) dX8_platesInRounds_27 (by decide) rfl ?_
    refine pir_l1 (h0 := h2) (ls := ls) hM hM2 hl hlb a3 hls a5 (s1.keep (k1 _ (by omega))) (a1.keep (k1 _ (by omega))) (a2.keep (k1 _ (by omega))) (fun h3 p3 k3 => ?_) ls.length 0 _ h2 (by omega) rfl ((v1.re (B2 := BM M) (fun _ z => z.elim)).eqv (fun x => ⟨fun z => z.elim, fun z => absurd z.1 (by rw [List.take_zero]; exact List.not_mem_nil)⟩)) (fun _ _ _ => rfl)
    have kk : ∀ a, a ≠ b + 82 → a ≠ b + 83 → h3 a = h1 a := fun a z1 z2 => (k3 a z1 z2).trans (k1 a z1)
    obtain ⟨qs, QL, q1, q2, q3, q4, q5, q6⟩ := id p3
    have hqp : ∀ x, x ∈ qs ↔ prm x ∧ x ∣ l := fun x => by
      rw [q6]
      dsimp only
      rw [a6]
      exact ⟨fun z => ⟨z.1.1, z.2⟩, fun z => ⟨⟨z.1, Nat.dvd_trans z.2 hlW⟩, z.2⟩⟩
    have hq11 : qs.length ≤ 11 := few_11 hl hlb q4 (fun x hx => (hqp x).mp hx)
    have hmem : ∀ j, j < qs.length → qs.getD j 0 ∈ qs := fun j hj => by simp [List.getD, hj]
    have hps : ∀ i, i < qs.length → QL i = ((qs.getD i 0 : Nat) : Int) ∧ 2 ≤ qs.getD i 0 ∧ qs.getD i 0 ≤ 2147483647 := fun i hi => ⟨q3 i hi, ((hqp _).mp (hmem i hi)).1.1, by have := (BM_mem (q5 _ (hmem i hi))).2.2; omega⟩
    have hie := ie_LC (ps := fun i => qs.getD i 0) (k := qs.length) hL hf hl (fun i hi => (hqp _).mp (hmem i hi)) (fun i j hi hj e => by
      simp only [List.getD, hi, hj, List.getElem?_eq_getElem, Option.getD_some] at e
      exact (List.getElem_inj q4).mp e) (fun p p1 p2 => by
      obtain ⟨j, j1, j2⟩ := List.mem_iff_getElem.mp ((hqp p).mpr ⟨p1, p2⟩)
      exact ⟨j, j1, by simp [List.getD, j1, j2]⟩)
    have hd3 : RD N h3 b M n T := RDW.rd hW ⟨s1.keep (kk _ (by omega) (by omega)), s2.keep (kk _ (by omega) (by omega)) (kk _ (by omega) (by omega)), ⟨_, _, p3⟩, s4.keep (kk _ (by omega) (by omega)), s5.keep (kk _ (by omega) (by omega)), s6.keep (kk _ (by omega) (by omega)), s7.keep (fun a z1 z2 => kk a (by omega) (by omega))⟩
    refine g_lconst0 (pc := 82) dX8_platesInRounds_82 ?_
    refine g_lstore_n (pc := 83) (lo2 := [(0, vR (b + 79)), (1, vJ (l : Int)), (3, vJ 0)]) dX8_platesInRounds_83 (by decide) rfl ?_
    refine g_iconst (pc := 84) dX8_platesInRounds_84 ?_
    refine g_istore (pc := 85) (lo2 := [(0, vR (b + 79)), (1, vJ (l : Int)), (3, vJ 0), (5, vI 0)]) dX8_platesInRounds_85 (by decide) rfl ?_
    refine Q_mono (pir_l2 (h0 := h3) (T := T) (ps := fun i => qs.getD i 0) (k := qs.length) n1 hn hM hM2 hq11 hlb hps (hpc.keep (fun a z1 z2 => (kk a (by omega) (by omega)).trans (c3 a (by omega) (by omega)))) (s1.keep (kk _ (by omega) (by omega))) q1 q2 (2 ^ qs.length) 0 _ _ h3 (by omega) rfl rfl (c1.keep (fun a z1 z2 => kk a (by omega) (by omega))) hd3 (fun _ _ => rfl)) ?_
    rintro r9 h4 ⟨f1, f2, f3, f4⟩
    rw [hie] at f1
    exact ⟨f1, f2, f3, fun a z => (f4 a z).trans ((kk a (by omega) (by omega)).trans (c3 a (by omega) (by omega)))⟩
  · refine g_lconst0 (pc := 17) dX8_platesInRounds_17 ?_
    have hz := cE_zero (W := W) (l := l) (fun z => hc (by rw [Nat.mod_eq_zero_of_dvd z]; rfl)) L hL
    exact r_long (pc := 18) dX8_platesInRounds_18 rfl rfl (Nat.le_refl _) ⟨by rw [hz]; rfl, c1, c2.rd hW, fun a z => c3 a (by omega) (by omega)⟩
