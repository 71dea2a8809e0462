/-! ===== leaves: numbers ===== -/
theorem i64_msb {x : Int} (hx : i64 x) : (Int64.ofInt x).toBitVec.msb = decide (x < 0) := by
  have h1 : (Int64.ofInt x).toBitVec.toInt = x := i64_toInt hx
  rw [BitVec.msb_eq_toInt, h1]
theorem i64_xor_neg {x y : Int} (hx : i64 x) (hy : i64 y) : 0 ≤ (Int64.ofInt x ^^^ Int64.ofInt y).toInt ↔ (x < 0 ↔ y < 0) := by
  have h1 : (Int64.ofInt x ^^^ Int64.ofInt y).toBitVec.msb = ((Int64.ofInt x).toBitVec.msb ^^ (Int64.ofInt y).toBitVec.msb) := by
    rw [Int64.toBitVec_xor, BitVec.msb_xor]
  rw [i64_msb hx, i64_msb hy, BitVec.msb_eq_toInt] at h1
  have h2 : (Int64.ofInt x ^^^ Int64.ofInt y).toBitVec.toInt = (Int64.ofInt x ^^^ Int64.ofInt y).toInt := rfl
  rw [h2] at h1
  by_cases a : x < 0 <;> by_cases b : y < 0 <;> simp [a, b] at h1 ⊢ <;> omega
theorem i64_of (z : Int64) : i64 z.toInt := by
  have h1 := z.le_toInt
  have h2 := z.toInt_lt
  exact ⟨by omega, by omega⟩
theorem i32_of (z : Int32) : i32 z.toInt := by
  have h1 := z.le_toInt
  have h2 := z.toInt_lt
  exact ⟨by omega, by omega⟩
theorem tmod_bd (x : Int) {y : Int} (hy : 0 < y) : -y < x.tmod y ∧ x.tmod y < y := by
  have h1 := Int.tmod_lt_of_pos x hy
  have h2 := Int.lt_tmod_of_pos x hy
  exact ⟨h2, h1⟩
theorem tmod_emod (x : Int) {y : Int} (hy : 0 < y) : x % y = if x.tmod y < 0 then x.tmod y + y else x.tmod y := by
  rw [Int.tmod_eq_emod]
  have h1 := Int.emod_nonneg x (Int.ne_of_gt hy)
  have h2 := Int.emod_lt_of_pos x hy
  have h3 : (y.natAbs : Int) = y := by omega
  split
  · rw [if_neg (by omega)]; omega
  · rename_i hn
    rw [h3]
    have hd : ¬ y ∣ x := fun q => hn (Or.inr q)
    have h4 : x % y ≠ 0 := fun q => hd (Int.dvd_of_emod_eq_zero q)
    rw [if_pos (by omega)]
    omega

theorem c_floorMod {d N : Nat} {h : MH} {x y : Int} (hx : i64 x) (hy : i64 y) (h0 : 0 < y) : Ok mJ9_floorMod_f86c9 d 0 0 [vJ x, vJ y] N h (fun r h' => h' = h ∧ r = some (vJ (x % y))) := by
  refine Ok.of pfJ9_floorMod_f86c9 rfl (Nat.le_of_ble_eq_true rfl) (fun Ls sx => ?_)
  show G mJ9_floorMod_f86c9 (d, 0, 0, Ls, sx) 0 [(0, vJ x), (2, vJ y)] [] (0, 0, N) h _
  have hb := tmod_bd x h0
  have he := tmod_emod x h0
  have hz := i64_of (Int64.ofInt x ^^^ Int64.ofInt y)
  refine g_lload_n (pc := 0) (x := x) dJ9_floorMod_f86c9_0 rfl ?_
  refine g_lload_n (pc := 1) (x := y) dJ9_floorMod_f86c9_1 rfl ?_
  refine g_lrem (pc := 2) dJ9_floorMod_f86c9_2 (by omega) (by omega) (by omega) ?_
  refine g_lstore (pc := 3) (lo2 := [(0, vJ x), (2, vJ y), (4, vJ (x.tmod y))]) dJ9_floorMod_f86c9_3 (by decide) rfl ?_
  refine g_lload_n (pc := 5) (x := x) dJ9_floorMod_f86c9_5 rfl ?_
  refine g_lload_n (pc := 6) (x := y) dJ9_floorMod_f86c9_6 rfl ?_
  refine g_lxor (pc := 7) dJ9_floorMod_f86c9_7 ?_
  refine g_lconst0 (pc := 8) dJ9_floorMod_f86c9_8 ?_
  refine g_lif_ge (pc := 9) (tgt := 25) dJ9_floorMod_f86c9_9 dJ9_floorMod_f86c9_10 (by decide) (by omega) (by omega) (fun hc => ?_) (fun hc => ?_)
  · rw [i64_xor_neg hx hy] at hc
    refine g_lload (pc := 25) (x := x.tmod y) dJ9_floorMod_f86c9_25 rfl ?_
    have hs : ¬ x.tmod y < 0 := fun q => by
      have := Int.tmod_nonneg y (show 0 ≤ x by omega)
      omega
    rw [if_neg hs] at he
    exact r_long (pc := 27) dJ9_floorMod_f86c9_27 rfl rfl (Nat.le_refl _) ⟨rfl, by rw [he]⟩
  · rw [i64_xor_neg hx hy] at hc
    have hxn : x < 0 := by omega
    have hs : x.tmod y ≤ 0 := by
      have := Int.tmod_nonneg y (show 0 ≤ -x by omega)
      rw [Int.neg_tmod] at this
      omega
    refine g_lload (pc := 13) (x := x.tmod y) dJ9_floorMod_f86c9_13 rfl ?_
    refine g_lconst0 (pc := 15) dJ9_floorMod_f86c9_15 ?_
    refine g_lif_eq (pc := 16) (tgt := 25) dJ9_floorMod_f86c9_16 dJ9_floorMod_f86c9_17 (by decide) (by omega) (by omega) (fun hc2 => ?_) (fun hc2 => ?_)
    · refine g_lload (pc := 25) (x := x.tmod y) dJ9_floorMod_f86c9_25 rfl ?_
      exact r_long (pc := 27) dJ9_floorMod_f86c9_27 rfl rfl (Nat.le_refl _) ⟨rfl, by rw [he, if_neg (by omega)]⟩
    · refine g_lload (pc := 20) (x := x.tmod y) dJ9_floorMod_f86c9_20 rfl ?_
      refine g_lload_n (pc := 22) (x := y) dJ9_floorMod_f86c9_22 rfl ?_
      refine g_ladd (pc := 23) dJ9_floorMod_f86c9_23 ?_
      rw [if_pos (by omega)] at he
      exact r_long (pc := 24) dJ9_floorMod_f86c9_24 rfl rfl (Nat.le_refl _) ⟨rfl, by rw [he]⟩

theorem c_restOf {d N : Nat} {h : MH} {x y : Int} (hx : i64 x) (hy : i32 y) (h0 : 0 < y) : Ok mX3_restOf (d + 1) 0 0 [vJ x, vI y] N h (fun r h' => h' = h ∧ r = some (vI (x % y))) := by
  refine Ok.of pfX3_restOf rfl (Nat.le_of_ble_eq_true rfl) (fun Ls sx => ?_)
  show G mX3_restOf (d + 1, 0, 0, Ls, sx) 0 [(0, vJ x), (2, vI y)] [] (0, 0, N) h _
  refine g_iload_n (pc := 0) (x := y) dX3_restOf_0 rfl ?_
  refine g_if_leF (pc := 1) (tgt := 14) dX3_restOf_1 (by decide) (by omega) (by omega) ?_
  refine g_lload_n (pc := 4) (x := x) dX3_restOf_4 rfl ?_
  refine g_iload_n (pc := 5) (x := y) dX3_restOf_5 rfl ?_
  refine g_i2l (pc := 6) dX3_restOf_6 (by omega) ?_
  refine g_callS0 (pc := 7) (as := [vJ x, vJ y]) (st := []) lsX3_9 dX3_restOf_7 (Nat.le_of_ble_eq_true rfl) (by omega) (Nat.le_refl _) (Nat.le_refl _) (c_floorMod (d := d) hx (by omega) h0) ?_
  rintro r h' ⟨rfl, rfl⟩
  refine g_l2i (pc := 10) dX3_restOf_10 ?_
  refine g_goto (pc := 11) (tgt := 15) dX3_restOf_11 (by decide) ?_
  exact r_int (pc := 15) dX3_restOf_15 rfl rfl (Nat.le_refl _) ⟨rfl, rfl⟩

theorem c_mrestOf {d N : Nat} {h : MH} {x y : Int} (hx : i64 x) (hy : i32 y) (h0 : 0 < y) : Ok mX11_restOf d 0 0 [vJ x, vI y] N h (fun r h' => h' = h ∧ r = some (vI (x % y))) := by
  refine Ok.of pfX11_restOf rfl (Nat.le_of_ble_eq_true rfl) (fun Ls sx => ?_)
  show G mX11_restOf (d, 0, 0, Ls, sx) 0 [(0, vJ x), (2, vI y)] [] (0, 0, N) h _
  have hb := tmod_bd x h0
  have he := tmod_emod x h0
  refine g_lload_n (pc := 0) (x := x) dX11_restOf_0 rfl ?_
  refine g_iload_n (pc := 1) (x := y) dX11_restOf_1 rfl ?_
  refine g_i2l (pc := 2) dX11_restOf_2 (by omega) ?_
  refine g_lrem (pc := 3) dX11_restOf_3 (by omega) (by omega) (by omega) ?_
  refine g_lstore_n (pc := 4) (lo2 := [(0, vJ x), (2, vI y), (3, vJ (x.tmod y))]) dX11_restOf_4 (by decide) rfl ?_
  refine g_lload_n (pc := 5) (x := x.tmod y) dX11_restOf_5 rfl ?_
  refine g_lconst0 (pc := 6) dX11_restOf_6 ?_
  refine g_lif_ge (pc := 7) (tgt := 18) dX11_restOf_7 dX11_restOf_8 (by decide) (by omega) (by omega) (fun hc => ?_) (fun hc => ?_)
  · refine g_lload_n (pc := 18) (x := x.tmod y) dX11_restOf_18 rfl ?_
    refine g_l2i (pc := 19) dX11_restOf_19 ?_
    rw [if_neg (by omega)] at he
    exact r_int (pc := 20) dX11_restOf_20 rfl rfl (Nat.le_refl _) ⟨rfl, by rw [he]⟩
  · refine g_lload_n (pc := 11) (x := x.tmod y) dX11_restOf_11 rfl ?_
    refine g_iload_n (pc := 12) (x := y) dX11_restOf_12 rfl ?_
    refine g_i2l (pc := 13) dX11_restOf_13 (by omega) ?_
    refine g_ladd (pc := 14) dX11_restOf_14 ?_
    refine g_goto (pc := 15) (tgt := 19) dX11_restOf_15 (by decide) ?_
    refine g_l2i (pc := 19) dX11_restOf_19 ?_
    rw [if_pos (by omega)] at he
    exact r_int (pc := 20) dX11_restOf_20 rfl rfl (Nat.le_refl _) ⟨rfl, by rw [he]⟩

theorem c_maxI {d N : Nat} {h : MH} {x y : Int} (hx : i32 x) (hy : i32 y) : Ok mJ9_max_7cf53 d 0 0 [vI x, vI y] N h (fun r h' => h' = h ∧ r = some (vI (if x < y then y else x))) := by
  refine Ok.of pfJ9_max_7cf53 rfl (Nat.le_of_ble_eq_true rfl) (fun Ls sx => ?_)
  show G mJ9_max_7cf53 (d, 0, 0, Ls, sx) 0 [(0, vI x), (1, vI y)] [] (0, 0, N) h _
  refine g_iload_n (pc := 0) (x := x) dJ9_max_7cf53_0 rfl ?_
  refine g_iload_n (pc := 1) (x := y) dJ9_max_7cf53_1 rfl ?_
  refine g_icmp_lt (pc := 2) (tgt := 9) dJ9_max_7cf53_2 (by decide) (by omega) (by omega) (fun hc => ?_) (fun hc => ?_)
  · refine g_iload_n (pc := 9) (x := y) dJ9_max_7cf53_9 rfl ?_
    exact r_int (pc := 10) dJ9_max_7cf53_10 rfl rfl (Nat.le_refl _) ⟨rfl, by rw [if_pos hc]⟩
  · refine g_iload_n (pc := 5) (x := x) dJ9_max_7cf53_5 rfl ?_
    refine g_goto (pc := 6) (tgt := 10) dJ9_max_7cf53_6 (by decide) ?_
    exact r_int (pc := 10) dJ9_max_7cf53_10 rfl rfl (Nat.le_refl _) ⟨rfl, by rw [if_neg hc]⟩

theorem c_maxJ {d N : Nat} {h : MH} {x y : Int} (hx : i64 x) (hy : i64 y) : Ok mJ9_max_f86c9 d 0 0 [vJ x, vJ y] N h (fun r h' => h' = h ∧ r = some (vJ (if x < y then y else x))) := by
  refine Ok.of pfJ9_max_f86c9 rfl (Nat.le_of_ble_eq_true rfl) (fun Ls sx => ?_)
  show G mJ9_max_f86c9 (d, 0, 0, Ls, sx) 0 [(0, vJ x), (2, vJ y)] [] (0, 0, N) h _
  refine g_lload_n (pc := 0) (x := x) dJ9_max_f86c9_0 rfl ?_
  refine g_lload_n (pc := 1) (x := y) dJ9_max_f86c9_1 rfl ?_
  refine g_lif_lt (pc := 2) (tgt := 10) dJ9_max_f86c9_2 dJ9_max_f86c9_3 (by decide) (by omega) (by omega) (fun hc => ?_) (fun hc => ?_)
  · refine g_lload_n (pc := 10) (x := y) dJ9_max_f86c9_10 rfl ?_
    exact r_long (pc := 11) dJ9_max_f86c9_11 rfl rfl (Nat.le_refl _) ⟨rfl, by rw [if_pos hc]⟩
  · refine g_lload_n (pc := 6) (x := x) dJ9_max_f86c9_6 rfl ?_
    refine g_goto (pc := 7) (tgt := 11) dJ9_max_f86c9_7 (by decide) ?_
    exact r_long (pc := 11) dJ9_max_f86c9_11 rfl rfl (Nat.le_refl _) ⟨rfl, by rw [if_neg hc]⟩

theorem c_minI {d N : Nat} {h : MH} {x y : Int} (hx : i32 x) (hy : i32 y) : Ok mJ9_min_7cf53 d 0 0 [vI x, vI y] N h (fun r h' => h' = h ∧ r = some (vI (if y < x then y else x))) := by
  refine Ok.of pfJ9_min_7cf53 rfl (Nat.le_of_ble_eq_true rfl) (fun Ls sx => ?_)
  show G mJ9_min_7cf53 (d, 0, 0, Ls, sx) 0 [(0, vI x), (1, vI y)] [] (0, 0, N) h _
  refine g_iload_n (pc := 0) (x := x) dJ9_min_7cf53_0 rfl ?_
  refine g_iload_n (pc := 1) (x := y) dJ9_min_7cf53_1 rfl ?_
  refine g_icmp_gt (pc := 2) (tgt := 9) dJ9_min_7cf53_2 (by decide) (by omega) (by omega) (fun hc => ?_) (fun hc => ?_)
  · refine g_iload_n (pc := 9) (x := y) dJ9_min_7cf53_9 rfl ?_
    exact r_int (pc := 10) dJ9_min_7cf53_10 rfl rfl (Nat.le_refl _) ⟨rfl, by rw [if_pos hc]⟩
  · refine g_iload_n (pc := 5) (x := x) dJ9_min_7cf53_5 rfl ?_
    refine g_goto (pc := 6) (tgt := 10) dJ9_min_7cf53_6 (by decide) ?_
    exact r_int (pc := 10) dJ9_min_7cf53_10 rfl rfl (Nat.le_refl _) ⟨rfl, by rw [if_neg hc]⟩
