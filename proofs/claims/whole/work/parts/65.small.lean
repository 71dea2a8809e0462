/-! ===== Primes, Part, Mill: small methods ===== -/
theorem c_prclear {N d q k : Nat} {h : MH} (hq : Hd (0, 0, N) h q (eO 7 [vR (q + 1), vI (k : Int)])) : Ok mX7_clear d 0 0 [vR q] N h (fun r h2 => r = none ∧ h2 q = eO 7 [vR (q + 1), vI ((0 : Nat) : Int)] ∧ ∀ b, b ≠ q → h2 b = h b) := by
  refine Ok.of pfX7_clear rfl (Nat.le_of_ble_eq_true rfl) (fun Ls sx => ?_)
  show G mX7_clear (d, 0, 0, Ls, sx) 0 [(0, vR q)] [] (0, 0, N) h _
  refine g_aload_n (pc := 0) (r := .inl (some q)) dX7_clear_0 rfl ?_
  refine g_iconst (pc := 1) dX7_clear_1 ?_
  refine g_putf (pc := 2) fpX7_15 dX7_clear_2 hq (okv_int _) (Nat.le_of_ble_eq_true rfl) ?_
  have hq_1 := hq.self (e := eO 7 [vR (q + 1), vI 0])
  exact r_void (pc := 5) dX7_clear_5 rfl rfl (Nat.le_refl _) ⟨rfl, va_up_self _ _ _, fun b b1 => va_up_ne _ _ b1⟩

theorem pradd_l {κ : KX} {N q k : Nat} {p : Int} {h : MH} {L : Nat → Int} (hk : k ≤ 16) (hp : i32 p) (rL : ∀ i, i < k → i32 (L i)) (hq : Hd (0, 0, N) h q (eO 7 [vR (q + 1), vI (k : Int)])) (hL : Hd (0, 0, N) h (q + 1) (eA 0 16 L)) {P : Option MV → MH → Prop} (p1 : (∃ i, i < k ∧ L i = p) → P none h) (p2 : (∀ i, i < k → L i ≠ p) → k < 16 → P none (va_up (va_up h (q + 1) (eA 0 16 (va_up L k p))) q (eO 7 [vR (q + 1), vI ((k : Int) + 1)]))) (p3 : (∀ i, i < k → L i ≠ p) → k = 16 → P none h) : ∀ (m j : Nat) (xj : Int), j + m = k → xj = (j : Int) → (∀ i, i < j → L i ≠ p) → G mX7_add κ 2 [(0, vR q), (1, vI p), (2, vI xj)] [] (0, 0, N) h (Pq mX7_add 0 0 P) := by
  intro m
  induction m with
  | zero =>
    intro j xj hm ex hv
    have hv : ∀ i, i < k → L i ≠ p := fun i z => hv i (by omega)
    refine g_iload_n (pc := 2) (x := xj) dX7_add_2 rfl ?_
    refine g_aload_n (pc := 3) (r := .inl (some q)) dX7_add_3 rfl ?_
    refine g_getf (pc := 4) (v := vI (k : Int)) flX7_15 dX7_add_4 hq rfl ?_
    refine g_icmp_geT (pc := 7) (tgt := 27) dX7_add_7 (by decide) (by omega) (by omega) (by omega) ?_
    refine g_aload_n (pc := 27) (r := .inl (some q)) dX7_add_27 rfl ?_
    refine g_getf (pc := 28) (v := vI (k : Int)) flX7_15 dX7_add_28 hq rfl ?_
    refine g_aload_n (pc := 31) (r := .inl (some q)) dX7_add_31 rfl ?_
    refine g_getf (pc := 32) (v := vR (q + 1)) flX7_9 dX7_add_32 hq rfl ?_
    refine g_alen (pc := 35) dX7_add_35 hL (by decide) ?_
    refine g_icmp_ge (pc := 36) (tgt := 59) dX7_add_36 (by decide) (by omega) (by omega) (fun hc => ?_) (fun hc => ?_)
    · exact r_void (pc := 59) dX7_add_59 rfl rfl (Nat.le_refl _) (p3 hv (by omega))
    · refine g_aload_n (pc := 39) (r := .inl (some q)) dX7_add_39 rfl ?_
      refine g_getf (pc := 40) (v := vR (q + 1)) flX7_9 dX7_add_40 hq rfl ?_
      refine g_aload_n (pc := 43) (r := .inl (some q)) dX7_add_43 rfl ?_
      refine g_getf (pc := 44) (v := vI (k : Int)) flX7_15 dX7_add_44 hq rfl ?_
      refine g_iload_n (pc := 47) (x := p) dX7_add_47 rfl ?_
      refine g_iastN (pc := 48) (j := k) dX7_add_48 hL (by omega) (by omega) (by omega) ?_
      have hq_1 := hq.ne (e := eA 0 16 (va_up L k p)) (a := q + 1) (by omega)
      have hL_1 := hL.self (e := eA 0 16 (va_up L k p))
      refine g_aload_n (pc := 49) (r := .inl (some q)) dX7_add_49 rfl ?_
      refine g_dup (pc := 50) dX7_add_50 rfl ?_
      refine g_getf (pc := 51) (v := vI (k : Int)) flX7_15 dX7_add_51 hq_1 rfl ?_
      refine g_iconst (pc := 54) dX7_add_54 ?_
      refine g_iadd (pc := 55) dX7_add_55 ?_
      refine g_putf (pc := 56) fpX7_15 dX7_add_56 hq_1 (okv_int _) (Nat.le_of_ble_eq_true rfl) ?_
      have hq_2 := hq_1.self (e := eO 7 [vR (q + 1), vI ((k : Int) + 1)])
      have hL_2 := hL_1.ne (e := eO 7 [vR (q + 1), vI ((k : Int) + 1)]) (a := q) (by omega)
      exact r_void (pc := 59) dX7_add_59 rfl rfl (Nat.le_refl _) (p2 hv (by omega))
  | succ m ih =>
    intro j xj hm ex hv
    have r1 := rL j (by omega)
    refine g_iload_n (pc := 2) (x := xj) dX7_add_2 rfl ?_
    refine g_aload_n (pc := 3) (r := .inl (some q)) dX7_add_3 rfl ?_
    refine g_getf (pc := 4) (v := vI (k : Int)) flX7_15 dX7_add_4 hq rfl ?_
    refine g_icmp_geF (pc := 7) (tgt := 27) dX7_add_7 (by decide) (by omega) (by omega) (by omega) ?_
    refine g_aload_n (pc := 10) (r := .inl (some q)) dX7_add_10 rfl ?_
    refine g_getf (pc := 11) (v := vR (q + 1)) flX7_9 dX7_add_11 hq rfl ?_
    refine g_iload_n (pc := 14) (x := xj) dX7_add_14 rfl ?_
    refine g_ialdN (pc := 15) (j := j) dX7_add_15 hL (by omega) (by omega) (by omega) ?_
    refine g_iload_n (pc := 16) (x := p) dX7_add_16 rfl ?_
    refine g_icmp_ne (pc := 17) (tgt := 21) dX7_add_17 (by decide) (by omega) (by omega) (fun hc => ?_) (fun hc => ?_)
    · refine g_iinc (pc := 21) (x := xj) (lo2 := [(0, vR q), (1, vI p), (2, vI (xj + 1))]) dX7_add_21 rfl (by decide) rfl ?_
      refine g_goto (pc := 24) (tgt := 2) dX7_add_24 (by decide) ?_
      exact ih (j + 1) (xj + 1) (by omega) (by omega) (lt_s hv hc)
    · exact r_void (pc := 20) dX7_add_20 rfl rfl (Nat.le_refl _) (p1 ⟨j, by omega, hc⟩)

theorem c_pradd {N q k : Nat} {p : Int} {h : MH} {L : Nat → Int} (hk : k ≤ 16) (hp : i32 p) (rL : ∀ i, i < k → i32 (L i)) (hq : Hd (0, 0, N) h q (eO 7 [vR (q + 1), vI (k : Int)])) (hL : Hd (0, 0, N) h (q + 1) (eA 0 16 L)) {d : Nat} : Ok mX7_add d 0 0 [vR q, vI p] N h (fun r h2 => r = none ∧ (((∃ i, i < k ∧ L i = p) ∧ h2 = h) ∨ ((∀ i, i < k → L i ≠ p) ∧ k < 16 ∧ h2 q = eO 7 [vR (q + 1), vI ((k + 1 : Nat) : Int)] ∧ h2 (q + 1) = eA 0 16 (va_up L k p) ∧ ∀ b, b ≠ q → b ≠ q + 1 → h2 b = h b) ∨ ((∀ i, i < k → L i ≠ p) ∧ k = 16 ∧ h2 = h))) := by
  refine Ok.of pfX7_add rfl (Nat.le_of_ble_eq_true rfl) (fun Ls sx => ?_)
  show G mX7_add (d, 0, 0, Ls, sx) 0 [(0, vR q), (1, vI p)] [] (0, 0, N) h _
  refine g_iconst (pc := 0) dX7_add_0 ?_
  refine g_istore_n (pc := 1) (lo2 := [(0, vR q), (1, vI p), (2, vI 0)]) dX7_add_1 (by decide) rfl ?_
  exact pradd_l hk hp rL hq hL (fun z => ⟨rfl, Or.inl ⟨z, rfl⟩⟩) (fun z z2 => ⟨rfl, Or.inr (Or.inl ⟨z, z2, va_up_self _ _ _, (va_up_ne _ _ (by omega)).trans (va_up_self _ _ _), fun b b1 b2 => (va_up_ne _ _ b1).trans (va_up_ne _ _ b2)⟩)⟩) (fun z z2 => ⟨rfl, Or.inr (Or.inr ⟨z, z2, rfl⟩)⟩) k 0 _ (by omega) rfl (fun i z => by omega)

theorem c_leave {N d q : Nat} {p0 w0 o0 : Int} {h : MH} (hq : Hd (0, 0, N) h q (eO 4 [vI p0, vI w0, vI o0])) : Ok mX4_leave d 0 0 [vR q] N h (fun r h2 => r = none ∧ h2 q = eO 4 [vI 0, vI 1, vI 0] ∧ ∀ b, b ≠ q → h2 b = h b) := by
  refine Ok.of pfX4_leave rfl (Nat.le_of_ble_eq_true rfl) (fun Ls sx => ?_)
  show G mX4_leave (d, 0, 0, Ls, sx) 0 [(0, vR q)] [] (0, 0, N) h _
  refine g_aload_n (pc := 0) (r := .inl (some q)) dX4_leave_0 rfl ?_
  refine g_iconst (pc := 1) dX4_leave_1 ?_
  refine g_putf (pc := 2) fpX4_13 dX4_leave_2 hq (okv_int _) (Nat.le_of_ble_eq_true rfl) ?_
  have hq_1 := hq.self (e := eO 4 [vI 0, vI w0, vI o0])
  refine g_aload_n (pc := 5) (r := .inl (some q)) dX4_leave_5 rfl ?_
  refine g_iconst (pc := 6) dX4_leave_6 ?_
  refine g_putf (pc := 7) fpX4_7 dX4_leave_7 hq_1 (okv_int _) (Nat.le_of_ble_eq_true rfl) ?_
  have hq_2 := hq_1.self (e := eO 4 [vI 0, vI 1, vI o0])
  refine g_aload_n (pc := 10) (r := .inl (some q)) dX4_leave_10 rfl ?_
  refine g_iconst (pc := 11) dX4_leave_11 ?_
  refine g_putf (pc := 12) fpX4_16 dX4_leave_12 hq_2 (okv_int _) (Nat.le_of_ble_eq_true rfl) ?_
  have hq_3 := hq_2.self (e := eO 4 [vI 0, vI 1, vI 0])
  exact r_void (pc := 15) dX4_leave_15 rfl rfl (Nat.le_refl _) ⟨rfl, va_up_self _ _ _, fun b b1 => (va_up_ne _ _ b1).trans ((va_up_ne _ _ b1).trans (va_up_ne _ _ b1))⟩

theorem take_l {κ : KX} {N q p : Nat} {nn : Int} (hp : 2 ≤ p) (hp2 : p ≤ 500) {P : Option MV → MH → Prop} : ∀ (l o w : Nat) (xl xw xo xi : Int) (h : MH), xl = (l : Int) → xw = (w : Int) → xo = (o : Int) → xi = (o : Int) → 0 < l → l < 2 ^ (31 - o) → o ≤ 31 → w * l ≤ 500 → w = p ^ o → Hd (0, 0, N) h q (eO 4 [vI (p : Int), vI xw, vI xo]) → (∀ (h2 : MH) (l2 o2 : Nat), Hd (0, 0, N) h2 q (eO 4 [vI (p : Int), vI ((p ^ o2 : Nat) : Int), vI (o2 : Int)]) → (∀ b, b ≠ q → h2 b = h b) → w * l = p ^ o2 * l2 → ¬ p ∣ l2 → o ≤ o2 → P (some (vI (l2 : Int))) h2) → G mX4_take κ 14 [(0, vR q), (1, vI (p : Int)), (2, vI nn), (3, vI xl), (4, vI xi)] [] (0, 0, N) h (Pq mX4_take 0 0 P) := by
  intro l
  induction l using Nat.strongRecOn with
  | ind l ih =>
    intro o w xl xw xo xi h el ew eo ei l0 l1 o31 hwl hwp hq hK
    have hl5 : l ≤ 500 := by
      have w0 : 0 < w := by rw [hwp]; exact Nat.pow_pos (by omega)
      have := Nat.mul_le_mul_right l w0
      omega
    have ho : o < 31 := by
      apply Nat.lt_of_not_le
      intro z
      rw [show 31 - o = 0 by omega] at l1
      omega
    have em := tmodN el (rfl : (p : Int) = (p : Int))
    have ed := tdivN el (rfl : (p : Int) = (p : Int))
    by_cases hd : l % p = 0
    · have hlp : l = p * (l / p) := by have := Nat.div_add_mod l p; omega
      have hlt : l / p < l := Nat.div_lt_self l0 (by omega)
      have hl1 : 0 < l / p := by
        apply Nat.pos_of_ne_zero
        intro z
        rw [z] at hlp
        omega
      have hl2 : l / p < 2 ^ (31 - (o + 1)) := by
        rw [show 31 - o = 31 - (o + 1) + 1 by omega, Nat.pow_succ] at l1
        have := Nat.mul_le_mul_right (l / p) hp
        omega
      have hwq : w * p * (l / p) = w * l := by rw [Nat.mul_assoc, ← hlp]
      have exw : xw * (p : Int) = ((w * p : Nat) : Int) := by rw [ew, Int.natCast_mul]
      refine g_iload (pc := 14) (x := xi) dX4_take_14 rfl ?_
      refine g_bipush (pc := 16) dX4_take_16 (by decide +kernel) ?_
      refine g_icmp_geF (pc := 18) (tgt := 62) dX4_take_18 (by decide) (by omega) (by omega) (by omega) ?_
      refine g_iload_n (pc := 21) (x := (p : Int)) dX4_take_21 rfl ?_
      refine g_iconst (pc := 22) dX4_take_22 ?_
      refine g_icmp_leF (pc := 23) (tgt := 62) dX4_take_23 (by decide) (by omega) (by omega) (by omega) ?_
      refine g_iload_n (pc := 26) (x := xl) dX4_take_26 rfl ?_
      refine g_iload_n (pc := 27) (x := (p : Int)) dX4_take_27 rfl ?_
      refine g_irem (pc := 28) dX4_take_28 (by omega) (by omega) (by omega) ?_
      refine g_if_neF (pc := 29) (tgt := 62) dX4_take_29 (by decide) (by omega) (by rw [em, hd]; simp) ?_
      refine g_iload_n (pc := 32) (x := xl) dX4_take_32 rfl ?_
      refine g_iload_n (pc := 33) (x := (p : Int)) dX4_take_33 rfl ?_
      refine g_idiv (pc := 34) dX4_take_34 (by omega) (by omega) (by omega) ?_
      refine g_istore_n (pc := 35) (lo2 := [(0, vR q), (1, vI (p : Int)), (2, vI nn), (3, vI (xl.tdiv (p : Int))), (4, vI xi)]) dX4_take_35 (by decide) rfl ?_
      refine g_aload_n (pc := 36) (r := .inl (some q)) dX4_take_36 rfl ?_
      refine g_dup (pc := 37) dX4_take_37 rfl ?_
      refine g_getf (pc := 38) (v := vI xw) flX4_7 dX4_take_38 hq rfl ?_
      refine g_iload_n (pc := 41) (x := (p : Int)) dX4_take_41 rfl ?_
      refine g_imul (pc := 42) dX4_take_42 ?_
      refine g_putf (pc := 43) fpX4_7 dX4_take_43 hq (okv_int _) (Nat.le_of_ble_eq_true rfl) ?_
      have hq_1 := hq.self (e := eO 4 [vI (p : Int), vI (xw * (p : Int)), vI xo])
      refine g_aload_n (pc := 46) (r := .inl (some q)) dX4_take_46 rfl ?_
      refine g_dup (pc := 47) dX4_take_47 rfl ?_
      refine g_getf (pc := 48) (v := vI xo) flX4_16 dX4_take_48 hq_1 rfl ?_
      refine g_iconst (pc := 51) dX4_take_51 ?_
      refine g_iadd (pc := 52) dX4_take_52 ?_
      refine g_putf (pc := 53) fpX4_16 dX4_take_53 hq_1 (okv_int _) (Nat.le_of_ble_eq_true rfl) ?_
      have hq_2 := hq_1.self (e := eO 4 [vI (p : Int), vI (xw * (p : Int)), vI (xo + 1)])
      refine g_iinc (pc := 56) (x := xi) (lo2 := [(0, vR q), (1, vI (p : Int)), (2, vI nn), (3, vI (xl.tdiv (p : Int))), (4, vI (xi + 1))]) dX4_take_56 rfl (by decide) rfl ?_
      refine g_goto (pc := 59) (tgt := 14) dX4_take_59 (by decide) ?_
      refine ih (l / p) hlt (o + 1) (w * p) _ _ _ _ _ ed exw (by omega) (by omega) hl1 hl2 (by omega) (by rw [hwq]; exact hwl) (by rw [hwp, Nat.pow_succ]) hq_2 (fun h2 l2 o2 q1 q2 q3 q4 q5 => hK h2 l2 o2 q1 (fun b hb => (q2 b hb).trans ((va_up_ne _ _ hb).trans (va_up_ne _ _ hb))) (by rw [← q3, hwq]) q4 (by omega))
    · have hml := Nat.mod_lt l (show 0 < p by omega)
      refine g_iload (pc := 14) (x := xi) dX4_take_14 rfl ?_
      refine g_bipush (pc := 16) dX4_take_16 (by decide +kernel) ?_
      refine g_icmp_geF (pc := 18) (tgt := 62) dX4_take_18 (by decide) (by omega) (by omega) (by omega) ?_
      refine g_iload_n (pc := 21) (x := (p : Int)) dX4_take_21 rfl ?_
      refine g_iconst (pc := 22) dX4_take_22 ?_
      refine g_icmp_leF (pc := 23) (tgt := 62) dX4_take_23 (by decide) (by omega) (by omega) (by omega) ?_
      refine g_iload_n (pc := 26) (x := xl) dX4_take_26 rfl ?_
      refine g_iload_n (pc := 27) (x := (p : Int)) dX4_take_27 rfl ?_
      refine g_irem (pc := 28) dX4_take_28 (by omega) (by omega) (by omega) ?_
      refine g_if_neT (pc := 29) (tgt := 62) dX4_take_29 (by decide) (by omega) (by rw [em]; omega) ?_
      refine g_iload_n (pc := 62) (x := xl) dX4_take_62 rfl ?_
      rw [el]
      exact r_int (pc := 63) dX4_take_63 rfl rfl (Nat.le_refl _) (hK h l o (by rw [← hwp, ← ew, ← eo]; exact hq) (fun _ _ => rfl) (by rw [hwp]) (fun z => hd (Nat.mod_eq_zero_of_dvd z)) (Nat.le_refl _))

theorem c_take {N d q p l : Nat} {p0 w0 o0 : Int} {h : MH} (hp : 2 ≤ p) (hp2 : p ≤ 500) (hl : 0 < l) (hl2 : l ≤ 500) (hq : Hd (0, 0, N) h q (eO 4 [vI p0, vI w0, vI o0])) : Ok mX4_take (d + 1) 0 0 [vR q, vI (p : Int), vI (l : Int)] N h (fun r h2 => ∃ l2 o2 : Nat, r = some (vI (l2 : Int)) ∧ h2 q = eO 4 [vI (p : Int), vI ((p ^ o2 : Nat) : Int), vI (o2 : Int)] ∧ l = p ^ o2 * l2 ∧ ¬ p ∣ l2 ∧ ∀ b, b ≠ q → h2 b = h b) := by
  refine Ok.of pfX4_take rfl (Nat.le_of_ble_eq_true rfl) (fun Ls sx => ?_)
  show G mX4_take (d + 1, 0, 0, Ls, sx) 0 [(0, vR q), (1, vI (p : Int)), (2, vI (l : Int))] [] (0, 0, N) h _
  refine g_iload_n (pc := 0) (x := (l : Int)) dX4_take_0 rfl ?_
  refine g_istore_n (pc := 1) (lo2 := [(0, vR q), (1, vI (p : Int)), (2, vI (l : Int)), (3, vI (l : Int))]) dX4_take_1 (by decide) rfl ?_
  refine g_aload_n (pc := 2) (r := .inl (some q)) dX4_take_2 rfl ?_
  refine g_callV0 (pc := 3) (as := []) (b := q) (st := []) lvX4_19 dX4_take_3 hq (Nat.le_of_ble_eq_true rfl) (by omega) (Nat.zero_le _) (Nat.zero_le _) (c_leave (d := d) hq) ?_
  rintro r h2 ⟨rfl, c2, c1⟩
  have hq_1 := hq.to c2
  refine g_aload_n (pc := 6) (r := .inl (some q)) dX4_take_6 rfl ?_
  refine g_iload_n (pc := 7) (x := (p : Int)) dX4_take_7 rfl ?_
  refine g_putf (pc := 8) fpX4_13 dX4_take_8 hq_1 (okv_int _) (Nat.le_of_ble_eq_true rfl) ?_
  have hq_2 := hq_1.self (e := eO 4 [vI (p : Int), vI 1, vI 0])
  refine g_iconst (pc := 11) dX4_take_11 ?_
  refine g_istore (pc := 12) (lo2 := [(0, vR q), (1, vI (p : Int)), (2, vI (l : Int)), (3, vI (l : Int)), (4, vI 0)]) dX4_take_12 (by decide) rfl ?_
  refine take_l hp hp2 l 0 1 _ _ _ _ _ rfl rfl rfl rfl hl (by omega) (by omega) (by omega) (by simp) hq_2 (fun h3 l2 o2 q1 q2 q3 q4 _ => ⟨l2, o2, rfl, q1.2, by omega, q4, fun b hb => (q2 b hb).trans ((va_up_ne _ _ hb).trans (c1 b hb))⟩)

theorem c_hasRest {N d b kd M n : Nat} {th r : Int} {h : MH} (hr : i32 r) (hn : n ≤ 4) (hm : Hd (0, 0, N) h b (eO 1 [vI th, vI (kd : Int), vI (M : Int), vI (n : Int), vR (b + 1), vR (b + 12), vR (b + 79), vR (b + 2), vR (b + 5), vR (b + 7)])) : Ok mX1_hasRest d 0 0 [vR b, vI r] N h (fun q h2 => h2 = h ∧ q = some (vI (if 0 ≤ r ∧ r < n then 1 else 0))) := by
  refine Ok.of pfX1_hasRest rfl (Nat.le_of_ble_eq_true rfl) (fun Ls sx => ?_)
  show G mX1_hasRest (d, 0, 0, Ls, sx) 0 [(0, vR b), (1, vI r)] [] (0, 0, N) h _
  refine g_iload_n (pc := 0) (x := r) dX1_hasRest_0 rfl ?_
  refine g_if_lt (pc := 1) (tgt := 16) dX1_hasRest_1 (by decide) (by omega) (fun h0 => ?_) (fun h0 => ?_)
  · refine g_iconst (pc := 16) dX1_hasRest_16 ?_
    exact r_bool (pc := 17) dX1_hasRest_17 rfl rfl (Nat.le_refl _) (Or.inl rfl) ⟨rfl, by rw [if_neg (by omega)]⟩
  · refine g_iload_n (pc := 4) (x := r) dX1_hasRest_4 rfl ?_
    refine g_aload_n (pc := 5) (r := .inl (some b)) dX1_hasRest_5 rfl ?_
    refine g_getf (pc := 6) (v := vI (n : Int)) flX1_63 dX1_hasRest_6 hm rfl ?_
    refine g_icmp_ge (pc := 9) (tgt := 16) dX1_hasRest_9 (by decide) (by omega) (by omega) (fun h1 => ?_) (fun h1 => ?_)
    · refine g_iconst (pc := 16) dX1_hasRest_16 ?_
      exact r_bool (pc := 17) dX1_hasRest_17 rfl rfl (Nat.le_refl _) (Or.inl rfl) ⟨rfl, by rw [if_neg (by omega)]⟩
    · refine g_iconst (pc := 12) dX1_hasRest_12 ?_
      refine g_goto (pc := 13) (tgt := 17) dX1_hasRest_13 (by decide) ?_
      exact r_bool (pc := 17) dX1_hasRest_17 rfl rfl (Nat.le_refl _) (Or.inr rfl) ⟨rfl, by rw [if_pos (by omega)]⟩

theorem c_canTell {N d b kd M n : Nat} {th r : Int} {h : MH} (hr : i32 r) (hn : n ≤ 4) (hkd : kd ≤ 3) (hm : Hd (0, 0, N) h b (eO 1 [vI th, vI (kd : Int), vI (M : Int), vI (n : Int), vR (b + 1), vR (b + 12), vR (b + 79), vR (b + 2), vR (b + 5), vR (b + 7)])) : Ok mX1_canTell (d + 1) 0 0 [vR b, vI r] N h (fun q h2 => h2 = h ∧ q = some (vI (if (0 ≤ r ∧ r < n) ∧ (kd ≠ 2 ∨ r = n - 1) then 1 else 0))) := by
  refine Ok.of pfX1_canTell rfl (Nat.le_of_ble_eq_true rfl) (fun Ls sx => ?_)
  show G mX1_canTell (d + 1, 0, 0, Ls, sx) 0 [(0, vR b), (1, vI r)] [] (0, 0, N) h _
  refine g_aload_n (pc := 0) (r := .inl (some b)) dX1_canTell_0 rfl ?_
  refine g_iload_n (pc := 1) (x := r) dX1_canTell_1 rfl ?_
  refine g_callV0 (pc := 2) (as := [vI r]) (b := b) (st := []) lvX1_90 dX1_canTell_2 hm (Nat.le_of_ble_eq_true rfl) (by omega) (Nat.zero_le _) (Nat.zero_le _) (c_hasRest (d := d) hr hn hm) ?_
  rintro q h2 ⟨rfl, rfl⟩
  by_cases hc : 0 ≤ r ∧ r < n
  · rw [if_pos hc]
    refine g_if_eqF (pc := 5) (tgt := 30) dX1_canTell_5 (by decide) (by omega) (by omega) ?_
    refine g_aload_n (pc := 8) (r := .inl (some b)) dX1_canTell_8 rfl ?_
    refine g_getf (pc := 9) (v := vI (kd : Int)) flX1_56 dX1_canTell_9 hm rfl ?_
    refine g_iconst (pc := 12) dX1_canTell_12 ?_
    refine g_icmp_ne (pc := 13) (tgt := 26) dX1_canTell_13 (by decide) (by omega) (by omega) (fun h2 => ?_) (fun h2 => ?_)
    · refine g_iconst (pc := 26) dX1_canTell_26 ?_
      refine g_goto (pc := 27) (tgt := 31) dX1_canTell_27 (by decide) ?_
      exact r_bool (pc := 31) dX1_canTell_31 rfl rfl (Nat.le_refl _) (Or.inr rfl) ⟨rfl, by rw [if_pos ⟨hc, by omega⟩]⟩
    · refine g_iload_n (pc := 16) (x := r) dX1_canTell_16 rfl ?_
      refine g_aload_n (pc := 17) (r := .inl (some b)) dX1_canTell_17 rfl ?_
      refine g_getf (pc := 18) (v := vI (n : Int)) flX1_63 dX1_canTell_18 hm rfl ?_
      refine g_iconst (pc := 21) dX1_canTell_21 ?_
      refine g_isub (pc := 22) dX1_canTell_22 ?_
      refine g_icmp_ne (pc := 23) (tgt := 30) dX1_canTell_23 (by decide) (by omega) (by omega) (fun h3 => ?_) (fun h3 => ?_)
      · refine g_iconst (pc := 30) dX1_canTell_30 ?_
        exact r_bool (pc := 31) dX1_canTell_31 rfl rfl (Nat.le_refl _) (Or.inl rfl) ⟨rfl, by rw [if_neg (by omega)]⟩
      · refine g_iconst (pc := 26) dX1_canTell_26 ?_
        refine g_goto (pc := 27) (tgt := 31) dX1_canTell_27 (by decide) ?_
        exact r_bool (pc := 31) dX1_canTell_31 rfl rfl (Nat.le_refl _) (Or.inr rfl) ⟨rfl, by rw [if_pos ⟨hc, by omega⟩]⟩
  · rw [if_neg hc]
    refine g_if_eqT (pc := 5) (tgt := 30) dX1_canTell_5 (by decide) (by omega) (by omega) ?_
    refine g_iconst (pc := 30) dX1_canTell_30 ?_
    exact r_bool (pc := 31) dX1_canTell_31 rfl rfl (Nat.le_refl _) (Or.inl rfl) ⟨rfl, by rw [if_neg (fun z => hc z.1)]⟩
