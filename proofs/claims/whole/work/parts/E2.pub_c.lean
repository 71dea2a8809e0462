/-! ===== the class: calls on mills, turns and rounds ===== -/
theorem CM_hid {N : Nat} {h h2 : MH} {b kd M n : Nat} {T Y : Nat → Int} {P : Nat → Nat → Int} (cm : CM N h b (kd, M, n, T, Y, P)) (hw : PT N h2 (b + 12) M n T) (hd : RD N h2 b M n T) (k : ∀ a, (a < b + 12 ∨ b + 93 ≤ a) → h2 a = h a) : CM N h2 b (kd, M, n, T, Y, P) := by
  obtain ⟨ok, hml, ⟨hY, rY⟩, hpc, -, -, hnt, hpi⟩ := cm.out
  exact CM.mk ⟨ok, hml.keep (k _ (by omega)), ⟨hY.keep (k _ (by omega)), rY⟩, hpc.keep (fun a z1 z2 => k a (by omega)), hw, hd, hnt.keep (fun a z1 z2 => k a (by omega)), hpi.keep (k _ (by omega)) (k _ (by omega))⟩
theorem lpY_bd {n M t : Nat} {T Y : Nat → Int} (hM : 2 ≤ M) : ∀ r, r < n → 0 ≤ lpY n M T Y t r ∧ lpY n M T Y t r < M := fun r hr => by
  unfold lpY
  rw [if_pos hr]
  exact go_bd (by omega)
theorem CM_carry {N : Nat} {h h2 : MH} {b kd M n t kn2 : Nat} {F F2 : Nat → Nat → Int} {Y Y2 : Nat → Int} {P : Nat → Nat → Int} (cm : CM N h b (kd, M, n, F 0, Y, P)) (w2 : PX N h2 (b + 12) kn2 M n F2) (f0 : F2 0 = F 0) (k : ∀ a, a ≠ b + 1 → (a < b + 12 ∨ b + 12 + 67 ≤ a) → h2 a = h a) (e2 : h2 (b + 1) = eA 0 4 Y2) (rY2 : rng Y2) (h1 : ∀ r, r < n → Y2 r = goF n M (mp (n + 1) M (au n (F 0)) t) Y r) (h3 : ∀ r, n ≤ r → Y2 r = Y r) : CM N h2 b (kd, M, n, F 0, lpY n M (F 0) Y t, P) := by
  obtain ⟨ok, hml, ⟨hY, rY⟩, hpc, -, hd, hnt, hpi⟩ := cm.out
  obtain ⟨hkd, hM, hM2, n1, hn, hk1, hk3, hT, hYb, hPb⟩ := id ok
  have e := lpY_of h1 h3
  subst e
  exact CM.mk ⟨⟨hkd, hM, hM2, n1, hn, hk1, hk3, hT, lpY_bd hM, hPb⟩, hml.keep (k _ (by omega) (by omega)), ⟨⟨hY.1, e2⟩, rY2⟩, hpc.keep (fun a z1 z2 => k a (by omega) (by omega)), ⟨kn2, F2, w2, f0⟩, hd.keep (fun a z1 z2 => k a (by omega) (by omega)), hnt.keep (fun a z1 z2 => k a (by omega) (by omega)), hpi.keep (k _ (by omega) (by omega)) (k _ (by omega) (by omega))⟩
theorem cop_all : (List.range 501).all (fun M => (fcs M).all (fun e => decide (Nat.gcd (e.1 ^ e.2) (M / e.1 ^ e.2) = 1))) = true := by decide +kernel
theorem cop_of {M : Nat} (h5 : M ≤ 500) {e : Nat × Nat} (he : e ∈ fcs M) : Nat.Coprime (e.1 ^ e.2) (M / e.1 ^ e.2) := by
  have h := List.all_eq_true.mp (List.all_eq_true.mp cop_all M (List.mem_range.mpr (by omega))) e he
  simp only [decide_eq_true_eq] at h
  exact h
/-- part k of the measure -/
def pq (M k : Nat) : Nat := (pe M k).1 ^ (pe M k).2
theorem pq_ok {M k : Nat} (hM : 2 ≤ M) (hM2 : M ≤ 500) (hk : k < (fcs M).length) : 2 ≤ pq M k ∧ pq M k ≤ 500 ∧ pq M k ∣ M ∧ Nat.Coprime (pq M k) (M / pq M k) ∧ (pe M k).1 ≤ 499 ∧ (pe M k).2 ≤ 500 := by
  obtain ⟨b1, b2, b3, b4⟩ := (fcs_ok hM hM2).2.1 _ (pe_mem hk)
  have hb : (pe M k).1 ^ (pe M k).2 ≤ 500 := Nat.le_trans (Nat.le_of_dvd (by omega) b4) hM2
  have b5 := b1.1
  have hb1 : 2 ≤ (pe M k).1 ^ (pe M k).2 := by
    have := Nat.pow_le_pow_right (show 0 < (pe M k).1 by omega) b3
    rw [Nat.pow_one] at this
    omega
  have hb2 : (pe M k).2 ≤ 500 := by
    have h1 := Nat.lt_pow_self (n := (pe M k).2) (show 1 < (pe M k).1 by omega)
    omega
  exact ⟨hb1, hb, b4, cop_of hM2 (pe_mem hk), b2, hb2⟩

theorem k_turn {N : Nat} {m t : Int} {σ : Nat → Option MSt} {h : MH} (hm : i32 m) (ht : i32 t) (c : CMs N h σ) : Ok mX10_turn 10 0 0 [vR 0, vI m, vI t] N h (fun r9 h2 => r9 = some (vI (qM σ m 0 (fun kd M n T Y P => if 0 ≤ t ∧ t ≤ 5000 then 1 else 0))) ∧ cP N h h2 (qM σ m σ (fun kd M n T Y P => if 0 ≤ t ∧ t ≤ 5000 then va_up σ m.toNat (some (kd, M, n, T, lpY n M T Y t.toNat, P)) else σ))) := by
  refine Ok.of pfX10_turn rfl (Nat.le_of_ble_eq_true rfl) (fun Ls sx => ?_)
  show G mX10_turn (10, 0, 0, Ls, sx) 0 [(0, vR 0), (1, vI m), (2, vI t)] [] (0, 0, N) h _
  obtain ⟨c1, c2, c3, c4⟩ := id c
  refine g_aload_n (pc := 0) (r := .inl (some 0)) dX10_turn_0 rfl ?_
  refine g_iload_n (pc := 1) (x := m) dX10_turn_1 rfl ?_
  refine g_callV0 (pc := 2) (as := [vI m]) (b := 0) (st := []) lvX10_39 dX10_turn_2 c1 (Nat.le_of_ble_eq_true rfl) (by omega) (Nat.zero_le _) (Nat.zero_le _) (c_millAt (d := 9) hm c) ?_
  rintro r h1 ⟨e9, e8⟩
  subst e9
  rcases e8 with ⟨eg, e8⟩ | ⟨i, b, kd, M, n, T, Y, P, ma, e8⟩ <;> subst e8
  · refine g_astore_n (pc := 5) (r := .inl none) (lo2 := [(0, vR 0), (1, vI m), (2, vI t), (3, vN)]) dX10_turn_5 (by decide) rfl ?_
    refine g_aload_n (pc := 6) (r := .inl none) dX10_turn_6 rfl ?_
    refine g_ifnullN (pc := 7) (tgt := 21) dX10_turn_7 (by decide) ?_
    refine g_iconst (pc := 21) dX10_turn_21 ?_
    exact r_bool (pc := 22) dX10_turn_22 rfl rfl (Nat.le_refl _) (Or.inl rfl) ⟨by rw [qM_none eg], by rw [qM_none eg]; exact cP.rfl c⟩
  · obtain ⟨hi, em, eb, es, eg, cm⟩ := id ma
    obtain ⟨ok, hml, ⟨hY, rY⟩, hpc, hw, hd, hnt, hpi⟩ := cm.out
    obtain ⟨hkd, hM, hM2, n1, hn, hk1, hk3, hT, hYb, hPb⟩ := id ok
    obtain ⟨kn, F, hPX, hF⟩ := id hw
    obtain ⟨wh, h79, -⟩ := id hd
    subst hF
    refine g_astore_n (pc := 5) (r := .inl (some b)) (lo2 := [(0, vR 0), (1, vI m), (2, vI t), (3, vR b)]) dX10_turn_5 (by decide) rfl ?_
    refine g_aload_n (pc := 6) (r := .inl (some b)) dX10_turn_6 rfl ?_
    refine g_ifnullR (pc := 7) dX10_turn_7 ?_
    refine g_iload_n (pc := 10) (x := t) dX10_turn_10 rfl ?_
    refine g_if_lt (pc := 11) (tgt := 21) dX10_turn_11 (by decide) (by omega) (fun k0 => ?_) (fun k0 => ?_)
    · refine g_iconst (pc := 21) dX10_turn_21 ?_
      exact r_bool (pc := 22) dX10_turn_22 rfl rfl (Nat.le_refl _) (Or.inl rfl) ⟨by rw [qM_some eg, if_neg (by omega)], by rw [qM_some eg, if_neg (by omega)]; exact cP.rfl c⟩
    · refine g_iload_n (pc := 14) (x := t) dX10_turn_14 rfl ?_
      refine g_sipush (pc := 15) dX10_turn_15 (by decide +kernel) ?_
      refine g_icmp_le (pc := 18) (tgt := 23) dX10_turn_18 (by decide) (by omega) (by omega) (fun k1 => ?_) (fun k1 => ?_)
      · obtain ⟨q, eq⟩ : ∃ q : Nat, t = (q : Int) := ⟨t.toNat, by omega⟩
        subst eq
        refine g_aload_n (pc := 23) (r := .inl (some b)) dX10_turn_23 rfl ?_
        refine g_getf (pc := 24) (v := vR (b + 12)) flX10_85 dX10_turn_24 hml rfl ?_
        refine g_iload_n (pc := 27) (x := (q : Int)) dX10_turn_27 rfl ?_
        refine g_i2l (pc := 28) dX10_turn_28 (by omega) ?_
        refine g_aload_n (pc := 29) (r := .inl (some b)) dX10_turn_29 rfl ?_
        refine g_getf (pc := 30) (v := vR (b + 1)) flX10_55 dX10_turn_30 hml rfl ?_
        refine g_callV0 (pc := 33) (as := [vJ (q : Int), vR (b + 1)]) (b := b + 12) (st := []) lvX10_92 dX10_turn_33 hPX.1.1 (Nat.le_of_ble_eq_true rfl) (by omega) (Nat.zero_le _) (Nat.zero_le _) (c_carryRow (d := 6) (rr := b + 1) hn hM hM2 (show q < 9223372036854775808 by omega) (by omega) hPX hY rY (fun r hr => (hYb r hr).2)) ?_
        rintro r8 h3 ⟨rfl, ⟨kn2, F2, w2, f0, -⟩, k3, Y2, e2, rY2, eY2, eY3⟩
        refine g_iconst (pc := 36) dX10_turn_36 ?_
        exact r_bool (pc := 37) dX10_turn_37 rfl rfl (Nat.le_refl _) (Or.inr rfl) ⟨by rw [qM_some eg, if_pos (by omega)], by rw [qM_some eg, if_pos (by omega), em]; simp only [Int.toNat_natCast]; exact cP.set c hi eb (fun a z => k3 a (by omega) (by omega)) (CM_carry cm w2 f0 k3 e2 rY2 eY2 eY3)⟩
      · refine g_iconst (pc := 21) dX10_turn_21 ?_
        exact r_bool (pc := 22) dX10_turn_22 rfl rfl (Nat.le_refl _) (Or.inl rfl) ⟨by rw [qM_some eg, if_neg (by omega)], by rw [qM_some eg, if_neg (by omega)]; exact cP.rfl c⟩

theorem k_leap {N : Nat} {m t : Int} {σ : Nat → Option MSt} {h : MH} (hm : i32 m) (ht : i64 t) (c : CMs N h σ) : Ok mX10_leap 10 0 0 [vR 0, vI m, vJ t] N h (fun r9 h2 => r9 = some (vI (qM σ m 0 (fun kd M n T Y P => if 0 ≤ t then 1 else 0))) ∧ cP N h h2 (qM σ m σ (fun kd M n T Y P => if 0 ≤ t then va_up σ m.toNat (some (kd, M, n, T, lpY n M T Y t.toNat, P)) else σ))) := by
  refine Ok.of pfX10_leap rfl (Nat.le_of_ble_eq_true rfl) (fun Ls sx => ?_)
  show G mX10_leap (10, 0, 0, Ls, sx) 0 [(0, vR 0), (1, vI m), (2, vJ t)] [] (0, 0, N) h _
  obtain ⟨c1, c2, c3, c4⟩ := id c
  refine g_aload_n (pc := 0) (r := .inl (some 0)) dX10_leap_0 rfl ?_
  refine g_iload_n (pc := 1) (x := m) dX10_leap_1 rfl ?_
  refine g_callV0 (pc := 2) (as := [vI m]) (b := 0) (st := []) lvX10_39 dX10_leap_2 c1 (Nat.le_of_ble_eq_true rfl) (by omega) (Nat.zero_le _) (Nat.zero_le _) (c_millAt (d := 9) hm c) ?_
  rintro r h1 ⟨e9, e8⟩
  subst e9
  rcases e8 with ⟨eg, e8⟩ | ⟨i, b, kd, M, n, T, Y, P, ma, e8⟩ <;> subst e8
  · refine g_astore (pc := 5) (r := .inl none) (lo2 := [(0, vR 0), (1, vI m), (2, vJ t), (4, vN)]) dX10_leap_5 (by decide) rfl ?_
    refine g_aload (pc := 7) (r := .inl none) dX10_leap_7 rfl ?_
    refine g_ifnullN (pc := 9) (tgt := 18) dX10_leap_9 (by decide) ?_
    refine g_iconst (pc := 18) dX10_leap_18 ?_
    exact r_bool (pc := 19) dX10_leap_19 rfl rfl (Nat.le_refl _) (Or.inl rfl) ⟨by rw [qM_none eg], by rw [qM_none eg]; exact cP.rfl c⟩
  · obtain ⟨hi, em, eb, es, eg, cm⟩ := id ma
    obtain ⟨ok, hml, ⟨hY, rY⟩, hpc, hw, hd, hnt, hpi⟩ := cm.out
    obtain ⟨hkd, hM, hM2, n1, hn, hk1, hk3, hT, hYb, hPb⟩ := id ok
    obtain ⟨kn, F, hPX, hF⟩ := id hw
    obtain ⟨wh, h79, -⟩ := id hd
    subst hF
    refine g_astore (pc := 5) (r := .inl (some b)) (lo2 := [(0, vR 0), (1, vI m), (2, vJ t), (4, vR b)]) dX10_leap_5 (by decide) rfl ?_
    refine g_aload (pc := 7) (r := .inl (some b)) dX10_leap_7 rfl ?_
    refine g_ifnullR (pc := 9) dX10_leap_9 ?_
    refine g_lload_n (pc := 12) (x := t) dX10_leap_12 rfl ?_
    refine g_lconst0 (pc := 13) dX10_leap_13 ?_
    refine g_lif_ge (pc := 14) (tgt := 20) dX10_leap_14 dX10_leap_15 (by decide) (by omega) (by omega) (fun k0 => ?_) (fun k0 => ?_)
    · obtain ⟨q, eq⟩ : ∃ q : Nat, t = (q : Int) := ⟨t.toNat, by omega⟩
      subst eq
      refine g_aload (pc := 20) (r := .inl (some b)) dX10_leap_20 rfl ?_
      refine g_getf (pc := 22) (v := vR (b + 12)) flX10_85 dX10_leap_22 hml rfl ?_
      refine g_lload_n (pc := 25) (x := (q : Int)) dX10_leap_25 rfl ?_
      refine g_aload (pc := 26) (r := .inl (some b)) dX10_leap_26 rfl ?_
      refine g_getf (pc := 28) (v := vR (b + 1)) flX10_55 dX10_leap_28 hml rfl ?_
      refine g_callV0 (pc := 31) (as := [vJ (q : Int), vR (b + 1)]) (b := b + 12) (st := []) lvX10_92 dX10_leap_31 hPX.1.1 (Nat.le_of_ble_eq_true rfl) (by omega) (Nat.zero_le _) (Nat.zero_le _) (c_carryRow (d := 6) (rr := b + 1) hn hM hM2 (show q < 9223372036854775808 by omega) (by omega) hPX hY rY (fun r hr => (hYb r hr).2)) ?_
      rintro r8 h3 ⟨rfl, ⟨kn2, F2, w2, f0, -⟩, k3, Y2, e2, rY2, eY2, eY3⟩
      refine g_iconst (pc := 34) dX10_leap_34 ?_
      exact r_bool (pc := 35) dX10_leap_35 rfl rfl (Nat.le_refl _) (Or.inr rfl) ⟨by rw [qM_some eg, if_pos (by omega)], by rw [qM_some eg, if_pos (by omega), em]; simp only [Int.toNat_natCast]; exact cP.set c hi eb (fun a z => k3 a (by omega) (by omega)) (CM_carry cm w2 f0 k3 e2 rY2 eY2 eY3)⟩
    · refine g_iconst (pc := 18) dX10_leap_18 ?_
      exact r_bool (pc := 19) dX10_leap_19 rfl rfl (Nat.le_refl _) (Or.inl rfl) ⟨by rw [qM_some eg, if_neg (by omega)], by rw [qM_some eg, if_neg (by omega)]; exact cP.rfl c⟩

theorem k_back {N : Nat} {m t : Int} {σ : Nat → Option MSt} {h : MH} {W : Nat} (hm : i32 m) (ht : i64 t) (hW : ∀ kd M n T Y P, gt σ m = some (kd, M, n, T, Y, P) → isPer (mp (n + 1) M (au n T)) 32 W ∧ W ≤ 8000000000000000000) (c : CMs N h σ) : Ok mX10_back 10 0 0 [vR 0, vI m, vJ t] N h (fun r9 h2 => r9 = some (vI (qM σ m 0 (fun kd M n T Y P => if 0 ≤ t ∧ Nat.gcd M (detF n T % (M : Int)).toNat = 1 then 1 else 0))) ∧ cP N h h2 (qM σ m σ (fun kd M n T Y P => if 0 ≤ t ∧ Nat.gcd M (detF n T % (M : Int)).toNat = 1 then va_up σ m.toNat (some (kd, M, n, T, lpY n M T Y ((W - t.toNat % W) % W), P)) else σ))) := by
  refine Ok.of pfX10_back rfl (Nat.le_of_ble_eq_true rfl) (fun Ls sx => ?_)
  show G mX10_back (10, 0, 0, Ls, sx) 0 [(0, vR 0), (1, vI m), (2, vJ t)] [] (0, 0, N) h _
  obtain ⟨c1, c2, c3, c4⟩ := id c
  refine g_aload_n (pc := 0) (r := .inl (some 0)) dX10_back_0 rfl ?_
  refine g_iload_n (pc := 1) (x := m) dX10_back_1 rfl ?_
  refine g_callV0 (pc := 2) (as := [vI m]) (b := 0) (st := []) lvX10_39 dX10_back_2 c1 (Nat.le_of_ble_eq_true rfl) (by omega) (Nat.zero_le _) (Nat.zero_le _) (c_millAt (d := 9) hm c) ?_
  rintro r h1 ⟨e9, e8⟩
  subst e9
  rcases e8 with ⟨eg, e8⟩ | ⟨i, b, kd, M, n, T, Y, P, ma, e8⟩ <;> subst e8
  · refine g_astore (pc := 5) (r := .inl none) (lo2 := [(0, vR 0), (1, vI m), (2, vJ t), (4, vN)]) dX10_back_5 (by decide) rfl ?_
    refine g_aload (pc := 7) (r := .inl none) dX10_back_7 rfl ?_
    refine g_ifnullN (pc := 9) (tgt := 26) dX10_back_9 (by decide) ?_
    refine g_iconst (pc := 26) dX10_back_26 ?_
    exact r_bool (pc := 27) dX10_back_27 rfl rfl (Nat.le_refl _) (Or.inl rfl) ⟨by rw [qM_none eg], by rw [qM_none eg]; exact cP.rfl c⟩
  · obtain ⟨hi, em, eb, es, eg, cm⟩ := id ma
    obtain ⟨ok, hml, ⟨hY, rY⟩, hpc, hw, hd, hnt, hpi⟩ := cm.out
    obtain ⟨hkd, hM, hM2, n1, hn, hk1, hk3, hT, hYb, hPb⟩ := id ok
    obtain ⟨kn, F, hPX, hF⟩ := id hw
    obtain ⟨wh, h79, -⟩ := id hd
    subst hF
    refine g_astore (pc := 5) (r := .inl (some b)) (lo2 := [(0, vR 0), (1, vI m), (2, vJ t), (4, vR b)]) dX10_back_5 (by decide) rfl ?_
    refine g_aload (pc := 7) (r := .inl (some b)) dX10_back_7 rfl ?_
    refine g_ifnullR (pc := 9) dX10_back_9 ?_
    refine g_lload_n (pc := 12) (x := t) dX10_back_12 rfl ?_
    refine g_lconst0 (pc := 13) dX10_back_13 ?_
    refine g_lif_lt (pc := 14) (tgt := 26) dX10_back_14 dX10_back_15 (by decide) (by omega) (by omega) (fun k0 => ?_) (fun k0 => ?_)
    · refine g_iconst (pc := 26) dX10_back_26 ?_
      exact r_bool (pc := 27) dX10_back_27 rfl rfl (Nat.le_refl _) (Or.inl rfl) ⟨by rw [qM_some eg, if_neg (fun y => by omega)], by rw [qM_some eg, if_neg (fun y => by omega)]; exact cP.rfl c⟩
    · refine g_aload (pc := 18) (r := .inl (some b)) dX10_back_18 rfl ?_
      refine g_callV0 (pc := 20) (as := []) (b := b) (st := []) lvX10_78 dX10_back_20 hml (Nat.le_of_ble_eq_true rfl) (by omega) (Nat.zero_le _) (Nat.zero_le _) (c_goesBack (d := 5) hn hM hM2 hml hPX.1) ?_
      rintro r8 h9 ⟨e9, e8⟩
      subst e9
      subst e8
      by_cases hgb : Nat.gcd M (detF n (F 0) % (M : Int)).toNat = 1
      · rw [if_pos hgb]
        refine g_if_neT (pc := 23) (tgt := 28) dX10_back_23 (by decide) (by omega) (by omega) ?_
        obtain ⟨q, eq⟩ : ∃ q : Nat, t = (q : Int) := ⟨t.toNat, by omega⟩
        subst eq
        obtain ⟨hW1, hWb⟩ := hW _ _ _ _ _ _ eg
        refine g_aload (pc := 28) (r := .inl (some b)) dX10_back_28 rfl ?_
        refine g_getf (pc := 30) (v := vR (b + 12)) flX10_85 dX10_back_30 hml rfl ?_
        refine g_aload (pc := 33) (r := .inl (some b)) dX10_back_33 rfl ?_
        refine g_getf (pc := 35) (v := vR (b + 79)) flX10_96 dX10_back_35 hml rfl ?_
        refine g_lload_n (pc := 38) (x := (q : Int)) dX10_back_38 rfl ?_
        refine g_callV0 (pc := 39) (as := [vJ (q : Int)]) (b := b + 79) (st := [vR (b + 12)]) lvX10_100 dX10_back_39 h79 (Nat.le_of_ble_eq_true rfl) (by omega) (Nat.zero_le _) (Nat.zero_le _) (c_turnsAhead (d := 2) n1 hn hM hM2 hW1 hWb hpc hw hd (show q < 9223372036854775808 by omega)) ?_
        rintro r8 h2 ⟨e8, w2, d2, k2⟩
        subst e8
        have cm2 := CM_hid cm w2 d2 k2
        have hY2 := hY.keep (k2 _ (by omega))
        obtain ⟨kn2, F2, x2, f2⟩ := id w2
        have hml2 := hml.keep (k2 _ (by omega))
        have hq : (W - q % W) % W < 9223372036854775808 := by have := Nat.mod_lt (W - q % W) (show 0 < W by have := hW1.1; omega); omega
        refine g_aload (pc := 42) (r := .inl (some b)) dX10_back_42 rfl ?_
        refine g_getf (pc := 44) (v := vR (b + 1)) flX10_55 dX10_back_44 hml2 rfl ?_
        refine g_callV0 (pc := 47) (as := [vJ (((W - q % W) % W : Nat) : Int), vR (b + 1)]) (b := b + 12) (st := []) lvX10_92 dX10_back_47 x2.1.1 (Nat.le_of_ble_eq_true rfl) (by omega) (Nat.zero_le _) (Nat.zero_le _) (c_carryRow (d := 6) (rr := b + 1) hn hM hM2 hq (by omega) x2 hY2 rY (fun r hr => (hYb r hr).2)) ?_
        rintro r8 h3 ⟨rfl, ⟨kn3, F3, w3, f3, -⟩, k3, Y3, e3, rY3, eY3, eY4⟩
        rw [f2] at f3 eY3
        refine g_iconst (pc := 50) dX10_back_50 ?_
        exact r_bool (pc := 51) dX10_back_51 rfl rfl (Nat.le_refl _) (Or.inr rfl) ⟨by rw [qM_some eg, if_pos ⟨by omega, hgb⟩], by rw [qM_some eg, if_pos ⟨by omega, hgb⟩, em]; simp only [Int.toNat_natCast]; exact cP.set c hi eb (fun a z => (k3 a (by omega) (by omega)).trans (k2 a (by omega))) (CM_carry cm2 w3 f3 k3 e3 rY3 eY3 eY4)⟩
      · rw [if_neg hgb]
        refine g_if_neF (pc := 23) (tgt := 28) dX10_back_23 (by decide) (by omega) (by omega) ?_
        refine g_iconst (pc := 26) dX10_back_26 ?_
        exact r_bool (pc := 27) dX10_back_27 rfl rfl (Nat.le_refl _) (Or.inl rfl) ⟨by rw [qM_some eg, if_neg (fun y => hgb y.2)], by rw [qM_some eg, if_neg (fun y => hgb y.2)]; exact cP.rfl c⟩

theorem k_tail {N : Nat} {m : Int} {σ : Nat → Option MSt} {h : MH} {τ Pd : Nat} (hm : i32 m) (hτ : ∀ kd M n T Y P, gt σ m = some (kd, M, n, T, Y, P) → isPer (rowS n M (au n T) Y) 32 Pd ∧ isTail (rowS n M (au n T) Y) Pd τ) (c : CMs N h σ) : Ok mX10_tail 10 0 0 [vR 0, vI m] N h (fun r9 h2 => r9 = some (vI (qM σ m (-1) (fun kd M n T Y P => (τ : Int)))) ∧ cP N h h2 σ) := by
  refine Ok.of pfX10_tail rfl (Nat.le_of_ble_eq_true rfl) (fun Ls sx => ?_)
  show G mX10_tail (10, 0, 0, Ls, sx) 0 [(0, vR 0), (1, vI m)] [] (0, 0, N) h _
  obtain ⟨c1, c2, c3, c4⟩ := id c
  refine g_aload_n (pc := 0) (r := .inl (some 0)) dX10_tail_0 rfl ?_
  refine g_iload_n (pc := 1) (x := m) dX10_tail_1 rfl ?_
  refine g_callV0 (pc := 2) (as := [vI m]) (b := 0) (st := []) lvX10_39 dX10_tail_2 c1 (Nat.le_of_ble_eq_true rfl) (by omega) (Nat.zero_le _) (Nat.zero_le _) (c_millAt (d := 9) hm c) ?_
  rintro r h1 ⟨e9, e8⟩
  subst e9
  rcases e8 with ⟨eg, e8⟩ | ⟨i, b, kd, M, n, T, Y, P, ma, e8⟩ <;> subst e8
  · refine g_astore_n (pc := 5) (r := .inl none) (lo2 := [(0, vR 0), (1, vI m), (2, vN)]) dX10_tail_5 (by decide) rfl ?_
    refine g_aload_n (pc := 6) (r := .inl none) dX10_tail_6 rfl ?_
    refine g_ifnonnullN (pc := 7) dX10_tail_7 ?_
    refine g_iconst (pc := 10) dX10_tail_10 ?_
    refine g_goto (pc := 11) (tgt := 25) dX10_tail_11 (by decide) ?_
    exact r_int (pc := 25) dX10_tail_25 rfl rfl (Nat.le_refl _) ⟨by rw [qM_none eg], cP.rfl c⟩
  · obtain ⟨hi, em, eb, es, eg, cm⟩ := id ma
    obtain ⟨ok, hml, ⟨hY, rY⟩, hpc, hw, hd, hnt, hpi⟩ := cm.out
    obtain ⟨hkd, hM, hM2, n1, hn, hk1, hk3, hT, hYb, hPb⟩ := id ok
    obtain ⟨kn, F, hPX, hF⟩ := id hw
    obtain ⟨wh, h79, -⟩ := id hd
    subst hF
    obtain ⟨W, hW1, hWb⟩ := W_ex (T := F 0) n1 hn hM hM2
    have hP := (hτ _ _ _ _ _ _ eg).1
    have hPW : Pd ∣ W := (hP.2 W).mp (rowS_of_mp ((hW1.2 W).mpr (Nat.dvd_refl W)))
    refine g_astore_n (pc := 5) (r := .inl (some b)) (lo2 := [(0, vR 0), (1, vI m), (2, vR b)]) dX10_tail_5 (by decide) rfl ?_
    refine g_aload_n (pc := 6) (r := .inl (some b)) dX10_tail_6 rfl ?_
    refine g_ifnonnullR (pc := 7) (tgt := 14) dX10_tail_7 (by decide) ?_
    refine g_aload_n (pc := 14) (r := .inl (some b)) dX10_tail_14 rfl ?_
    refine g_getf (pc := 15) (v := vR (b + 79)) flX10_96 dX10_tail_15 hml rfl ?_
    refine g_aload_n (pc := 18) (r := .inl (some b)) dX10_tail_18 rfl ?_
    refine g_getf (pc := 19) (v := vR (b + 1)) flX10_55 dX10_tail_19 hml rfl ?_
    have ht9 : isTail (rowS n M (au n (F 0)) Y) W τ := by
      obtain ⟨t1, t2, t3⟩ := (hτ _ _ _ _ _ _ eg).2
      have ts := fun s => tail_same (rowS_det hn hM (aff_au hn)) hP hPW hW1.1 s
      exact ⟨t1, (ts τ).mpr t2, fun s hs y => t3 s hs ((ts s).mp y)⟩
    refine g_callV0 (pc := 22) (as := [vR (b + 1)]) (b := b + 79) (st := []) lvX10_106 dX10_tail_22 h79 (Nat.le_of_ble_eq_true rfl) (by omega) (Nat.zero_le _) (Nat.zero_le _) (c_tailOf (d := 2) n1 hn hM hM2 hW1 hWb hpc hw hd ht9 hY rY (fun r hr => (hYb r hr).2)) ?_
    rintro r8 h2 ⟨e8, w2, d2, k2⟩
    subst e8
    exact r_int (pc := 25) dX10_tail_25 rfl rfl (Nat.le_refl _) ⟨by rw [qM_some eg], cP.same c hi es eb (fun a z => k2 a (by omega)) (CM_hid cm w2 d2 k2)⟩

theorem k_round {N : Nat} {m : Int} {σ : Nat → Option MSt} {h : MH} {Pd : Nat} (hm : i32 m) (hτ : ∀ kd M n T Y P, gt σ m = some (kd, M, n, T, Y, P) → isPer (rowS n M (au n T) Y) 32 Pd) (c : CMs N h σ) : Ok mX10_round 10 0 0 [vR 0, vI m] N h (fun r9 h2 => r9 = some (vJ (qM σ m (-1) (fun kd M n T Y P => (Pd : Int)))) ∧ cP N h h2 σ) := by
  refine Ok.of pfX10_round rfl (Nat.le_of_ble_eq_true rfl) (fun Ls sx => ?_)
  show G mX10_round (10, 0, 0, Ls, sx) 0 [(0, vR 0), (1, vI m)] [] (0, 0, N) h _
  obtain ⟨c1, c2, c3, c4⟩ := id c
  refine g_aload_n (pc := 0) (r := .inl (some 0)) dX10_round_0 rfl ?_
  refine g_iload_n (pc := 1) (x := m) dX10_round_1 rfl ?_
  refine g_callV0 (pc := 2) (as := [vI m]) (b := 0) (st := []) lvX10_39 dX10_round_2 c1 (Nat.le_of_ble_eq_true rfl) (by omega) (Nat.zero_le _) (Nat.zero_le _) (c_millAt (d := 9) hm c) ?_
  rintro r h1 ⟨e9, e8⟩
  subst e9
  rcases e8 with ⟨eg, e8⟩ | ⟨i, b, kd, M, n, T, Y, P, ma, e8⟩ <;> subst e8
  · refine g_astore_n (pc := 5) (r := .inl none) (lo2 := [(0, vR 0), (1, vI m), (2, vN)]) dX10_round_5 (by decide) rfl ?_
    refine g_aload_n (pc := 6) (r := .inl none) dX10_round_6 rfl ?_
    refine g_ifnonnullN (pc := 7) dX10_round_7 ?_
    refine g_ldc2 (pc := 10) (n := -1) dX10_round_10 kcX10_110 ?_
    refine g_goto (pc := 13) (tgt := 27) dX10_round_13 (by decide) ?_
    exact r_long (pc := 27) dX10_round_27 rfl rfl (Nat.le_refl _) ⟨by rw [qM_none eg], cP.rfl c⟩
  · obtain ⟨hi, em, eb, es, eg, cm⟩ := id ma
    obtain ⟨ok, hml, ⟨hY, rY⟩, hpc, hw, hd, hnt, hpi⟩ := cm.out
    obtain ⟨hkd, hM, hM2, n1, hn, hk1, hk3, hT, hYb, hPb⟩ := id ok
    obtain ⟨kn, F, hPX, hF⟩ := id hw
    obtain ⟨wh, h79, -⟩ := id hd
    subst hF
    obtain ⟨W, hW1, hWb⟩ := W_ex (T := F 0) n1 hn hM hM2
    have hP := (hτ _ _ _ _ _ _ eg)
    have hPW : Pd ∣ W := (hP.2 W).mp (rowS_of_mp ((hW1.2 W).mpr (Nat.dvd_refl W)))
    refine g_astore_n (pc := 5) (r := .inl (some b)) (lo2 := [(0, vR 0), (1, vI m), (2, vR b)]) dX10_round_5 (by decide) rfl ?_
    refine g_aload_n (pc := 6) (r := .inl (some b)) dX10_round_6 rfl ?_
    refine g_ifnonnullR (pc := 7) (tgt := 16) dX10_round_7 (by decide) ?_
    refine g_aload_n (pc := 16) (r := .inl (some b)) dX10_round_16 rfl ?_
    refine g_getf (pc := 17) (v := vR (b + 79)) flX10_96 dX10_round_17 hml rfl ?_
    refine g_aload_n (pc := 20) (r := .inl (some b)) dX10_round_20 rfl ?_
    refine g_getf (pc := 21) (v := vR (b + 1)) flX10_55 dX10_round_21 hml rfl ?_
    refine g_callV0 (pc := 24) (as := [vR (b + 1)]) (b := b + 79) (st := []) lvX10_112 dX10_round_24 h79 (Nat.le_of_ble_eq_true rfl) (by omega) (Nat.zero_le _) (Nat.zero_le _) (c_roundOf (d := 2) n1 hn hM hM2 hW1 hWb hpc hw hd hP hY rY (fun r hr => (hYb r hr).2)) ?_
    rintro r8 h2 ⟨e8, w2, d2, k2⟩
    subst e8
    exact r_long (pc := 27) dX10_round_27 rfl rfl (Nat.le_refl _) ⟨by rw [qM_some eg], cP.same c hi es eb (fun a z => k2 a (by omega)) (CM_hid cm w2 d2 k2)⟩

theorem k_order {N : Nat} {m : Int} {σ : Nat → Option MSt} {h : MH} {W : Nat} (hm : i32 m) (hW : ∀ kd M n T Y P, gt σ m = some (kd, M, n, T, Y, P) → isPer (mp (n + 1) M (au n T)) 32 W ∧ W ≤ 8000000000000000000) (c : CMs N h σ) : Ok mX10_order 10 0 0 [vR 0, vI m] N h (fun r9 h2 => r9 = some (vJ (qM σ m (-1) (fun kd M n T Y P => if Nat.gcd M (detF n T % (M : Int)).toNat = 1 then (W : Int) else -1))) ∧ cP N h h2 σ) := by
  refine Ok.of pfX10_order rfl (Nat.le_of_ble_eq_true rfl) (fun Ls sx => ?_)
  show G mX10_order (10, 0, 0, Ls, sx) 0 [(0, vR 0), (1, vI m)] [] (0, 0, N) h _
  obtain ⟨c1, c2, c3, c4⟩ := id c
  refine g_aload_n (pc := 0) (r := .inl (some 0)) dX10_order_0 rfl ?_
  refine g_iload_n (pc := 1) (x := m) dX10_order_1 rfl ?_
  refine g_callV0 (pc := 2) (as := [vI m]) (b := 0) (st := []) lvX10_39 dX10_order_2 c1 (Nat.le_of_ble_eq_true rfl) (by omega) (Nat.zero_le _) (Nat.zero_le _) (c_millAt (d := 9) hm c) ?_
  rintro r h1 ⟨e9, e8⟩
  subst e9
  rcases e8 with ⟨eg, e8⟩ | ⟨i, b, kd, M, n, T, Y, P, ma, e8⟩ <;> subst e8
  · refine g_astore_n (pc := 5) (r := .inl none) (lo2 := [(0, vR 0), (1, vI m), (2, vN)]) dX10_order_5 (by decide) rfl ?_
    refine g_aload_n (pc := 6) (r := .inl none) dX10_order_6 rfl ?_
    refine g_ifnullN (pc := 7) (tgt := 17) dX10_order_7 (by decide) ?_
    refine g_ldc2 (pc := 17) (n := -1) dX10_order_17 kcX10_110 ?_
    refine g_goto (pc := 20) (tgt := 30) dX10_order_20 (by decide) ?_
    exact r_long (pc := 30) dX10_order_30 rfl rfl (Nat.le_refl _) ⟨by rw [qM_none eg], cP.rfl c⟩
  · obtain ⟨hi, em, eb, es, eg, cm⟩ := id ma
    obtain ⟨ok, hml, ⟨hY, rY⟩, hpc, hw, hd, hnt, hpi⟩ := cm.out
    obtain ⟨hkd, hM, hM2, n1, hn, hk1, hk3, hT, hYb, hPb⟩ := id ok
    obtain ⟨kn, F, hPX, hF⟩ := id hw
    obtain ⟨wh, h79, -⟩ := id hd
    subst hF
    refine g_astore_n (pc := 5) (r := .inl (some b)) (lo2 := [(0, vR 0), (1, vI m), (2, vR b)]) dX10_order_5 (by decide) rfl ?_
    refine g_aload_n (pc := 6) (r := .inl (some b)) dX10_order_6 rfl ?_
    refine g_ifnullR (pc := 7) dX10_order_7 ?_
    refine g_aload_n (pc := 10) (r := .inl (some b)) dX10_order_10 rfl ?_
    refine g_callV0 (pc := 11) (as := []) (b := b) (st := []) lvX10_78 dX10_order_11 hml (Nat.le_of_ble_eq_true rfl) (by omega) (Nat.zero_le _) (Nat.zero_le _) (c_goesBack (d := 5) hn hM hM2 hml hPX.1) ?_
    rintro r8 h9 ⟨e9, e8⟩
    subst e9
    subst e8
    by_cases hgb : Nat.gcd M (detF n (F 0) % (M : Int)).toNat = 1
    · rw [if_pos hgb]
      refine g_if_neT (pc := 14) (tgt := 23) dX10_order_14 (by decide) (by omega) (by omega) ?_
      obtain ⟨hW1, hWb⟩ := hW _ _ _ _ _ _ eg
      refine g_aload_n (pc := 23) (r := .inl (some b)) dX10_order_23 rfl ?_
      refine g_getf (pc := 24) (v := vR (b + 79)) flX10_96 dX10_order_24 hml rfl ?_
      refine g_callV0 (pc := 27) (as := []) (b := b + 79) (st := []) lvX10_116 dX10_order_27 h79 (Nat.le_of_ble_eq_true rfl) (by omega) (Nat.zero_le _) (Nat.zero_le _) (c_whole (d := 3) n1 hn hM hM2 hW1 hpc hw hd) ?_
      rintro r8 h2 ⟨e8, w2, d2, k2⟩
      subst e8
      exact r_long (pc := 30) dX10_order_30 rfl rfl (Nat.le_refl _) ⟨by rw [qM_some eg, if_pos hgb], cP.same c hi es eb (fun a z => k2 a (by omega) (by omega)) (CM_hid cm w2 (d2.rd hW1) (fun a z => k2 a (by omega) (by omega)))⟩
    · rw [if_neg hgb]
      refine g_if_neF (pc := 14) (tgt := 23) dX10_order_14 (by decide) (by omega) (by omega) ?_
      refine g_ldc2 (pc := 17) (n := -1) dX10_order_17 kcX10_110 ?_
      refine g_goto (pc := 20) (tgt := 30) dX10_order_20 (by decide) ?_
      exact r_long (pc := 30) dX10_order_30 rfl rfl (Nat.le_refl _) ⟨by rw [qM_some eg, if_neg hgb], cP.rfl c⟩

theorem k_fixed {N : Nat} {m t : Int} {σ : Nat → Option MSt} {h : MH} (hm : i32 m) (ht : i64 t) (c : CMs N h σ) : Ok mX10_fixed 10 0 0 [vR 0, vI m, vJ t] N h (fun r9 h2 => r9 = some (vJ (qM σ m (-1) (fun kd M n T Y P => if 0 ≤ t then ((nfM n M (au n T) t.toNat : Nat) : Int) else -1))) ∧ cP N h h2 σ) := by
  refine Ok.of pfX10_fixed rfl (Nat.le_of_ble_eq_true rfl) (fun Ls sx => ?_)
  show G mX10_fixed (10, 0, 0, Ls, sx) 0 [(0, vR 0), (1, vI m), (2, vJ t)] [] (0, 0, N) h _
  obtain ⟨c1, c2, c3, c4⟩ := id c
  refine g_aload_n (pc := 0) (r := .inl (some 0)) dX10_fixed_0 rfl ?_
  refine g_iload_n (pc := 1) (x := m) dX10_fixed_1 rfl ?_
  refine g_callV0 (pc := 2) (as := [vI m]) (b := 0) (st := []) lvX10_39 dX10_fixed_2 c1 (Nat.le_of_ble_eq_true rfl) (by omega) (Nat.zero_le _) (Nat.zero_le _) (c_millAt (d := 9) hm c) ?_
  rintro r h1 ⟨e9, e8⟩
  subst e9
  rcases e8 with ⟨eg, e8⟩ | ⟨i, b, kd, M, n, T, Y, P, ma, e8⟩ <;> subst e8
  · refine g_astore (pc := 5) (r := .inl none) (lo2 := [(0, vR 0), (1, vI m), (2, vJ t), (4, vN)]) dX10_fixed_5 (by decide) rfl ?_
    refine g_aload (pc := 7) (r := .inl none) dX10_fixed_7 rfl ?_
    refine g_ifnullN (pc := 9) (tgt := 18) dX10_fixed_9 (by decide) ?_
    refine g_ldc2 (pc := 18) (n := -1) dX10_fixed_18 kcX10_110 ?_
    refine g_goto (pc := 21) (tgt := 33) dX10_fixed_21 (by decide) ?_
    exact r_long (pc := 33) dX10_fixed_33 rfl rfl (Nat.le_refl _) ⟨by rw [qM_none eg], cP.rfl c⟩
  · obtain ⟨hi, em, eb, es, eg, cm⟩ := id ma
    obtain ⟨ok, hml, ⟨hY, rY⟩, hpc, hw, hd, hnt, hpi⟩ := cm.out
    obtain ⟨hkd, hM, hM2, n1, hn, hk1, hk3, hT, hYb, hPb⟩ := id ok
    obtain ⟨kn, F, hPX, hF⟩ := id hw
    obtain ⟨wh, h79, -⟩ := id hd
    subst hF
    refine g_astore (pc := 5) (r := .inl (some b)) (lo2 := [(0, vR 0), (1, vI m), (2, vJ t), (4, vR b)]) dX10_fixed_5 (by decide) rfl ?_
    refine g_aload (pc := 7) (r := .inl (some b)) dX10_fixed_7 rfl ?_
    refine g_ifnullR (pc := 9) dX10_fixed_9 ?_
    refine g_lload_n (pc := 12) (x := t) dX10_fixed_12 rfl ?_
    refine g_lconst0 (pc := 13) dX10_fixed_13 ?_
    refine g_lif_ge (pc := 14) (tgt := 24) dX10_fixed_14 dX10_fixed_15 (by decide) (by omega) (by omega) (fun k0 => ?_) (fun k0 => ?_)
    · obtain ⟨q, eq⟩ : ∃ q : Nat, t = (q : Int) := ⟨t.toNat, by omega⟩
      subst eq
      refine g_aload (pc := 24) (r := .inl (some b)) dX10_fixed_24 rfl ?_
      refine g_getf (pc := 26) (v := vR (b + 79)) flX10_96 dX10_fixed_26 hml rfl ?_
      refine g_lload_n (pc := 29) (x := (q : Int)) dX10_fixed_29 rfl ?_
      refine g_callV0 (pc := 30) (as := [vJ (q : Int)]) (b := b + 79) (st := []) lvX10_120 dX10_fixed_30 h79 (Nat.le_of_ble_eq_true rfl) (by omega) (Nat.zero_le _) (Nat.zero_le _) (c_platesFixed (d := 4) n1 hn hM hM2 (show q < 9223372036854775808 by omega) hpc hw hd) ?_
      rintro r8 h2 ⟨e8, w2, d2, k2⟩
      subst e8
      exact r_long (pc := 33) dX10_fixed_33 rfl rfl (Nat.le_refl _) ⟨by rw [qM_some eg, if_pos k0, Int.toNat_natCast], cP.same c hi es eb (fun a z => k2 a (by omega) (by omega)) (CM_hid cm w2 d2 (fun a z => k2 a (by omega) (by omega)))⟩
    · refine g_ldc2 (pc := 18) (n := -1) dX10_fixed_18 kcX10_110 ?_
      refine g_goto (pc := 21) (tgt := 33) dX10_fixed_21 (by decide) ?_
      exact r_long (pc := 33) dX10_fixed_33 rfl rfl (Nat.le_refl _) ⟨by rw [qM_some eg, if_neg (by omega)], cP.rfl c⟩

theorem k_rounds {N : Nat} {m t : Int} {σ : Nat → Option MSt} {h : MH} {Lq : List Nat} (hm : i32 m) (ht : i64 t) (hL : ∀ kd M n T Y P, gt σ m = some (kd, M, n, T, Y, P) → ∀ W, isPer (mp (n + 1) M (au n T)) 32 W → (∀ x ∈ Lq, 1 ≤ x ∧ x ∣ W) ∧ ∀ k, 1 ≤ k → nfM n M (au n T) k = cD Lq k) (c : CMs N h σ) : Ok mX10_rounds 10 0 0 [vR 0, vI m, vJ t] N h (fun r9 h2 => r9 = some (vJ (qM σ m (-1) (fun kd M n T Y P => if 1 ≤ t ∧ t ≤ 1000000000000 then ((cE Lq t.toNat : Nat) : Int) else -1))) ∧ cP N h h2 σ) := by
  refine Ok.of pfX10_rounds rfl (Nat.le_of_ble_eq_true rfl) (fun Ls sx => ?_)
  show G mX10_rounds (10, 0, 0, Ls, sx) 0 [(0, vR 0), (1, vI m), (2, vJ t)] [] (0, 0, N) h _
  obtain ⟨c1, c2, c3, c4⟩ := id c
  refine g_aload_n (pc := 0) (r := .inl (some 0)) dX10_rounds_0 rfl ?_
  refine g_iload_n (pc := 1) (x := m) dX10_rounds_1 rfl ?_
  refine g_callV0 (pc := 2) (as := [vI m]) (b := 0) (st := []) lvX10_39 dX10_rounds_2 c1 (Nat.le_of_ble_eq_true rfl) (by omega) (Nat.zero_le _) (Nat.zero_le _) (c_millAt (d := 9) hm c) ?_
  rintro r h1 ⟨e9, e8⟩
  subst e9
  rcases e8 with ⟨eg, e8⟩ | ⟨i, b, kd, M, n, T, Y, P, ma, e8⟩ <;> subst e8
  · refine g_astore (pc := 5) (r := .inl none) (lo2 := [(0, vR 0), (1, vI m), (2, vJ t), (4, vN)]) dX10_rounds_5 (by decide) rfl ?_
    refine g_aload (pc := 7) (r := .inl none) dX10_rounds_7 rfl ?_
    refine g_ifnullN (pc := 9) (tgt := 26) dX10_rounds_9 (by decide) ?_
    refine g_ldc2 (pc := 26) (n := -1) dX10_rounds_26 kcX10_110 ?_
    exact r_long (pc := 29) dX10_rounds_29 rfl rfl (Nat.le_refl _) ⟨by rw [qM_none eg], cP.rfl c⟩
  · obtain ⟨hi, em, eb, es, eg, cm⟩ := id ma
    obtain ⟨ok, hml, ⟨hY, rY⟩, hpc, hw, hd, hnt, hpi⟩ := cm.out
    obtain ⟨hkd, hM, hM2, n1, hn, hk1, hk3, hT, hYb, hPb⟩ := id ok
    obtain ⟨kn, F, hPX, hF⟩ := id hw
    obtain ⟨wh, h79, -⟩ := id hd
    subst hF
    refine g_astore (pc := 5) (r := .inl (some b)) (lo2 := [(0, vR 0), (1, vI m), (2, vJ t), (4, vR b)]) dX10_rounds_5 (by decide) rfl ?_
    refine g_aload (pc := 7) (r := .inl (some b)) dX10_rounds_7 rfl ?_
    refine g_ifnullR (pc := 9) dX10_rounds_9 ?_
    refine g_lload_n (pc := 12) (x := t) dX10_rounds_12 rfl ?_
    refine g_lconst1 (pc := 13) dX10_rounds_13 ?_
    refine g_lif_lt (pc := 14) (tgt := 26) dX10_rounds_14 dX10_rounds_15 (by decide) (by omega) (by omega) (fun k0 => ?_) (fun k0 => ?_)
    · refine g_ldc2 (pc := 26) (n := -1) dX10_rounds_26 kcX10_110 ?_
      exact r_long (pc := 29) dX10_rounds_29 rfl rfl (Nat.le_refl _) ⟨by rw [qM_some eg, if_neg (by omega)], cP.rfl c⟩
    · refine g_lload_n (pc := 18) (x := t) dX10_rounds_18 rfl ?_
      refine g_ldc2 (pc := 19) (n := 1000000000000) dX10_rounds_19 kcX10_123 ?_
      refine g_lif_le (pc := 22) (tgt := 30) dX10_rounds_22 dX10_rounds_23 (by decide) (by omega) (by omega) (fun k1 => ?_) (fun k1 => ?_)
      · obtain ⟨q, eq⟩ : ∃ q : Nat, t = (q : Int) := ⟨t.toNat, by omega⟩
        subst eq
        obtain ⟨W, hW1, hWb⟩ := W_ex (T := F 0) n1 hn hM hM2
        obtain ⟨hL1, hL2⟩ := hL _ _ _ _ _ _ eg W hW1
        refine g_aload (pc := 30) (r := .inl (some b)) dX10_rounds_30 rfl ?_
        refine g_getf (pc := 32) (v := vR (b + 79)) flX10_96 dX10_rounds_32 hml rfl ?_
        refine g_lload_n (pc := 35) (x := (q : Int)) dX10_rounds_35 rfl ?_
        refine g_callV0 (pc := 36) (as := [vJ (q : Int)]) (b := b + 79) (st := []) lvX10_125 dX10_rounds_36 h79 (Nat.le_of_ble_eq_true rfl) (by omega) (Nat.zero_le _) (Nat.zero_le _) (c_platesInRounds (d := 2) n1 hn hM hM2 hW1 hWb (show 1 ≤ q by omega) (by omega) hL1 hL2 hpc hw hd) ?_
        rintro r8 h2 ⟨e8, w2, d2, k2⟩
        subst e8
        exact r_long (pc := 39) dX10_rounds_39 rfl rfl (Nat.le_refl _) ⟨by rw [qM_some eg, if_pos (by omega), Int.toNat_natCast], cP.same c hi es eb (fun a z => k2 a (by omega)) (CM_hid cm w2 d2 k2)⟩
      · refine g_ldc2 (pc := 26) (n := -1) dX10_rounds_26 kcX10_110 ?_
        exact r_long (pc := 29) dX10_rounds_29 rfl rfl (Nat.le_refl _) ⟨by rw [qM_some eg, if_neg (by omega)], cP.rfl c⟩

theorem k_check {N : Nat} {m t : Int} {σ : Nat → Option MSt} {h : MH} {Pd : Nat} (hm : i32 m) (ht : i64 t) (hτ : ∀ kd M n T Y P, gt σ m = some (kd, M, n, T, Y, P) → isPer (rowS n M (au n T) Y) 32 Pd) (c : CMs N h σ) : Ok mX10_check 10 0 0 [vR 0, vI m, vJ t] N h (fun r9 h2 => r9 = some (vI (qM σ m (-1) (fun kd M n T Y P => if 1 ≤ t ∧ t ≤ 1000000000000 then (if (Pd : Int) = t then 1 else 0) else -1))) ∧ cP N h h2 σ) := by
  refine Ok.of pfX10_check rfl (Nat.le_of_ble_eq_true rfl) (fun Ls sx => ?_)
  show G mX10_check (10, 0, 0, Ls, sx) 0 [(0, vR 0), (1, vI m), (2, vJ t)] [] (0, 0, N) h _
  obtain ⟨c1, c2, c3, c4⟩ := id c
  refine g_aload_n (pc := 0) (r := .inl (some 0)) dX10_check_0 rfl ?_
  refine g_iload_n (pc := 1) (x := m) dX10_check_1 rfl ?_
  refine g_callV0 (pc := 2) (as := [vI m]) (b := 0) (st := []) lvX10_39 dX10_check_2 c1 (Nat.le_of_ble_eq_true rfl) (by omega) (Nat.zero_le _) (Nat.zero_le _) (c_millAt (d := 9) hm c) ?_
  rintro r h1 ⟨e9, e8⟩
  subst e9
  rcases e8 with ⟨eg, e8⟩ | ⟨i, b, kd, M, n, T, Y, P, ma, e8⟩ <;> subst e8
  · refine g_astore (pc := 5) (r := .inl none) (lo2 := [(0, vR 0), (1, vI m), (2, vJ t), (4, vN)]) dX10_check_5 (by decide) rfl ?_
    refine g_aload (pc := 7) (r := .inl none) dX10_check_7 rfl ?_
    refine g_ifnullN (pc := 9) (tgt := 26) dX10_check_9 (by decide) ?_
    refine g_iconst (pc := 26) dX10_check_26 ?_
    exact r_int (pc := 27) dX10_check_27 rfl rfl (Nat.le_refl _) ⟨by rw [qM_none eg], cP.rfl c⟩
  · obtain ⟨hi, em, eb, es, eg, cm⟩ := id ma
    obtain ⟨ok, hml, ⟨hY, rY⟩, hpc, hw, hd, hnt, hpi⟩ := cm.out
    obtain ⟨hkd, hM, hM2, n1, hn, hk1, hk3, hT, hYb, hPb⟩ := id ok
    obtain ⟨kn, F, hPX, hF⟩ := id hw
    obtain ⟨wh, h79, -⟩ := id hd
    subst hF
    refine g_astore (pc := 5) (r := .inl (some b)) (lo2 := [(0, vR 0), (1, vI m), (2, vJ t), (4, vR b)]) dX10_check_5 (by decide) rfl ?_
    refine g_aload (pc := 7) (r := .inl (some b)) dX10_check_7 rfl ?_
    refine g_ifnullR (pc := 9) dX10_check_9 ?_
    refine g_lload_n (pc := 12) (x := t) dX10_check_12 rfl ?_
    refine g_lconst1 (pc := 13) dX10_check_13 ?_
    refine g_lif_lt (pc := 14) (tgt := 26) dX10_check_14 dX10_check_15 (by decide) (by omega) (by omega) (fun k0 => ?_) (fun k0 => ?_)
    · refine g_iconst (pc := 26) dX10_check_26 ?_
      exact r_int (pc := 27) dX10_check_27 rfl rfl (Nat.le_refl _) ⟨by rw [qM_some eg, if_neg (by omega)], cP.rfl c⟩
    · refine g_lload_n (pc := 18) (x := t) dX10_check_18 rfl ?_
      refine g_ldc2 (pc := 19) (n := 1000000000000) dX10_check_19 kcX10_123 ?_
      refine g_lif_le (pc := 22) (tgt := 28) dX10_check_22 dX10_check_23 (by decide) (by omega) (by omega) (fun k1 => ?_) (fun k1 => ?_)
      · obtain ⟨W, hW1, hWb⟩ := W_ex (T := F 0) n1 hn hM hM2
        have hP := hτ _ _ _ _ _ _ eg
        have hPW : Pd ∣ W := (hP.2 W).mp (rowS_of_mp ((hW1.2 W).mpr (Nat.dvd_refl W)))
        have hPl := Nat.le_of_dvd (by have := hW1.1; omega) hPW
        refine g_aload (pc := 28) (r := .inl (some b)) dX10_check_28 rfl ?_
        refine g_getf (pc := 30) (v := vR (b + 79)) flX10_96 dX10_check_30 hml rfl ?_
        refine g_aload (pc := 33) (r := .inl (some b)) dX10_check_33 rfl ?_
        refine g_getf (pc := 35) (v := vR (b + 1)) flX10_55 dX10_check_35 hml rfl ?_
        refine g_callV0 (pc := 38) (as := [vR (b + 1)]) (b := b + 79) (st := []) lvX10_112 dX10_check_38 h79 (Nat.le_of_ble_eq_true rfl) (by omega) (Nat.zero_le _) (Nat.zero_le _) (c_roundOf (d := 2) n1 hn hM hM2 hW1 hWb hpc hw hd hP hY rY (fun r hr => (hYb r hr).2)) ?_
        rintro r8 h2 ⟨e8, w2, d2, k2⟩
        subst e8
        refine g_lload_n (pc := 41) (x := t) dX10_check_41 rfl ?_
        refine g_lif_ne (pc := 42) (tgt := 50) dX10_check_42 dX10_check_43 (by decide) (by omega) (by omega) (fun k2e => ?_) (fun k2e => ?_)
        · refine g_iconst (pc := 50) dX10_check_50 ?_
          exact r_int (pc := 51) dX10_check_51 rfl rfl (Nat.le_refl _) ⟨by rw [qM_some eg, if_pos (by omega), if_neg k2e], cP.same c hi es eb (fun a z => k2 a (by omega)) (CM_hid cm w2 d2 k2)⟩
        · refine g_iconst (pc := 46) dX10_check_46 ?_
          refine g_goto (pc := 47) (tgt := 51) dX10_check_47 (by decide) ?_
          exact r_int (pc := 51) dX10_check_51 rfl rfl (Nat.le_refl _) ⟨by rw [qM_some eg, if_pos (by omega), if_pos k2e], cP.same c hi es eb (fun a z => k2 a (by omega)) (CM_hid cm w2 d2 k2)⟩
      · refine g_iconst (pc := 26) dX10_check_26 ?_
        exact r_int (pc := 27) dX10_check_27 rfl rfl (Nat.le_refl _) ⟨by rw [qM_some eg, if_neg (by omega)], cP.rfl c⟩

theorem k_part {N : Nat} {m k w : Int} {σ : Nat → Option MSt} {h : MH} (hm : i32 m) (hk : i32 k) (hw : i32 w) (c : CMs N h σ) : Ok mX10_part 10 0 0 [vR 0, vI m, vI k, vI w] N h (fun r9 h2 => r9 = some (vI (qM σ m (-1) (fun kd M n T Y P => if 0 ≤ k ∧ k < ((fcs M).length : Int) then (if w = 0 then ((pe M k.toNat).1 : Int) else if w = 1 then (pq M k.toNat : Int) else if w = 2 then ((pe M k.toNat).2 : Int) else if w = 3 then detF n T % (M : Int) % (pq M k.toNat : Int) else -1) else -1))) ∧ cP N h h2 σ) := by
  refine Ok.of pfX10_part rfl (Nat.le_of_ble_eq_true rfl) (fun Ls sx => ?_)
  show G mX10_part (10, 0, 0, Ls, sx) 0 [(0, vR 0), (1, vI m), (2, vI k), (3, vI w)] [] (0, 0, N) h _
  obtain ⟨c1, c2, c3, c4⟩ := id c
  refine g_aload_n (pc := 0) (r := .inl (some 0)) dX10_part_0 rfl ?_
  refine g_iload_n (pc := 1) (x := m) dX10_part_1 rfl ?_
  refine g_callV0 (pc := 2) (as := [vI m]) (b := 0) (st := []) lvX10_39 dX10_part_2 c1 (Nat.le_of_ble_eq_true rfl) (by omega) (Nat.zero_le _) (Nat.zero_le _) (c_millAt (d := 9) hm c) ?_
  rintro r h1 ⟨e9, e8⟩
  subst e9
  rcases e8 with ⟨eg, e8⟩ | ⟨i, b, kd, M, n, T, Y, P, ma, e8⟩ <;> subst e8
  · refine g_astore (pc := 5) (r := .inl none) (lo2 := [(0, vR 0), (1, vI m), (2, vI k), (3, vI w), (4, vN)]) dX10_part_5 (by decide) rfl ?_
    refine g_aload (pc := 7) (r := .inl none) dX10_part_7 rfl ?_
    refine g_ifnonnullN (pc := 9) dX10_part_9 ?_
    refine g_null (pc := 12) dX10_part_12 ?_
    refine g_goto (pc := 13) (tgt := 22) dX10_part_13 (by decide) ?_
    refine g_astore (pc := 22) (r := .inl none) (lo2 := [(0, vR 0), (1, vI m), (2, vI k), (3, vI w), (4, vN), (5, vN)]) dX10_part_22 (by decide) rfl ?_
    refine g_aload (pc := 24) (r := .inl none) dX10_part_24 rfl ?_
    refine g_ifnonnullN (pc := 26) dX10_part_26 ?_
    refine g_iconst (pc := 29) dX10_part_29 ?_
    exact r_int (pc := 30) dX10_part_30 rfl rfl (Nat.le_refl _) ⟨by rw [qM_none eg], cP.rfl c⟩
  · obtain ⟨hi, em, eb, es, eg, cm⟩ := id ma
    obtain ⟨ok, hml, ⟨hY, rY⟩, hpc, hw, hd, hnt, hpi⟩ := cm.out
    obtain ⟨hkd, hM, hM2, n1, hn, hk1, hk3, hT, hYb, hPb⟩ := id ok
    obtain ⟨kn, F, hPX, hF⟩ := id hw
    obtain ⟨wh, h79, -⟩ := id hd
    subst hF
    refine g_astore (pc := 5) (r := .inl (some b)) (lo2 := [(0, vR 0), (1, vI m), (2, vI k), (3, vI w), (4, vR b)]) dX10_part_5 (by decide) rfl ?_
    refine g_aload (pc := 7) (r := .inl (some b)) dX10_part_7 rfl ?_
    refine g_ifnonnullR (pc := 9) (tgt := 16) dX10_part_9 (by decide) ?_
    refine g_aload (pc := 16) (r := .inl (some b)) dX10_part_16 rfl ?_
    refine g_iload_n (pc := 18) (x := k) dX10_part_18 rfl ?_
    refine g_callV0 (pc := 19) (as := [vI k]) (b := b) (st := []) lvX10_128 dX10_part_19 hml (Nat.le_of_ble_eq_true rfl) (by omega) (Nat.zero_le _) (Nat.zero_le _) (c_partAt (d := 8) hk hM hM2 hml hpc) ?_
    rintro r8 h9 ⟨e9, e8⟩
    subst e9
    rcases e8 with ⟨kn0, e8⟩ | ⟨j, ej, jl, e8⟩ <;> subst e8
    · refine g_astore (pc := 22) (r := .inl none) (lo2 := [(0, vR 0), (1, vI m), (2, vI k), (3, vI w), (4, vR b), (5, vN)]) dX10_part_22 (by decide) rfl ?_
      refine g_aload (pc := 24) (r := .inl none) dX10_part_24 rfl ?_
      refine g_ifnonnullN (pc := 26) dX10_part_26 ?_
      refine g_iconst (pc := 29) dX10_part_29 ?_
      exact r_int (pc := 30) dX10_part_30 rfl rfl (Nat.le_refl _) ⟨by rw [qM_some eg, if_neg kn0], cP.rfl c⟩
    · subst ej
      obtain ⟨q1, q2, q3, q4, q5, q6⟩ := pq_ok hM hM2 jl
      have hlen := (fcs_ok hM hM2).1
      have hpj : Hd (0, 0, N) h9 (b + 8 + j) (eO 4 [vI ((pe M j).1 : Int), vI (pq M j : Int), vI ((pe M j).2 : Int)]) := hpc.2 j (by omega)
      refine g_astore (pc := 22) (r := .inl (some (b + 8 + j))) (lo2 := [(0, vR 0), (1, vI m), (2, vI (j : Int)), (3, vI w), (4, vR b), (5, vR (b + 8 + j))]) dX10_part_22 (by decide) rfl ?_
      refine g_aload (pc := 24) (r := .inl (some (b + 8 + j))) dX10_part_24 rfl ?_
      refine g_ifnonnullR (pc := 26) (tgt := 31) dX10_part_26 (by decide) ?_
      refine g_iload_n (pc := 31) (x := w) dX10_part_31 rfl ?_
      by_cases hs0 : w = 0
      · refine g_tabIn (pc := 32) (tgt := 64) dX10_part_32 (by omega) (by omega) (by omega) (by rw [hs0]; rfl) (by decide) ?_
        refine g_aload (pc := 64) (r := .inl (some (b + 8 + j))) dX10_part_64 rfl ?_
        refine g_getf (pc := 66) (v := vI ((pe M j).1 : Int)) flX10_132 dX10_part_66 hpj rfl ?_
        exact r_int (pc := 69) dX10_part_69 rfl rfl (Nat.le_refl _) ⟨by rw [qM_some eg, if_pos (by omega), Int.toNat_natCast, if_pos hs0], cP.rfl c⟩
      by_cases hs1 : w = 1
      · refine g_tabIn (pc := 32) (tgt := 70) dX10_part_32 (by omega) (by omega) (by omega) (by rw [hs1]; rfl) (by decide) ?_
        refine g_aload (pc := 70) (r := .inl (some (b + 8 + j))) dX10_part_70 rfl ?_
        refine g_getf (pc := 72) (v := vI (pq M j : Int)) flX10_137 dX10_part_72 hpj rfl ?_
        exact r_int (pc := 75) dX10_part_75 rfl rfl (Nat.le_refl _) ⟨by rw [qM_some eg, if_pos (by omega), Int.toNat_natCast, if_neg hs0, if_pos hs1], cP.rfl c⟩
      by_cases hs2 : w = 2
      · refine g_tabIn (pc := 32) (tgt := 76) dX10_part_32 (by omega) (by omega) (by omega) (by rw [hs2]; rfl) (by decide) ?_
        refine g_aload (pc := 76) (r := .inl (some (b + 8 + j))) dX10_part_76 rfl ?_
        refine g_getf (pc := 78) (v := vI ((pe M j).2 : Int)) flX10_140 dX10_part_78 hpj rfl ?_
        exact r_int (pc := 81) dX10_part_81 rfl rfl (Nat.le_refl _) ⟨by rw [qM_some eg, if_pos (by omega), Int.toNat_natCast, if_neg hs0, if_neg hs1, if_pos hs2], cP.rfl c⟩
      by_cases hs3 : w = 3
      · refine g_tabIn (pc := 32) (tgt := 82) dX10_part_32 (by omega) (by omega) (by omega) (by rw [hs3]; rfl) (by decide) ?_
        refine g_aload (pc := 82) (r := .inl (some b)) dX10_part_82 rfl ?_
        have d0 := Int.emod_nonneg (detF n (F 0)) (show (M : Int) ≠ 0 by omega)
        have d1 := Int.emod_lt_of_pos (detF n (F 0)) (show (0 : Int) < M by omega)
        refine g_callV0 (pc := 84) (as := []) (b := b) (st := []) lvX10_74 dX10_part_84 hml (Nat.le_of_ble_eq_true rfl) (by omega) (Nat.zero_le _) (Nat.zero_le _) (c_worth (d := 6) hn hM hM2 hml hPX.1) ?_
        rintro r8 h9 ⟨e9, e8⟩
        subst e9
        subst e8
        refine g_i2l (pc := 87) dX10_part_87 (by omega) ?_
        refine g_aload (pc := 88) (r := .inl (some (b + 8 + j))) dX10_part_88 rfl ?_
        refine g_getf (pc := 90) (v := vI (pq M j : Int)) flX10_137 dX10_part_90 hpj rfl ?_
        refine g_callS0 (pc := 93) (as := [vJ (detF n (F 0) % (M : Int)), vI (pq M j : Int)]) (st := []) lsX10_62 dX10_part_93 (Nat.le_of_ble_eq_true rfl) (by omega) (Nat.zero_le _) (Nat.zero_le _) (c_restOf (d := 8) (by omega) (by omega) (by omega)) ?_
        rintro r8 h9 ⟨e9, e8⟩
        subst e9
        subst e8
        exact r_int (pc := 96) dX10_part_96 rfl rfl (Nat.le_refl _) ⟨by rw [qM_some eg, if_pos (by omega), Int.toNat_natCast, if_neg hs0, if_neg hs1, if_neg hs2, if_pos hs3], cP.rfl c⟩
      refine g_tabOut (pc := 32) (tgt := 97) dX10_part_32 (by omega) (by omega) (by decide) ?_
      refine g_iconst (pc := 97) dX10_part_97 ?_
      exact r_int (pc := 98) dX10_part_98 rfl rfl (Nat.le_refl _) ⟨by rw [qM_some eg, if_pos (by omega), Int.toNat_natCast, if_neg hs0, if_neg hs1, if_neg hs2, if_neg hs3], cP.rfl c⟩

theorem k_split {N : Nat} {m k r : Int} {σ : Nat → Option MSt} {h : MH} (hm : i32 m) (hk : i32 k) (hr : i32 r) (c : CMs N h σ) : Ok mX10_split 10 0 0 [vR 0, vI m, vI k, vI r] N h (fun r9 h2 => r9 = some (vI (qM σ m (-1) (fun kd M n T Y P => if (0 ≤ k ∧ k < ((fcs M).length : Int)) ∧ (0 ≤ r ∧ r < n) then Y r.toNat % (pq M k.toNat : Int) else -1))) ∧ cP N h h2 σ) := by
  refine Ok.of pfX10_split rfl (Nat.le_of_ble_eq_true rfl) (fun Ls sx => ?_)
  show G mX10_split (10, 0, 0, Ls, sx) 0 [(0, vR 0), (1, vI m), (2, vI k), (3, vI r)] [] (0, 0, N) h _
  obtain ⟨c1, c2, c3, c4⟩ := id c
  refine g_aload_n (pc := 0) (r := .inl (some 0)) dX10_split_0 rfl ?_
  refine g_iload_n (pc := 1) (x := m) dX10_split_1 rfl ?_
  refine g_callV0 (pc := 2) (as := [vI m]) (b := 0) (st := []) lvX10_39 dX10_split_2 c1 (Nat.le_of_ble_eq_true rfl) (by omega) (Nat.zero_le _) (Nat.zero_le _) (c_millAt (d := 9) hm c) ?_
  rintro r h1 ⟨e9, e8⟩
  subst e9
  rcases e8 with ⟨eg, e8⟩ | ⟨i, b, kd, M, n, T, Y, P, ma, e8⟩ <;> subst e8
  · refine g_astore (pc := 5) (r := .inl none) (lo2 := [(0, vR 0), (1, vI m), (2, vI k), (3, vI r), (4, vN)]) dX10_split_5 (by decide) rfl ?_
    refine g_aload (pc := 7) (r := .inl none) dX10_split_7 rfl ?_
    refine g_ifnonnullN (pc := 9) dX10_split_9 ?_
    refine g_null (pc := 12) dX10_split_12 ?_
    refine g_goto (pc := 13) (tgt := 22) dX10_split_13 (by decide) ?_
    refine g_astore (pc := 22) (r := .inl none) (lo2 := [(0, vR 0), (1, vI m), (2, vI k), (3, vI r), (4, vN), (5, vN)]) dX10_split_22 (by decide) rfl ?_
    refine g_aload (pc := 24) (r := .inl none) dX10_split_24 rfl ?_
    refine g_ifnullN (pc := 26) (tgt := 38) dX10_split_26 (by decide) ?_
    refine g_iconst (pc := 38) dX10_split_38 ?_
    refine g_goto (pc := 39) (tgt := 58) dX10_split_39 (by decide) ?_
    exact r_int (pc := 58) dX10_split_58 rfl rfl (Nat.le_refl _) ⟨by rw [qM_none eg], cP.rfl c⟩
  · obtain ⟨hi, em, eb, es, eg, cm⟩ := id ma
    obtain ⟨ok, hml, ⟨hY, rY⟩, hpc, hw, hd, hnt, hpi⟩ := cm.out
    obtain ⟨hkd, hM, hM2, n1, hn, hk1, hk3, hT, hYb, hPb⟩ := id ok
    obtain ⟨kn, F, hPX, hF⟩ := id hw
    obtain ⟨wh, h79, -⟩ := id hd
    subst hF
    refine g_astore (pc := 5) (r := .inl (some b)) (lo2 := [(0, vR 0), (1, vI m), (2, vI k), (3, vI r), (4, vR b)]) dX10_split_5 (by decide) rfl ?_
    refine g_aload (pc := 7) (r := .inl (some b)) dX10_split_7 rfl ?_
    refine g_ifnonnullR (pc := 9) (tgt := 16) dX10_split_9 (by decide) ?_
    refine g_aload (pc := 16) (r := .inl (some b)) dX10_split_16 rfl ?_
    refine g_iload_n (pc := 18) (x := k) dX10_split_18 rfl ?_
    refine g_callV0 (pc := 19) (as := [vI k]) (b := b) (st := []) lvX10_128 dX10_split_19 hml (Nat.le_of_ble_eq_true rfl) (by omega) (Nat.zero_le _) (Nat.zero_le _) (c_partAt (d := 8) hk hM hM2 hml hpc) ?_
    rintro r8 h9 ⟨e9, e8⟩
    subst e9
    rcases e8 with ⟨kn0, e8⟩ | ⟨j, ej, jl, e8⟩ <;> subst e8
    · refine g_astore (pc := 22) (r := .inl none) (lo2 := [(0, vR 0), (1, vI m), (2, vI k), (3, vI r), (4, vR b), (5, vN)]) dX10_split_22 (by decide) rfl ?_
      refine g_aload (pc := 24) (r := .inl none) dX10_split_24 rfl ?_
      refine g_ifnullN (pc := 26) (tgt := 38) dX10_split_26 (by decide) ?_
      refine g_iconst (pc := 38) dX10_split_38 ?_
      refine g_goto (pc := 39) (tgt := 58) dX10_split_39 (by decide) ?_
      exact r_int (pc := 58) dX10_split_58 rfl rfl (Nat.le_refl _) ⟨by rw [qM_some eg, if_neg (fun y => kn0 y.1)], cP.rfl c⟩
    · subst ej
      obtain ⟨q1, q2, q3, q4, q5, q6⟩ := pq_ok hM hM2 jl
      have hlen := (fcs_ok hM hM2).1
      have hpj : Hd (0, 0, N) h9 (b + 8 + j) (eO 4 [vI ((pe M j).1 : Int), vI (pq M j : Int), vI ((pe M j).2 : Int)]) := hpc.2 j (by omega)
      refine g_astore (pc := 22) (r := .inl (some (b + 8 + j))) (lo2 := [(0, vR 0), (1, vI m), (2, vI (j : Int)), (3, vI r), (4, vR b), (5, vR (b + 8 + j))]) dX10_split_22 (by decide) rfl ?_
      refine g_aload (pc := 24) (r := .inl (some (b + 8 + j))) dX10_split_24 rfl ?_
      refine g_ifnullR (pc := 26) dX10_split_26 ?_
      refine g_aload (pc := 29) (r := .inl (some b)) dX10_split_29 rfl ?_
      refine g_iload_n (pc := 31) (x := r) dX10_split_31 rfl ?_
      refine g_callV0 (pc := 32) (as := [vI r]) (b := b) (st := []) lvX10_47 dX10_split_32 hml (Nat.le_of_ble_eq_true rfl) (by omega) (Nat.zero_le _) (Nat.zero_le _) (c_hasRest (d := 9) hr hn hml) ?_
      rintro r8 h9 ⟨e9, e8⟩
      subst e9
      subst e8
      by_cases hcc : 0 ≤ r ∧ r < n
      · rw [if_pos hcc]
        refine g_if_neT (pc := 35) (tgt := 42) dX10_split_35 (by decide) (by omega) (by omega) ?_
        obtain ⟨rr, er⟩ : ∃ rr : Nat, r = (rr : Int) := ⟨r.toNat, by omega⟩
        subst er
        have hyr := hYb rr (by omega)
        refine g_aload (pc := 42) (r := .inl (some b)) dX10_split_42 rfl ?_
        refine g_getf (pc := 44) (v := vR (b + 1)) flX10_55 dX10_split_44 hml rfl ?_
        refine g_iload_n (pc := 47) (x := (rr : Int)) dX10_split_47 rfl ?_
        refine g_ialdN (pc := 48) (j := rr) dX10_split_48 hY (by omega) (by omega) (by omega) ?_
        refine g_i2l (pc := 49) dX10_split_49 (by omega) ?_
        refine g_aload (pc := 50) (r := .inl (some (b + 8 + j))) dX10_split_50 rfl ?_
        refine g_getf (pc := 52) (v := vI (pq M j : Int)) flX10_137 dX10_split_52 hpj rfl ?_
        refine g_callS0 (pc := 55) (as := [vJ (Y rr), vI (pq M j : Int)]) (st := []) lsX10_62 dX10_split_55 (Nat.le_of_ble_eq_true rfl) (by omega) (Nat.zero_le _) (Nat.zero_le _) (c_restOf (d := 8) (by omega) (by omega) (by omega)) ?_
        rintro r8 h9 ⟨e9, e8⟩
        subst e9
        subst e8
        exact r_int (pc := 58) dX10_split_58 rfl rfl (Nat.le_refl _) ⟨by rw [qM_some eg, if_pos ⟨by omega, hcc⟩]; simp only [Int.toNat_natCast], cP.rfl c⟩
      · rw [if_neg hcc]
        refine g_if_neF (pc := 35) (tgt := 42) dX10_split_35 (by decide) (by omega) (by omega) ?_
        refine g_iconst (pc := 38) dX10_split_38 ?_
        refine g_goto (pc := 39) (tgt := 58) dX10_split_39 (by decide) ?_
        exact r_int (pc := 58) dX10_split_58 rfl rfl (Nat.le_refl _) ⟨by rw [qM_some eg, if_neg (fun y => hcc y.2)], cP.rfl c⟩

theorem k_join {N : Nat} {m k r v : Int} {σ : Nat → Option MSt} {h : MH} (hm : i32 m) (hk : i32 k) (hr : i32 r) (hv : i32 v) (c : CMs N h σ) : Ok mX10_join 10 0 0 [vR 0, vI m, vI k, vI r, vI v] N h (fun r9 h2 => r9 = some (vI (qM σ m 0 (fun kd M n T Y P => if (0 ≤ k ∧ k < ((fcs M).length : Int)) ∧ (0 ≤ r ∧ r < n) then 1 else 0))) ∧ ∃ X : Int, (∀ kd M n T Y P, gt σ m = some (kd, M, n, T, Y, P) → (0 ≤ k ∧ k < ((fcs M).length : Int)) ∧ (0 ≤ r ∧ r < n) → (0 ≤ X ∧ X < M) ∧ (pq M k.toNat : Int) ∣ X - v ∧ ((M / pq M k.toNat : Nat) : Int) ∣ X - Y r.toNat) ∧ cP N h h2 (qM σ m σ (fun kd M n T Y P => if (0 ≤ k ∧ k < ((fcs M).length : Int)) ∧ (0 ≤ r ∧ r < n) then va_up σ m.toNat (some (kd, M, n, T, va_up Y r.toNat X, P)) else σ))) := by
  refine Ok.of pfX10_join rfl (Nat.le_of_ble_eq_true rfl) (fun Ls sx => ?_)
  show G mX10_join (10, 0, 0, Ls, sx) 0 [(0, vR 0), (1, vI m), (2, vI k), (3, vI r), (4, vI v)] [] (0, 0, N) h _
  obtain ⟨c1, c2, c3, c4⟩ := id c
  refine g_aload_n (pc := 0) (r := .inl (some 0)) dX10_join_0 rfl ?_
  refine g_iload_n (pc := 1) (x := m) dX10_join_1 rfl ?_
  refine g_callV0 (pc := 2) (as := [vI m]) (b := 0) (st := []) lvX10_39 dX10_join_2 c1 (Nat.le_of_ble_eq_true rfl) (by omega) (Nat.zero_le _) (Nat.zero_le _) (c_millAt (d := 9) hm c) ?_
  rintro r h1 ⟨e9, e8⟩
  subst e9
  rcases e8 with ⟨eg, e8⟩ | ⟨i, b, kd, M, n, T, Y, P, ma, e8⟩ <;> subst e8
  · refine g_astore (pc := 5) (r := .inl none) (lo2 := [(0, vR 0), (1, vI m), (2, vI k), (3, vI r), (4, vI v), (5, vN)]) dX10_join_5 (by decide) rfl ?_
    refine g_aload (pc := 7) (r := .inl none) dX10_join_7 rfl ?_
    refine g_ifnonnullN (pc := 9) dX10_join_9 ?_
    refine g_null (pc := 12) dX10_join_12 ?_
    refine g_goto (pc := 13) (tgt := 22) dX10_join_13 (by decide) ?_
    refine g_astore (pc := 22) (r := .inl none) (lo2 := [(0, vR 0), (1, vI m), (2, vI k), (3, vI r), (4, vI v), (5, vN), (6, vN)]) dX10_join_22 (by decide) rfl ?_
    refine g_aload (pc := 24) (r := .inl none) dX10_join_24 rfl ?_
    refine g_ifnullN (pc := 26) (tgt := 38) dX10_join_26 (by decide) ?_
    refine g_iconst (pc := 38) dX10_join_38 ?_
    exact r_bool (pc := 39) dX10_join_39 rfl rfl (Nat.le_refl _) (Or.inl rfl) ⟨by rw [qM_none eg], ⟨0, fun kd M n T Y P e => absurd e (by rw [eg]; exact fun z => nomatch z), by rw [qM_none eg]; exact cP.rfl c⟩⟩
  · obtain ⟨hi, em, eb, es, eg, cm⟩ := id ma
    obtain ⟨ok, hml, ⟨hY, rY⟩, hpc, hw, hd, hnt, hpi⟩ := cm.out
    obtain ⟨hkd, hM, hM2, n1, hn, hk1, hk3, hT, hYb, hPb⟩ := id ok
    obtain ⟨kn, F, hPX, hF⟩ := id hw
    obtain ⟨wh, h79, -⟩ := id hd
    subst hF
    refine g_astore (pc := 5) (r := .inl (some b)) (lo2 := [(0, vR 0), (1, vI m), (2, vI k), (3, vI r), (4, vI v), (5, vR b)]) dX10_join_5 (by decide) rfl ?_
    refine g_aload (pc := 7) (r := .inl (some b)) dX10_join_7 rfl ?_
    refine g_ifnonnullR (pc := 9) (tgt := 16) dX10_join_9 (by decide) ?_
    refine g_aload (pc := 16) (r := .inl (some b)) dX10_join_16 rfl ?_
    refine g_iload_n (pc := 18) (x := k) dX10_join_18 rfl ?_
    refine g_callV0 (pc := 19) (as := [vI k]) (b := b) (st := []) lvX10_128 dX10_join_19 hml (Nat.le_of_ble_eq_true rfl) (by omega) (Nat.zero_le _) (Nat.zero_le _) (c_partAt (d := 8) hk hM hM2 hml hpc) ?_
    rintro r8 h9 ⟨e9, e8⟩
    subst e9
    rcases e8 with ⟨kn0, e8⟩ | ⟨j, ej, jl, e8⟩ <;> subst e8
    · refine g_astore (pc := 22) (r := .inl none) (lo2 := [(0, vR 0), (1, vI m), (2, vI k), (3, vI r), (4, vI v), (5, vR b), (6, vN)]) dX10_join_22 (by decide) rfl ?_
      refine g_aload (pc := 24) (r := .inl none) dX10_join_24 rfl ?_
      refine g_ifnullN (pc := 26) (tgt := 38) dX10_join_26 (by decide) ?_
      refine g_iconst (pc := 38) dX10_join_38 ?_
      exact r_bool (pc := 39) dX10_join_39 rfl rfl (Nat.le_refl _) (Or.inl rfl) ⟨by rw [qM_some eg, if_neg (fun y => kn0 y.1)], ⟨0, fun kd2 M2 n2 T2 Y2 P2 e z => by rw [eg] at e; cases e; exact absurd z (fun y => kn0 y.1), by rw [qM_some eg, if_neg (fun y => kn0 y.1)]; exact cP.rfl c⟩⟩
    · subst ej
      obtain ⟨q1, q2, q3, q4, q5, q6⟩ := pq_ok hM hM2 jl
      have hlen := (fcs_ok hM hM2).1
      have hpj : Hd (0, 0, N) h9 (b + 8 + j) (eO 4 [vI ((pe M j).1 : Int), vI (pq M j : Int), vI ((pe M j).2 : Int)]) := hpc.2 j (by omega)
      refine g_astore (pc := 22) (r := .inl (some (b + 8 + j))) (lo2 := [(0, vR 0), (1, vI m), (2, vI (j : Int)), (3, vI r), (4, vI v), (5, vR b), (6, vR (b + 8 + j))]) dX10_join_22 (by decide) rfl ?_
      refine g_aload (pc := 24) (r := .inl (some (b + 8 + j))) dX10_join_24 rfl ?_
      refine g_ifnullR (pc := 26) dX10_join_26 ?_
      refine g_aload (pc := 29) (r := .inl (some b)) dX10_join_29 rfl ?_
      refine g_iload_n (pc := 31) (x := r) dX10_join_31 rfl ?_
      refine g_callV0 (pc := 32) (as := [vI r]) (b := b) (st := []) lvX10_47 dX10_join_32 hml (Nat.le_of_ble_eq_true rfl) (by omega) (Nat.zero_le _) (Nat.zero_le _) (c_hasRest (d := 9) hr hn hml) ?_
      rintro r8 h9 ⟨e9, e8⟩
      subst e9
      subst e8
      by_cases hcc : 0 ≤ r ∧ r < n
      · rw [if_pos hcc]
        refine g_if_neT (pc := 35) (tgt := 40) dX10_join_35 (by decide) (by omega) (by omega) ?_
        obtain ⟨rr, er⟩ : ∃ rr : Nat, r = (rr : Int) := ⟨r.toNat, by omega⟩
        subst er
        have hyr := hYb rr (by omega)
        refine g_aload (pc := 40) (r := .inl (some b)) dX10_join_40 rfl ?_
        refine g_getf (pc := 42) (v := vR (b + 1)) flX10_55 dX10_join_42 hml rfl ?_
        refine g_iload_n (pc := 45) (x := (rr : Int)) dX10_join_45 rfl ?_
        refine g_aload (pc := 46) (r := .inl (some (b + 8 + j))) dX10_join_46 rfl ?_
        refine g_aload (pc := 48) (r := .inl (some b)) dX10_join_48 rfl ?_
        refine g_getf (pc := 50) (v := vR (b + 1)) flX10_55 dX10_join_50 hml rfl ?_
        refine g_iload_n (pc := 53) (x := (rr : Int)) dX10_join_53 rfl ?_
        refine g_ialdN (pc := 54) (j := rr) dX10_join_54 hY (by omega) (by omega) (by omega) ?_
        refine g_iload (pc := 55) (x := v) dX10_join_55 rfl ?_
        refine g_aload (pc := 57) (r := .inl (some b)) dX10_join_57 rfl ?_
        refine g_getf (pc := 59) (v := vI (M : Int)) flX10_58 dX10_join_59 hml rfl ?_
        refine g_callV0 (pc := 62) (as := [vI (Y rr), vI v, vI (M : Int)]) (b := b + 8 + j) (st := [vI (rr : Int), vR (b + 1)]) lvX10_143 dX10_join_62 hpj (Nat.le_of_ble_eq_true rfl) (by omega) (Nat.zero_le _) (Nat.zero_le _) (c_joined (d := 6) (t := pq M j) (by omega) hM2 (by omega) q3 q4 hv hyr hpj) ?_
        rintro r8 h9b ⟨e9, X, e8, x0, x1, x2, x3⟩
        subst e9
        subst e8
        refine g_iastN (pc := 65) (j := rr) dX10_join_65 hY (by omega) (by omega) (by omega) ?_
        have hY_1 := hY.self (e := eA 0 4 (va_up Y rr X))
        refine g_iconst (pc := 66) dX10_join_66 ?_
        exact r_bool (pc := 67) dX10_join_67 rfl rfl (Nat.le_refl _) (Or.inr rfl) ⟨by rw [qM_some eg, if_pos ⟨by omega, hcc⟩], ⟨X, fun kd2 M2 n2 T2 Y2 P2 e z => by rw [eg] at e; cases e; simp only [Int.toNat_natCast]; exact ⟨⟨x0, x1⟩, x2, x3⟩, by rw [qM_some eg, if_pos ⟨by omega, hcc⟩, em]; simp only [Int.toNat_natCast]; exact cP.set c hi eb (fun a z => va_up_ne _ _ (by omega)) (CM.mk ⟨⟨hkd, hM, hM2, n1, hn, hk1, hk3, hT, up_bd hYb ⟨x0, x1⟩, hPb⟩, hml.keep (va_up_ne _ _ (by omega)), ⟨hY.self, rng_up rY (by omega)⟩, hpc.keep (fun a z1 z2 => va_up_ne _ _ (by omega)), hw.keep (fun a z1 z2 => va_up_ne _ _ (by omega)), hd.keep (fun a z1 z2 => va_up_ne _ _ (by omega)), hnt.keep (fun a z1 z2 => va_up_ne _ _ (by omega)), hpi.keep (va_up_ne _ _ (by omega)) (va_up_ne _ _ (by omega))⟩)⟩⟩
      · rw [if_neg hcc]
        refine g_if_neF (pc := 35) (tgt := 40) dX10_join_35 (by decide) (by omega) (by omega) ?_
        refine g_iconst (pc := 38) dX10_join_38 ?_
        exact r_bool (pc := 39) dX10_join_39 rfl rfl (Nat.le_refl _) (Or.inl rfl) ⟨by rw [qM_some eg, if_neg (fun y => hcc y.2)], ⟨0, fun kd2 M2 n2 T2 Y2 P2 e z => by rw [eg] at e; cases e; exact absurd z (fun y => hcc y.2), by rw [qM_some eg, if_neg (fun y => hcc y.2)]; exact cP.rfl c⟩⟩
