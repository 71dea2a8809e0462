/-! ===== the reference: goes, takes, isBack, plateIs, beginsBase ===== -/
theorem goes_l1 {κ : KX} {ρ : MR} {h : MH} {Q : Option MV → MR → MH → Prop} {x : Nat} {th wd pm fm mu um pr ts : Int} {n q r : Nat} {A Y : Nat → Int} (hx : Hd ρ h x (mdl x th wd pm fm mu um pr ts)) (hA : Hd ρ h (x + 11) (eA 0 25 A)) (hY : Hd ρ h (x + 13) (eA 0 4 Y)) (hn : n ≤ 4) (hr : r < n) {x3 : Int} (h3 : x3 = (r : Int)) : ∀ (k j : Nat) (xj e : Int), j + k = n → xj = (j : Int) → (∀ e2 x9, e2 = e + ss (fun i => A (5 * r + i) * Y i) j k → G mX11_goes κ 58 [(0, vR x), (1, vI (n : Int)), (2, vI (q : Int)), (3, vI x3), (4, vI e2), (5, vI x9)] [] ρ h Q) → G mX11_goes κ 22 [(0, vR x), (1, vI (n : Int)), (2, vI (q : Int)), (3, vI x3), (4, vI e), (5, vI xj)] [] ρ h Q := by
  intro k
  induction k with
  | zero =>
    intro j xj e hj ex hk
    refine g_iload (pc := 22) (x := xj) dX11_goes_22 rfl ?_
    refine g_iload_n (pc := 24) (x := (n : Int)) dX11_goes_24 rfl ?_
    refine g_icmp_geT (pc := 25) (tgt := 58) dX11_goes_25 (by decide) (by omega) (by omega) (by omega) ?_
    exact hk _ _ (by simp [ss])
  | succ k ih =>
    intro j xj e hj ex hk
    refine g_iload (pc := 22) (x := xj) dX11_goes_22 rfl ?_
    refine g_iload_n (pc := 24) (x := (n : Int)) dX11_goes_24 rfl ?_
    refine g_icmp_geF (pc := 25) (tgt := 58) dX11_goes_25 (by decide) (by omega) (by omega) (by omega) ?_
    refine g_iload (pc := 28) (x := e) dX11_goes_28 rfl ?_
    refine g_aload_n (pc := 30) (r := .inl (some x)) dX11_goes_30 rfl ?_
    refine g_getf (pc := 31) (v := vR (x + 11)) flX11_42 dX11_goes_31 hx rfl ?_
    refine g_iconst (pc := 34) dX11_goes_34 ?_
    refine g_iload_n (pc := 35) (x := x3) dX11_goes_35 rfl ?_
    refine g_imul (pc := 36) dX11_goes_36 ?_
    refine g_iload (pc := 37) (x := xj) dX11_goes_37 rfl ?_
    refine g_iadd (pc := 39) dX11_goes_39 ?_
    refine g_ialdN (pc := 40) (j := 5 * r + j) dX11_goes_40 hA (by omega) (by omega) (by omega) ?_
    refine g_aload_n (pc := 41) (r := .inl (some x)) dX11_goes_41 rfl ?_
    refine g_getf (pc := 42) (v := vR (x + 13)) flX11_48 dX11_goes_42 hx rfl ?_
    refine g_iload (pc := 45) (x := xj) dX11_goes_45 rfl ?_
    refine g_ialdN (pc := 47) (j := j) dX11_goes_47 hY (by omega) (by omega) (by omega) ?_
    refine g_imul (pc := 48) dX11_goes_48 ?_
    refine g_iadd (pc := 49) dX11_goes_49 ?_
    refine g_istore (pc := 50) (lo2 := [(0, vR x), (1, vI (n : Int)), (2, vI (q : Int)), (3, vI x3), (4, vI (e + ((A (5 * r + j)) * (Y j)))), (5, vI xj)]) dX11_goes_50 (by decide) rfl ?_
    refine g_iinc (pc := 52) (x := xj) (lo2 := [(0, vR x), (1, vI (n : Int)), (2, vI (q : Int)), (3, vI x3), (4, vI (e + ((A (5 * r + j)) * (Y j)))), (5, vI (xj + 1))]) dX11_goes_52 rfl (by decide) rfl ?_
    refine g_goto (pc := 55) (tgt := 22) dX11_goes_55 (by decide) ?_
    refine ih (j + 1) (xj + 1) _ (by omega) (by omega) (fun e2 x9 h1 => hk e2 x9 ?_)
    rw [h1, show ss (fun i => A (5 * r + i) * Y i) j (k + 1) = A (5 * r + j) * Y j + ss (fun i => A (5 * r + i) * Y i) (j + 1) k from rfl]
    omega

/-- a table that has its MORE in column n, by a row -/
def goF (n q : Nat) (A Y : Nat → Int) (r : Nat) : Int := (A (5 * r + n) + ss (fun i => A (5 * r + i) * Y i) 0 n) % q
theorem goes_l2 {κ : KX} {N : Nat} {x : Nat} {th wd pm fm mu um pr ts : Int} {n q : Nat} {A Y : Nat → Int} (hn : n ≤ 4) (hq : 0 < q) (hq2 : q ≤ 500) (rA : rng A) (rY : rng Y) {P : Option MV → MH → Prop} : ∀ (k r : Nat) (x3 : Int) (h : MH) (T : Nat → Int), r + k = n → x3 = (r : Int) → Hd (0, 0, N) h x (mdl x th wd pm fm mu um pr ts) → Hd (0, 0, N) h (x + 11) (eA 0 25 A) → Hd (0, 0, N) h (x + 13) (eA 0 4 Y) → Hd (0, 0, N) h (x + 14) (eA 0 4 T) → (∀ h2 T2, Hd (0, 0, N) h2 (x + 14) (eA 0 4 T2) → (∀ b, b ≠ x + 14 → h2 b = h b) → (∀ j, r ≤ j → j < n → T2 j = goF n q A Y j) → (∀ j, (j < r ∨ n ≤ j) → T2 j = T j) → P none h2) → G mX11_goes κ 2 [(0, vR x), (1, vI (n : Int)), (2, vI (q : Int)), (3, vI x3)] [] (0, 0, N) h (Pq mX11_goes 0 0 P) := by
  intro k
  induction k with
  | zero =>
    intro r x3 h T hk ex hx hA hY hT hP
    refine g_iload_n (pc := 2) (x := x3) dX11_goes_2 rfl ?_
    refine g_iload_n (pc := 3) (x := (n : Int)) dX11_goes_3 rfl ?_
    refine g_icmp_geT (pc := 4) (tgt := 74) dX11_goes_4 (by decide) (by omega) (by omega) (by omega) ?_
    exact r_void (pc := 74) dX11_goes_74 rfl rfl (Nat.le_refl _) (hP h T hT (fun _ _ => rfl) (fun j _ _ => by omega) (fun _ _ => rfl))
  | succ k ih =>
    intro r x3 h T hk ex hx hA hY hT hP
    refine g_iload_n (pc := 2) (x := x3) dX11_goes_2 rfl ?_
    refine g_iload_n (pc := 3) (x := (n : Int)) dX11_goes_3 rfl ?_
    refine g_icmp_geF (pc := 4) (tgt := 74) dX11_goes_4 (by decide) (by omega) (by omega) (by omega) ?_
    refine g_aload_n (pc := 7) (r := .inl (some x)) dX11_goes_7 rfl ?_
    refine g_getf (pc := 8) (v := vR (x + 11)) flX11_42 dX11_goes_8 hx rfl ?_
    refine g_iconst (pc := 11) dX11_goes_11 ?_
    refine g_iload_n (pc := 12) (x := x3) dX11_goes_12 rfl ?_
    refine g_imul (pc := 13) dX11_goes_13 ?_
    refine g_iload_n (pc := 14) (x := (n : Int)) dX11_goes_14 rfl ?_
    refine g_iadd (pc := 15) dX11_goes_15 ?_
    refine g_ialdN (pc := 16) (j := 5 * r + n) dX11_goes_16 hA (by omega) (by omega) (by omega) ?_
    refine g_istore (pc := 17) (lo2 := [(0, vR x), (1, vI (n : Int)), (2, vI (q : Int)), (3, vI x3), (4, vI (A (5 * r + n)))]) dX11_goes_17 (by decide) rfl ?_
    refine g_iconst (pc := 19) dX11_goes_19 ?_
    refine g_istore (pc := 20) (lo2 := [(0, vR x), (1, vI (n : Int)), (2, vI (q : Int)), (3, vI x3), (4, vI (A (5 * r + n))), (5, vI 0)]) dX11_goes_20 (by decide) rfl ?_
    refine goes_l1 (r := r) hx hA hY hn (by omega) ex n 0 _ _ (by omega) rfl (fun e2 x9 h1 => ?_)
    have hb := ss_bd (f := (fun i => A (5 * r + i) * Y i)) (B := 249001) n 0 (fun i _ _ => mul_rng (rA _) (rY _))
    have hb1 := rA (5 * r + n)
    have e9 : e2.tmod (q : Int) = goF n q A Y r := by
      unfold goF
      rw [← h1]
      exact Int.tmod_eq_emod_of_nonneg (by omega)
    refine g_aload_n (pc := 58) (r := .inl (some x)) dX11_goes_58 rfl ?_
    refine g_getf (pc := 59) (v := vR (x + 14)) flX11_51 dX11_goes_59 hx rfl ?_
    refine g_iload_n (pc := 62) (x := x3) dX11_goes_62 rfl ?_
    refine g_iload (pc := 63) (x := e2) dX11_goes_63 rfl ?_
    refine g_iload_n (pc := 65) (x := (q : Int)) dX11_goes_65 rfl ?_
    refine g_irem (pc := 66) dX11_goes_66 (by omega) (by omega) (by omega) ?_
    refine g_iastN (pc := 67) (j := r) dX11_goes_67 hT (by omega) (by omega) (by omega) ?_
    have hx_1 := hx.ne (e := eA 0 4 (va_up T r (e2.tmod (q : Int)))) (a := x + 14) (by omega)
    have hA_1 := hA.ne (e := eA 0 4 (va_up T r (e2.tmod (q : Int)))) (a := x + 14) (by omega)
    have hY_1 := hY.ne (e := eA 0 4 (va_up T r (e2.tmod (q : Int)))) (a := x + 14) (by omega)
    have hT_1 := hT.self (e := eA 0 4 (va_up T r (e2.tmod (q : Int))))
    refine g_iinc (pc := 68) (x := x3) (lo2 := [(0, vR x), (1, vI (n : Int)), (2, vI (q : Int)), (3, vI (x3 + 1)), (4, vI e2), (5, vI x9)]) dX11_goes_68 rfl (by decide) rfl ?_
    refine g_goto (pc := 71) (tgt := 2) dX11_goes_71 (by decide) ?_
    refine g_pick [0, 1, 2, 3] (lo2 := [(0, vR x), (1, vI (n : Int)), (2, vI (q : Int)), (3, vI (x3 + 1))]) rfl ?_
    refine ih (r + 1) (x3 + 1) _ _ (by omega) (by omega) hx_1 hA_1 hY_1 hT_1 (fun h2 T2 q1 q2 q3 q4 => hP h2 T2 q1 (fun b hb => (q2 b hb).trans (va_up_ne _ _ hb)) (fun j a1 a2 => ?_) (fun j a1 => ?_))
    · by_cases hj : j = r
      · subst hj
        rw [q4 j (by omega), va_up_self, e9]
      · exact q3 j (by omega) a2
    · rw [q4 j (by omega), va_up_ne _ _ (by omega)]

theorem c_goes {N : Nat} {x : Nat} {th wd pm fm mu um pr ts : Int} {n q : Nat} {A Y : Nat → Int} (hn : n ≤ 4) (hq : 0 < q) (hq2 : q ≤ 500) (rA : rng A) (rY : rng Y) {d : Nat} {T : Nat → Int} {h : MH} (hx : Hd (0, 0, N) h x (mdl x th wd pm fm mu um pr ts)) (hA : Hd (0, 0, N) h (x + 11) (eA 0 25 A)) (hY : Hd (0, 0, N) h (x + 13) (eA 0 4 Y)) (hT : Hd (0, 0, N) h (x + 14) (eA 0 4 T)) : Ok mX11_goes d 0 0 [vR x, vI (n : Int), vI (q : Int)] N h (fun r h2 => r = none ∧ (∀ b, b ≠ x + 14 → h2 b = h b) ∧ ∃ T2, h2 (x + 14) = eA 0 4 T2 ∧ (∀ j, j < n → T2 j = goF n q A Y j) ∧ ∀ j, n ≤ j → T2 j = T j) := by
  refine Ok.of pfX11_goes rfl (Nat.le_of_ble_eq_true rfl) (fun Ls sx => ?_)
  show G mX11_goes (d, 0, 0, Ls, sx) 0 [(0, vR x), (1, vI (n : Int)), (2, vI (q : Int))] [] (0, 0, N) h _
  refine g_iconst (pc := 0) dX11_goes_0 ?_
  refine g_istore_n (pc := 1) (lo2 := [(0, vR x), (1, vI (n : Int)), (2, vI (q : Int)), (3, vI 0)]) dX11_goes_1 (by decide) rfl ?_
  exact goes_l2 hn hq hq2 rA rY n 0 _ h T (by omega) rfl hx hA hY hT (fun h2 T2 q1 q2 q3 q4 => ⟨rfl, q2, T2, q1.2, fun j hj => q3 j (Nat.zero_le _) hj, fun j hj => q4 j (Or.inr hj)⟩)

theorem takes_l {κ : KX} {N : Nat} {x : Nat} {th wd pm fm mu um pr ts : Int} {n : Nat} {T : Nat → Int} (hn : n ≤ 4) {P : Option MV → MH → Prop} : ∀ (k j : Nat) (xj : Int) (h : MH) (Y : Nat → Int), j + k = n → xj = (j : Int) → Hd (0, 0, N) h x (mdl x th wd pm fm mu um pr ts) → Hd (0, 0, N) h (x + 13) (eA 0 4 Y) → Hd (0, 0, N) h (x + 14) (eA 0 4 T) → (∀ h2 Y2, Hd (0, 0, N) h2 (x + 13) (eA 0 4 Y2) → (∀ b, b ≠ x + 13 → h2 b = h b) → (∀ i, j ≤ i → i < n → Y2 i = T i) → (∀ i, (i < j ∨ n ≤ i) → Y2 i = Y i) → P none h2) → G mX11_takes κ 2 [(0, vR x), (1, vI (n : Int)), (2, vI xj)] [] (0, 0, N) h (Pq mX11_takes 0 0 P) := by
  intro k
  induction k with
  | zero =>
    intro j xj h Y hk ex hx hY hT hP
    refine g_iload_n (pc := 2) (x := xj) dX11_takes_2 rfl ?_
    refine g_iload_n (pc := 3) (x := (n : Int)) dX11_takes_3 rfl ?_
    refine g_icmp_geT (pc := 4) (tgt := 25) dX11_takes_4 (by decide) (by omega) (by omega) (by omega) ?_
    exact r_void (pc := 25) dX11_takes_25 rfl rfl (Nat.le_refl _) (hP h Y hY (fun _ _ => rfl) (fun i _ _ => by omega) (fun _ _ => rfl))
  | succ k ih =>
    intro j xj h Y hk ex hx hY hT hP
    refine g_iload_n (pc := 2) (x := xj) dX11_takes_2 rfl ?_
    refine g_iload_n (pc := 3) (x := (n : Int)) dX11_takes_3 rfl ?_
    refine g_icmp_geF (pc := 4) (tgt := 25) dX11_takes_4 (by decide) (by omega) (by omega) (by omega) ?_
    refine g_aload_n (pc := 7) (r := .inl (some x)) dX11_takes_7 rfl ?_
    refine g_getf (pc := 8) (v := vR (x + 13)) flX11_48 dX11_takes_8 hx rfl ?_
    refine g_iload_n (pc := 11) (x := xj) dX11_takes_11 rfl ?_
    refine g_aload_n (pc := 12) (r := .inl (some x)) dX11_takes_12 rfl ?_
    refine g_getf (pc := 13) (v := vR (x + 14)) flX11_51 dX11_takes_13 hx rfl ?_
    refine g_iload_n (pc := 16) (x := xj) dX11_takes_16 rfl ?_
    refine g_ialdN (pc := 17) (j := j) dX11_takes_17 hT (by omega) (by omega) (by omega) ?_
    refine g_iastN (pc := 18) (j := j) dX11_takes_18 hY (by omega) (by omega) (by omega) ?_
    have hx_1 := hx.ne (e := eA 0 4 (va_up Y j (T j))) (a := x + 13) (by omega)
    have hY_1 := hY.self (e := eA 0 4 (va_up Y j (T j)))
    have hT_1 := hT.ne (e := eA 0 4 (va_up Y j (T j))) (a := x + 13) (by omega)
    refine g_iinc (pc := 19) (x := xj) (lo2 := [(0, vR x), (1, vI (n : Int)), (2, vI (xj + 1))]) dX11_takes_19 rfl (by decide) rfl ?_
    refine g_goto (pc := 22) (tgt := 2) dX11_takes_22 (by decide) ?_
    refine ih (j + 1) (xj + 1) _ _ (by omega) (by omega) hx_1 hY_1 hT_1 (fun h2 Y2 q1 q2 q3 q4 => hP h2 Y2 q1 (fun b hb => (q2 b hb).trans (va_up_ne _ _ hb)) (fun i a1 a2 => ?_) (fun i a1 => ?_))
    · by_cases hj : i = j
      · subst hj
        rw [q4 _ (by omega), va_up_self]
      · exact q3 i (by omega) a2
    · rw [q4 i (by omega), va_up_ne _ _ (by omega)]

theorem c_takes {N : Nat} {x : Nat} {th wd pm fm mu um pr ts : Int} {n : Nat} {T : Nat → Int} (hn : n ≤ 4) {d : Nat} {Y : Nat → Int} {h : MH} (hx : Hd (0, 0, N) h x (mdl x th wd pm fm mu um pr ts)) (hY : Hd (0, 0, N) h (x + 13) (eA 0 4 Y)) (hT : Hd (0, 0, N) h (x + 14) (eA 0 4 T)) : Ok mX11_takes d 0 0 [vR x, vI (n : Int)] N h (fun r h2 => r = none ∧ (∀ b, b ≠ x + 13 → h2 b = h b) ∧ ∃ Y2, h2 (x + 13) = eA 0 4 Y2 ∧ (∀ j, j < n → Y2 j = T j) ∧ ∀ j, n ≤ j → Y2 j = Y j) := by
  refine Ok.of pfX11_takes rfl (Nat.le_of_ble_eq_true rfl) (fun Ls sx => ?_)
  show G mX11_takes (d, 0, 0, Ls, sx) 0 [(0, vR x), (1, vI (n : Int))] [] (0, 0, N) h _
  refine g_iconst (pc := 0) dX11_takes_0 ?_
  refine g_istore_n (pc := 1) (lo2 := [(0, vR x), (1, vI (n : Int)), (2, vI 0)]) dX11_takes_1 (by decide) rfl ?_
  exact takes_l hn n 0 _ h Y (by omega) rfl hx hY hT (fun h2 T2 q1 q2 q3 q4 => ⟨rfl, q2, T2, q1.2, fun j hj => q3 j (Nat.zero_le _) hj, fun j hj => q4 j (Or.inr hj)⟩)

theorem isBack_l {κ : KX} {N : Nat} {x : Nat} {th wd pm fm mu um pr ts : Int} {n : Nat} {T : Nat → Int} {Y : Nat → Int} {h : MH} (hn : n ≤ 4) (rY : rng Y) (rT : rng T) (hx : Hd (0, 0, N) h x (mdl x th wd pm fm mu um pr ts)) (hY : Hd (0, 0, N) h (x + 13) (eA 0 4 Y)) (hT : Hd (0, 0, N) h (x + 14) (eA 0 4 T)) {P : Option MV → MH → Prop} (p1 : (∀ i, i < n → T i = Y i) → P (some (vI 1)) h) (p0 : (¬ ∀ i, i < n → T i = Y i) → P (some (vI 0)) h) : ∀ (k j : Nat) (xj : Int), j + k = n → xj = (j : Int) → (∀ i, i < j → T i = Y i) → G mX11_isBack κ 2 [(0, vR x), (1, vI (n : Int)), (2, vI xj)] [] (0, 0, N) h (Pq mX11_isBack 0 0 P) := by
  intro k
  induction k with
  | zero =>
    intro j xj hk ex ha
    refine g_iload_n (pc := 2) (x := xj) dX11_isBack_2 rfl ?_
    refine g_iload_n (pc := 3) (x := (n : Int)) dX11_isBack_3 rfl ?_
    refine g_icmp_geT (pc := 4) (tgt := 30) dX11_isBack_4 (by decide) (by omega) (by omega) (by omega) ?_
    refine g_iconst (pc := 30) dX11_isBack_30 ?_
    exact r_bool (pc := 31) dX11_isBack_31 rfl rfl (Nat.le_refl _) (Or.inr rfl) (p1 (fun i hi => ha i (by omega)))
  | succ k ih =>
    intro j xj hk ex ha
    have r1 := rY j
    have r2 := rT j
    refine g_iload_n (pc := 2) (x := xj) dX11_isBack_2 rfl ?_
    refine g_iload_n (pc := 3) (x := (n : Int)) dX11_isBack_3 rfl ?_
    refine g_icmp_geF (pc := 4) (tgt := 30) dX11_isBack_4 (by decide) (by omega) (by omega) (by omega) ?_
    refine g_aload_n (pc := 7) (r := .inl (some x)) dX11_isBack_7 rfl ?_
    refine g_getf (pc := 8) (v := vR (x + 14)) flX11_51 dX11_isBack_8 hx rfl ?_
    refine g_iload_n (pc := 11) (x := xj) dX11_isBack_11 rfl ?_
    refine g_ialdN (pc := 12) (j := j) dX11_isBack_12 hT (by omega) (by omega) (by omega) ?_
    refine g_aload_n (pc := 13) (r := .inl (some x)) dX11_isBack_13 rfl ?_
    refine g_getf (pc := 14) (v := vR (x + 13)) flX11_48 dX11_isBack_14 hx rfl ?_
    refine g_iload_n (pc := 17) (x := xj) dX11_isBack_17 rfl ?_
    refine g_ialdN (pc := 18) (j := j) dX11_isBack_18 hY (by omega) (by omega) (by omega) ?_
    refine g_icmp_eq (pc := 19) (tgt := 24) dX11_isBack_19 (by decide) (by omega) (by omega) (fun hc => ?_) (fun hc => ?_)
    · refine g_iinc (pc := 24) (x := xj) (lo2 := [(0, vR x), (1, vI (n : Int)), (2, vI (xj + 1))]) dX11_isBack_24 rfl (by decide) rfl ?_
      refine g_goto (pc := 27) (tgt := 2) dX11_isBack_27 (by decide) ?_
      exact ih (j + 1) (xj + 1) (by omega) (by omega) (lt_s ha hc)
    · refine g_iconst (pc := 22) dX11_isBack_22 ?_
      exact r_bool (pc := 23) dX11_isBack_23 rfl rfl (Nat.le_refl _) (Or.inl rfl) (p0 (fun q => hc (q j (by omega))))

theorem c_isBack {N : Nat} {x : Nat} {th wd pm fm mu um pr ts : Int} {n : Nat} {T : Nat → Int} {Y : Nat → Int} {h : MH} {d : Nat} (hn : n ≤ 4) (rY : rng Y) (rT : rng T) (hx : Hd (0, 0, N) h x (mdl x th wd pm fm mu um pr ts)) (hY : Hd (0, 0, N) h (x + 13) (eA 0 4 Y)) (hT : Hd (0, 0, N) h (x + 14) (eA 0 4 T)) : Ok mX11_isBack d 0 0 [vR x, vI (n : Int)] N h (fun r h2 => h2 = h ∧ ((r = some (vI 1) ∧ ∀ i, i < n → T i = Y i) ∨ (r = some (vI 0) ∧ ¬ ∀ i, i < n → T i = Y i))) := by
  refine Ok.of pfX11_isBack rfl (Nat.le_of_ble_eq_true rfl) (fun Ls sx => ?_)
  show G mX11_isBack (d, 0, 0, Ls, sx) 0 [(0, vR x), (1, vI (n : Int))] [] (0, 0, N) h _
  refine g_iconst (pc := 0) dX11_isBack_0 ?_
  refine g_istore_n (pc := 1) (lo2 := [(0, vR x), (1, vI (n : Int)), (2, vI 0)]) dX11_isBack_1 (by decide) rfl ?_
  exact isBack_l hn rY rT hx hY hT (fun q => ⟨rfl, Or.inl ⟨rfl, q⟩⟩) (fun q => ⟨rfl, Or.inr ⟨rfl, q⟩⟩) n 0 _ (by omega) rfl (fun i hi => by omega)
