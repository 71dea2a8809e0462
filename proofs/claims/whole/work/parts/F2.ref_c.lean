/-! ===== the reference: turns, rounds ===== -/
theorem RA.leap {N : Nat} {h h2 : MH} {x i kd M n t : Nat} {σ : Nat → Option MSt} {th wd pm fm mu um pr ts : Int} {Th Kd Ms Sz Tb Mo Pl Pi T Y P9 : Nat → Int} {P : Nat → Nat → Int} (ra : RA N h x σ Th Kd Ms Sz Tb Mo Pl Pi) (sc : SC3 N h x) (hi : i < 6) (es : σ i = some (kd, M, n, T, Y, P)) (hM : 2 ≤ M) (hn : n ≤ 4) (eTb : ∀ r c, r < n → c < n → Tb (16 * i + 4 * r + c) = T (5 * r + c)) (eMo : ∀ r, r < n → Mo (4 * i + r) = T (5 * r + 4)) (ePl : ∀ r, r < n → Pl (4 * i + r) = Y r) (hYb : ∀ r, r < n → 0 ≤ Y r ∧ Y r < M) (k3 : ∀ b, b ≠ x → b ≠ x + 7 → b ≠ x + 10 → b ≠ x + 11 → b ≠ x + 12 → b ≠ x + 13 → b ≠ x + 14 → h2 b = h b) (o1 : Hd (0, 0, N) h2 x (mdl x th wd pm fm mu um pr ts)) (z10 : Sc N h2 (x + 10) 25) (z11 : Sc N h2 (x + 11) 25) (z12 : Sc N h2 (x + 12) 25) (z13 : Sc N h2 (x + 13) 4) (z14 : Sc N h2 (x + 14) 4) (o7 : h2 (x + 7) = eA 0 24 P9) (rP3 : rng P9) (e9 : ∀ a, a < n → P9 (4 * i + a) = goF n M (mp (n + 1) M (baF n M i Tb Mo) t) (fun j => Pl (4 * i + j) % (M : Int)) a) (f9 : ∀ a, (a < 4 * i ∨ 4 * i + n ≤ a) → P9 a = Pl a) : RMs N h2 x (va_up σ i (some (kd, M, n, T, lpY n M T Y t, P))) pr ts := by
  obtain ⟨s9, ⟨s10, s11, s12, s13, s14, ⟨p15, s15⟩, ⟨p16, s16⟩, ⟨p17, s17⟩, ⟨p18, s18⟩⟩, s2, s22, s23, s24, s25⟩ := id sc
  refine RMs.of ⟨_, _, _, _, _, _, o1⟩ (sc.scr ⟨z10, z11, z12, z13, z14, ⟨_, s15.keep (k3 _ (by omega) (by omega) (by omega) (by omega) (by omega) (by omega) (by omega))⟩, ⟨_, s16.keep (k3 _ (by omega) (by omega) (by omega) (by omega) (by omega) (by omega) (by omega))⟩, ⟨_, s17.keep (k3 _ (by omega) (by omega) (by omega) (by omega) (by omega) (by omega) (by omega))⟩, ⟨_, s18.keep (k3 _ (by omega) (by omega) (by omega) (by omega) (by omega) (by omega) (by omega))⟩⟩ (fun a z1 z2 z3 => k3 a (by omega) (by omega) (by omega) (by omega) (by omega) (by omega) (by omega))) (ra.plate hi es o7 (fun a z1 z2 z3 => k3 a (by omega) (by omega) (by omega) (by omega) (by omega) (by omega) (by omega)) (lpY_bd hM) (fun r hr => ?_) (fun j z => f9 j (by omega)) rP3)
  rw [e9 r hr, ba_au hn eTb eMo, goF_congr (plate_mod ePl hYb)]
  unfold lpY
  rw [if_pos hr]

theorem r_leap {N x : Nat} {pr ts : Int} {m t : Int} {σ : Nat → Option MSt} {h : MH} (hm : i32 m) (ht : i64 t) (rs0 : RMs N h x σ pr ts) : Ok mX11_leap 10 0 0 [vR x, vI m, vJ t] N h (fun r9 h2 => r9 = some (vI (qM σ m 0 (fun kd M n T Y P => if 0 ≤ t then 1 else 0))) ∧ rP N h h2 x (qM σ m σ (fun kd M n T Y P => if 0 ≤ t then va_up σ m.toNat (some (kd, M, n, T, lpY n M T Y t.toNat, P)) else σ)) pr ts) := by
  refine Ok.of pfX11_leap rfl (Nat.le_of_ble_eq_true rfl) (fun Ls sx => ?_)
  show G mX11_leap (10, 0, 0, Ls, sx) 0 [(0, vR x), (1, vI m), (2, vJ t)] [] (0, 0, N) h _
  obtain ⟨⟨th, wd, pm, fm, mu, um, hx0⟩, sc0, Th, Kd, Ms, Sz, Tb, Mo, Pl, Pi, ra0⟩ := id rs0
  replace ra0 : RA N h x σ Th Kd Ms Sz Tb Mo Pl Pi := ra0
  refine g_aload_n (pc := 0) (r := .inl (some x)) dX11_leap_0 rfl ?_
  refine g_iconst (pc := 1) dX11_leap_1 ?_
  refine g_putf (pc := 2) fpX11_104 dX11_leap_2 hx0 (okv_int _) (Nat.le_of_ble_eq_true rfl) ?_
  have hx_1 := hx0.self (e := mdl x 0 wd pm fm mu um pr ts)
  show G mX11_leap _ 5 [(0, vR x), (1, vI m), (2, vJ t)] [] _ (va_up h x (mdl x 0 wd pm fm mu um pr ts)) _
  obtain ⟨g, eg0⟩ : ∃ g, g = va_up h x (mdl x 0 wd pm fm mu um pr ts) := ⟨_, rfl⟩
  rw [← eg0] at hx_1 ⊢
  have hx := hx_1
  have kg : ∀ a, a ≠ x → g a = h a := fun a z => by rw [eg0, va_up_ne _ _ z]
  have ra := ra0.keep (h2 := g) (fun a z1 z2 => kg a (by omega))
  have sc := sc0.keep (h2 := g) (fun a z1 z2 => kg a (by omega))
  have mo : MO N g x pr ts := ⟨_, _, _, _, _, _, hx⟩
  have rs : RMs N g x σ pr ts := RMs.of mo sc ra
  have rp : rP N h g x σ pr ts := ⟨rs, fun a z => kg a (by omega)⟩
  refine g_aload_n (pc := 5) (r := .inl (some x)) dX11_leap_5 rfl ?_
  refine g_iload_n (pc := 6) (x := m) dX11_leap_6 rfl ?_
  refine g_callV0 (pc := 7) (as := [vI m]) (b := x) (st := []) lvX11_108 dX11_leap_7 hx (Nat.le_of_ble_eq_true rfl) (by omega) (Nat.zero_le _) (Nat.zero_le _) (c_isM (d := 9) hm hx ra) ?_
  rintro r8 h9 ⟨e9, e8⟩
  subst e9
  subst e8
  rcases eg : gt σ m with _ | ⟨kd, M, n, T, Y, P⟩
  · rw [qM_none eg]
    refine g_if_eqT (pc := 10) (tgt := 19) dX11_leap_10 (by decide) (by omega) (by omega) ?_
    refine g_iconst (pc := 19) dX11_leap_19 ?_
    exact r_bool (pc := 20) dX11_leap_20 rfl rfl (Nat.le_refl _) (Or.inl rfl) ⟨by first | rfl | (rw [qM_none eg]), by rw [qM_none eg]; exact rp⟩
  · rw [qM_some eg]
    obtain ⟨i, hi, em, es⟩ := gt_some eg
    subst em
    obtain ⟨a1, a2, a3, a4, a5, a6, a7, a8, ⟨rT, rM, rP9⟩, mi⟩ := id ra
    obtain ⟨ok, eTh, eKd, eMs, eSz, eTb, eMo, ePl, ePi⟩ := (mi i hi).out es
    obtain ⟨hkd, hM, hM2, n1, hn, hk1, hk3, hT, hYb, hPb⟩ := id ok
    have hrow := rs.row hi es
    refine g_if_eqF (pc := 10) (tgt := 19) dX11_leap_10 (by decide) (by omega) (by omega) ?_
    refine g_lload_n (pc := 13) (x := t) dX11_leap_13 rfl ?_
    refine g_lconst0 (pc := 14) dX11_leap_14 ?_
    refine g_lif_ge (pc := 15) (tgt := 21) dX11_leap_15 dX11_leap_16 (by decide) (by omega) (by omega) (fun k0 => ?_) (fun k0 => ?_)
    · obtain ⟨tt, et⟩ : ∃ tt : Nat, t = (tt : Int) := ⟨t.toNat, by omega⟩
      subst et
      refine g_aload_n (pc := 21) (r := .inl (some x)) dX11_leap_21 rfl ?_
      refine g_iload_n (pc := 22) (x := (i : Int)) dX11_leap_22 rfl ?_
      refine g_lload_n (pc := 23) (x := (tt : Int)) dX11_leap_23 rfl ?_
      obtain ⟨s9, ⟨s10, s11, s12, s13, s14, ⟨p15, s15⟩, ⟨p16, s16⟩, ⟨p17, s17⟩, ⟨p18, s18⟩⟩, s2, s22, s23, s24, s25⟩ := id sc
      refine g_callV0 (pc := 24) (as := [vI (i : Int), vJ (tt : Int)]) (b := x) (st := []) lvX11_146 dX11_leap_24 hx (Nat.le_of_ble_eq_true rfl) (by omega) (Nat.zero_le _) (Nat.zero_le _) (c_leaps (t := tt) (d := 7) hn hi hM hM2 rT rM eSz eMs (by omega) rP9 hx a4 a5 a6 s10 s11 s12 a3 a7 s13 s14) ?_
      rintro r8 h3 ⟨rfl, k3, o1, z10, z11, z12, z13, z14, P9, o7, rP3, e9, f9⟩
      have rs3 : RMs N h3 x (va_up σ i (some (kd, M, n, T, lpY n M T Y (tt), P))) pr ts := ra.leap sc hi es hM hn eTb eMo ePl hYb k3 ⟨hx.1, o1⟩ z10 z11 z12 z13 z14 o7 rP3 e9 f9
      have rp3 : rP N h h3 x (va_up σ i (some (kd, M, n, T, lpY n M T Y (tt), P))) pr ts := rP.tr kg rs3 (fun a z => k3 a (by omega) (by omega) (by omega) (by omega) (by omega) (by omega) (by omega))
      refine g_iconst (pc := 27) dX11_leap_27 ?_
      exact r_bool (pc := 28) dX11_leap_28 rfl rfl (Nat.le_refl _) (Or.inr rfl) ⟨by first | rfl | (rw [qM_some eg, if_pos (by omega)]), by rw [qM_some eg, if_pos (by omega)]; simp only [Int.toNat_natCast]; exact rp3⟩
    · refine g_iconst (pc := 19) dX11_leap_19 ?_
      exact r_bool (pc := 20) dX11_leap_20 rfl rfl (Nat.le_refl _) (Or.inl rfl) ⟨by first | rfl | (rw [qM_some eg, if_neg (by omega)]), by rw [qM_some eg, if_neg (by omega)]; exact rp⟩

theorem r_order {N x : Nat} {pr ts : Int} {m : Int} {σ : Nat → Option MSt} {h : MH} {W : Nat} (hm : i32 m) (hW : ∀ kd M n T Y P, gt σ m = some (kd, M, n, T, Y, P) → isPer (mp (n + 1) M (au n T)) 32 W ∧ W ≤ 8000000000000000000) (rs0 : RMs N h x σ pr ts) : Ok mX11_order 10 0 0 [vR x, vI m] N h (fun r9 h2 => r9 = some (vJ (qM σ m (-1) (fun kd M n T Y P => if Nat.gcd M (detF n T % (M : Int)).toNat = 1 then (W : Int) else -1))) ∧ rP N h h2 x σ pr ts) := by
  refine Ok.of pfX11_order rfl (Nat.le_of_ble_eq_true rfl) (fun Ls sx => ?_)
  show G mX11_order (10, 0, 0, Ls, sx) 0 [(0, vR x), (1, vI m)] [] (0, 0, N) h _
  obtain ⟨⟨th, wd, pm, fm, mu, um, hx0⟩, sc0, Th, Kd, Ms, Sz, Tb, Mo, Pl, Pi, ra0⟩ := id rs0
  replace ra0 : RA N h x σ Th Kd Ms Sz Tb Mo Pl Pi := ra0
  refine g_aload_n (pc := 0) (r := .inl (some x)) dX11_order_0 rfl ?_
  refine g_iconst (pc := 1) dX11_order_1 ?_
  refine g_putf (pc := 2) fpX11_104 dX11_order_2 hx0 (okv_int _) (Nat.le_of_ble_eq_true rfl) ?_
  have hx_1 := hx0.self (e := mdl x 0 wd pm fm mu um pr ts)
  show G mX11_order _ 5 [(0, vR x), (1, vI m)] [] _ (va_up h x (mdl x 0 wd pm fm mu um pr ts)) _
  obtain ⟨g, eg0⟩ : ∃ g, g = va_up h x (mdl x 0 wd pm fm mu um pr ts) := ⟨_, rfl⟩
  rw [← eg0] at hx_1 ⊢
  have hx := hx_1
  have kg : ∀ a, a ≠ x → g a = h a := fun a z => by rw [eg0, va_up_ne _ _ z]
  have ra := ra0.keep (h2 := g) (fun a z1 z2 => kg a (by omega))
  have sc := sc0.keep (h2 := g) (fun a z1 z2 => kg a (by omega))
  have mo : MO N g x pr ts := ⟨_, _, _, _, _, _, hx⟩
  have rs : RMs N g x σ pr ts := RMs.of mo sc ra
  have rp : rP N h g x σ pr ts := ⟨rs, fun a z => kg a (by omega)⟩
  refine g_aload_n (pc := 5) (r := .inl (some x)) dX11_order_5 rfl ?_
  refine g_iload_n (pc := 6) (x := m) dX11_order_6 rfl ?_
  refine g_callV0 (pc := 7) (as := [vI m]) (b := x) (st := []) lvX11_108 dX11_order_7 hx (Nat.le_of_ble_eq_true rfl) (by omega) (Nat.zero_le _) (Nat.zero_le _) (c_isM (d := 9) hm hx ra) ?_
  rintro r8 h9 ⟨e9, e8⟩
  subst e9
  subst e8
  rcases eg : gt σ m with _ | ⟨kd, M, n, T, Y, P⟩
  · rw [qM_none eg]
    refine g_if_eqT (pc := 10) (tgt := 29) dX11_order_10 (by decide) (by omega) (by omega) ?_
    refine g_ldc2 (pc := 29) (n := -1) dX11_order_29 kcX11_206 ?_
    exact r_long (pc := 32) dX11_order_32 rfl rfl (Nat.le_refl _) ⟨by first | rfl | (rw [qM_none eg]), rp⟩
  · rw [qM_some eg]
    obtain ⟨i, hi, em, es⟩ := gt_some eg
    subst em
    obtain ⟨a1, a2, a3, a4, a5, a6, a7, a8, ⟨rT, rM, rP9⟩, mi⟩ := id ra
    obtain ⟨ok, eTh, eKd, eMs, eSz, eTb, eMo, ePl, ePi⟩ := (mi i hi).out es
    obtain ⟨hkd, hM, hM2, n1, hn, hk1, hk3, hT, hYb, hPb⟩ := id ok
    have hrow := rs.row hi es
    refine g_if_eqF (pc := 10) (tgt := 29) dX11_order_10 (by decide) (by omega) (by omega) ?_
    refine g_aload_n (pc := 13) (r := .inl (some x)) dX11_order_13 rfl ?_
    refine g_iload_n (pc := 14) (x := (i : Int)) dX11_order_14 rfl ?_
    refine g_callV0 (pc := 15) (as := [vI (i : Int)]) (b := x) (st := []) lvX11_161 dX11_order_15 hx (Nat.le_of_ble_eq_true rfl) (by omega) (Nat.zero_le _) (Nat.zero_le _) (c_isTurnable (d := 7) n1 hn hM hM2 hi mo hrow) ?_
    rintro r8 h9 ⟨e9, e8⟩
    subst e9
    subst e8
    by_cases hgb : Nat.gcd M (detF n T % (M : Int)).toNat = 1
    · rw [if_pos hgb]
      refine g_if_eqF (pc := 18) (tgt := 29) dX11_order_18 (by decide) (by omega) (by omega) ?_
      obtain ⟨hw1, hw2⟩ := hW _ _ _ _ _ _ eg
      have w1 := hw1.1
      obtain ⟨Wf, q1, q2, q3, q4⟩ := Of_ex n1 hn hM hM2 hgb hw1
      refine g_aload_n (pc := 21) (r := .inl (some x)) dX11_order_21 rfl ?_
      refine g_iload_n (pc := 22) (x := (i : Int)) dX11_order_22 rfl ?_
      refine g_callV0 (pc := 23) (as := [vI (i : Int)]) (b := x) (st := []) lvX11_211 dX11_order_23 hx (Nat.le_of_ble_eq_true rfl) (by omega) (Nat.zero_le _) (Nat.zero_le _) (c_orderOf (d := 6) n1 hn hM hM2 hi q1 q2 q3 mo hrow sc.2.1) ?_
      rw [q4]
      rintro r8 h5 ⟨rfl, mo5, sr5, k5⟩
      have rs5 : RMs N h5 x σ pr ts := rs.scr mo5 sr5 k5
      have rp5 : rP N h h5 x σ pr ts := rP.tr kg rs5 (fun a z => k5 a (by omega) (by omega))
      refine g_goto (pc := 26) (tgt := 32) dX11_order_26 (by decide) ?_
      exact r_long (pc := 32) dX11_order_32 rfl rfl (Nat.le_refl _) ⟨by first | rfl | (rw [qM_some eg, if_pos hgb]), rp5⟩
    · rw [if_neg hgb]
      refine g_if_eqT (pc := 18) (tgt := 29) dX11_order_18 (by decide) (by omega) (by omega) ?_
      refine g_ldc2 (pc := 29) (n := -1) dX11_order_29 kcX11_206 ?_
      exact r_long (pc := 32) dX11_order_32 rfl rfl (Nat.le_refl _) ⟨by first | rfl | (rw [qM_some eg, if_neg hgb]), rp⟩

theorem r_back {N x : Nat} {pr ts : Int} {m t : Int} {σ : Nat → Option MSt} {h : MH} {W : Nat} (hm : i32 m) (ht : i64 t) (hW : ∀ kd M n T Y P, gt σ m = some (kd, M, n, T, Y, P) → isPer (mp (n + 1) M (au n T)) 32 W ∧ W ≤ 8000000000000000000) (rs0 : RMs N h x σ pr ts) : Ok mX11_back 10 0 0 [vR x, vI m, vJ t] N h (fun r9 h2 => r9 = some (vI (qM σ m 0 (fun kd M n T Y P => if 0 ≤ t ∧ Nat.gcd M (detF n T % (M : Int)).toNat = 1 then 1 else 0))) ∧ rP N h h2 x (qM σ m σ (fun kd M n T Y P => if 0 ≤ t ∧ Nat.gcd M (detF n T % (M : Int)).toNat = 1 then va_up σ m.toNat (some (kd, M, n, T, lpY n M T Y ((W - t.toNat % W) % W), P)) else σ)) pr ts) := by
  refine Ok.of pfX11_back rfl (Nat.le_of_ble_eq_true rfl) (fun Ls sx => ?_)
  show G mX11_back (10, 0, 0, Ls, sx) 0 [(0, vR x), (1, vI m), (2, vJ t)] [] (0, 0, N) h _
  obtain ⟨⟨th, wd, pm, fm, mu, um, hx0⟩, sc0, Th, Kd, Ms, Sz, Tb, Mo, Pl, Pi, ra0⟩ := id rs0
  replace ra0 : RA N h x σ Th Kd Ms Sz Tb Mo Pl Pi := ra0
  refine g_aload_n (pc := 0) (r := .inl (some x)) dX11_back_0 rfl ?_
  refine g_iconst (pc := 1) dX11_back_1 ?_
  refine g_putf (pc := 2) fpX11_104 dX11_back_2 hx0 (okv_int _) (Nat.le_of_ble_eq_true rfl) ?_
  have hx_1 := hx0.self (e := mdl x 0 wd pm fm mu um pr ts)
  show G mX11_back _ 5 [(0, vR x), (1, vI m), (2, vJ t)] [] _ (va_up h x (mdl x 0 wd pm fm mu um pr ts)) _
  obtain ⟨g, eg0⟩ : ∃ g, g = va_up h x (mdl x 0 wd pm fm mu um pr ts) := ⟨_, rfl⟩
  rw [← eg0] at hx_1 ⊢
  have hx := hx_1
  have kg : ∀ a, a ≠ x → g a = h a := fun a z => by rw [eg0, va_up_ne _ _ z]
  have ra := ra0.keep (h2 := g) (fun a z1 z2 => kg a (by omega))
  have sc := sc0.keep (h2 := g) (fun a z1 z2 => kg a (by omega))
  have mo : MO N g x pr ts := ⟨_, _, _, _, _, _, hx⟩
  have rs : RMs N g x σ pr ts := RMs.of mo sc ra
  have rp : rP N h g x σ pr ts := ⟨rs, fun a z => kg a (by omega)⟩
  refine g_aload_n (pc := 5) (r := .inl (some x)) dX11_back_5 rfl ?_
  refine g_iload_n (pc := 6) (x := m) dX11_back_6 rfl ?_
  refine g_callV0 (pc := 7) (as := [vI m]) (b := x) (st := []) lvX11_108 dX11_back_7 hx (Nat.le_of_ble_eq_true rfl) (by omega) (Nat.zero_le _) (Nat.zero_le _) (c_isM (d := 9) hm hx ra) ?_
  rintro r8 h9 ⟨e9, e8⟩
  subst e9
  subst e8
  rcases eg : gt σ m with _ | ⟨kd, M, n, T, Y, P⟩
  · rw [qM_none eg]
    refine g_if_eqT (pc := 10) (tgt := 27) dX11_back_10 (by decide) (by omega) (by omega) ?_
    refine g_iconst (pc := 27) dX11_back_27 ?_
    exact r_bool (pc := 28) dX11_back_28 rfl rfl (Nat.le_refl _) (Or.inl rfl) ⟨by first | rfl | (rw [qM_none eg]), by rw [qM_none eg]; exact rp⟩
  · rw [qM_some eg]
    obtain ⟨i, hi, em, es⟩ := gt_some eg
    subst em
    obtain ⟨a1, a2, a3, a4, a5, a6, a7, a8, ⟨rT, rM, rP9⟩, mi⟩ := id ra
    obtain ⟨ok, eTh, eKd, eMs, eSz, eTb, eMo, ePl, ePi⟩ := (mi i hi).out es
    obtain ⟨hkd, hM, hM2, n1, hn, hk1, hk3, hT, hYb, hPb⟩ := id ok
    have hrow := rs.row hi es
    refine g_if_eqF (pc := 10) (tgt := 27) dX11_back_10 (by decide) (by omega) (by omega) ?_
    refine g_lload_n (pc := 13) (x := t) dX11_back_13 rfl ?_
    refine g_lconst0 (pc := 14) dX11_back_14 ?_
    refine g_lif_lt (pc := 15) (tgt := 27) dX11_back_15 dX11_back_16 (by decide) (by omega) (by omega) (fun k0 => ?_) (fun k0 => ?_)
    · refine g_iconst (pc := 27) dX11_back_27 ?_
      exact r_bool (pc := 28) dX11_back_28 rfl rfl (Nat.le_refl _) (Or.inl rfl) ⟨by first | rfl | (rw [qM_some eg, if_neg (by omega)]), by rw [qM_some eg, if_neg (by omega)]; exact rp⟩
    · refine g_aload_n (pc := 19) (r := .inl (some x)) dX11_back_19 rfl ?_
      refine g_iload_n (pc := 20) (x := (i : Int)) dX11_back_20 rfl ?_
      refine g_callV0 (pc := 21) (as := [vI (i : Int)]) (b := x) (st := []) lvX11_161 dX11_back_21 hx (Nat.le_of_ble_eq_true rfl) (by omega) (Nat.zero_le _) (Nat.zero_le _) (c_isTurnable (d := 7) n1 hn hM hM2 hi mo hrow) ?_
      rintro r8 h9 ⟨e9, e8⟩
      subst e9
      subst e8
      by_cases hgb : Nat.gcd M (detF n T % (M : Int)).toNat = 1
      · rw [if_pos hgb]
        refine g_if_neT (pc := 24) (tgt := 29) dX11_back_24 (by decide) (by omega) (by omega) ?_
        obtain ⟨hw1, hw2⟩ := hW _ _ _ _ _ _ eg
        have w1 := hw1.1
        obtain ⟨Wf, q1, q2, q3, q4⟩ := Of_ex n1 hn hM hM2 hgb hw1
        refine g_aload_n (pc := 29) (r := .inl (some x)) dX11_back_29 rfl ?_
        refine g_iload_n (pc := 30) (x := (i : Int)) dX11_back_30 rfl ?_
        refine g_callV0 (pc := 31) (as := [vI (i : Int)]) (b := x) (st := []) lvX11_211 dX11_back_31 hx (Nat.le_of_ble_eq_true rfl) (by omega) (Nat.zero_le _) (Nat.zero_le _) (c_orderOf (d := 6) n1 hn hM hM2 hi q1 q2 q3 mo hrow sc.2.1) ?_
        rw [q4]
        rintro r8 h5 ⟨rfl, mo5, sr5, k5⟩
        have rs5 : RMs N h5 x σ pr ts := rs.scr mo5 sr5 k5
        have rp5 : rP N h h5 x σ pr ts := rP.tr kg rs5 (fun a z => k5 a (by omega) (by omega))
        obtain ⟨tt, et⟩ : ∃ tt : Nat, t = (tt : Int) := ⟨t.toNat, by omega⟩
        subst et
        have hlt := Nat.mod_lt tt (show 0 < W by omega)
        have hlt2 := Nat.mod_lt (W - tt % W) (show 0 < W by omega)
        obtain ⟨⟨th5, wd5, pm5, fm5, mu5, um5, hx5⟩, sc5, Th5, Kd5, Ms5, Sz5, Tb5, Mo5, Pl5, Pi5, ra5⟩ := id rs5
        replace ra5 : RA N h5 x σ Th5 Kd5 Ms5 Sz5 Tb5 Mo5 Pl5 Pi5 := ra5
        obtain ⟨c1, c2, c3, c4, c5, c6, c7, c8, ⟨rT5, rM5, rP5⟩, mi5⟩ := id ra5
        obtain ⟨-, eTh5, eKd5, eMs5, eSz5, eTb5, eMo5, ePl5, ePi5⟩ := (mi5 i hi).out es
        obtain ⟨v9, ⟨v10, v11, v12, v13, v14, -⟩, -⟩ := id sc5
        refine g_lstore (pc := 34) (lo2 := [(0, vR x), (1, vI (i : Int)), (2, vJ (tt : Int)), (4, vJ (W : Int))]) dX11_back_34 (by decide) rfl ?_
        refine g_aload_n (pc := 36) (r := .inl (some x)) dX11_back_36 rfl ?_
        refine g_iload_n (pc := 37) (x := (i : Int)) dX11_back_37 rfl ?_
        refine g_lload (pc := 38) (x := (W : Int)) dX11_back_38 rfl ?_
        refine g_lload_n (pc := 40) (x := (tt : Int)) dX11_back_40 rfl ?_
        refine g_lload (pc := 41) (x := (W : Int)) dX11_back_41 rfl ?_
        refine g_lrem (pc := 43) dX11_back_43 (by omega) (by omega) (by omega) ?_
        rw [tmodN (x := tt) (y := W) rfl rfl]
        refine g_lsub (pc := 44) dX11_back_44 ?_
        refine g_lload (pc := 45) (x := (W : Int)) dX11_back_45 rfl ?_
        refine g_lrem (pc := 47) dX11_back_47 (by omega) (by omega) (by omega) ?_
        rw [tmodN (x := W - tt % W) (y := W) (by omega) rfl]
        refine g_callV0 (pc := 48) (as := [vI (i : Int), vJ (((W - tt % W) % W : Nat) : Int)]) (b := x) (st := []) lvX11_146 dX11_back_48 hx5 (Nat.le_of_ble_eq_true rfl) (by omega) (Nat.zero_le _) (Nat.zero_le _) (c_leaps (t := (W - tt % W) % W) (d := 7) hn hi hM hM2 rT5 rM5 eSz5 eMs5 (by omega) rP5 hx5 c4 c5 c6 v10 v11 v12 c3 c7 v13 v14) ?_
        rintro r8 h3 ⟨rfl, k3, o1, z10, z11, z12, z13, z14, P9, o7, rP3, e9, f9⟩
        have rs3 : RMs N h3 x (va_up σ i (some (kd, M, n, T, lpY n M T Y ((W - tt % W) % W), P))) pr ts := ra5.leap sc5 hi es hM hn eTb5 eMo5 ePl5 hYb k3 ⟨hx5.1, o1⟩ z10 z11 z12 z13 z14 o7 rP3 e9 f9
        have rp3 : rP N h h3 x (va_up σ i (some (kd, M, n, T, lpY n M T Y ((W - tt % W) % W), P))) pr ts := rP.tr kg rs3 (fun a z => (k3 a (by omega) (by omega) (by omega) (by omega) (by omega) (by omega) (by omega)).trans (k5 a (by omega) (by omega)))
        refine g_iconst (pc := 51) dX11_back_51 ?_
        exact r_bool (pc := 52) dX11_back_52 rfl rfl (Nat.le_refl _) (Or.inr rfl) ⟨by first | rfl | (rw [qM_some eg, if_pos ⟨by omega, hgb⟩]), by rw [qM_some eg, if_pos ⟨by omega, hgb⟩]; simp only [Int.toNat_natCast]; exact rp3⟩
      · rw [if_neg hgb]
        refine g_if_neF (pc := 24) (tgt := 29) dX11_back_24 (by decide) (by omega) (by omega) ?_
        refine g_iconst (pc := 27) dX11_back_27 ?_
        exact r_bool (pc := 28) dX11_back_28 rfl rfl (Nat.le_refl _) (Or.inl rfl) ⟨by first | rfl | (rw [qM_some eg, if_neg (fun z => hgb z.2)]), by rw [qM_some eg, if_neg (fun z => hgb z.2)]; exact rp⟩

theorem r_round {N x : Nat} {pr ts : Int} {m : Int} {σ : Nat → Option MSt} {h : MH} {Pd : Nat} (hm : i32 m) (hτ : ∀ kd M n T Y P, gt σ m = some (kd, M, n, T, Y, P) → isPer (rowS n M (au n T) Y) 32 Pd) (rs0 : RMs N h x σ pr ts) : Ok mX11_round 10 0 0 [vR x, vI m] N h (fun r9 h2 => r9 = some (vJ (qM σ m (-1) (fun kd M n T Y P => (Pd : Int)))) ∧ rP N h h2 x σ pr ts) := by
  refine Ok.of pfX11_round rfl (Nat.le_of_ble_eq_true rfl) (fun Ls sx => ?_)
  show G mX11_round (10, 0, 0, Ls, sx) 0 [(0, vR x), (1, vI m)] [] (0, 0, N) h _
  obtain ⟨⟨th, wd, pm, fm, mu, um, hx0⟩, sc0, Th, Kd, Ms, Sz, Tb, Mo, Pl, Pi, ra0⟩ := id rs0
  replace ra0 : RA N h x σ Th Kd Ms Sz Tb Mo Pl Pi := ra0
  refine g_aload_n (pc := 0) (r := .inl (some x)) dX11_round_0 rfl ?_
  refine g_iconst (pc := 1) dX11_round_1 ?_
  refine g_putf (pc := 2) fpX11_104 dX11_round_2 hx0 (okv_int _) (Nat.le_of_ble_eq_true rfl) ?_
  have hx_1 := hx0.self (e := mdl x 0 wd pm fm mu um pr ts)
  show G mX11_round _ 5 [(0, vR x), (1, vI m)] [] _ (va_up h x (mdl x 0 wd pm fm mu um pr ts)) _
  obtain ⟨g, eg0⟩ : ∃ g, g = va_up h x (mdl x 0 wd pm fm mu um pr ts) := ⟨_, rfl⟩
  rw [← eg0] at hx_1 ⊢
  have hx := hx_1
  have kg : ∀ a, a ≠ x → g a = h a := fun a z => by rw [eg0, va_up_ne _ _ z]
  have ra := ra0.keep (h2 := g) (fun a z1 z2 => kg a (by omega))
  have sc := sc0.keep (h2 := g) (fun a z1 z2 => kg a (by omega))
  have mo : MO N g x pr ts := ⟨_, _, _, _, _, _, hx⟩
  have rs : RMs N g x σ pr ts := RMs.of mo sc ra
  have rp : rP N h g x σ pr ts := ⟨rs, fun a z => kg a (by omega)⟩
  refine g_aload_n (pc := 5) (r := .inl (some x)) dX11_round_5 rfl ?_
  refine g_iload_n (pc := 6) (x := m) dX11_round_6 rfl ?_
  refine g_callV0 (pc := 7) (as := [vI m]) (b := x) (st := []) lvX11_108 dX11_round_7 hx (Nat.le_of_ble_eq_true rfl) (by omega) (Nat.zero_le _) (Nat.zero_le _) (c_isM (d := 9) hm hx ra) ?_
  rintro r8 h9 ⟨e9, e8⟩
  subst e9
  subst e8
  rcases eg : gt σ m with _ | ⟨kd, M, n, T, Y, P⟩
  · rw [qM_none eg]
    refine g_if_eqT (pc := 10) (tgt := 21) dX11_round_10 (by decide) (by omega) (by omega) ?_
    refine g_ldc2 (pc := 21) (n := -1) dX11_round_21 kcX11_206 ?_
    exact r_long (pc := 24) dX11_round_24 rfl rfl (Nat.le_refl _) ⟨by first | rfl | (rw [qM_none eg]), rp⟩
  · rw [qM_some eg]
    obtain ⟨i, hi, em, es⟩ := gt_some eg
    subst em
    obtain ⟨a1, a2, a3, a4, a5, a6, a7, a8, ⟨rT, rM, rP9⟩, mi⟩ := id ra
    obtain ⟨ok, eTh, eKd, eMs, eSz, eTb, eMo, ePl, ePi⟩ := (mi i hi).out es
    obtain ⟨hkd, hM, hM2, n1, hn, hk1, hk3, hT, hYb, hPb⟩ := id ok
    have hrow := rs.row hi es
    refine g_if_eqF (pc := 10) (tgt := 21) dX11_round_10 (by decide) (by omega) (by omega) ?_
    have hper := hτ _ _ _ _ _ _ eg
    refine g_aload_n (pc := 13) (r := .inl (some x)) dX11_round_13 rfl ?_
    refine g_iload_n (pc := 14) (x := (i : Int)) dX11_round_14 rfl ?_
    refine g_callV0 (pc := 15) (as := [vI (i : Int)]) (b := x) (st := []) lvX11_202 dX11_round_15 hx (Nat.le_of_ble_eq_true rfl) (by omega) (Nat.zero_le _) (Nat.zero_le _) (c_mroundOf (d := 6) n1 hn hM hM2 hi hper mo hrow sc.2.1) ?_
    rintro r8 h5 ⟨rfl, mo5, sr5, k5⟩
    have rs5 : RMs N h5 x σ pr ts := rs.scr mo5 sr5 k5
    have rp5 : rP N h h5 x σ pr ts := rP.tr kg rs5 (fun a z => k5 a (by omega) (by omega))
    refine g_goto (pc := 18) (tgt := 24) dX11_round_18 (by decide) ?_
    exact r_long (pc := 24) dX11_round_24 rfl rfl (Nat.le_refl _) ⟨by first | rfl | (rw [qM_some eg]), rp5⟩

theorem r_fixed {N x : Nat} {pr ts : Int} {m t : Int} {σ : Nat → Option MSt} {h : MH} (hm : i32 m) (ht : i64 t) (rs0 : RMs N h x σ pr ts) : Ok mX11_fixed 10 0 0 [vR x, vI m, vJ t] N h (fun r9 h2 => r9 = some (vJ (qM σ m (-1) (fun kd M n T Y P => if 0 ≤ t then ((nfM n M (au n T) t.toNat : Nat) : Int) else -1))) ∧ rP N h h2 x σ pr ts) := by
  refine Ok.of pfX11_fixed rfl (Nat.le_of_ble_eq_true rfl) (fun Ls sx => ?_)
  show G mX11_fixed (10, 0, 0, Ls, sx) 0 [(0, vR x), (1, vI m), (2, vJ t)] [] (0, 0, N) h _
  obtain ⟨⟨th, wd, pm, fm, mu, um, hx0⟩, sc0, Th, Kd, Ms, Sz, Tb, Mo, Pl, Pi, ra0⟩ := id rs0
  replace ra0 : RA N h x σ Th Kd Ms Sz Tb Mo Pl Pi := ra0
  refine g_aload_n (pc := 0) (r := .inl (some x)) dX11_fixed_0 rfl ?_
  refine g_iconst (pc := 1) dX11_fixed_1 ?_
  refine g_putf (pc := 2) fpX11_104 dX11_fixed_2 hx0 (okv_int _) (Nat.le_of_ble_eq_true rfl) ?_
  have hx_1 := hx0.self (e := mdl x 0 wd pm fm mu um pr ts)
  show G mX11_fixed _ 5 [(0, vR x), (1, vI m), (2, vJ t)] [] _ (va_up h x (mdl x 0 wd pm fm mu um pr ts)) _
  obtain ⟨g, eg0⟩ : ∃ g, g = va_up h x (mdl x 0 wd pm fm mu um pr ts) := ⟨_, rfl⟩
  rw [← eg0] at hx_1 ⊢
  have hx := hx_1
  have kg : ∀ a, a ≠ x → g a = h a := fun a z => by rw [eg0, va_up_ne _ _ z]
  have ra := ra0.keep (h2 := g) (fun a z1 z2 => kg a (by omega))
  have sc := sc0.keep (h2 := g) (fun a z1 z2 => kg a (by omega))
  have mo : MO N g x pr ts := ⟨_, _, _, _, _, _, hx⟩
  have rs : RMs N g x σ pr ts := RMs.of mo sc ra
  have rp : rP N h g x σ pr ts := ⟨rs, fun a z => kg a (by omega)⟩
  refine g_aload_n (pc := 5) (r := .inl (some x)) dX11_fixed_5 rfl ?_
  refine g_iload_n (pc := 6) (x := m) dX11_fixed_6 rfl ?_
  refine g_callV0 (pc := 7) (as := [vI m]) (b := x) (st := []) lvX11_108 dX11_fixed_7 hx (Nat.le_of_ble_eq_true rfl) (by omega) (Nat.zero_le _) (Nat.zero_le _) (c_isM (d := 9) hm hx ra) ?_
  rintro r8 h9 ⟨e9, e8⟩
  subst e9
  subst e8
  rcases eg : gt σ m with _ | ⟨kd, M, n, T, Y, P⟩
  · rw [qM_none eg]
    refine g_if_eqT (pc := 10) (tgt := 28) dX11_fixed_10 (by decide) (by omega) (by omega) ?_
    refine g_ldc2 (pc := 28) (n := -1) dX11_fixed_28 kcX11_206 ?_
    exact r_long (pc := 31) dX11_fixed_31 rfl rfl (Nat.le_refl _) ⟨by first | rfl | (rw [qM_none eg]), rp⟩
  · rw [qM_some eg]
    obtain ⟨i, hi, em, es⟩ := gt_some eg
    subst em
    obtain ⟨a1, a2, a3, a4, a5, a6, a7, a8, ⟨rT, rM, rP9⟩, mi⟩ := id ra
    obtain ⟨ok, eTh, eKd, eMs, eSz, eTb, eMo, ePl, ePi⟩ := (mi i hi).out es
    obtain ⟨hkd, hM, hM2, n1, hn, hk1, hk3, hT, hYb, hPb⟩ := id ok
    have hrow := rs.row hi es
    refine g_if_eqF (pc := 10) (tgt := 28) dX11_fixed_10 (by decide) (by omega) (by omega) ?_
    refine g_lload_n (pc := 13) (x := t) dX11_fixed_13 rfl ?_
    refine g_lconst0 (pc := 14) dX11_fixed_14 ?_
    refine g_lif_lt (pc := 15) (tgt := 28) dX11_fixed_15 dX11_fixed_16 (by decide) (by omega) (by omega) (fun k0 => ?_) (fun k0 => ?_)
    · refine g_ldc2 (pc := 28) (n := -1) dX11_fixed_28 kcX11_206 ?_
      exact r_long (pc := 31) dX11_fixed_31 rfl rfl (Nat.le_refl _) ⟨by first | rfl | (rw [qM_some eg, if_neg (by omega)]), rp⟩
    · obtain ⟨tt, et⟩ : ∃ tt : Nat, t = (tt : Int) := ⟨t.toNat, by omega⟩
      subst et
      refine g_aload_n (pc := 19) (r := .inl (some x)) dX11_fixed_19 rfl ?_
      refine g_iload_n (pc := 20) (x := (i : Int)) dX11_fixed_20 rfl ?_
      refine g_lload_n (pc := 21) (x := (tt : Int)) dX11_fixed_21 rfl ?_
      refine g_callV0 (pc := 22) (as := [vI (i : Int), vJ (tt : Int)]) (b := x) (st := []) lvX11_226 dX11_fixed_22 hx (Nat.le_of_ble_eq_true rfl) (by omega) (Nat.zero_le _) (Nat.zero_le _) (c_fixedBy (t := tt) (d := 6) n1 hn hM hM2 hi (by omega) mo hrow sc.2.1 sc.2.2.1) ?_
      rintro r8 h5 ⟨rfl, mo5, sr5, s25, k5⟩
      have rs5 : RMs N h5 x σ pr ts := rs.same mo5 (by
        obtain ⟨⟨p9, b9⟩, c1, c2, ⟨p22, b22⟩, ⟨p23, b23⟩, ⟨p24, b24⟩, p25, b25⟩ := id sc
        exact ⟨⟨p9, b9.keep (k5 _ (by omega) (by omega))⟩, sr5, s25, ⟨p22, b22.keep (k5 _ (by omega) (by omega))⟩, ⟨p23, b23.keep (k5 _ (by omega) (by omega))⟩, ⟨p24, b24.keep (k5 _ (by omega) (by omega))⟩, p25, b25.keep (k5 _ (by omega) (by omega))⟩) (fun a z1 z2 => k5 a (by omega) (by omega))
      have rp5 : rP N h h5 x σ pr ts := rP.tr kg rs5 (fun a z => k5 a (by omega) (by omega))
      refine g_goto (pc := 25) (tgt := 31) dX11_fixed_25 (by decide) ?_
      exact r_long (pc := 31) dX11_fixed_31 rfl rfl (Nat.le_refl _) ⟨by first | rfl | (rw [qM_some eg, if_pos (by omega), Int.toNat_natCast]), rp5⟩

theorem r_rounds {N x : Nat} {pr ts : Int} {m t : Int} {σ : Nat → Option MSt} {h : MH} {Lq : List Nat} (hm : i32 m) (ht : i64 t) (hL : ∀ kd M n T Y P, gt σ m = some (kd, M, n, T, Y, P) → ∃ W, (∀ x ∈ Lq, 1 ≤ x ∧ x ∣ W) ∧ ∀ k, 1 ≤ k → nfM n M (au n T) k = cD Lq k) (rs0 : RMs N h x σ pr ts) : Ok mX11_rounds 10 0 0 [vR x, vI m, vJ t] N h (fun r9 h2 => r9 = some (vJ (qM σ m (-1) (fun kd M n T Y P => if 1 ≤ t ∧ t ≤ 1000000000000 then ((cE Lq t.toNat : Nat) : Int) else -1))) ∧ rP N h h2 x σ pr ts) := by
  refine Ok.of pfX11_rounds rfl (Nat.le_of_ble_eq_true rfl) (fun Ls sx => ?_)
  show G mX11_rounds (10, 0, 0, Ls, sx) 0 [(0, vR x), (1, vI m), (2, vJ t)] [] (0, 0, N) h _
  obtain ⟨⟨th, wd, pm, fm, mu, um, hx0⟩, sc0, Th, Kd, Ms, Sz, Tb, Mo, Pl, Pi, ra0⟩ := id rs0
  replace ra0 : RA N h x σ Th Kd Ms Sz Tb Mo Pl Pi := ra0
  refine g_aload_n (pc := 0) (r := .inl (some x)) dX11_rounds_0 rfl ?_
  refine g_iconst (pc := 1) dX11_rounds_1 ?_
  refine g_putf (pc := 2) fpX11_104 dX11_rounds_2 hx0 (okv_int _) (Nat.le_of_ble_eq_true rfl) ?_
  have hx_1 := hx0.self (e := mdl x 0 wd pm fm mu um pr ts)
  show G mX11_rounds _ 5 [(0, vR x), (1, vI m), (2, vJ t)] [] _ (va_up h x (mdl x 0 wd pm fm mu um pr ts)) _
  obtain ⟨g, eg0⟩ : ∃ g, g = va_up h x (mdl x 0 wd pm fm mu um pr ts) := ⟨_, rfl⟩
  rw [← eg0] at hx_1 ⊢
  have hx := hx_1
  have kg : ∀ a, a ≠ x → g a = h a := fun a z => by rw [eg0, va_up_ne _ _ z]
  have ra := ra0.keep (h2 := g) (fun a z1 z2 => kg a (by omega))
  have sc := sc0.keep (h2 := g) (fun a z1 z2 => kg a (by omega))
  have mo : MO N g x pr ts := ⟨_, _, _, _, _, _, hx⟩
  have rs : RMs N g x σ pr ts := RMs.of mo sc ra
  have rp : rP N h g x σ pr ts := ⟨rs, fun a z => kg a (by omega)⟩
  refine g_aload_n (pc := 5) (r := .inl (some x)) dX11_rounds_5 rfl ?_
  refine g_iload_n (pc := 6) (x := m) dX11_rounds_6 rfl ?_
  refine g_callV0 (pc := 7) (as := [vI m]) (b := x) (st := []) lvX11_108 dX11_rounds_7 hx (Nat.le_of_ble_eq_true rfl) (by omega) (Nat.zero_le _) (Nat.zero_le _) (c_isM (d := 9) hm hx ra) ?_
  rintro r8 h9 ⟨e9, e8⟩
  subst e9
  subst e8
  rcases eg : gt σ m with _ | ⟨kd, M, n, T, Y, P⟩
  · rw [qM_none eg]
    refine g_if_eqT (pc := 10) (tgt := 27) dX11_rounds_10 (by decide) (by omega) (by omega) ?_
    refine g_ldc2 (pc := 27) (n := -1) dX11_rounds_27 kcX11_206 ?_
    exact r_long (pc := 30) dX11_rounds_30 rfl rfl (Nat.le_refl _) ⟨by first | rfl | (rw [qM_none eg]), rp⟩
  · rw [qM_some eg]
    obtain ⟨i, hi, em, es⟩ := gt_some eg
    subst em
    obtain ⟨a1, a2, a3, a4, a5, a6, a7, a8, ⟨rT, rM, rP9⟩, mi⟩ := id ra
    obtain ⟨ok, eTh, eKd, eMs, eSz, eTb, eMo, ePl, ePi⟩ := (mi i hi).out es
    obtain ⟨hkd, hM, hM2, n1, hn, hk1, hk3, hT, hYb, hPb⟩ := id ok
    have hrow := rs.row hi es
    refine g_if_eqF (pc := 10) (tgt := 27) dX11_rounds_10 (by decide) (by omega) (by omega) ?_
    refine g_lload_n (pc := 13) (x := t) dX11_rounds_13 rfl ?_
    refine g_lconst1 (pc := 14) dX11_rounds_14 ?_
    refine g_lif_lt (pc := 15) (tgt := 27) dX11_rounds_15 dX11_rounds_16 (by decide) (by omega) (by omega) (fun k0 => ?_) (fun k0 => ?_)
    · refine g_ldc2 (pc := 27) (n := -1) dX11_rounds_27 kcX11_206 ?_
      exact r_long (pc := 30) dX11_rounds_30 rfl rfl (Nat.le_refl _) ⟨by first | rfl | (rw [qM_some eg, if_neg (by omega)]), rp⟩
    · refine g_lload_n (pc := 19) (x := t) dX11_rounds_19 rfl ?_
      refine g_ldc2 (pc := 20) (n := 1000000000000) dX11_rounds_20 kcX11_233 ?_
      refine g_lif_le (pc := 23) (tgt := 31) dX11_rounds_23 dX11_rounds_24 (by decide) (by omega) (by omega) (fun k1 => ?_) (fun k1 => ?_)
      · obtain ⟨tt, et⟩ : ∃ tt : Nat, t = (tt : Int) := ⟨t.toNat, by omega⟩
        subst et
        obtain ⟨W, q1, q2⟩ := hL _ _ _ _ _ _ eg
        refine g_aload_n (pc := 31) (r := .inl (some x)) dX11_rounds_31 rfl ?_
        refine g_lload_n (pc := 32) (x := (tt : Int)) dX11_rounds_32 rfl ?_
        obtain ⟨s9, ⟨s10, s11, s12, s13, s14, ⟨p15, s15⟩, ⟨p16, s16⟩, ⟨p17, s17⟩, ⟨p18, s18⟩⟩, s2, s22, s23, s24, s25⟩ := id sc
        refine g_callV0 (pc := 33) (as := [vJ (tt : Int)]) (b := x) (st := []) lvX11_235 dX11_rounds_33 hx (Nat.le_of_ble_eq_true rfl) (by omega) (Nat.zero_le _) (Nat.zero_le _) (c_primesOf (v := tt) (d := 8) (by omega) (by omega) mo ⟨_, s18⟩ s22) ?_
        rintro r8 h4 ⟨rfl, us, U, th4, wd4, pm4, fm4, mu4, hx4, h22, h18, hF, hnd, hus, k4⟩
        have r4 := hrow.keep (h2 := h4) (fun a z1 z2 => k4 a (by omega) (by omega) (by omega))
        have hu11 := few_11 (show 1 ≤ tt by omega) (show tt ≤ 1000000000000 by omega) hnd (fun y hy => (hus y).mp hy)
        have sr4 : SCR N h4 x := ⟨s10.keep (k4 _ (by omega) (by omega) (by omega)), s11.keep (k4 _ (by omega) (by omega) (by omega)), s12.keep (k4 _ (by omega) (by omega) (by omega)), s13.keep (k4 _ (by omega) (by omega) (by omega)), s14.keep (k4 _ (by omega) (by omega) (by omega)), ⟨_, s15.keep (k4 _ (by omega) (by omega) (by omega))⟩, ⟨_, s16.keep (k4 _ (by omega) (by omega) (by omega))⟩, ⟨_, s17.keep (k4 _ (by omega) (by omega) (by omega))⟩, h18⟩
        refine g_lconst0 (pc := 36) dX11_rounds_36 ?_
        refine g_lstore (pc := 37) (lo2 := [(0, vR x), (1, vI (i : Int)), (2, vJ (tt : Int)), (4, vJ 0)]) dX11_rounds_37 (by decide) rfl ?_
        refine g_iconst (pc := 39) dX11_rounds_39 ?_
        refine g_istore (pc := 40) (lo2 := [(0, vR x), (1, vI (i : Int)), (2, vJ (tt : Int)), (4, vJ 0), (6, vI 0)]) dX11_rounds_40 (by decide) rfl ?_
        refine Q_mono (rnd_l2 (d := 6) (l := tt) n1 hn hM hM2 hi hu11 (by omega) hF (fun y hy => ⟨((hus y).mp hy).1.1, Nat.le_trans (Nat.le_of_dvd (by omega) ((hus y).mp hy).2) (by omega)⟩) r4 h22 (2 ^ us.length) 0 _ _ _ _ _ _ _ h4 (by omega) rfl rfl hx4 sr4 (s2.keep (fun a z1 z2 => k4 a (by omega) (by omega) (by omega))) (fun a z1 z2 => rfl)) ?_
        rintro r9 h5 ⟨rfl, mo5, sr5, s25, k5⟩
        have gd : ∀ j (hj : j < us.length), us.getD j 0 = us[j] := fun j hj => by simp [hj]
        have e9 : ie (fun j => us.getD j 0) tt us.length (fun e => ((nfM n M (au n T) e : Nat) : Int)) = ((cE Lq tt : Nat) : Int) := by
          refine ie_LC q1 q2 (by omega) (fun j hj => ?_) (fun j k hj hk z => ?_) (fun p z1 z2 => ?_)
          · rw [gd j hj]
            exact (hus _).mp (List.getElem_mem hj)
          · rw [gd j hj, gd k hk] at z
            exact (List.getElem_inj hnd).mp z
          · obtain ⟨j, hj, ej⟩ := List.mem_iff_getElem.mp ((hus p).mpr ⟨z1, z2⟩)
            exact ⟨j, hj, by rw [gd j hj]; exact ej⟩
        have k6 : ∀ a, a ≠ x → a ≠ x + 22 → (a < x + 10 ∨ x + 21 < a) → h5 a = h9 a := fun a z1 z2 z3 => (k5 a z1 z3).trans (k4 a z1 (by omega) z2)
        have rs5 : RMs N h5 x σ pr ts := rs.same mo5 (by
          obtain ⟨⟨p9, b9⟩, c1, c2, ⟨p22, b22⟩, ⟨p23, b23⟩, ⟨p24, b24⟩, p25, b25⟩ := id sc
          exact ⟨⟨p9, b9.keep (k6 _ (by omega) (by omega) (by omega))⟩, sr5, s25, ⟨_, h22.keep (k5 _ (by omega) (by omega))⟩, ⟨p23, b23.keep (k6 _ (by omega) (by omega) (by omega))⟩, ⟨p24, b24.keep (k6 _ (by omega) (by omega) (by omega))⟩, p25, b25.keep (k6 _ (by omega) (by omega) (by omega))⟩) (fun a z1 z2 => k6 a (by omega) (by omega) (by omega))
        exact ⟨by rw [qM_some eg, if_pos (by omega), Int.toNat_natCast, e9], rP.tr kg rs5 (fun a z => k6 a (by omega) (by omega) (by omega))⟩
      · refine g_ldc2 (pc := 27) (n := -1) dX11_rounds_27 kcX11_206 ?_
        exact r_long (pc := 30) dX11_rounds_30 rfl rfl (Nat.le_refl _) ⟨by first | rfl | (rw [qM_some eg, if_neg (by omega)]), rp⟩

theorem r_all {N x : Nat} {pr ts : Int} {m : Int} {σ : Nat → Option MSt} {h : MH} (hm : i32 m) (rs0 : RMs N h x σ pr ts) : Ok mX11_all 10 0 0 [vR x, vI m] N h (fun r9 h2 => r9 = some (vI (qM σ m (-1) (fun kd M n T Y P => if kd = 1 then ((ind (allR (T 0) (T 4) M) : Nat) : Int) else -1))) ∧ rP N h h2 x σ pr ts) := by
  refine Ok.of pfX11_all rfl (Nat.le_of_ble_eq_true rfl) (fun Ls sx => ?_)
  show G mX11_all (10, 0, 0, Ls, sx) 0 [(0, vR x), (1, vI m)] [] (0, 0, N) h _
  obtain ⟨⟨th, wd, pm, fm, mu, um, hx0⟩, sc0, Th, Kd, Ms, Sz, Tb, Mo, Pl, Pi, ra0⟩ := id rs0
  replace ra0 : RA N h x σ Th Kd Ms Sz Tb Mo Pl Pi := ra0
  refine g_aload_n (pc := 0) (r := .inl (some x)) dX11_all_0 rfl ?_
  refine g_iconst (pc := 1) dX11_all_1 ?_
  refine g_putf (pc := 2) fpX11_104 dX11_all_2 hx0 (okv_int _) (Nat.le_of_ble_eq_true rfl) ?_
  have hx_1 := hx0.self (e := mdl x 0 wd pm fm mu um pr ts)
  show G mX11_all _ 5 [(0, vR x), (1, vI m)] [] _ (va_up h x (mdl x 0 wd pm fm mu um pr ts)) _
  obtain ⟨g, eg0⟩ : ∃ g, g = va_up h x (mdl x 0 wd pm fm mu um pr ts) := ⟨_, rfl⟩
  rw [← eg0] at hx_1 ⊢
  have hx := hx_1
  have kg : ∀ a, a ≠ x → g a = h a := fun a z => by rw [eg0, va_up_ne _ _ z]
  have ra := ra0.keep (h2 := g) (fun a z1 z2 => kg a (by omega))
  have sc := sc0.keep (h2 := g) (fun a z1 z2 => kg a (by omega))
  have mo : MO N g x pr ts := ⟨_, _, _, _, _, _, hx⟩
  have rs : RMs N g x σ pr ts := RMs.of mo sc ra
  have rp : rP N h g x σ pr ts := ⟨rs, fun a z => kg a (by omega)⟩
  refine g_aload_n (pc := 5) (r := .inl (some x)) dX11_all_5 rfl ?_
  refine g_iload_n (pc := 6) (x := m) dX11_all_6 rfl ?_
  refine g_callV0 (pc := 7) (as := [vI m]) (b := x) (st := []) lvX11_108 dX11_all_7 hx (Nat.le_of_ble_eq_true rfl) (by omega) (Nat.zero_le _) (Nat.zero_le _) (c_isM (d := 9) hm hx ra) ?_
  rintro r8 h9 ⟨e9, e8⟩
  subst e9
  subst e8
  rcases eg : gt σ m with _ | ⟨kd, M, n, T, Y, P⟩
  · rw [qM_none eg]
    refine g_if_eqT (pc := 10) (tgt := 23) dX11_all_10 (by decide) (by omega) (by omega) ?_
    refine g_iconst (pc := 23) dX11_all_23 ?_
    exact r_int (pc := 24) dX11_all_24 rfl rfl (Nat.le_refl _) ⟨by first | rfl | (rw [qM_none eg]), rp⟩
  · rw [qM_some eg]
    obtain ⟨i, hi, em, es⟩ := gt_some eg
    subst em
    obtain ⟨a1, a2, a3, a4, a5, a6, a7, a8, ⟨rT, rM, rP9⟩, mi⟩ := id ra
    obtain ⟨ok, eTh, eKd, eMs, eSz, eTb, eMo, ePl, ePi⟩ := (mi i hi).out es
    obtain ⟨hkd, hM, hM2, n1, hn, hk1, hk3, hT, hYb, hPb⟩ := id ok
    have hrow := rs.row hi es
    refine g_if_eqF (pc := 10) (tgt := 23) dX11_all_10 (by decide) (by omega) (by omega) ?_
    refine g_aload_n (pc := 13) (r := .inl (some x)) dX11_all_13 rfl ?_
    refine g_getf (pc := 14) (v := vR (x + 2)) flX11_13 dX11_all_14 hx rfl ?_
    refine g_iload_n (pc := 17) (x := (i : Int)) dX11_all_17 rfl ?_
    refine g_ialdN (pc := 18) (j := i) dX11_all_18 a2 (by omega) (by omega) (by omega) ?_
    rw [eKd]
    refine g_iconst (pc := 19) dX11_all_19 ?_
    refine g_icmp_eq (pc := 20) (tgt := 25) dX11_all_20 (by decide) (by omega) (by omega) (fun k0 => ?_) (fun k0 => ?_)
    · have hk : kd = 1 := by omega
      have hn1 : n = 1 := by first | exact hk1 hk | exact (hk1 (by omega)) | omega
      have t0 := hT 0 0 (by omega) (by omega)
      have t4 := hT 0 4 (by omega) (by omega)
      have eT0 : Tb (16 * i) = T 0 := eTb 0 0 (by omega) (by omega)
      have eM0 : Mo (4 * i) = T 4 := eMo 0 (by omega)
      simp only [Nat.mul_zero, Nat.zero_add] at t0 t4
      refine g_aload_n (pc := 25) (r := .inl (some x)) dX11_all_25 rfl ?_
      refine g_getf (pc := 26) (v := vR (x + 3)) flX11_17 dX11_all_26 hx rfl ?_
      refine g_iload_n (pc := 29) (x := (i : Int)) dX11_all_29 rfl ?_
      refine g_ialdN (pc := 30) (j := i) dX11_all_30 a3 (by omega) (by omega) (by omega) ?_
      rw [eMs]
      refine g_istore_n (pc := 31) (lo2 := [(0, vR x), (1, vI (i : Int)), (2, vI (M : Int))]) dX11_all_31 (by decide) rfl ?_
      refine g_aload_n (pc := 32) (r := .inl (some x)) dX11_all_32 rfl ?_
      refine g_getf (pc := 33) (v := vR (x + 6)) flX11_26 dX11_all_33 hx rfl ?_
      refine g_iconst (pc := 36) dX11_all_36 ?_
      refine g_iload_n (pc := 37) (x := (i : Int)) dX11_all_37 rfl ?_
      refine g_imul (pc := 38) dX11_all_38 ?_
      refine g_ialdN (pc := 39) (j := 4 * i) dX11_all_39 a6 (by omega) (by omega) (by omega) ?_
      rw [eM0]
      refine g_iload_n (pc := 40) (x := (M : Int)) dX11_all_40 rfl ?_
      refine g_irem (pc := 41) dX11_all_41 (by omega) (by omega) (by omega) ?_
      rw [show (T 4).tmod (M : Int) = ob (T 0) (T 4) M 1 by show _ = (0 * T 0 + T 4) % (M : Int); rw [Int.tmod_eq_emod_of_nonneg t4.1, Int.zero_mul, Int.zero_add]]
      refine g_istore_n (pc := 42) (lo2 := [(0, vR x), (1, vI (i : Int)), (2, vI (M : Int)), (3, vI (ob (T 0) (T 4) M 1))]) dX11_all_42 (by decide) rfl ?_
      refine g_iconst (pc := 43) dX11_all_43 ?_
      refine g_istore (pc := 44) (lo2 := [(0, vR x), (1, vI (i : Int)), (2, vI (M : Int)), (3, vI (ob (T 0) (T 4) M 1)), (4, vI 1)]) dX11_all_44 (by decide) rfl ?_
      refine Q_mono (mal_l (a := T 0) (c := T 4) hM hM2 hi t0 t4 eT0 eM0 hx a5 a6 (M - 1) 1 _ (by omega) rfl (Nat.le_refl _) (fun k z1 z2 => by omega)) ?_
      rintro r9 h2 ⟨rfl, rfl⟩
      exact ⟨by first | rfl | (rw [qM_some eg, if_pos hk]), rp⟩
    · refine g_iconst (pc := 23) dX11_all_23 ?_
      exact r_int (pc := 24) dX11_all_24 rfl rfl (Nat.le_refl _) ⟨by first | rfl | (rw [qM_some eg, if_neg (by omega)]), rp⟩

theorem r_shortest {N x : Nat} {pr ts : Int} {m k : Int} {σ : Nat → Option MSt} {h : MH} {S : Int} {Z : Nat → Int} (hm : i32 m) (hk : i32 k) (hS : ∀ M n T Y P, gt σ m = some (1, M, n, T, Y, P) → (2 ≤ k ∧ k ≤ 4) → isShort (T 0) M k.toNat S Z) (rs0 : RMs N h x σ pr ts) : Ok mX11_shortest 10 0 0 [vR x, vI m, vI k] N h (fun r9 h2 => r9 = some (vI (qM σ m (-1) (fun kd M n T Y P => if kd = 1 ∧ (2 ≤ k ∧ k ≤ 4) then S else -1))) ∧ rP N h h2 x σ pr ts) := by
  refine Ok.of pfX11_shortest rfl (Nat.le_of_ble_eq_true rfl) (fun Ls sx => ?_)
  show G mX11_shortest (10, 0, 0, Ls, sx) 0 [(0, vR x), (1, vI m), (2, vI k)] [] (0, 0, N) h _
  obtain ⟨⟨th, wd, pm, fm, mu, um, hx0⟩, sc0, Th, Kd, Ms, Sz, Tb, Mo, Pl, Pi, ra0⟩ := id rs0
  replace ra0 : RA N h x σ Th Kd Ms Sz Tb Mo Pl Pi := ra0
  refine g_aload_n (pc := 0) (r := .inl (some x)) dX11_shortest_0 rfl ?_
  refine g_iconst (pc := 1) dX11_shortest_1 ?_
  refine g_putf (pc := 2) fpX11_104 dX11_shortest_2 hx0 (okv_int _) (Nat.le_of_ble_eq_true rfl) ?_
  have hx_1 := hx0.self (e := mdl x 0 wd pm fm mu um pr ts)
  show G mX11_shortest _ 5 [(0, vR x), (1, vI m), (2, vI k)] [] _ (va_up h x (mdl x 0 wd pm fm mu um pr ts)) _
  obtain ⟨g, eg0⟩ : ∃ g, g = va_up h x (mdl x 0 wd pm fm mu um pr ts) := ⟨_, rfl⟩
  rw [← eg0] at hx_1 ⊢
  have hx := hx_1
  have kg : ∀ a, a ≠ x → g a = h a := fun a z => by rw [eg0, va_up_ne _ _ z]
  have ra := ra0.keep (h2 := g) (fun a z1 z2 => kg a (by omega))
  have sc := sc0.keep (h2 := g) (fun a z1 z2 => kg a (by omega))
  have mo : MO N g x pr ts := ⟨_, _, _, _, _, _, hx⟩
  have rs : RMs N g x σ pr ts := RMs.of mo sc ra
  have rp : rP N h g x σ pr ts := ⟨rs, fun a z => kg a (by omega)⟩
  refine g_aload_n (pc := 5) (r := .inl (some x)) dX11_shortest_5 rfl ?_
  refine g_iload_n (pc := 6) (x := m) dX11_shortest_6 rfl ?_
  refine g_iload_n (pc := 7) (x := k) dX11_shortest_7 rfl ?_
  refine g_callV0 (pc := 8) (as := [vI m, vI k]) (b := x) (st := []) lvX11_242 dX11_shortest_8 hx (Nat.le_of_ble_eq_true rfl) (by omega) (Nat.zero_le _) (Nat.zero_le _) (c_misNet (d := 8) hm hk hx ra) ?_
  rintro r8 h9 ⟨e9, e8⟩
  subst e9
  subst e8
  rcases eg : gt σ m with _ | ⟨kd, M, n, T, Y, P⟩
  · rw [qM_none eg]
    refine g_if_eqT (pc := 11) (tgt := 23) dX11_shortest_11 (by decide) (by omega) (by omega) ?_
    refine g_iconst (pc := 23) dX11_shortest_23 ?_
    exact r_int (pc := 24) dX11_shortest_24 rfl rfl (Nat.le_refl _) ⟨by first | rfl | (rw [qM_none eg]), rp⟩
  · rw [qM_some eg]
    obtain ⟨i, hi, em, es⟩ := gt_some eg
    subst em
    obtain ⟨a1, a2, a3, a4, a5, a6, a7, a8, ⟨rT, rM, rP9⟩, mi⟩ := id ra
    obtain ⟨ok, eTh, eKd, eMs, eSz, eTb, eMo, ePl, ePi⟩ := (mi i hi).out es
    obtain ⟨hkd, hM, hM2, n1, hn, hk1, hk3, hT, hYb, hPb⟩ := id ok
    have hrow := rs.row hi es
    by_cases hc9 : kd = 1 ∧ (2 ≤ k ∧ k ≤ 4)
    · rw [if_pos hc9]
      refine g_if_eqF (pc := 11) (tgt := 23) dX11_shortest_11 (by decide) (by omega) (by omega) ?_
      obtain ⟨k9, k2, k4⟩ := id hc9
      subst k9
      have hn1 : n = 1 := by first | exact hk1 rfl | omega
      have hsh := hS _ _ _ _ _ eg ⟨k2, k4⟩
      obtain ⟨kk, ek⟩ : ∃ kk : Nat, k = (kk : Int) := ⟨k.toNat, by omega⟩
      subst ek
      rw [Int.toNat_natCast] at hsh
      have t0 := hT 0 0 (by omega) (by omega)
      have eT0 : Tb (16 * i) = T 0 := eTb 0 0 (by omega) (by omega)
      simp only [Nat.mul_zero, Nat.zero_add] at t0
      obtain ⟨s9, s1, s2, s22, ⟨p23, s23⟩, s24, s25⟩ := id sc
      refine g_aload_n (pc := 14) (r := .inl (some x)) dX11_shortest_14 rfl ?_
      refine g_iload_n (pc := 15) (x := (i : Int)) dX11_shortest_15 rfl ?_
      refine g_iload_n (pc := 16) (x := (kk : Int)) dX11_shortest_16 rfl ?_
      refine g_callV0 (pc := 17) (as := [vI (i : Int), vI (kk : Int)]) (b := x) (st := []) lvX11_245 dX11_shortest_17 hx (Nat.le_of_ble_eq_true rfl) (by omega) (Nat.zero_le _) (Nat.zero_le _) (c_shortOf (d := 7) hM hM2 t0 hi (by omega) (by omega) hsh hx a3 a5 eMs eT0 s23) ?_
      rintro r8 h5 ⟨rfl, k5, L2, l5, e5⟩
      have hx5 := hx.keep (k5 x (by omega))
      have rs5 : RMs N h5 x σ pr ts := rs.same ⟨_, _, _, _, _, _, hx5⟩ (by
        obtain ⟨⟨p9, b9⟩, c1, c2, ⟨p22, b22⟩, -, ⟨p24, b24⟩, p25, b25⟩ := id sc
        exact ⟨⟨p9, b9.keep (k5 _ (by omega))⟩, c1.keep (fun a z1 z2 => k5 _ (by omega)), c2.keep (fun a z1 z2 => k5 _ (by omega)), ⟨p22, b22.keep (k5 _ (by omega))⟩, ⟨_, l5⟩, ⟨p24, b24.keep (k5 _ (by omega))⟩, p25, b25.keep (k5 _ (by omega))⟩) (fun a z1 z2 => k5 a (by omega))
      have rp5 : rP N h h5 x σ pr ts := rP.tr kg rs5 (fun a z => k5 a (by omega))
      refine g_goto (pc := 20) (tgt := 24) dX11_shortest_20 (by decide) ?_
      exact r_int (pc := 24) dX11_shortest_24 rfl rfl (Nat.le_refl _) ⟨by first | rfl | (rw [qM_some eg, if_pos ⟨rfl, k2, k4⟩]), rp5⟩
    · rw [if_neg hc9]
      refine g_if_eqT (pc := 11) (tgt := 23) dX11_shortest_11 (by decide) (by omega) (by omega) ?_
      refine g_iconst (pc := 23) dX11_shortest_23 ?_
      exact r_int (pc := 24) dX11_shortest_24 rfl rfl (Nat.le_refl _) ⟨by first | rfl | (rw [qM_some eg, if_neg (by omega)]), rp⟩

theorem r_line {N x : Nat} {pr ts : Int} {m k j : Int} {σ : Nat → Option MSt} {h : MH} {S : Int} {Z : Nat → Int} (hm : i32 m) (hk : i32 k) (hj : i32 j) (hS : ∀ M n T Y P, gt σ m = some (1, M, n, T, Y, P) → (2 ≤ k ∧ k ≤ 4) → isShort (T 0) M k.toNat S Z) (rs0 : RMs N h x σ pr ts) : Ok mX11_line 10 0 0 [vR x, vI m, vI k, vI j] N h (fun r9 h2 => r9 = some (vI (qM σ m 501 (fun kd M n T Y P => if kd = 1 ∧ (2 ≤ k ∧ k ≤ 4) ∧ (0 ≤ j ∧ j < k) then Z j.toNat else 501))) ∧ rP N h h2 x σ pr ts) := by
  refine Ok.of pfX11_line rfl (Nat.le_of_ble_eq_true rfl) (fun Ls sx => ?_)
  show G mX11_line (10, 0, 0, Ls, sx) 0 [(0, vR x), (1, vI m), (2, vI k), (3, vI j)] [] (0, 0, N) h _
  obtain ⟨⟨th, wd, pm, fm, mu, um, hx0⟩, sc0, Th, Kd, Ms, Sz, Tb, Mo, Pl, Pi, ra0⟩ := id rs0
  replace ra0 : RA N h x σ Th Kd Ms Sz Tb Mo Pl Pi := ra0
  refine g_aload_n (pc := 0) (r := .inl (some x)) dX11_line_0 rfl ?_
  refine g_iconst (pc := 1) dX11_line_1 ?_
  refine g_putf (pc := 2) fpX11_104 dX11_line_2 hx0 (okv_int _) (Nat.le_of_ble_eq_true rfl) ?_
  have hx_1 := hx0.self (e := mdl x 0 wd pm fm mu um pr ts)
  show G mX11_line _ 5 [(0, vR x), (1, vI m), (2, vI k), (3, vI j)] [] _ (va_up h x (mdl x 0 wd pm fm mu um pr ts)) _
  obtain ⟨g, eg0⟩ : ∃ g, g = va_up h x (mdl x 0 wd pm fm mu um pr ts) := ⟨_, rfl⟩
  rw [← eg0] at hx_1 ⊢
  have hx := hx_1
  have kg : ∀ a, a ≠ x → g a = h a := fun a z => by rw [eg0, va_up_ne _ _ z]
  have ra := ra0.keep (h2 := g) (fun a z1 z2 => kg a (by omega))
  have sc := sc0.keep (h2 := g) (fun a z1 z2 => kg a (by omega))
  have mo : MO N g x pr ts := ⟨_, _, _, _, _, _, hx⟩
  have rs : RMs N g x σ pr ts := RMs.of mo sc ra
  have rp : rP N h g x σ pr ts := ⟨rs, fun a z => kg a (by omega)⟩
  refine g_aload_n (pc := 5) (r := .inl (some x)) dX11_line_5 rfl ?_
  refine g_iload_n (pc := 6) (x := m) dX11_line_6 rfl ?_
  refine g_iload_n (pc := 7) (x := k) dX11_line_7 rfl ?_
  refine g_callV0 (pc := 8) (as := [vI m, vI k]) (b := x) (st := []) lvX11_242 dX11_line_8 hx (Nat.le_of_ble_eq_true rfl) (by omega) (Nat.zero_le _) (Nat.zero_le _) (c_misNet (d := 8) hm hk hx ra) ?_
  rintro r8 h9 ⟨e9, e8⟩
  subst e9
  subst e8
  rcases eg : gt σ m with _ | ⟨kd, M, n, T, Y, P⟩
  · rw [qM_none eg]
    refine g_if_eqT (pc := 11) (tgt := 23) dX11_line_11 (by decide) (by omega) (by omega) ?_
    refine g_sipush (pc := 23) dX11_line_23 (by decide +kernel) ?_
    exact r_int (pc := 26) dX11_line_26 rfl rfl (Nat.le_refl _) ⟨by first | rfl | (rw [qM_none eg]), rp⟩
  · rw [qM_some eg]
    obtain ⟨i, hi, em, es⟩ := gt_some eg
    subst em
    obtain ⟨a1, a2, a3, a4, a5, a6, a7, a8, ⟨rT, rM, rP9⟩, mi⟩ := id ra
    obtain ⟨ok, eTh, eKd, eMs, eSz, eTb, eMo, ePl, ePi⟩ := (mi i hi).out es
    obtain ⟨hkd, hM, hM2, n1, hn, hk1, hk3, hT, hYb, hPb⟩ := id ok
    have hrow := rs.row hi es
    by_cases hc9 : kd = 1 ∧ (2 ≤ k ∧ k ≤ 4)
    · rw [if_pos hc9]
      refine g_if_eqF (pc := 11) (tgt := 23) dX11_line_11 (by decide) (by omega) (by omega) ?_
      refine g_iload_n (pc := 14) (x := j) dX11_line_14 rfl ?_
      refine g_if_lt (pc := 15) (tgt := 23) dX11_line_15 (by decide) (by omega) (fun k0 => ?_) (fun k0 => ?_)
      · refine g_sipush (pc := 23) dX11_line_23 (by decide +kernel) ?_
        exact r_int (pc := 26) dX11_line_26 rfl rfl (Nat.le_refl _) ⟨by first | rfl | (rw [qM_some eg, if_neg (by omega)]), rp⟩
      · refine g_iload_n (pc := 18) (x := j) dX11_line_18 rfl ?_
        refine g_iload_n (pc := 19) (x := k) dX11_line_19 rfl ?_
        refine g_icmp_lt (pc := 20) (tgt := 27) dX11_line_20 (by decide) (by omega) (by omega) (fun k1 => ?_) (fun k1 => ?_)
        · obtain ⟨k9, k2, k4⟩ := id hc9
          subst k9
          have hn1 : n = 1 := by first | exact hk1 rfl | omega
          have hsh := hS _ _ _ _ _ eg ⟨k2, k4⟩
          obtain ⟨kk, ek⟩ : ∃ kk : Nat, k = (kk : Int) := ⟨k.toNat, by omega⟩
          subst ek
          rw [Int.toNat_natCast] at hsh
          have t0 := hT 0 0 (by omega) (by omega)
          have eT0 : Tb (16 * i) = T 0 := eTb 0 0 (by omega) (by omega)
          simp only [Nat.mul_zero, Nat.zero_add] at t0
          obtain ⟨s9, s1, s2, s22, ⟨p23, s23⟩, s24, s25⟩ := id sc
          obtain ⟨jj, ej⟩ : ∃ jj : Nat, j = (jj : Int) := ⟨j.toNat, by omega⟩
          subst ej
          refine g_aload_n (pc := 27) (r := .inl (some x)) dX11_line_27 rfl ?_
          refine g_iload_n (pc := 28) (x := (i : Int)) dX11_line_28 rfl ?_
          refine g_iload_n (pc := 29) (x := (kk : Int)) dX11_line_29 rfl ?_
          refine g_callV0 (pc := 30) (as := [vI (i : Int), vI (kk : Int)]) (b := x) (st := []) lvX11_245 dX11_line_30 hx (Nat.le_of_ble_eq_true rfl) (by omega) (Nat.zero_le _) (Nat.zero_le _) (c_shortOf (d := 7) hM hM2 t0 hi (by omega) (by omega) hsh hx a3 a5 eMs eT0 s23) ?_
          rintro r8 h5 ⟨rfl, k5, L2, l5, e5⟩
          have hx5 := hx.keep (k5 x (by omega))
          have rs5 : RMs N h5 x σ pr ts := rs.same ⟨_, _, _, _, _, _, hx5⟩ (by
            obtain ⟨⟨p9, b9⟩, c1, c2, ⟨p22, b22⟩, -, ⟨p24, b24⟩, p25, b25⟩ := id sc
            exact ⟨⟨p9, b9.keep (k5 _ (by omega))⟩, c1.keep (fun a z1 z2 => k5 _ (by omega)), c2.keep (fun a z1 z2 => k5 _ (by omega)), ⟨p22, b22.keep (k5 _ (by omega))⟩, ⟨_, l5⟩, ⟨p24, b24.keep (k5 _ (by omega))⟩, p25, b25.keep (k5 _ (by omega))⟩) (fun a z1 z2 => k5 a (by omega))
          have rp5 : rP N h h5 x σ pr ts := rP.tr kg rs5 (fun a z => k5 a (by omega))
          have hS2 := short_bd hM hM2 t0 (by omega) (by omega) hsh
          have hS3 : bndK kk ≤ 1000 := by unfold bndK; split <;> (try split) <;> omega
          refine g_istore (pc := 33) (lo2 := [(0, vR x), (1, vI (i : Int)), (2, vI (kk : Int)), (3, vI (jj : Int)), (4, vI S)]) dX11_line_33 (by decide) rfl ?_
          refine g_iload (pc := 35) (x := S) dX11_line_35 rfl ?_
          refine g_if_leF (pc := 37) (tgt := 49) dX11_line_37 (by decide) (by omega) (by omega) ?_
          refine g_aload_n (pc := 40) (r := .inl (some x)) dX11_line_40 rfl ?_
          refine g_getf (pc := 41) (v := vR (x + 23)) flX11_79 dX11_line_41 hx5 rfl ?_
          refine g_iload_n (pc := 44) (x := (jj : Int)) dX11_line_44 rfl ?_
          refine g_ialdN (pc := 45) (j := jj) dX11_line_45 l5 (by omega) (by omega) (by omega) ?_
          refine g_goto (pc := 46) (tgt := 52) dX11_line_46 (by decide) ?_
          exact r_int (pc := 52) dX11_line_52 rfl rfl (Nat.le_refl _) ⟨by first | rfl | (rw [qM_some eg, if_pos ⟨rfl, ⟨k2, k4⟩, by omega, by omega⟩, e5 jj (by omega), Int.toNat_natCast]), rp5⟩
        · refine g_sipush (pc := 23) dX11_line_23 (by decide +kernel) ?_
          exact r_int (pc := 26) dX11_line_26 rfl rfl (Nat.le_refl _) ⟨by first | rfl | (rw [qM_some eg, if_neg (by omega)]), rp⟩
    · rw [if_neg hc9]
      refine g_if_eqT (pc := 11) (tgt := 23) dX11_line_11 (by decide) (by omega) (by omega) ?_
      refine g_sipush (pc := 23) dX11_line_23 (by decide +kernel) ?_
      exact r_int (pc := 26) dX11_line_26 rfl rfl (Nat.le_refl _) ⟨by first | rfl | (rw [qM_some eg, if_neg (by omega)]), rp⟩
