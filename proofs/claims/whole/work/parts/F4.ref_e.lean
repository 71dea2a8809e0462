/-! ===== the reference: pictures, the told numbers ===== -/
theorem sb_sb {z : Int} (h : 0 ≤ z ∧ z ≤ 255) : sb (sb z) = sb z := by
  have key : ∀ k : Fin 256, sb (sb (k.val : Int)) = sb (k.val : Int) := by decide +kernel
  have := key ⟨z.toNat, by omega⟩
  simpa [Int.toNat_of_nonneg h.1] using this
theorem sb_and {z : Int} (h : 0 ≤ z ∧ z ≤ 255) : (Int32.ofInt (sb z) &&& Int32.ofInt 255).toInt = z := by
  have key : ∀ k : Fin 256, (Int32.ofInt (sb (k.val : Int)) &&& Int32.ofInt 255).toInt = (k.val : Int) := by decide +kernel
  have := key ⟨z.toNat, by omega⟩
  simpa [Int.toNat_of_nonneg h.1] using this

theorem r_paint {N x : Nat} {pr ts : Int} {m u v z : Int} {σ : Nat → Option MSt} {h : MH} (hm : i32 m) (hu : i32 u) (hv : i32 v) (hz : i32 z) (rs0 : RMs N h x σ pr ts) : Ok mX11_paint 10 0 0 [vR x, vI m, vI u, vI v, vI z] N h (fun r9 h2 => r9 = some (vI (qM σ m 0 (fun kd M n T Y P => if kd = 3 ∧ ((0 ≤ u ∧ u < M) ∧ (0 ≤ v ∧ v < M)) ∧ (0 ≤ z ∧ z ≤ 255) then 1 else 0))) ∧ rP N h h2 x (qM σ m σ (fun kd M n T Y P => if kd = 3 ∧ ((0 ≤ u ∧ u < M) ∧ (0 ≤ v ∧ v < M)) ∧ (0 ≤ z ∧ z ≤ 255) then va_up σ m.toNat (some (kd, M, n, T, Y, updP P u.toNat v.toNat z)) else σ)) pr ts) := by
  refine Ok.of pfX11_paint rfl (Nat.le_of_ble_eq_true rfl) (fun Ls sx => ?_)
  show G mX11_paint (10, 0, 0, Ls, sx) 0 [(0, vR x), (1, vI m), (2, vI u), (3, vI v), (4, vI z)] [] (0, 0, N) h _
  obtain ⟨⟨th, wd, pm, fm, mu, um, hx0⟩, sc0, Th, Kd, Ms, Sz, Tb, Mo, Pl, Pi, ra0⟩ := id rs0
  replace ra0 : RA N h x σ Th Kd Ms Sz Tb Mo Pl Pi := ra0
  refine g_aload_n (pc := 0) (r := .inl (some x)) dX11_paint_0 rfl ?_
  refine g_iconst (pc := 1) dX11_paint_1 ?_
  refine g_putf (pc := 2) fpX11_104 dX11_paint_2 hx0 (okv_int _) (Nat.le_of_ble_eq_true rfl) ?_
  have hx_1 := hx0.self (e := mdl x 0 wd pm fm mu um pr ts)
  show G mX11_paint _ 5 [(0, vR x), (1, vI m), (2, vI u), (3, vI v), (4, vI z)] [] _ (va_up h x (mdl x 0 wd pm fm mu um pr ts)) _
  obtain ⟨g, eg0⟩ : ∃ g, g = va_up h x (mdl x 0 wd pm fm mu um pr ts) := ⟨_, rfl⟩
  rw [← eg0] at hx_1 ⊢
  have hx := hx_1
  have kg : ∀ a, a ≠ x → g a = h a := fun a z => by rw [eg0, va_up_ne _ _ z]
  have ra := ra0.keep (h2 := g) (fun a z1 z2 => kg a (by omega))
  have sc := sc0.keep (h2 := g) (fun a z1 z2 => kg a (by omega))
  have mo : MO N g x pr ts := ⟨_, _, _, _, _, _, hx⟩
  have rs : RMs N g x σ pr ts := RMs.of mo sc ra
  have rp : rP N h g x σ pr ts := ⟨rs, fun a z => kg a (by omega)⟩
  refine g_aload_n (pc := 5) (r := .inl (some x)) dX11_paint_5 rfl ?_
  refine g_iload_n (pc := 6) (x := m) dX11_paint_6 rfl ?_
  refine g_iload_n (pc := 7) (x := u) dX11_paint_7 rfl ?_
  refine g_iload_n (pc := 8) (x := v) dX11_paint_8 rfl ?_
  refine g_callV0 (pc := 9) (as := [vI m, vI u, vI v]) (b := x) (st := []) lvX11_251 dX11_paint_9 hx (Nat.le_of_ble_eq_true rfl) (by omega) (Nat.zero_le _) (Nat.zero_le _) (c_misCell (d := 7) hm hu hv hx ra) ?_
  rintro r8 h9 ⟨e9, e8⟩
  subst e9
  subst e8
  rcases eg : gt σ m with _ | ⟨kd, M, n, T, Y, P⟩
  · rw [qM_none eg]
    refine g_if_eqT (pc := 12) (tgt := 28) dX11_paint_12 (by decide) (by omega) (by omega) ?_
    refine g_iconst (pc := 28) dX11_paint_28 ?_
    exact r_bool (pc := 29) dX11_paint_29 rfl rfl (Nat.le_refl _) (Or.inl rfl) ⟨by first | rfl | (rw [qM_none eg]), by rw [qM_none eg]; exact rp⟩
  · rw [qM_some eg]
    obtain ⟨i, hi, em, es⟩ := gt_some eg
    subst em
    obtain ⟨a1, a2, a3, a4, a5, a6, a7, a8, ⟨rT, rM, rP9⟩, mi⟩ := id ra
    obtain ⟨ok, eTh, eKd, eMs, eSz, eTb, eMo, ePl, ePi⟩ := (mi i hi).out es
    obtain ⟨hkd, hM, hM2, n1, hn, hk1, hk3, hT, hYb, hPb⟩ := id ok
    have hrow := rs.row hi es
    by_cases hpc : kd = 3 ∧ ((0 ≤ u ∧ u < M) ∧ (0 ≤ v ∧ v < M))
    · rw [if_pos hpc]
      refine g_if_eqF (pc := 12) (tgt := 28) dX11_paint_12 (by decide) (by omega) (by omega) ?_
      refine g_iload (pc := 15) (x := z) dX11_paint_15 rfl ?_
      refine g_if_lt (pc := 17) (tgt := 28) dX11_paint_17 (by decide) (by omega) (fun k0 => ?_) (fun k0 => ?_)
      · refine g_iconst (pc := 28) dX11_paint_28 ?_
        exact r_bool (pc := 29) dX11_paint_29 rfl rfl (Nat.le_refl _) (Or.inl rfl) ⟨by first | rfl | (rw [qM_some eg, if_neg (by omega)]), by rw [qM_some eg, if_neg (by omega)]; exact rp⟩
      · refine g_iload (pc := 20) (x := z) dX11_paint_20 rfl ?_
        refine g_sipush (pc := 22) dX11_paint_22 (by decide +kernel) ?_
        refine g_icmp_le (pc := 25) (tgt := 30) dX11_paint_25 (by decide) (by omega) (by omega) (fun k1 => ?_) (fun k1 => ?_)
        · obtain ⟨k9, ⟨u0, u1⟩, v0, v1⟩ := id hpc
          obtain ⟨hn2, hM64⟩ := hk3 k9
          obtain ⟨uu, eu⟩ : ∃ uu : Nat, u = (uu : Int) := ⟨u.toNat, by omega⟩
          subst eu
          obtain ⟨vv, ev⟩ : ∃ vv : Nat, v = (vv : Int) := ⟨v.toNat, by omega⟩
          subst ev
          refine g_aload_n (pc := 30) (r := .inl (some x)) dX11_paint_30 rfl ?_
          refine g_getf (pc := 31) (v := vR (x + 8)) flX11_32 dX11_paint_31 hx rfl ?_
          refine g_sipush (pc := 34) dX11_paint_34 (by decide +kernel) ?_
          refine g_iload_n (pc := 37) (x := (i : Int)) dX11_paint_37 rfl ?_
          refine g_imul (pc := 38) dX11_paint_38 ?_
          refine g_bipush (pc := 39) dX11_paint_39 (by decide +kernel) ?_
          refine g_iload_n (pc := 41) (x := (vv : Int)) dX11_paint_41 rfl ?_
          refine g_imul (pc := 42) dX11_paint_42 ?_
          refine g_iadd (pc := 43) dX11_paint_43 ?_
          refine g_iload_n (pc := 44) (x := (uu : Int)) dX11_paint_44 rfl ?_
          refine g_iadd (pc := 45) dX11_paint_45 ?_
          refine g_iload (pc := 46) (x := z) dX11_paint_46 rfl ?_
          refine g_i2b (pc := 48) dX11_paint_48 ?_
          refine g_bastN (pc := 49) (j := ((4096 * i) + (64 * vv)) + uu) dX11_paint_49 a8 (by omega) (by omega) (by omega) ?_
          have hx_2 := hx.ne (e := eA 1 24576 (va_up Pi (((4096 * i) + (64 * vv)) + uu) ((Int32.ofInt ((Int32.ofInt z).toInt8.toInt32.toInt)).toInt8.toInt32.toInt))) (a := x + 8) (by omega)
          have a1_2 := a1.ne (e := eA 1 24576 (va_up Pi (((4096 * i) + (64 * vv)) + uu) ((Int32.ofInt ((Int32.ofInt z).toInt8.toInt32.toInt)).toInt8.toInt32.toInt))) (a := x + 8) (by omega)
          have a2_2 := a2.ne (e := eA 1 24576 (va_up Pi (((4096 * i) + (64 * vv)) + uu) ((Int32.ofInt ((Int32.ofInt z).toInt8.toInt32.toInt)).toInt8.toInt32.toInt))) (a := x + 8) (by omega)
          have a3_2 := a3.ne (e := eA 1 24576 (va_up Pi (((4096 * i) + (64 * vv)) + uu) ((Int32.ofInt ((Int32.ofInt z).toInt8.toInt32.toInt)).toInt8.toInt32.toInt))) (a := x + 8) (by omega)
          have a4_2 := a4.ne (e := eA 1 24576 (va_up Pi (((4096 * i) + (64 * vv)) + uu) ((Int32.ofInt ((Int32.ofInt z).toInt8.toInt32.toInt)).toInt8.toInt32.toInt))) (a := x + 8) (by omega)
          have a5_2 := a5.ne (e := eA 1 24576 (va_up Pi (((4096 * i) + (64 * vv)) + uu) ((Int32.ofInt ((Int32.ofInt z).toInt8.toInt32.toInt)).toInt8.toInt32.toInt))) (a := x + 8) (by omega)
          have a6_2 := a6.ne (e := eA 1 24576 (va_up Pi (((4096 * i) + (64 * vv)) + uu) ((Int32.ofInt ((Int32.ofInt z).toInt8.toInt32.toInt)).toInt8.toInt32.toInt))) (a := x + 8) (by omega)
          have a7_2 := a7.ne (e := eA 1 24576 (va_up Pi (((4096 * i) + (64 * vv)) + uu) ((Int32.ofInt ((Int32.ofInt z).toInt8.toInt32.toInt)).toInt8.toInt32.toInt))) (a := x + 8) (by omega)
          have a8_2 := a8.self (e := eA 1 24576 (va_up Pi (((4096 * i) + (64 * vv)) + uu) ((Int32.ofInt ((Int32.ofInt z).toInt8.toInt32.toInt)).toInt8.toInt32.toInt)))
          refine g_iconst (pc := 50) dX11_paint_50 ?_
          have hra : RA N (va_up h9 (x + 8) (eA 1 24576 (va_up Pi (((4096 * i) + (64 * vv)) + uu) ((Int32.ofInt ((Int32.ofInt z).toInt8.toInt32.toInt)).toInt8.toInt32.toInt)))) x (va_up σ i (some (kd, M, n, T, Y, updP P uu vv z))) Th Kd Ms Sz Tb Mo Pl (va_up Pi (4096 * i + 64 * vv + uu) (sb (sb z))) := by
            refine ra.pic hi es a8_2.2 (fun a z1 z2 z3 => va_up_ne _ _ z3) (updP_bd hPb (by omega)) (fun _ x2 y2 z1 z2 => ?_) (fun j z => va_up_ne _ _ (by omega))
            by_cases e : x2 = uu ∧ y2 = vv
            · rw [e.1, e.2, va_up_self, sb_sb (by omega)]
              unfold updP
              rw [if_pos ⟨rfl, rfl⟩]
            · rw [va_up_ne _ _ (by omega)]
              unfold updP
              rw [if_neg e]
              exact ePi k9 x2 y2 z1 z2
          exact r_bool (pc := 51) dX11_paint_51 rfl rfl (Nat.le_refl _) (Or.inr rfl) ⟨by first | rfl | (rw [qM_some eg, if_pos (by omega)]), by rw [qM_some eg, if_pos (by omega)]; simp only [Int.toNat_natCast]; exact rP.tr kg (RMs.of ⟨_, _, _, _, _, _, hx.ne (by omega)⟩ (sc.keep (fun a z1 z2 => va_up_ne _ _ (by omega))) hra) (fun a z => va_up_ne _ _ (by omega))⟩
        · refine g_iconst (pc := 28) dX11_paint_28 ?_
          exact r_bool (pc := 29) dX11_paint_29 rfl rfl (Nat.le_refl _) (Or.inl rfl) ⟨by first | rfl | (rw [qM_some eg, if_neg (by omega)]), by rw [qM_some eg, if_neg (by omega)]; exact rp⟩
    · rw [if_neg hpc]
      refine g_if_eqT (pc := 12) (tgt := 28) dX11_paint_12 (by decide) (by omega) (by omega) ?_
      refine g_iconst (pc := 28) dX11_paint_28 ?_
      exact r_bool (pc := 29) dX11_paint_29 rfl rfl (Nat.le_refl _) (Or.inl rfl) ⟨by first | rfl | (rw [qM_some eg, if_neg (fun z => hpc ⟨z.1, z.2.1⟩)]), by rw [qM_some eg, if_neg (fun z => hpc ⟨z.1, z.2.1⟩)]; exact rp⟩

theorem r_picture {N x : Nat} {pr ts : Int} {m u v : Int} {σ : Nat → Option MSt} {h : MH} (hm : i32 m) (hu : i32 u) (hv : i32 v) (rs0 : RMs N h x σ pr ts) : Ok mX11_picture 10 0 0 [vR x, vI m, vI u, vI v] N h (fun r9 h2 => r9 = some (vI (qM σ m (-1) (fun kd M n T Y P => if kd = 3 ∧ ((0 ≤ u ∧ u < M) ∧ (0 ≤ v ∧ v < M)) then P u.toNat v.toNat else -1))) ∧ rP N h h2 x σ pr ts) := by
  refine Ok.of pfX11_picture rfl (Nat.le_of_ble_eq_true rfl) (fun Ls sx => ?_)
  show G mX11_picture (10, 0, 0, Ls, sx) 0 [(0, vR x), (1, vI m), (2, vI u), (3, vI v)] [] (0, 0, N) h _
  obtain ⟨⟨th, wd, pm, fm, mu, um, hx0⟩, sc0, Th, Kd, Ms, Sz, Tb, Mo, Pl, Pi, ra0⟩ := id rs0
  replace ra0 : RA N h x σ Th Kd Ms Sz Tb Mo Pl Pi := ra0
  refine g_aload_n (pc := 0) (r := .inl (some x)) dX11_picture_0 rfl ?_
  refine g_iconst (pc := 1) dX11_picture_1 ?_
  refine g_putf (pc := 2) fpX11_104 dX11_picture_2 hx0 (okv_int _) (Nat.le_of_ble_eq_true rfl) ?_
  have hx_1 := hx0.self (e := mdl x 0 wd pm fm mu um pr ts)
  show G mX11_picture _ 5 [(0, vR x), (1, vI m), (2, vI u), (3, vI v)] [] _ (va_up h x (mdl x 0 wd pm fm mu um pr ts)) _
  obtain ⟨g, eg0⟩ : ∃ g, g = va_up h x (mdl x 0 wd pm fm mu um pr ts) := ⟨_, rfl⟩
  rw [← eg0] at hx_1 ⊢
  have hx := hx_1
  have kg : ∀ a, a ≠ x → g a = h a := fun a z => by rw [eg0, va_up_ne _ _ z]
  have ra := ra0.keep (h2 := g) (fun a z1 z2 => kg a (by omega))
  have sc := sc0.keep (h2 := g) (fun a z1 z2 => kg a (by omega))
  have mo : MO N g x pr ts := ⟨_, _, _, _, _, _, hx⟩
  have rs : RMs N g x σ pr ts := RMs.of mo sc ra
  have rp : rP N h g x σ pr ts := ⟨rs, fun a z => kg a (by omega)⟩
  refine g_aload_n (pc := 5) (r := .inl (some x)) dX11_picture_5 rfl ?_
  refine g_iload_n (pc := 6) (x := m) dX11_picture_6 rfl ?_
  refine g_iload_n (pc := 7) (x := u) dX11_picture_7 rfl ?_
  refine g_iload_n (pc := 8) (x := v) dX11_picture_8 rfl ?_
  refine g_callV0 (pc := 9) (as := [vI m, vI u, vI v]) (b := x) (st := []) lvX11_251 dX11_picture_9 hx (Nat.le_of_ble_eq_true rfl) (by omega) (Nat.zero_le _) (Nat.zero_le _) (c_misCell (d := 7) hm hu hv hx ra) ?_
  rintro r8 h9 ⟨e9, e8⟩
  subst e9
  subst e8
  rcases eg : gt σ m with _ | ⟨kd, M, n, T, Y, P⟩
  · rw [qM_none eg]
    refine g_if_eqT (pc := 12) (tgt := 39) dX11_picture_12 (by decide) (by omega) (by omega) ?_
    refine g_iconst (pc := 39) dX11_picture_39 ?_
    exact r_int (pc := 40) dX11_picture_40 rfl rfl (Nat.le_refl _) ⟨by first | rfl | (rw [qM_none eg]), rp⟩
  · rw [qM_some eg]
    obtain ⟨i, hi, em, es⟩ := gt_some eg
    subst em
    obtain ⟨a1, a2, a3, a4, a5, a6, a7, a8, ⟨rT, rM, rP9⟩, mi⟩ := id ra
    obtain ⟨ok, eTh, eKd, eMs, eSz, eTb, eMo, ePl, ePi⟩ := (mi i hi).out es
    obtain ⟨hkd, hM, hM2, n1, hn, hk1, hk3, hT, hYb, hPb⟩ := id ok
    have hrow := rs.row hi es
    by_cases hpc : kd = 3 ∧ ((0 ≤ u ∧ u < M) ∧ (0 ≤ v ∧ v < M))
    · rw [if_pos hpc]
      refine g_if_eqF (pc := 12) (tgt := 39) dX11_picture_12 (by decide) (by omega) (by omega) ?_
      obtain ⟨k9, ⟨u0, u1⟩, v0, v1⟩ := id hpc
      obtain ⟨hn2, hM64⟩ := hk3 k9
      obtain ⟨uu, eu⟩ : ∃ uu : Nat, u = (uu : Int) := ⟨u.toNat, by omega⟩
      subst eu
      obtain ⟨vv, ev⟩ : ∃ vv : Nat, v = (vv : Int) := ⟨v.toNat, by omega⟩
      subst ev
      refine g_aload_n (pc := 15) (r := .inl (some x)) dX11_picture_15 rfl ?_
      refine g_getf (pc := 16) (v := vR (x + 8)) flX11_32 dX11_picture_16 hx rfl ?_
      refine g_sipush (pc := 19) dX11_picture_19 (by decide +kernel) ?_
      refine g_iload_n (pc := 22) (x := (i : Int)) dX11_picture_22 rfl ?_
      refine g_imul (pc := 23) dX11_picture_23 ?_
      refine g_bipush (pc := 24) dX11_picture_24 (by decide +kernel) ?_
      refine g_iload_n (pc := 26) (x := (vv : Int)) dX11_picture_26 rfl ?_
      refine g_imul (pc := 27) dX11_picture_27 ?_
      refine g_iadd (pc := 28) dX11_picture_28 ?_
      refine g_iload_n (pc := 29) (x := (uu : Int)) dX11_picture_29 rfl ?_
      refine g_iadd (pc := 30) dX11_picture_30 ?_
      refine g_baldN (pc := 31) (j := ((4096 * i) + (64 * vv)) + uu) dX11_picture_31 a8 (by omega) (by omega) (by omega) ?_
      rw [ePi k9 uu vv (by omega) (by omega)]
      refine g_sipush (pc := 32) dX11_picture_32 (by decide +kernel) ?_
      refine g_iand (pc := 35) dX11_picture_35 ?_
      rw [sb_and (hPb uu vv)]
      refine g_goto (pc := 36) (tgt := 40) dX11_picture_36 (by decide) ?_
      exact r_int (pc := 40) dX11_picture_40 rfl rfl (Nat.le_refl _) ⟨by first | rfl | (rw [qM_some eg, if_pos hpc]; simp only [Int.toNat_natCast]), rp⟩
    · rw [if_neg hpc]
      refine g_if_eqT (pc := 12) (tgt := 39) dX11_picture_12 (by decide) (by omega) (by omega) ?_
      refine g_iconst (pc := 39) dX11_picture_39 ?_
      exact r_int (pc := 40) dX11_picture_40 rfl rfl (Nat.le_refl _) ⟨by first | rfl | (rw [qM_some eg, if_neg hpc]), rp⟩

theorem r_move {N x : Nat} {pr ts : Int} {m t : Int} {σ : Nat → Option MSt} {h : MH} {W : Nat} (hm : i32 m) (ht : i64 t) (hW : ∀ M n T Y P, gt σ m = some (3, M, n, T, Y, P) → isPer (mp (n + 1) M (au n T)) 32 W ∧ W ≤ 8000000000000000000) (rs0 : RMs N h x σ pr ts) : Ok mX11_move 10 0 0 [vR x, vI m, vJ t] N h (fun r9 h2 => r9 = some (vI (qM σ m 0 (fun kd M n T Y P => if kd = 3 ∧ 0 ≤ t ∧ Nat.gcd M (detF n T % (M : Int)).toNat = 1 then 1 else 0))) ∧ rP N h h2 x (qM σ m σ (fun kd M n T Y P => if kd = 3 ∧ 0 ≤ t ∧ Nat.gcd M (detF n T % (M : Int)).toNat = 1 then va_up σ m.toNat (some (kd, M, n, T, Y, mvd M W T P t.toNat)) else σ)) pr ts) := by
  refine Ok.of pfX11_move rfl (Nat.le_of_ble_eq_true rfl) (fun Ls sx => ?_)
  show G mX11_move (10, 0, 0, Ls, sx) 0 [(0, vR x), (1, vI m), (2, vJ t)] [] (0, 0, N) h _
  obtain ⟨⟨th, wd, pm, fm, mu, um, hx0⟩, sc0, Th, Kd, Ms, Sz, Tb, Mo, Pl, Pi, ra0⟩ := id rs0
  replace ra0 : RA N h x σ Th Kd Ms Sz Tb Mo Pl Pi := ra0
  refine g_aload_n (pc := 0) (r := .inl (some x)) dX11_move_0 rfl ?_
  refine g_iconst (pc := 1) dX11_move_1 ?_
  refine g_putf (pc := 2) fpX11_104 dX11_move_2 hx0 (okv_int _) (Nat.le_of_ble_eq_true rfl) ?_
  have hx_1 := hx0.self (e := mdl x 0 wd pm fm mu um pr ts)
  show G mX11_move _ 5 [(0, vR x), (1, vI m), (2, vJ t)] [] _ (va_up h x (mdl x 0 wd pm fm mu um pr ts)) _
  obtain ⟨g, eg0⟩ : ∃ g, g = va_up h x (mdl x 0 wd pm fm mu um pr ts) := ⟨_, rfl⟩
  rw [← eg0] at hx_1 ⊢
  have hx := hx_1
  have kg : ∀ a, a ≠ x → g a = h a := fun a z => by rw [eg0, va_up_ne _ _ z]
  have ra := ra0.keep (h2 := g) (fun a z1 z2 => kg a (by omega))
  have sc := sc0.keep (h2 := g) (fun a z1 z2 => kg a (by omega))
  have mo : MO N g x pr ts := ⟨_, _, _, _, _, _, hx⟩
  have rs : RMs N g x σ pr ts := RMs.of mo sc ra
  have rp : rP N h g x σ pr ts := ⟨rs, fun a z => kg a (by omega)⟩
  refine g_aload_n (pc := 5) (r := .inl (some x)) dX11_move_5 rfl ?_
  refine g_iload_n (pc := 6) (x := m) dX11_move_6 rfl ?_
  refine g_callV0 (pc := 7) (as := [vI m]) (b := x) (st := []) lvX11_248 dX11_move_7 hx (Nat.le_of_ble_eq_true rfl) (by omega) (Nat.zero_le _) (Nat.zero_le _) (c_misPicture (d := 8) hm hx ra) ?_
  rintro r8 h9 ⟨e9, e8⟩
  subst e9
  subst e8
  rcases eg : gt σ m with _ | ⟨kd, M, n, T, Y, P⟩
  · rw [qM_none eg]
    refine g_if_eqT (pc := 10) (tgt := 27) dX11_move_10 (by decide) (by omega) (by omega) ?_
    refine g_iconst (pc := 27) dX11_move_27 ?_
    exact r_bool (pc := 28) dX11_move_28 rfl rfl (Nat.le_refl _) (Or.inl rfl) ⟨by first | rfl | (rw [qM_none eg]), by rw [qM_none eg]; exact rp⟩
  · rw [qM_some eg]
    obtain ⟨i, hi, em, es⟩ := gt_some eg
    subst em
    obtain ⟨a1, a2, a3, a4, a5, a6, a7, a8, ⟨rT, rM, rP9⟩, mi⟩ := id ra
    obtain ⟨ok, eTh, eKd, eMs, eSz, eTb, eMo, ePl, ePi⟩ := (mi i hi).out es
    obtain ⟨hkd, hM, hM2, n1, hn, hk1, hk3, hT, hYb, hPb⟩ := id ok
    have hrow := rs.row hi es
    by_cases hpc : kd = 3
    · rw [if_pos hpc]
      refine g_if_eqF (pc := 10) (tgt := 27) dX11_move_10 (by decide) (by omega) (by omega) ?_
      refine g_lload_n (pc := 13) (x := t) dX11_move_13 rfl ?_
      refine g_lconst0 (pc := 14) dX11_move_14 ?_
      refine g_lif_lt (pc := 15) (tgt := 27) dX11_move_15 dX11_move_16 (by decide) (by omega) (by omega) (fun k0 => ?_) (fun k0 => ?_)
      · refine g_iconst (pc := 27) dX11_move_27 ?_
        exact r_bool (pc := 28) dX11_move_28 rfl rfl (Nat.le_refl _) (Or.inl rfl) ⟨by first | rfl | (rw [qM_some eg, if_neg (fun z => absurd z.2.1 (by omega))]), by rw [qM_some eg, if_neg (fun z => absurd z.2.1 (by omega))]; exact rp⟩
      · refine g_aload_n (pc := 19) (r := .inl (some x)) dX11_move_19 rfl ?_
        refine g_iload_n (pc := 20) (x := (i : Int)) dX11_move_20 rfl ?_
        refine g_callV0 (pc := 21) (as := [vI (i : Int)]) (b := x) (st := []) lvX11_161 dX11_move_21 hx (Nat.le_of_ble_eq_true rfl) (by omega) (Nat.zero_le _) (Nat.zero_le _) (c_isTurnable (d := 7) n1 hn hM hM2 hi mo hrow) ?_
        rintro r8 h9 ⟨e9, e8⟩
        subst e9
        subst e8
        by_cases hgb : Nat.gcd M (detF n T % (M : Int)).toNat = 1
        · rw [if_pos hgb]
          refine g_if_neT (pc := 24) (tgt := 29) dX11_move_24 (by decide) (by omega) (by omega) ?_
          subst hpc
          obtain ⟨hn2, hM64⟩ := hk3 rfl
          subst hn2
          obtain ⟨hw1, hw2⟩ := hW _ _ _ _ _ eg
          obtain ⟨d9, hd9⟩ := det_inv hM hgb
          have hW0 : isPer (mp 3 M (au 2 T)) 0 W := inv_per n1 hn (by omega) hd9 hw1
          obtain ⟨⟨p9, s9⟩, ⟨⟨f10, s10, r10⟩, ⟨f11, s11, r11⟩, ⟨f12, s12, r12⟩, ⟨f13, s13, r13⟩, ⟨f14, s14, r14⟩, ⟨p15, s15⟩, ⟨p16, s16⟩, ⟨p17, s17⟩, ⟨p18, s18⟩⟩, s2, ⟨p22, s22⟩, ⟨p23, s23⟩, ⟨p24, s24⟩, ⟨p25, s25⟩⟩ := id sc
          obtain ⟨tt, et⟩ : ∃ tt : Nat, t = (tt : Int) := ⟨t.toNat, by omega⟩
          subst et
          refine g_aload_n (pc := 29) (r := .inl (some x)) dX11_move_29 rfl ?_
          refine g_getf (pc := 30) (v := vR (x + 3)) flX11_17 dX11_move_30 hx rfl ?_
          refine g_iload_n (pc := 33) (x := (i : Int)) dX11_move_33 rfl ?_
          refine g_ialdN (pc := 34) (j := i) dX11_move_34 a3 (by omega) (by omega) (by omega) ?_
          rw [eMs]
          refine g_istore (pc := 35) (lo2 := [(0, vR x), (1, vI (i : Int)), (2, vJ (tt : Int)), (4, vI (M : Int))]) dX11_move_35 (by decide) rfl ?_
          refine g_aload_n (pc := 37) (r := .inl (some x)) dX11_move_37 rfl ?_
          refine g_iload_n (pc := 38) (x := (i : Int)) dX11_move_38 rfl ?_
          refine g_lload_n (pc := 39) (x := (tt : Int)) dX11_move_39 rfl ?_
          refine g_iload (pc := 40) (x := (M : Int)) dX11_move_40 rfl ?_
          refine g_callV0 (pc := 42) (as := [vI (i : Int), vJ (tt : Int), vI (M : Int)]) (b := x) (st := []) lvX11_133 dX11_move_42 hx (Nat.le_of_ble_eq_true rfl) (by omega) (Nat.zero_le _) (Nat.zero_le _) (c_powers (t := tt) (d := 8) hn hi (by omega) hM2 rT rM eSz (by omega) r10 r11 r12 hx a4 a5 a6 s10 s11 s12) ?_
          rintro r8 h3 ⟨rfl, k3, o1, ⟨B2, o10, rB2⟩, ⟨T2, o12, rT2⟩, P2, o11, rP2, e2⟩
          rw [ba_au hn eTb eMo] at e2
          have hx3 : Hd (0, 0, N) h3 x (mdl x 0 ((2 + 1 : Nat) : Int) pm fm mu um pr ts) := ⟨hx.1, o1⟩
          have b11 : Hd (0, 0, N) h3 (x + 11) (eA 0 25 P2) := ⟨s11.1, o11⟩
          have b8 := a8.keep (k3 _ (by omega) (by omega) (by omega) (by omega))
          refine g_iconst (pc := 45) dX11_move_45 ?_
          refine g_istore (pc := 46) (lo2 := [(0, vR x), (1, vI (i : Int)), (2, vJ (tt : Int)), (4, vI (M : Int)), (5, vI 0)]) dX11_move_46 (by decide) rfl ?_
          refine Q_mono (mmv_1 (d := 8) (A := stB M T tt) (P := P) (P2 := mvd M W T P tt) hM hM64 hi (fun x2 y2 => hPb _ _) (fun x2 y2 z1 z2 => mvd_at hM hW0 tt z1 z2) (fun x2 y2 z1 z2 => mvd_sur hM hW0 tt z1 z2) (fun x2 y2 z1 z2 => ePi rfl x2 y2 z1 z2) hx3 b11 rP2 e2 b8 M 0 0 _ h3 (by omega) rfl (s9.keep (k3 _ (by omega) (by omega) (by omega) (by omega))) ⟨_, s13.keep (k3 _ (by omega) (by omega) (by omega) (by omega)), r13⟩ ⟨_, s14.keep (k3 _ (by omega) (by omega) (by omega) (by omega)), r14⟩ (fun x0 y0 z1 z2 z3 => by omega) (fun a z1 z2 z3 => rfl)) ?_
          rintro r9 h5 ⟨rfl, q13, q14, ⟨mv2, q9⟩, ⟨Pi2, q8, e8, f8⟩, k5⟩
          have kk : ∀ a, a ≠ x → a ≠ x + 8 → a ≠ x + 9 → (a < x + 10 ∨ x + 14 < a) → h5 a = h9 a := fun a z1 z2 z3 z4 => (k5 a z2 z3 (by omega) (by omega)).trans (k3 a z1 (by omega) (by omega) (by omega))
          have rs5 : RMs N h5 x (va_up σ i (some (3, M, 2, T, Y, mvd M W T P tt))) pr ts := RMs.of ⟨_, _, _, _, _, _, hx3.keep (k5 x (by omega) (by omega) (by omega) (by omega))⟩ ⟨⟨_, q9⟩, ⟨⟨_, ⟨s10.1, (k5 _ (by omega) (by omega) (by omega) (by omega)).trans o10⟩, rB2⟩, ⟨_, b11.keep (k5 _ (by omega) (by omega) (by omega) (by omega)), rP2⟩, ⟨_, ⟨s12.1, (k5 _ (by omega) (by omega) (by omega) (by omega)).trans o12⟩, rT2⟩, q13, q14, ⟨_, s15.keep (kk _ (by omega) (by omega) (by omega) (by omega))⟩, ⟨_, s16.keep (kk _ (by omega) (by omega) (by omega) (by omega))⟩, ⟨_, s17.keep (kk _ (by omega) (by omega) (by omega) (by omega))⟩, ⟨_, s18.keep (kk _ (by omega) (by omega) (by omega) (by omega))⟩⟩, s2.keep (fun a z1 z2 => kk a (by omega) (by omega) (by omega) (by omega)), ⟨_, s22.keep (kk _ (by omega) (by omega) (by omega) (by omega))⟩, ⟨_, s23.keep (kk _ (by omega) (by omega) (by omega) (by omega))⟩, ⟨_, s24.keep (kk _ (by omega) (by omega) (by omega) (by omega))⟩, ⟨_, s25.keep (kk _ (by omega) (by omega) (by omega) (by omega))⟩⟩ (ra.pic hi es q8.2 (fun a z1 z2 z3 => kk a (by omega) (by omega) (by omega) (by omega)) (fun x2 y2 => hPb _ _) (fun _ => e8) f8)
          exact ⟨by first | rfl | (rw [qM_some eg, if_pos ⟨rfl, by omega, hgb⟩]), by rw [qM_some eg, if_pos ⟨rfl, by omega, hgb⟩]; simp only [Int.toNat_natCast]; exact rP.tr kg rs5 (fun a z => kk a (by omega) (by omega) (by omega) (by omega))⟩
        · rw [if_neg hgb]
          refine g_if_neF (pc := 24) (tgt := 29) dX11_move_24 (by decide) (by omega) (by omega) ?_
          refine g_iconst (pc := 27) dX11_move_27 ?_
          exact r_bool (pc := 28) dX11_move_28 rfl rfl (Nat.le_refl _) (Or.inl rfl) ⟨by first | rfl | (rw [qM_some eg, if_neg (fun z => hgb z.2.2)]), by rw [qM_some eg, if_neg (fun z => hgb z.2.2)]; exact rp⟩
    · rw [if_neg hpc]
      refine g_if_eqT (pc := 10) (tgt := 27) dX11_move_10 (by decide) (by omega) (by omega) ?_
      refine g_iconst (pc := 27) dX11_move_27 ?_
      exact r_bool (pc := 28) dX11_move_28 rfl rfl (Nat.le_refl _) (Or.inl rfl) ⟨by first | rfl | (rw [qM_some eg, if_neg (fun z => hpc z.1)]), by rw [qM_some eg, if_neg (fun z => hpc z.1)]; exact rp⟩

theorem r_seen {N x : Nat} {pr ts : Int} {m : Int} {σ : Nat → Option MSt} {h : MH} {W D : Nat} (hm : i32 m) (hW : ∀ M n T Y P, gt σ m = some (3, M, n, T, Y, P) → isPer (mp (n + 1) M (au n T)) 32 W ∧ W ≤ 8000000000000000000) (hD : ∀ M n T Y P, gt σ m = some (3, M, n, T, Y, P) → Nat.gcd M (detF n T % (M : Int)).toNat = 1 → isPer (pcs M T P) 0 D ∧ D ∣ W) (rs0 : RMs N h x σ pr ts) : Ok mX11_seen 10 0 0 [vR x, vI m] N h (fun r9 h2 => r9 = some (vJ (qM σ m (-1) (fun kd M n T Y P => if kd = 3 ∧ Nat.gcd M (detF n T % (M : Int)).toNat = 1 then (D : Int) else -1))) ∧ rP N h h2 x σ pr ts) := by
  refine Ok.of pfX11_seen rfl (Nat.le_of_ble_eq_true rfl) (fun Ls sx => ?_)
  show G mX11_seen (10, 0, 0, Ls, sx) 0 [(0, vR x), (1, vI m)] [] (0, 0, N) h _
  obtain ⟨⟨th, wd, pm, fm, mu, um, hx0⟩, sc0, Th, Kd, Ms, Sz, Tb, Mo, Pl, Pi, ra0⟩ := id rs0
  replace ra0 : RA N h x σ Th Kd Ms Sz Tb Mo Pl Pi := ra0
  refine g_aload_n (pc := 0) (r := .inl (some x)) dX11_seen_0 rfl ?_
  refine g_iconst (pc := 1) dX11_seen_1 ?_
  refine g_putf (pc := 2) fpX11_104 dX11_seen_2 hx0 (okv_int _) (Nat.le_of_ble_eq_true rfl) ?_
  have hx_1 := hx0.self (e := mdl x 0 wd pm fm mu um pr ts)
  show G mX11_seen _ 5 [(0, vR x), (1, vI m)] [] _ (va_up h x (mdl x 0 wd pm fm mu um pr ts)) _
  obtain ⟨g, eg0⟩ : ∃ g, g = va_up h x (mdl x 0 wd pm fm mu um pr ts) := ⟨_, rfl⟩
  rw [← eg0] at hx_1 ⊢
  have hx := hx_1
  have kg : ∀ a, a ≠ x → g a = h a := fun a z => by rw [eg0, va_up_ne _ _ z]
  have ra := ra0.keep (h2 := g) (fun a z1 z2 => kg a (by omega))
  have sc := sc0.keep (h2 := g) (fun a z1 z2 => kg a (by omega))
  have mo : MO N g x pr ts := ⟨_, _, _, _, _, _, hx⟩
  have rs : RMs N g x σ pr ts := RMs.of mo sc ra
  have rp : rP N h g x σ pr ts := ⟨rs, fun a z => kg a (by omega)⟩
  refine g_aload_n (pc := 5) (r := .inl (some x)) dX11_seen_5 rfl ?_
  refine g_iload_n (pc := 6) (x := m) dX11_seen_6 rfl ?_
  refine g_callV0 (pc := 7) (as := [vI m]) (b := x) (st := []) lvX11_248 dX11_seen_7 hx (Nat.le_of_ble_eq_true rfl) (by omega) (Nat.zero_le _) (Nat.zero_le _) (c_misPicture (d := 8) hm hx ra) ?_
  rintro r8 h9 ⟨e9, e8⟩
  subst e9
  subst e8
  rcases eg : gt σ m with _ | ⟨kd, M, n, T, Y, P⟩
  · rw [qM_none eg]
    refine g_if_eqT (pc := 10) (tgt := 21) dX11_seen_10 (by decide) (by omega) (by omega) ?_
    refine g_ldc2 (pc := 21) (n := -1) dX11_seen_21 kcX11_206 ?_
    exact r_long (pc := 24) dX11_seen_24 rfl rfl (Nat.le_refl _) ⟨by first | rfl | (rw [qM_none eg]), rp⟩
  · rw [qM_some eg]
    obtain ⟨i, hi, em, es⟩ := gt_some eg
    subst em
    obtain ⟨a1, a2, a3, a4, a5, a6, a7, a8, ⟨rT, rM, rP9⟩, mi⟩ := id ra
    obtain ⟨ok, eTh, eKd, eMs, eSz, eTb, eMo, ePl, ePi⟩ := (mi i hi).out es
    obtain ⟨hkd, hM, hM2, n1, hn, hk1, hk3, hT, hYb, hPb⟩ := id ok
    have hrow := rs.row hi es
    by_cases hpc : kd = 3
    · rw [if_pos hpc]
      refine g_if_eqF (pc := 10) (tgt := 21) dX11_seen_10 (by decide) (by omega) (by omega) ?_
      refine g_aload_n (pc := 13) (r := .inl (some x)) dX11_seen_13 rfl ?_
      refine g_iload_n (pc := 14) (x := (i : Int)) dX11_seen_14 rfl ?_
      refine g_callV0 (pc := 15) (as := [vI (i : Int)]) (b := x) (st := []) lvX11_161 dX11_seen_15 hx (Nat.le_of_ble_eq_true rfl) (by omega) (Nat.zero_le _) (Nat.zero_le _) (c_isTurnable (d := 7) n1 hn hM hM2 hi mo hrow) ?_
      rintro r8 h9 ⟨e9, e8⟩
      subst e9
      subst e8
      by_cases hgb : Nat.gcd M (detF n T % (M : Int)).toNat = 1
      · rw [if_pos hgb]
        refine g_if_neT (pc := 18) (tgt := 25) dX11_seen_18 (by decide) (by omega) (by omega) ?_
        subst hpc
        obtain ⟨hn2, hM64⟩ := hk3 rfl
        subst hn2
        obtain ⟨hw1, hw2⟩ := hW _ _ _ _ _ eg
        obtain ⟨d9, hd9⟩ := det_inv hM hgb
        have hW0 : isPer (mp 3 M (au 2 T)) 0 W := inv_per n1 hn (by omega) hd9 hw1
        obtain ⟨⟨p9, s9⟩, ⟨⟨f10, s10, r10⟩, ⟨f11, s11, r11⟩, ⟨f12, s12, r12⟩, ⟨f13, s13, r13⟩, ⟨f14, s14, r14⟩, ⟨p15, s15⟩, ⟨p16, s16⟩, ⟨p17, s17⟩, ⟨p18, s18⟩⟩, s2, ⟨p22, s22⟩, ⟨p23, s23⟩, ⟨p24, s24⟩, ⟨p25, s25⟩⟩ := id sc
        obtain ⟨hD1, hD2⟩ := hD _ _ _ _ _ eg hgb
        have hDle := Nat.le_of_dvd hw1.1 hD2
        refine g_aload_n (pc := 25) (r := .inl (some x)) dX11_seen_25 rfl ?_
        refine g_getf (pc := 26) (v := vR (x + 3)) flX11_17 dX11_seen_26 hx rfl ?_
        refine g_iload_n (pc := 29) (x := (i : Int)) dX11_seen_29 rfl ?_
        refine g_ialdN (pc := 30) (j := i) dX11_seen_30 a3 (by omega) (by omega) (by omega) ?_
        rw [eMs]
        refine g_istore_n (pc := 31) (lo2 := [(0, vR x), (1, vI (i : Int)), (2, vI (M : Int))]) dX11_seen_31 (by decide) rfl ?_
        refine g_aload_n (pc := 32) (r := .inl (some x)) dX11_seen_32 rfl ?_
        refine g_iload_n (pc := 33) (x := (i : Int)) dX11_seen_33 rfl ?_
        refine g_lconst1 (pc := 34) dX11_seen_34 ?_
        refine g_iload_n (pc := 35) (x := (M : Int)) dX11_seen_35 rfl ?_
        refine g_callV0 (pc := 36) (as := [vI (i : Int), vJ 1, vI (M : Int)]) (b := x) (st := []) lvX11_133 dX11_seen_36 hx (Nat.le_of_ble_eq_true rfl) (by omega) (Nat.zero_le _) (Nat.zero_le _) (c_powers (t := 1) (d := 8) hn hi (by omega) hM2 rT rM eSz (by decide) r10 r11 r12 hx a4 a5 a6 s10 s11 s12) ?_
        rintro r8 h3 ⟨rfl, k3, o1, ⟨B2, o10, rB2⟩, ⟨T2, o12, rT2⟩, P2, o11, rP2, e2⟩
        rw [ba_au hn eTb eMo] at e2
        have hx3 : Hd (0, 0, N) h3 x (mdl x 0 ((2 + 1 : Nat) : Int) pm fm mu um pr ts) := ⟨hx.1, o1⟩
        have b11 : Hd (0, 0, N) h3 (x + 11) (eA 0 25 P2) := ⟨s11.1, o11⟩
        have b8 := a8.keep (k3 _ (by omega) (by omega) (by omega) (by omega))
        refine g_iconst (pc := 39) dX11_seen_39 ?_
        refine g_istore_n (pc := 40) (lo2 := [(0, vR x), (1, vI (i : Int)), (2, vI (M : Int)), (3, vI 0)]) dX11_seen_40 (by decide) rfl ?_
        refine Q_mono (see_r (d := 7) (T := T) (P := P) (W := W) (D := D) hM hM64 hi hW0 hD1 (by omega) hPb (fun x2 y2 z1 z2 => by rw [← Nat.add_assoc]; exact ePi rfl x2 y2 z1 z2) hx3 b11 rP2 e2 b8 4096 0 0 _ _ h3 (by omega) rfl (fun j z => by omega) (s24.keep (k3 _ (by omega) (by omega) (by omega) (by omega))) (s25.keep (k3 _ (by omega) (by omega) (by omega) (by omega))) ⟨_, s13.keep (k3 _ (by omega) (by omega) (by omega) (by omega)), r13⟩ ⟨_, s14.keep (k3 _ (by omega) (by omega) (by omega) (by omega)), r14⟩ (fun a z1 z2 z3 z4 => rfl)) ?_
        rintro r9 h5 ⟨rfl, q13, q14, ⟨Cy2, q24⟩, ⟨Sn2, q25⟩, k5⟩
        have kk : ∀ a, a ≠ x → a ≠ x + 24 → a ≠ x + 25 → (a < x + 10 ∨ x + 14 < a) → h5 a = h9 a := fun a z1 z2 z3 z4 => (k5 a (by omega) (by omega) (by omega) (by omega)).trans (k3 a z1 (by omega) (by omega) (by omega))
        have rs5 : RMs N h5 x σ pr ts := rs.same ⟨_, _, _, _, _, _, hx3.keep (k5 x (by omega) (by omega) (by omega) (by omega))⟩ ⟨⟨_, s9.keep (kk _ (by omega) (by omega) (by omega) (by omega))⟩, ⟨⟨_, ⟨s10.1, (k5 _ (by omega) (by omega) (by omega) (by omega)).trans o10⟩, rB2⟩, ⟨_, b11.keep (k5 _ (by omega) (by omega) (by omega) (by omega)), rP2⟩, ⟨_, ⟨s12.1, (k5 _ (by omega) (by omega) (by omega) (by omega)).trans o12⟩, rT2⟩, q13, q14, ⟨_, s15.keep (kk _ (by omega) (by omega) (by omega) (by omega))⟩, ⟨_, s16.keep (kk _ (by omega) (by omega) (by omega) (by omega))⟩, ⟨_, s17.keep (kk _ (by omega) (by omega) (by omega) (by omega))⟩, ⟨_, s18.keep (kk _ (by omega) (by omega) (by omega) (by omega))⟩⟩, s2.keep (fun a z1 z2 => kk a (by omega) (by omega) (by omega) (by omega)), ⟨_, s22.keep (kk _ (by omega) (by omega) (by omega) (by omega))⟩, ⟨_, s23.keep (kk _ (by omega) (by omega) (by omega) (by omega))⟩, ⟨_, q24⟩, ⟨_, q25⟩⟩ (fun a z1 z2 => kk a (by omega) (by omega) (by omega) (by omega))
        exact ⟨by first | rfl | (rw [qM_some eg, if_pos ⟨rfl, hgb⟩]), rP.tr kg rs5 (fun a z => kk a (by omega) (by omega) (by omega) (by omega))⟩
      · rw [if_neg hgb]
        refine g_if_neF (pc := 18) (tgt := 25) dX11_seen_18 (by decide) (by omega) (by omega) ?_
        refine g_ldc2 (pc := 21) (n := -1) dX11_seen_21 kcX11_206 ?_
        exact r_long (pc := 24) dX11_seen_24 rfl rfl (Nat.le_refl _) ⟨by first | rfl | (rw [qM_some eg, if_neg (fun z => hgb z.2)]), rp⟩
    · rw [if_neg hpc]
      refine g_if_eqT (pc := 10) (tgt := 21) dX11_seen_10 (by decide) (by omega) (by omega) ?_
      refine g_ldc2 (pc := 21) (n := -1) dX11_seen_21 kcX11_206 ?_
      exact r_long (pc := 24) dX11_seen_24 rfl rfl (Nat.le_refl _) ⟨by first | rfl | (rw [qM_some eg, if_neg (fun z => hpc z.1)]), rp⟩

def RT (N : Nat) (h : MH) (x ct : Nat) (s : Nat → Int) : Prop := (∃ Tl, Hd (0, 0, N) h (x + 26) (eA 0 64 Tl) ∧ ∀ n, n < ct → Tl n = s n) ∧ (∃ f, Hd (0, 0, N) h (x + 27) (eA 0 4160 f)) ∧ (∃ f, Hd (0, 0, N) h (x + 28) (eA 0 65 f)) ∧ ∃ f, Hd (0, 0, N) h (x + 29) (eA 0 65 f)
theorem RT.keep {N : Nat} {h h2 : MH} {x ct : Nat} {s : Nat → Int} (t : RT N h x ct s) (k : ∀ a, x + 26 ≤ a → a ≤ x + 29 → h2 a = h a) : RT N h2 x ct s := by
  obtain ⟨⟨a, b, c⟩, ⟨d, e⟩, ⟨f, g⟩, i, j⟩ := t
  exact ⟨⟨a, b.keep (k _ (by omega) (by omega)), c⟩, ⟨d, e.keep (k _ (by omega) (by omega))⟩, ⟨f, g.keep (k _ (by omega) (by omega))⟩, i, j.keep (k _ (by omega) (by omega))⟩
def rT (N : Nat) (h h2 : MH) (x : Nat) (σ : Nat → Option MSt) (pr ts : Int) (ct : Nat) (s : Nat → Int) : Prop := RMs N h2 x σ pr ts ∧ RT N h2 x ct s ∧ ∀ a, (a < x ∨ x + 30 ≤ a) → h2 a = h a

theorem mbg_l {N x p Ls : Nat} {sx : Nat → Int} {h : MH} {Q : Option MV → MR → MH → Prop} (p2 : 2 ≤ p) (hp : p ≤ 499) (hK : (∀ i, 2 ≤ i → i < p → ¬ p % i = 0) → ∀ xj, G mX11_begin (10, 0, 0, Ls, sx) 40 [(0, vR x), (1, vI (p : Int)), (2, vI xj)] [] (0, 0, N) h Q) (hN : ∀ (i : Nat) (xj : Int), 2 ≤ i → i < p → p % i = 0 → G mX11_begin (10, 0, 0, Ls, sx) 32 [(0, vR x), (1, vI (p : Int)), (2, vI xj)] [] (0, 0, N) h Q) : ∀ (f j : Nat) (xj : Int), j + f = p → xj = (j : Int) → 2 ≤ j → (∀ i, 2 ≤ i → i < j → ¬ p % i = 0) → G mX11_begin (10, 0, 0, Ls, sx) 21 [(0, vR x), (1, vI (p : Int)), (2, vI xj)] [] (0, 0, N) h Q := by
  intro f
  induction f with
  | zero =>
    intro j xj hf ej j2 hno
    have e9 : p = j := by omega
    refine g_iload_n (pc := 21) (x := xj) dX11_begin_21 rfl ?_
    refine g_iload_n (pc := 22) (x := (p : Int)) dX11_begin_22 rfl ?_
    refine g_icmp_geT (pc := 23) (tgt := 40) dX11_begin_23 (by decide) (by omega) (by omega) (by omega) ?_
    exact hK (fun i z1 z2 => hno i z1 (by omega)) _
  | succ f ih =>
    intro j xj hf ej j2 hno
    refine g_iload_n (pc := 21) (x := xj) dX11_begin_21 rfl ?_
    refine g_iload_n (pc := 22) (x := (p : Int)) dX11_begin_22 rfl ?_
    refine g_icmp_geF (pc := 23) (tgt := 40) dX11_begin_23 (by decide) (by omega) (by omega) (by omega) ?_
    refine g_iload_n (pc := 26) (x := (p : Int)) dX11_begin_26 rfl ?_
    refine g_iload_n (pc := 27) (x := xj) dX11_begin_27 rfl ?_
    refine g_irem (pc := 28) dX11_begin_28 (by omega) (by omega) (by omega) ?_
    rw [tmodN (x := p) (y := j) rfl ej]
    have hlt := Nat.mod_lt p (show 0 < j by omega)
    refine g_if_ne (pc := 29) (tgt := 34) dX11_begin_29 (by decide) (by omega) (fun k0 => ?_) (fun k0 => ?_)
    · refine g_iinc (pc := 34) (x := xj) (lo2 := [(0, vR x), (1, vI (p : Int)), (2, vI (xj + 1))]) dX11_begin_34 rfl (by decide) rfl ?_
      refine g_goto (pc := 37) (tgt := 21) dX11_begin_37 (by decide) ?_
      exact ih (j + 1) (xj + 1) (by omega) (by omega) (by omega) (fun i z1 z2 => by
        by_cases e : i = j
        · rw [e]
          omega
        · exact hno i z1 (by omega))
    · exact hN j _ j2 (by omega) (by omega)

theorem r_begin {N x : Nat} {pr ts : Int} {v : Int} {σ : Nat → Option MSt} {h : MH} {ct : Nat} {s : Nat → Int} (hv : i32 v) (rt0 : RT N h x ct s) (rs0 : RMs N h x σ pr ts) : Ok mX11_begin 10 0 0 [vR x, vI v] N h (fun r9 h2 => (¬ tprime v ∧ r9 = some (vI 0) ∧ rT N h h2 x σ pr ts ct s) ∨ (tprime v ∧ r9 = some (vI 1) ∧ rT N h h2 x σ v 0 0 s)) := by
  refine Ok.of pfX11_begin rfl (Nat.le_of_ble_eq_true rfl) (fun Ls sx => ?_)
  show G mX11_begin (10, 0, 0, Ls, sx) 0 [(0, vR x), (1, vI v)] [] (0, 0, N) h _
  obtain ⟨⟨th, wd, pm, fm, mu, um, hx0⟩, sc0, Th, Kd, Ms, Sz, Tb, Mo, Pl, Pi, ra0⟩ := id rs0
  replace ra0 : RA N h x σ Th Kd Ms Sz Tb Mo Pl Pi := ra0
  refine g_aload_n (pc := 0) (r := .inl (some x)) dX11_begin_0 rfl ?_
  refine g_iconst (pc := 1) dX11_begin_1 ?_
  refine g_putf (pc := 2) fpX11_104 dX11_begin_2 hx0 (okv_int _) (Nat.le_of_ble_eq_true rfl) ?_
  have hx_1 := hx0.self (e := mdl x 0 wd pm fm mu um pr ts)
  show G mX11_begin _ 5 [(0, vR x), (1, vI v)] [] _ (va_up h x (mdl x 0 wd pm fm mu um pr ts)) _
  obtain ⟨g, eg0⟩ : ∃ g, g = va_up h x (mdl x 0 wd pm fm mu um pr ts) := ⟨_, rfl⟩
  rw [← eg0] at hx_1 ⊢
  have hx := hx_1
  have kg : ∀ a, a ≠ x → g a = h a := fun a z => by rw [eg0, va_up_ne _ _ z]
  have ra := ra0.keep (h2 := g) (fun a z1 z2 => kg a (by omega))
  have sc := sc0.keep (h2 := g) (fun a z1 z2 => kg a (by omega))
  have mo : MO N g x pr ts := ⟨_, _, _, _, _, _, hx⟩
  have rs : RMs N g x σ pr ts := RMs.of mo sc ra
  have rp : rP N h g x σ pr ts := ⟨rs, fun a z => kg a (by omega)⟩
  have rt : RT N g x ct s := rt0.keep (fun a z1 z2 => kg a (by omega))
  have rt9 : rT N h g x σ pr ts ct s := ⟨rs, rt, fun a z => kg a (by omega)⟩
  refine g_iload_n (pc := 5) (x := v) dX11_begin_5 rfl ?_
  refine g_iconst (pc := 6) dX11_begin_6 ?_
  refine g_icmp_lt (pc := 7) (tgt := 17) dX11_begin_7 (by decide) (by omega) (by omega) (fun k0 => ?_) (fun k0 => ?_)
  · refine g_iconst (pc := 17) dX11_begin_17 ?_
    exact r_bool (pc := 18) dX11_begin_18 rfl rfl (Nat.le_refl _) (Or.inl rfl) (Or.inl ⟨fun z => absurd z.1 (by omega), rfl, rt9⟩)
  · refine g_iload_n (pc := 10) (x := v) dX11_begin_10 rfl ?_
    refine g_sipush (pc := 11) dX11_begin_11 (by decide +kernel) ?_
    refine g_icmp_le (pc := 14) (tgt := 19) dX11_begin_14 (by decide) (by omega) (by omega) (fun k1 => ?_) (fun k1 => ?_)
    · obtain ⟨p, ep⟩ : ∃ p : Nat, v = (p : Int) := ⟨v.toNat, by omega⟩
      subst ep
      refine g_iconst (pc := 19) dX11_begin_19 ?_
      refine g_istore_n (pc := 20) (lo2 := [(0, vR x), (1, vI (p : Int)), (2, vI 2)]) dX11_begin_20 (by decide) rfl ?_
      refine mbg_l (by omega) (by omega) (fun hpr xj => ?_) (fun i xj z1 z2 z3 => ?_) (p - 2) 2 _ (by omega) rfl (by omega) (fun i z1 z2 => by omega)
      · refine g_aload_n (pc := 40) (r := .inl (some x)) dX11_begin_40 rfl ?_
        refine g_iload_n (pc := 41) (x := (p : Int)) dX11_begin_41 rfl ?_
        refine g_callV0 (pc := 42) (as := [vI (p : Int)]) (b := x) (st := []) lvX11_100 dX11_begin_42 hx (Nat.le_of_ble_eq_true rfl) (by omega) (Nat.zero_le _) (Nat.zero_le _) (c_begins (d := 9) hx) ?_
        rintro r8 h5 ⟨rfl, o5, k5⟩
        have tp : tprime (p : Int) := ⟨by omega, by omega, fun j z1 z2 z3 => hpr j z1 (by omega) (by rwa [Int.toNat_natCast] at z3)⟩
        have rs5 : RMs N h5 x σ (p : Int) 0 := by
          obtain ⟨-, s5, A1, A2, A3, A4, A5, A6, A7, A8, r5⟩ := id rs
          exact RMs.of ⟨_, _, _, _, _, _, ⟨hx.1, o5⟩⟩ (s5.keep (fun a z1 z2 => k5 a (by omega))) (RA.keep r5 (fun a z1 z2 => k5 a (by omega)))
        have rt5 : RT N h5 x 0 s := by
          obtain ⟨⟨a, b, c⟩, d⟩ := rt.keep (h2 := h5) (fun a z1 z2 => k5 a (by omega))
          exact ⟨⟨a, b, fun n z => by omega⟩, d⟩
        refine g_iconst (pc := 45) dX11_begin_45 ?_
        exact r_bool (pc := 46) dX11_begin_46 rfl rfl (Nat.le_refl _) (Or.inr rfl) (Or.inr ⟨tp, rfl, rs5, rt5, fun a z => (k5 a (by omega)).trans (kg a (by omega))⟩)
      · refine g_iconst (pc := 32) dX11_begin_32 ?_
        exact r_bool (pc := 33) dX11_begin_33 rfl rfl (Nat.le_refl _) (Or.inl rfl) (Or.inl ⟨fun z => z.2.2 i z1 (by omega) (by rw [Int.toNat_natCast]; exact z3), rfl, rt9⟩)
    · refine g_iconst (pc := 17) dX11_begin_17 ?_
      exact r_bool (pc := 18) dX11_begin_18 rfl rfl (Nat.le_refl _) (Or.inl rfl) (Or.inl ⟨fun z => absurd z.2.1 (by omega), rfl, rt9⟩)

theorem r_tell {N x p ct : Nat} {v : Int} {s : Nat → Int} {σ : Nat → Option MSt} {h : MH} (hv : i32 v) (hp : prm p) (hp2 : p ≤ 499) (hct : ct ≤ 64) (rt0 : RT N h x ct s) (rs0 : RMs N h x σ (p : Int) (ct : Int)) : Ok mX11_tell 10 0 0 [vR x, vI v] N h (fun r9 h2 => (ct = 64 ∧ r9 = some (vI (-1)) ∧ rT N h h2 x σ (p : Int) (ct : Int) ct s) ∨ (ct < 64 ∧ r9 = some (vI ((ct + 1 : Nat) : Int)) ∧ rT N h h2 x σ (p : Int) ((ct + 1 : Nat) : Int) (ct + 1) (va_up s ct (v % (p : Int))))) := by
  obtain ⟨⟨th, wd, pm, fm, mu, um, hx⟩, sc, A1, A2, A3, A4, A5, A6, A7, A8, ra⟩ := id rs0
  obtain ⟨⟨Tl, h26, eT⟩, ⟨f27, h27⟩, ⟨f28, h28⟩, f29, h29⟩ := id rt0
  have p2 := hp.1
  refine Ok.mono (c_mtell (d := 9) hv (by omega) hp2 hct hx h26) ?_
  rintro r h2 ⟨q1, q2⟩
  by_cases e : ct = 64
  · obtain ⟨rfl, o1, k⟩ := q1 e
    exact Or.inl ⟨e, rfl, RMs.of ⟨_, _, _, _, _, _, ⟨hx.1, o1⟩⟩ (sc.keep (fun a z1 z2 => k a (by omega))) (RA.keep ra (fun a z1 z2 => k a (by omega))), rt0.keep (fun a z1 z2 => k a (by omega)), fun a z => k a (by omega)⟩
  · obtain ⟨rfl, o1, o2, k⟩ := q2 (by omega)
    refine Or.inr ⟨by omega, rfl, RMs.of ⟨_, _, _, _, _, _, ⟨hx.1, o1⟩⟩ (sc.keep (fun a z1 z2 => k a (by omega) (by omega))) (RA.keep ra (fun a z1 z2 => k a (by omega) (by omega))), ⟨⟨_, h26.to o2, fun n hn => ?_⟩, ⟨_, h27.keep (k _ (by omega) (by omega))⟩, ⟨_, h28.keep (k _ (by omega) (by omega))⟩, _, h29.keep (k _ (by omega) (by omega))⟩, fun a z => k a (by omega) (by omega)⟩
    by_cases e2 : n = ct
    · rw [e2, va_up_self, va_up_self]
    · rw [va_up_ne _ _ e2, va_up_ne _ _ e2, eT n (by omega)]

theorem r_least {N x : Nat} {pr ts : Int} {σ : Nat → Option MSt} {h : MH} {p ct L : Nat} {s : Nat → Int}  (hp : prm p) (hp2 : p ≤ 499) (hct : ct ≤ 64) (hs : ∀ n, n < ct → 0 ≤ s n ∧ s n < p) (hL : hasL p ct L s) (hmin : ∀ l, hasL p ct l s → L ≤ l) (epr : pr = (p : Int)) (ets : ts = (ct : Int)) (rt0 : RT N h x ct s) (rs0 : RMs N h x σ pr ts) : Ok mX11_least 10 0 0 [vR x] N h (fun r9 h2 => r9 = some (vI (L : Int)) ∧ rT N h h2 x σ pr ts ct s) := by
  refine Ok.of pfX11_least rfl (Nat.le_of_ble_eq_true rfl) (fun Ls sx => ?_)
  show G mX11_least (10, 0, 0, Ls, sx) 0 [(0, vR x)] [] (0, 0, N) h _
  obtain ⟨⟨th, wd, pm, fm, mu, um, hx0⟩, sc0, Th, Kd, Ms, Sz, Tb, Mo, Pl, Pi, ra0⟩ := id rs0
  replace ra0 : RA N h x σ Th Kd Ms Sz Tb Mo Pl Pi := ra0
  refine g_aload_n (pc := 0) (r := .inl (some x)) dX11_least_0 rfl ?_
  refine g_iconst (pc := 1) dX11_least_1 ?_
  refine g_putf (pc := 2) fpX11_104 dX11_least_2 hx0 (okv_int _) (Nat.le_of_ble_eq_true rfl) ?_
  have hx_1 := hx0.self (e := mdl x 0 wd pm fm mu um pr ts)
  show G mX11_least _ 5 [(0, vR x)] [] _ (va_up h x (mdl x 0 wd pm fm mu um pr ts)) _
  obtain ⟨g, eg0⟩ : ∃ g, g = va_up h x (mdl x 0 wd pm fm mu um pr ts) := ⟨_, rfl⟩
  rw [← eg0] at hx_1 ⊢
  have hx := hx_1
  have kg : ∀ a, a ≠ x → g a = h a := fun a z => by rw [eg0, va_up_ne _ _ z]
  have ra := ra0.keep (h2 := g) (fun a z1 z2 => kg a (by omega))
  have sc := sc0.keep (h2 := g) (fun a z1 z2 => kg a (by omega))
  have mo : MO N g x pr ts := ⟨_, _, _, _, _, _, hx⟩
  have rs : RMs N g x σ pr ts := RMs.of mo sc ra
  have rp : rP N h g x σ pr ts := ⟨rs, fun a z => kg a (by omega)⟩
  have rt : RT N g x ct s := rt0.keep (fun a z1 z2 => kg a (by omega))
  have rt9 : rT N h g x σ pr ts ct s := ⟨rs, rt, fun a z => kg a (by omega)⟩
  obtain ⟨⟨Tl, h26, eT⟩, s27, s28, s29⟩ := id rt
  have hLc : L ≤ ct := hmin ct ⟨fun _ => 1, rfl, fun n z1 z2 => by omega⟩
  have hxp : Hd (0, 0, N) g x (mdl x 0 wd pm fm mu um (p : Int) (ct : Int)) := by
    rw [← epr, ← ets]
    exact hx
  refine g_aload_n (pc := 5) (r := .inl (some x)) dX11_least_5 rfl ?_
  refine g_callV0 (pc := 6) (as := []) (b := x) (st := []) lvX11_285 dX11_least_6 hx (Nat.le_of_ble_eq_true rfl) (by omega) (Nat.zero_le _) (Nat.zero_le _) (c_leastRule (d := 6) hp hp2 hct hs eT hLc hL hmin hxp h26 s27 s28 s29) ?_
  rintro r8 h5 ⟨rfl, ⟨Nm2, q28, e28⟩, q27, q29, k5⟩
  have hx5 := hx.keep (k5 x (by omega) (by omega) (by omega))
  have rs5 : RMs N h5 x σ pr ts := rs.same ⟨_, _, _, _, _, _, hx5⟩ (sc.keep (fun a z1 z2 => k5 a (by omega) (by omega) (by omega))) (fun a z1 z2 => k5 a (by omega) (by omega) (by omega))
  have rt5 : rT N h h5 x σ pr ts ct s := ⟨rs5, ⟨⟨Tl, h26.keep (k5 _ (by omega) (by omega) (by omega)), eT⟩, q27, ⟨_, q28⟩, q29⟩, fun a z => (k5 a (by omega) (by omega) (by omega)).trans (kg a (by omega))⟩
  exact r_int (pc := 9) dX11_least_9 rfl rfl (Nat.le_refl _) ⟨rfl, rt5⟩

theorem r_shown {N x : Nat} {pr ts : Int} {σ : Nat → Option MSt} {h : MH} {p ct L : Nat} {s : Nat → Int}  (hp : prm p) (hp2 : p ≤ 499) (hct : ct ≤ 64) (hs : ∀ n, n < ct → 0 ≤ s n ∧ s n < p) (hL : hasL p ct L s) (hmin : ∀ l, hasL p ct l s → L ≤ l) (epr : pr = (p : Int)) (ets : ts = (ct : Int)) (rt0 : RT N h x ct s) (rs0 : RMs N h x σ pr ts) : Ok mX11_shown 10 0 0 [vR x] N h (fun r9 h2 => r9 = some (vI (if 2 * L ≤ ct then 1 else 0)) ∧ rT N h h2 x σ pr ts ct s) := by
  refine Ok.of pfX11_shown rfl (Nat.le_of_ble_eq_true rfl) (fun Ls sx => ?_)
  show G mX11_shown (10, 0, 0, Ls, sx) 0 [(0, vR x)] [] (0, 0, N) h _
  obtain ⟨⟨th, wd, pm, fm, mu, um, hx0⟩, sc0, Th, Kd, Ms, Sz, Tb, Mo, Pl, Pi, ra0⟩ := id rs0
  replace ra0 : RA N h x σ Th Kd Ms Sz Tb Mo Pl Pi := ra0
  refine g_aload_n (pc := 0) (r := .inl (some x)) dX11_shown_0 rfl ?_
  refine g_iconst (pc := 1) dX11_shown_1 ?_
  refine g_putf (pc := 2) fpX11_104 dX11_shown_2 hx0 (okv_int _) (Nat.le_of_ble_eq_true rfl) ?_
  have hx_1 := hx0.self (e := mdl x 0 wd pm fm mu um pr ts)
  show G mX11_shown _ 5 [(0, vR x)] [] _ (va_up h x (mdl x 0 wd pm fm mu um pr ts)) _
  obtain ⟨g, eg0⟩ : ∃ g, g = va_up h x (mdl x 0 wd pm fm mu um pr ts) := ⟨_, rfl⟩
  rw [← eg0] at hx_1 ⊢
  have hx := hx_1
  have kg : ∀ a, a ≠ x → g a = h a := fun a z => by rw [eg0, va_up_ne _ _ z]
  have ra := ra0.keep (h2 := g) (fun a z1 z2 => kg a (by omega))
  have sc := sc0.keep (h2 := g) (fun a z1 z2 => kg a (by omega))
  have mo : MO N g x pr ts := ⟨_, _, _, _, _, _, hx⟩
  have rs : RMs N g x σ pr ts := RMs.of mo sc ra
  have rp : rP N h g x σ pr ts := ⟨rs, fun a z => kg a (by omega)⟩
  have rt : RT N g x ct s := rt0.keep (fun a z1 z2 => kg a (by omega))
  have rt9 : rT N h g x σ pr ts ct s := ⟨rs, rt, fun a z => kg a (by omega)⟩
  obtain ⟨⟨Tl, h26, eT⟩, s27, s28, s29⟩ := id rt
  have hLc : L ≤ ct := hmin ct ⟨fun _ => 1, rfl, fun n z1 z2 => by omega⟩
  have hxp : Hd (0, 0, N) g x (mdl x 0 wd pm fm mu um (p : Int) (ct : Int)) := by
    rw [← epr, ← ets]
    exact hx
  refine g_iconst (pc := 5) dX11_shown_5 ?_
  refine g_aload_n (pc := 6) (r := .inl (some x)) dX11_shown_6 rfl ?_
  refine g_callV0 (pc := 7) (as := []) (b := x) (st := [vI 2]) lvX11_285 dX11_shown_7 hx (Nat.le_of_ble_eq_true rfl) (by omega) (Nat.zero_le _) (Nat.zero_le _) (c_leastRule (d := 6) hp hp2 hct hs eT hLc hL hmin hxp h26 s27 s28 s29) ?_
  rintro r8 h5 ⟨rfl, ⟨Nm2, q28, e28⟩, q27, q29, k5⟩
  have hx5 := hx.keep (k5 x (by omega) (by omega) (by omega))
  have rs5 : RMs N h5 x σ pr ts := rs.same ⟨_, _, _, _, _, _, hx5⟩ (sc.keep (fun a z1 z2 => k5 a (by omega) (by omega) (by omega))) (fun a z1 z2 => k5 a (by omega) (by omega) (by omega))
  have rt5 : rT N h h5 x σ pr ts ct s := ⟨rs5, ⟨⟨Tl, h26.keep (k5 _ (by omega) (by omega) (by omega)), eT⟩, q27, ⟨_, q28⟩, q29⟩, fun a z => (k5 a (by omega) (by omega) (by omega)).trans (kg a (by omega))⟩
  refine g_imul (pc := 10) dX11_shown_10 ?_
  refine g_aload_n (pc := 11) (r := .inl (some x)) dX11_shown_11 rfl ?_
  refine g_getf (pc := 12) (v := vI ts) flX11_270 dX11_shown_12 hx5 rfl ?_
  refine g_icmp_gt (pc := 15) (tgt := 22) dX11_shown_15 (by decide) (by omega) (by omega) (fun k0 => ?_) (fun k0 => ?_)
  · refine g_iconst (pc := 22) dX11_shown_22 ?_
    exact r_int (pc := 23) dX11_shown_23 rfl rfl (Nat.le_refl _) ⟨by rw [if_neg (by omega)], rt5⟩
  · refine g_iconst (pc := 18) dX11_shown_18 ?_
    refine g_goto (pc := 19) (tgt := 23) dX11_shown_19 (by decide) ?_
    exact r_int (pc := 23) dX11_shown_23 rfl rfl (Nat.le_refl _) ⟨by rw [if_pos (by omega)], rt5⟩

theorem r_rule {N x : Nat} {pr ts : Int} {k : Int} {σ : Nat → Option MSt} {h : MH} {p ct L : Nat} {s : Nat → Int} (hk : i32 k) (hp : prm p) (hp2 : p ≤ 499) (hct : ct ≤ 64) (hs : ∀ n, n < ct → 0 ≤ s n ∧ s n < p) (hL : hasL p ct L s) (hmin : ∀ l, hasL p ct l s → L ≤ l) (epr : pr = (p : Int)) (ets : ts = (ct : Int)) (rt0 : RT N h x ct s) (rs0 : RMs N h x σ pr ts) : Ok mX11_rule 10 0 0 [vR x, vI k] N h (fun r9 h2 => r9 = some (vI (if 1 ≤ k ∧ k ≤ (L : Int) then numS p ct L s k.toNat else -1)) ∧ rT N h h2 x σ pr ts ct s) := by
  refine Ok.of pfX11_rule rfl (Nat.le_of_ble_eq_true rfl) (fun Ls sx => ?_)
  show G mX11_rule (10, 0, 0, Ls, sx) 0 [(0, vR x), (1, vI k)] [] (0, 0, N) h _
  obtain ⟨⟨th, wd, pm, fm, mu, um, hx0⟩, sc0, Th, Kd, Ms, Sz, Tb, Mo, Pl, Pi, ra0⟩ := id rs0
  replace ra0 : RA N h x σ Th Kd Ms Sz Tb Mo Pl Pi := ra0
  refine g_aload_n (pc := 0) (r := .inl (some x)) dX11_rule_0 rfl ?_
  refine g_iconst (pc := 1) dX11_rule_1 ?_
  refine g_putf (pc := 2) fpX11_104 dX11_rule_2 hx0 (okv_int _) (Nat.le_of_ble_eq_true rfl) ?_
  have hx_1 := hx0.self (e := mdl x 0 wd pm fm mu um pr ts)
  show G mX11_rule _ 5 [(0, vR x), (1, vI k)] [] _ (va_up h x (mdl x 0 wd pm fm mu um pr ts)) _
  obtain ⟨g, eg0⟩ : ∃ g, g = va_up h x (mdl x 0 wd pm fm mu um pr ts) := ⟨_, rfl⟩
  rw [← eg0] at hx_1 ⊢
  have hx := hx_1
  have kg : ∀ a, a ≠ x → g a = h a := fun a z => by rw [eg0, va_up_ne _ _ z]
  have ra := ra0.keep (h2 := g) (fun a z1 z2 => kg a (by omega))
  have sc := sc0.keep (h2 := g) (fun a z1 z2 => kg a (by omega))
  have mo : MO N g x pr ts := ⟨_, _, _, _, _, _, hx⟩
  have rs : RMs N g x σ pr ts := RMs.of mo sc ra
  have rp : rP N h g x σ pr ts := ⟨rs, fun a z => kg a (by omega)⟩
  have rt : RT N g x ct s := rt0.keep (fun a z1 z2 => kg a (by omega))
  have rt9 : rT N h g x σ pr ts ct s := ⟨rs, rt, fun a z => kg a (by omega)⟩
  obtain ⟨⟨Tl, h26, eT⟩, s27, s28, s29⟩ := id rt
  have hLc : L ≤ ct := hmin ct ⟨fun _ => 1, rfl, fun n z1 z2 => by omega⟩
  have hxp : Hd (0, 0, N) g x (mdl x 0 wd pm fm mu um (p : Int) (ct : Int)) := by
    rw [← epr, ← ets]
    exact hx
  refine g_aload_n (pc := 5) (r := .inl (some x)) dX11_rule_5 rfl ?_
  refine g_callV0 (pc := 6) (as := []) (b := x) (st := []) lvX11_285 dX11_rule_6 hx (Nat.le_of_ble_eq_true rfl) (by omega) (Nat.zero_le _) (Nat.zero_le _) (c_leastRule (d := 6) hp hp2 hct hs eT hLc hL hmin hxp h26 s27 s28 s29) ?_
  rintro r8 h5 ⟨rfl, ⟨Nm2, q28, e28⟩, q27, q29, k5⟩
  have hx5 := hx.keep (k5 x (by omega) (by omega) (by omega))
  have rs5 : RMs N h5 x σ pr ts := rs.same ⟨_, _, _, _, _, _, hx5⟩ (sc.keep (fun a z1 z2 => k5 a (by omega) (by omega) (by omega))) (fun a z1 z2 => k5 a (by omega) (by omega) (by omega))
  have rt5 : rT N h h5 x σ pr ts ct s := ⟨rs5, ⟨⟨Tl, h26.keep (k5 _ (by omega) (by omega) (by omega)), eT⟩, q27, ⟨_, q28⟩, q29⟩, fun a z => (k5 a (by omega) (by omega) (by omega)).trans (kg a (by omega))⟩
  refine g_istore_n (pc := 9) (lo2 := [(0, vR x), (1, vI k), (2, vI (L : Int))]) dX11_rule_9 (by decide) rfl ?_
  refine g_iload_n (pc := 10) (x := k) dX11_rule_10 rfl ?_
  refine g_iconst (pc := 11) dX11_rule_11 ?_
  refine g_icmp_lt (pc := 12) (tgt := 20) dX11_rule_12 (by decide) (by omega) (by omega) (fun k0 => ?_) (fun k0 => ?_)
  · refine g_iconst (pc := 20) dX11_rule_20 ?_
    refine g_goto (pc := 21) (tgt := 32) dX11_rule_21 (by decide) ?_
    exact r_int (pc := 32) dX11_rule_32 rfl rfl (Nat.le_refl _) ⟨by rw [if_neg (by omega)], rt5⟩
  · refine g_iload_n (pc := 15) (x := k) dX11_rule_15 rfl ?_
    refine g_iload_n (pc := 16) (x := (L : Int)) dX11_rule_16 rfl ?_
    refine g_icmp_le (pc := 17) (tgt := 24) dX11_rule_17 (by decide) (by omega) (by omega) (fun k1 => ?_) (fun k1 => ?_)
    · obtain ⟨kk, ek⟩ : ∃ kk : Nat, k = ((kk + 1 : Nat) : Int) := ⟨(k - 1).toNat, by omega⟩
      subst ek
      refine g_aload_n (pc := 24) (r := .inl (some x)) dX11_rule_24 rfl ?_
      refine g_getf (pc := 25) (v := vR (x + 28)) flX11_94 dX11_rule_25 hx5 rfl ?_
      refine g_iload_n (pc := 28) (x := ((kk + 1 : Nat) : Int)) dX11_rule_28 rfl ?_
      refine g_iconst (pc := 29) dX11_rule_29 ?_
      refine g_isub (pc := 30) dX11_rule_30 ?_
      refine g_ialdN (pc := 31) (j := kk) dX11_rule_31 q28 (by omega) (by omega) (by omega) ?_
      rw [e28 kk (by omega)]
      exact r_int (pc := 32) dX11_rule_32 rfl rfl (Nat.le_refl _) ⟨by rw [if_pos (by omega), Int.toNat_natCast], rt5⟩
    · refine g_iconst (pc := 20) dX11_rule_20 ?_
      refine g_goto (pc := 21) (tgt := 32) dX11_rule_21 (by decide) ?_
      exact r_int (pc := 32) dX11_rule_32 rfl rfl (Nat.le_refl _) ⟨by rw [if_neg (by omega)], rt5⟩
