/-! ===== the reference: calls on mills ===== -/
theorem SC3.scr {N : Nat} {h h2 : MH} {x : Nat} (s : SC3 N h x) (r : SCR N h2 x) (k : ∀ a, x + 9 ≤ a → a ≤ x + 25 → (a < x + 10 ∨ x + 18 < a) → h2 a = h a) : SC3 N h2 x := by
  obtain ⟨⟨p9, a9⟩, s1, s2, ⟨p22, a22⟩, ⟨p23, a23⟩, ⟨p24, a24⟩, p25, a25⟩ := s
  exact ⟨⟨p9, a9.keep (k _ (by omega) (by omega) (by omega))⟩, r, s2.keep (fun a z1 z2 => k a (by omega) (by omega) (by omega)), ⟨p22, a22.keep (k _ (by omega) (by omega) (by omega))⟩, ⟨p23, a23.keep (k _ (by omega) (by omega) (by omega))⟩, ⟨p24, a24.keep (k _ (by omega) (by omega) (by omega))⟩, p25, a25.keep (k _ (by omega) (by omega) (by omega))⟩
theorem RMs.scr {N : Nat} {h h2 : MH} {x : Nat} {σ : Nat → Option MSt} {pr ts : Int} (s : RMs N h x σ pr ts) (hx : MO N h2 x pr ts) (r : SCR N h2 x) (k : ∀ a, a ≠ x → (a < x + 10 ∨ x + 18 < a) → h2 a = h a) : RMs N h2 x σ pr ts := s.same hx (s.2.1.scr r (fun a z1 z2 z3 => k a (by omega) z3)) (fun a z1 z2 => k a (by omega) (by omega))
theorem rP.tr {N : Nat} {h g h2 : MH} {x : Nat} {σ : Nat → Option MSt} {pr ts : Int} (kg : ∀ a, a ≠ x → g a = h a) (r : RMs N h2 x σ pr ts) (k : ∀ a, (a < x ∨ x + 26 ≤ a) → h2 a = g a) : rP N h h2 x σ pr ts := ⟨r, fun a z => (k a z).trans (kg a (by omega))⟩
theorem rng_lt {f : Nat → Int} {k : Nat} {v : Int} {M : Nat} (h : rng f) (hM : M ≤ 500) (hv : 0 ≤ v ∧ v < M) : rng (va_up f k v) := rng_up h (by omega)
theorem plate_mod {n M i : Nat} {Pl Y : Nat → Int} (h : ∀ r, r < n → Pl (4 * i + r) = Y r) (hb : ∀ r, r < n → 0 ≤ Y r ∧ Y r < M) : ∀ r, r < n → Pl (4 * i + r) % (M : Int) = Y r := fun r hr => by
  rw [h r hr]
  exact Int.emod_eq_of_lt (hb r hr).1 (hb r hr).2

theorem r_drop {N x : Nat} {pr ts : Int} {m : Int} {σ : Nat → Option MSt} {h : MH} (hm : i32 m) (rs0 : RMs N h x σ pr ts) : Ok mX11_drop 10 0 0 [vR x, vI m] N h (fun r9 h2 => r9 = some (vI (qM σ m 0 (fun kd M n T Y P => 1))) ∧ rP N h h2 x (qM σ m σ (fun kd M n T Y P => va_up σ m.toNat none)) pr ts) := by
  refine Ok.of pfX11_drop rfl (Nat.le_of_ble_eq_true rfl) (fun Ls sx => ?_)
  show G mX11_drop (10, 0, 0, Ls, sx) 0 [(0, vR x), (1, vI m)] [] (0, 0, N) h _
  obtain ⟨⟨th, wd, pm, fm, mu, um, hx0⟩, sc0, Th, Kd, Ms, Sz, Tb, Mo, Pl, Pi, ra0⟩ := id rs0
  replace ra0 : RA N h x σ Th Kd Ms Sz Tb Mo Pl Pi := ra0
  refine g_aload_n (pc := 0) (r := .inl (some x)) dX11_drop_0 rfl ?_
  refine g_iconst (pc := 1) dX11_drop_1 ?_
  refine g_putf (pc := 2) fpX11_104 dX11_drop_2 hx0 (okv_int _) (Nat.le_of_ble_eq_true rfl) ?_
  have hx_1 := hx0.self (e := mdl x 0 wd pm fm mu um pr ts)
  show G mX11_drop _ 5 [(0, vR x), (1, vI m)] [] _ (va_up h x (mdl x 0 wd pm fm mu um pr ts)) _
  obtain ⟨g, eg0⟩ : ∃ g, g = va_up h x (mdl x 0 wd pm fm mu um pr ts) := ⟨_, rfl⟩
  rw [← eg0] at hx_1 ⊢
  have hx := hx_1
  have kg : ∀ a, a ≠ x → g a = h a := fun a z => by rw [eg0, va_up_ne _ _ z]
  have ra := ra0.keep (h2 := g) (fun a z1 z2 => kg a (by omega))
  have sc := sc0.keep (h2 := g) (fun a z1 z2 => kg a (by omega))
  have mo : MO N g x pr ts := ⟨_, _, _, _, _, _, hx⟩
  have rs : RMs N g x σ pr ts := RMs.of mo sc ra
  have rp : rP N h g x σ pr ts := ⟨rs, fun a z => kg a (by omega)⟩
  refine g_aload_n (pc := 5) (r := .inl (some x)) dX11_drop_5 rfl ?_
  refine g_iload_n (pc := 6) (x := m) dX11_drop_6 rfl ?_
  refine g_callV0 (pc := 7) (as := [vI m]) (b := x) (st := []) lvX11_108 dX11_drop_7 hx (Nat.le_of_ble_eq_true rfl) (by omega) (Nat.zero_le _) (Nat.zero_le _) (c_isM (d := 9) hm hx ra) ?_
  rintro r8 h9 ⟨e9, e8⟩
  subst e9
  subst e8
  rcases eg : gt σ m with _ | ⟨kd, M, n, T, Y, P⟩
  · rw [qM_none eg]
    refine g_if_neF (pc := 10) (tgt := 15) dX11_drop_10 (by decide) (by omega) (by omega) ?_
    refine g_iconst (pc := 13) dX11_drop_13 ?_
    exact r_bool (pc := 14) dX11_drop_14 rfl rfl (Nat.le_refl _) (Or.inl rfl) ⟨by first | rfl | (rw [qM_none eg]), by rw [qM_none eg]; exact rp⟩
  · rw [qM_some eg]
    obtain ⟨i, hi, em, es⟩ := gt_some eg
    subst em
    obtain ⟨a1, a2, a3, a4, a5, a6, a7, a8, ⟨rT, rM, rP9⟩, mi⟩ := id ra
    obtain ⟨ok, eTh, eKd, eMs, eSz, eTb, eMo, ePl, ePi⟩ := (mi i hi).out es
    obtain ⟨hkd, hM, hM2, n1, hn, hk1, hk3, hT, hYb, hPb⟩ := id ok
    have hrow := rs.row hi es
    refine g_if_neT (pc := 10) (tgt := 15) dX11_drop_10 (by decide) (by omega) (by omega) ?_
    refine g_aload_n (pc := 15) (r := .inl (some x)) dX11_drop_15 rfl ?_
    refine g_getf (pc := 16) (v := vR (x + 1)) flX11_7 dX11_drop_16 hx rfl ?_
    refine g_iload_n (pc := 19) (x := (i : Int)) dX11_drop_19 rfl ?_
    refine g_iconst (pc := 20) dX11_drop_20 ?_
    refine g_zastN (pc := 21) (j := i) dX11_drop_21 a1 (by omega) (by omega) (by omega) (by omega) ?_
    have hx_2 := hx.ne (e := eA 2 6 (va_up Th i 0)) (a := x + 1) (by omega)
    have a1_2 := a1.self (e := eA 2 6 (va_up Th i 0))
    have a2_2 := a2.ne (e := eA 2 6 (va_up Th i 0)) (a := x + 1) (by omega)
    have a3_2 := a3.ne (e := eA 2 6 (va_up Th i 0)) (a := x + 1) (by omega)
    have a4_2 := a4.ne (e := eA 2 6 (va_up Th i 0)) (a := x + 1) (by omega)
    have a5_2 := a5.ne (e := eA 2 6 (va_up Th i 0)) (a := x + 1) (by omega)
    have a6_2 := a6.ne (e := eA 2 6 (va_up Th i 0)) (a := x + 1) (by omega)
    have a7_2 := a7.ne (e := eA 2 6 (va_up Th i 0)) (a := x + 1) (by omega)
    have a8_2 := a8.ne (e := eA 2 6 (va_up Th i 0)) (a := x + 1) (by omega)
    refine g_iconst (pc := 22) dX11_drop_22 ?_
    have hra : RA N (va_up h9 (x + 1) (eA 2 6 (va_up Th i 0))) x (va_up σ i none) (va_up Th i 0) Kd Ms Sz Tb Mo Pl Pi := by
      refine ⟨a1.self, a2.ne (by omega), a3.ne (by omega), a4.ne (by omega), a5.ne (by omega), a6.ne (by omega), a7.ne (by omega), a8.ne (by omega), ⟨rT, rM, rP9⟩, fun j hj => ?_⟩
      by_cases e : j = i
      · subst e
        rw [va_up_self]
        exact ⟨fun _ => va_up_self _ _ _, fun s z => nomatch z⟩
      · rw [va_up_ne _ _ e]
        exact (mi j hj).keep (va_up_ne _ _ e) rfl rfl rfl (fun _ _ _ => rfl) (fun _ _ _ => rfl) (fun _ _ _ => rfl) (fun _ _ _ => rfl)
    exact r_bool (pc := 23) dX11_drop_23 rfl rfl (Nat.le_refl _) (Or.inr rfl) ⟨by first | rfl | (rw [qM_some eg]), by rw [qM_some eg, Int.toNat_natCast]; exact rP.tr kg (RMs.of ⟨_, _, _, _, _, _, hx.ne (by omega)⟩ (sc.keep (fun a z1 z2 => va_up_ne _ _ (by omega))) hra) (fun a z => va_up_ne _ _ (by omega))⟩

theorem r_table {N x : Nat} {pr ts : Int} {m r cl v : Int} {σ : Nat → Option MSt} {h : MH} (hm : i32 m) (hr : i32 r) (hcl : i32 cl) (hv : i32 v) (rs0 : RMs N h x σ pr ts) : Ok mX11_table 10 0 0 [vR x, vI m, vI r, vI cl, vI v] N h (fun r9 h2 => r9 = some (vI (qM σ m 0 (fun kd M n T Y P => if ((0 ≤ r ∧ r < n) ∧ (kd ≠ 2 ∨ r = n - 1)) ∧ (0 ≤ cl ∧ cl < n) then 1 else 0))) ∧ rP N h h2 x (qM σ m σ (fun kd M n T Y P => if ((0 ≤ r ∧ r < n) ∧ (kd ≠ 2 ∨ r = n - 1)) ∧ (0 ≤ cl ∧ cl < n) then va_up σ m.toNat (some (kd, M, n, va_up T (5 * r.toNat + cl.toNat) (v % (M : Int)), Y, P)) else σ)) pr ts) := by
  refine Ok.of pfX11_table rfl (Nat.le_of_ble_eq_true rfl) (fun Ls sx => ?_)
  show G mX11_table (10, 0, 0, Ls, sx) 0 [(0, vR x), (1, vI m), (2, vI r), (3, vI cl), (4, vI v)] [] (0, 0, N) h _
  obtain ⟨⟨th, wd, pm, fm, mu, um, hx0⟩, sc0, Th, Kd, Ms, Sz, Tb, Mo, Pl, Pi, ra0⟩ := id rs0
  replace ra0 : RA N h x σ Th Kd Ms Sz Tb Mo Pl Pi := ra0
  refine g_aload_n (pc := 0) (r := .inl (some x)) dX11_table_0 rfl ?_
  refine g_iconst (pc := 1) dX11_table_1 ?_
  refine g_putf (pc := 2) fpX11_104 dX11_table_2 hx0 (okv_int _) (Nat.le_of_ble_eq_true rfl) ?_
  have hx_1 := hx0.self (e := mdl x 0 wd pm fm mu um pr ts)
  show G mX11_table _ 5 [(0, vR x), (1, vI m), (2, vI r), (3, vI cl), (4, vI v)] [] _ (va_up h x (mdl x 0 wd pm fm mu um pr ts)) _
  obtain ⟨g, eg0⟩ : ∃ g, g = va_up h x (mdl x 0 wd pm fm mu um pr ts) := ⟨_, rfl⟩
  rw [← eg0] at hx_1 ⊢
  have hx := hx_1
  have kg : ∀ a, a ≠ x → g a = h a := fun a z => by rw [eg0, va_up_ne _ _ z]
  have ra := ra0.keep (h2 := g) (fun a z1 z2 => kg a (by omega))
  have sc := sc0.keep (h2 := g) (fun a z1 z2 => kg a (by omega))
  have mo : MO N g x pr ts := ⟨_, _, _, _, _, _, hx⟩
  have rs : RMs N g x σ pr ts := RMs.of mo sc ra
  have rp : rP N h g x σ pr ts := ⟨rs, fun a z => kg a (by omega)⟩
  refine g_aload_n (pc := 5) (r := .inl (some x)) dX11_table_5 rfl ?_
  refine g_iload_n (pc := 6) (x := m) dX11_table_6 rfl ?_
  refine g_iload_n (pc := 7) (x := r) dX11_table_7 rfl ?_
  refine g_callV0 (pc := 8) (as := [vI m, vI r]) (b := x) (st := []) lvX11_112 dX11_table_8 hx (Nat.le_of_ble_eq_true rfl) (by omega) (Nat.zero_le _) (Nat.zero_le _) (c_mcanTell (d := 8) hm hr hx ra) ?_
  rintro r8 h9 ⟨e9, e8⟩
  subst e9
  subst e8
  rcases eg : gt σ m with _ | ⟨kd, M, n, T, Y, P⟩
  · rw [qM_none eg]
    refine g_if_eqT (pc := 11) (tgt := 28) dX11_table_11 (by decide) (by omega) (by omega) ?_
    refine g_iconst (pc := 28) dX11_table_28 ?_
    exact r_bool (pc := 29) dX11_table_29 rfl rfl (Nat.le_refl _) (Or.inl rfl) ⟨by first | rfl | (rw [qM_none eg]), by rw [qM_none eg]; exact rp⟩
  · rw [qM_some eg]
    obtain ⟨i, hi, em, es⟩ := gt_some eg
    subst em
    obtain ⟨a1, a2, a3, a4, a5, a6, a7, a8, ⟨rT, rM, rP9⟩, mi⟩ := id ra
    obtain ⟨ok, eTh, eKd, eMs, eSz, eTb, eMo, ePl, ePi⟩ := (mi i hi).out es
    obtain ⟨hkd, hM, hM2, n1, hn, hk1, hk3, hT, hYb, hPb⟩ := id ok
    have hrow := rs.row hi es
    by_cases hct : (0 ≤ r ∧ r < n) ∧ (kd ≠ 2 ∨ r = n - 1)
    · rw [if_pos hct]
      refine g_if_eqF (pc := 11) (tgt := 28) dX11_table_11 (by decide) (by omega) (by omega) ?_
      refine g_iload_n (pc := 14) (x := cl) dX11_table_14 rfl ?_
      refine g_if_lt (pc := 15) (tgt := 28) dX11_table_15 (by decide) (by omega) (fun k0 => ?_) (fun k0 => ?_)
      · refine g_iconst (pc := 28) dX11_table_28 ?_
        exact r_bool (pc := 29) dX11_table_29 rfl rfl (Nat.le_refl _) (Or.inl rfl) ⟨by first | rfl | (rw [qM_some eg, if_neg (by omega)]), by rw [qM_some eg, if_neg (by omega)]; exact rp⟩
      · refine g_iload_n (pc := 18) (x := cl) dX11_table_18 rfl ?_
        refine g_aload_n (pc := 19) (r := .inl (some x)) dX11_table_19 rfl ?_
        refine g_getf (pc := 20) (v := vR (x + 4)) flX11_20 dX11_table_20 hx rfl ?_
        refine g_iload_n (pc := 23) (x := (i : Int)) dX11_table_23 rfl ?_
        refine g_ialdN (pc := 24) (j := i) dX11_table_24 a4 (by omega) (by omega) (by omega) ?_
        rw [eSz]
        refine g_icmp_lt (pc := 25) (tgt := 30) dX11_table_25 (by decide) (by omega) (by omega) (fun k1 => ?_) (fun k1 => ?_)
        · have v0 := Int.emod_nonneg v (show (M : Int) ≠ 0 by omega)
          have v1 := Int.emod_lt_of_pos v (show (0 : Int) < M by omega)
          obtain ⟨rr, er⟩ : ∃ rr : Nat, r = (rr : Int) := ⟨r.toNat, by omega⟩
          subst er
          obtain ⟨cc, ec⟩ : ∃ cc : Nat, cl = (cc : Int) := ⟨cl.toNat, by omega⟩
          subst ec
          refine g_aload_n (pc := 30) (r := .inl (some x)) dX11_table_30 rfl ?_
          refine g_getf (pc := 31) (v := vR (x + 5)) flX11_23 dX11_table_31 hx rfl ?_
          refine g_bipush (pc := 34) dX11_table_34 (by decide +kernel) ?_
          refine g_iload_n (pc := 36) (x := (i : Int)) dX11_table_36 rfl ?_
          refine g_imul (pc := 37) dX11_table_37 ?_
          refine g_iconst (pc := 38) dX11_table_38 ?_
          refine g_iload_n (pc := 39) (x := (rr : Int)) dX11_table_39 rfl ?_
          refine g_imul (pc := 40) dX11_table_40 ?_
          refine g_iadd (pc := 41) dX11_table_41 ?_
          refine g_iload_n (pc := 42) (x := (cc : Int)) dX11_table_42 rfl ?_
          refine g_iadd (pc := 43) dX11_table_43 ?_
          refine g_iload (pc := 44) (x := v) dX11_table_44 rfl ?_
          refine g_i2l (pc := 46) dX11_table_46 (by omega) ?_
          refine g_aload_n (pc := 47) (r := .inl (some x)) dX11_table_47 rfl ?_
          refine g_getf (pc := 48) (v := vR (x + 3)) flX11_17 dX11_table_48 hx rfl ?_
          refine g_iload_n (pc := 51) (x := (i : Int)) dX11_table_51 rfl ?_
          refine g_ialdN (pc := 52) (j := i) dX11_table_52 a3 (by omega) (by omega) (by omega) ?_
          rw [eMs]
          refine g_callS0 (pc := 53) (as := [vJ v, vI (M : Int)]) (st := [vI (((16 * (i : Int)) + (4 * (rr : Int))) + (cc : Int)), vR (x + 5)]) lsX11_116 dX11_table_53 (Nat.le_of_ble_eq_true rfl) (by omega) (Nat.zero_le _) (Nat.zero_le _) (c_mrestOf (d := 9) (by omega) (by omega) (by omega)) ?_
          rintro r8 h9 ⟨e9, e8⟩
          subst e9
          subst e8
          refine g_iastN (pc := 56) (j := ((16 * i) + (4 * rr)) + cc) dX11_table_56 a5 (by omega) (by omega) (by omega) ?_
          have hx_2 := hx.ne (e := eA 0 96 (va_up Tb (((16 * i) + (4 * rr)) + cc) (v % (M : Int)))) (a := x + 5) (by omega)
          have a1_2 := a1.ne (e := eA 0 96 (va_up Tb (((16 * i) + (4 * rr)) + cc) (v % (M : Int)))) (a := x + 5) (by omega)
          have a2_2 := a2.ne (e := eA 0 96 (va_up Tb (((16 * i) + (4 * rr)) + cc) (v % (M : Int)))) (a := x + 5) (by omega)
          have a3_2 := a3.ne (e := eA 0 96 (va_up Tb (((16 * i) + (4 * rr)) + cc) (v % (M : Int)))) (a := x + 5) (by omega)
          have a4_2 := a4.ne (e := eA 0 96 (va_up Tb (((16 * i) + (4 * rr)) + cc) (v % (M : Int)))) (a := x + 5) (by omega)
          have a5_2 := a5.self (e := eA 0 96 (va_up Tb (((16 * i) + (4 * rr)) + cc) (v % (M : Int))))
          have a6_2 := a6.ne (e := eA 0 96 (va_up Tb (((16 * i) + (4 * rr)) + cc) (v % (M : Int)))) (a := x + 5) (by omega)
          have a7_2 := a7.ne (e := eA 0 96 (va_up Tb (((16 * i) + (4 * rr)) + cc) (v % (M : Int)))) (a := x + 5) (by omega)
          have a8_2 := a8.ne (e := eA 0 96 (va_up Tb (((16 * i) + (4 * rr)) + cc) (v % (M : Int)))) (a := x + 5) (by omega)
          refine g_iconst (pc := 57) dX11_table_57 ?_
          have hra : RA N (va_up h9 (x + 5) (eA 0 96 (va_up Tb (((16 * i) + (4 * rr)) + cc) (v % (M : Int))))) x (va_up σ i (some (kd, M, n, va_up T (5 * rr + cc) (v % (M : Int)), Y, P))) Th Kd Ms Sz (va_up Tb (16 * i + 4 * rr + cc) (v % (M : Int))) Mo Pl Pi := by
            refine ra.tab (V := va_up T (5 * rr + cc) (v % (M : Int))) hi es a5_2.2 (fun a z1 z2 z3 => va_up_ne _ _ z3) (fun r2 c2 z1 z2 => ?_) (fun r2 c2 z1 z2 => ?_) (fun r2 z1 => va_up_ne _ _ (by omega)) (fun j z => va_up_ne _ _ (by omega)) (rng_lt rT hM2 ⟨v0, v1⟩)
            · by_cases e : 5 * r2 + c2 = 5 * rr + cc
              · rw [e, va_up_self]
                exact ⟨v0, v1⟩
              · rw [va_up_ne _ _ e]
                exact hT r2 c2 z1 z2
            · by_cases e : r2 = rr ∧ c2 = cc
              · rw [e.1, e.2, va_up_self, va_up_self]
              · rw [va_up_ne _ _ (by omega), va_up_ne _ _ (by omega)]
                exact eTb r2 c2 z1 z2
          exact r_bool (pc := 58) dX11_table_58 rfl rfl (Nat.le_refl _) (Or.inr rfl) ⟨by first | rfl | (rw [qM_some eg, if_pos ⟨hct, by omega⟩]), by rw [qM_some eg, if_pos ⟨hct, by omega⟩]; simp only [Int.toNat_natCast]; exact rP.tr kg (RMs.of ⟨_, _, _, _, _, _, hx.ne (by omega)⟩ (sc.keep (fun a z1 z2 => va_up_ne _ _ (by omega))) hra) (fun a z => va_up_ne _ _ (by omega))⟩
        · refine g_iconst (pc := 28) dX11_table_28 ?_
          exact r_bool (pc := 29) dX11_table_29 rfl rfl (Nat.le_refl _) (Or.inl rfl) ⟨by first | rfl | (rw [qM_some eg, if_neg (by omega)]), by rw [qM_some eg, if_neg (by omega)]; exact rp⟩
    · rw [if_neg hct]
      refine g_if_eqT (pc := 11) (tgt := 28) dX11_table_11 (by decide) (by omega) (by omega) ?_
      refine g_iconst (pc := 28) dX11_table_28 ?_
      exact r_bool (pc := 29) dX11_table_29 rfl rfl (Nat.le_refl _) (Or.inl rfl) ⟨by first | rfl | (rw [qM_some eg, if_neg (by omega)]), by rw [qM_some eg, if_neg (by omega)]; exact rp⟩

theorem r_more {N x : Nat} {pr ts : Int} {m r v : Int} {σ : Nat → Option MSt} {h : MH} (hm : i32 m) (hr : i32 r) (hv : i32 v) (rs0 : RMs N h x σ pr ts) : Ok mX11_more 10 0 0 [vR x, vI m, vI r, vI v] N h (fun r9 h2 => r9 = some (vI (qM σ m 0 (fun kd M n T Y P => if (0 ≤ r ∧ r < n) ∧ (kd ≠ 2 ∨ r = n - 1) then 1 else 0))) ∧ rP N h h2 x (qM σ m σ (fun kd M n T Y P => if (0 ≤ r ∧ r < n) ∧ (kd ≠ 2 ∨ r = n - 1) then va_up σ m.toNat (some (kd, M, n, va_up T (5 * r.toNat + 4) (v % (M : Int)), Y, P)) else σ)) pr ts) := by
  refine Ok.of pfX11_more rfl (Nat.le_of_ble_eq_true rfl) (fun Ls sx => ?_)
  show G mX11_more (10, 0, 0, Ls, sx) 0 [(0, vR x), (1, vI m), (2, vI r), (3, vI v)] [] (0, 0, N) h _
  obtain ⟨⟨th, wd, pm, fm, mu, um, hx0⟩, sc0, Th, Kd, Ms, Sz, Tb, Mo, Pl, Pi, ra0⟩ := id rs0
  replace ra0 : RA N h x σ Th Kd Ms Sz Tb Mo Pl Pi := ra0
  refine g_aload_n (pc := 0) (r := .inl (some x)) dX11_more_0 rfl ?_
  refine g_iconst (pc := 1) dX11_more_1 ?_
  refine g_putf (pc := 2) fpX11_104 dX11_more_2 hx0 (okv_int _) (Nat.le_of_ble_eq_true rfl) ?_
  have hx_1 := hx0.self (e := mdl x 0 wd pm fm mu um pr ts)
  show G mX11_more _ 5 [(0, vR x), (1, vI m), (2, vI r), (3, vI v)] [] _ (va_up h x (mdl x 0 wd pm fm mu um pr ts)) _
  obtain ⟨g, eg0⟩ : ∃ g, g = va_up h x (mdl x 0 wd pm fm mu um pr ts) := ⟨_, rfl⟩
  rw [← eg0] at hx_1 ⊢
  have hx := hx_1
  have kg : ∀ a, a ≠ x → g a = h a := fun a z => by rw [eg0, va_up_ne _ _ z]
  have ra := ra0.keep (h2 := g) (fun a z1 z2 => kg a (by omega))
  have sc := sc0.keep (h2 := g) (fun a z1 z2 => kg a (by omega))
  have mo : MO N g x pr ts := ⟨_, _, _, _, _, _, hx⟩
  have rs : RMs N g x σ pr ts := RMs.of mo sc ra
  have rp : rP N h g x σ pr ts := ⟨rs, fun a z => kg a (by omega)⟩
  refine g_aload_n (pc := 5) (r := .inl (some x)) dX11_more_5 rfl ?_
  refine g_iload_n (pc := 6) (x := m) dX11_more_6 rfl ?_
  refine g_iload_n (pc := 7) (x := r) dX11_more_7 rfl ?_
  refine g_callV0 (pc := 8) (as := [vI m, vI r]) (b := x) (st := []) lvX11_112 dX11_more_8 hx (Nat.le_of_ble_eq_true rfl) (by omega) (Nat.zero_le _) (Nat.zero_le _) (c_mcanTell (d := 8) hm hr hx ra) ?_
  rintro r8 h9 ⟨e9, e8⟩
  subst e9
  subst e8
  rcases eg : gt σ m with _ | ⟨kd, M, n, T, Y, P⟩
  · rw [qM_none eg]
    refine g_if_neF (pc := 11) (tgt := 16) dX11_more_11 (by decide) (by omega) (by omega) ?_
    refine g_iconst (pc := 14) dX11_more_14 ?_
    exact r_bool (pc := 15) dX11_more_15 rfl rfl (Nat.le_refl _) (Or.inl rfl) ⟨by first | rfl | (rw [qM_none eg]), by rw [qM_none eg]; exact rp⟩
  · rw [qM_some eg]
    obtain ⟨i, hi, em, es⟩ := gt_some eg
    subst em
    obtain ⟨a1, a2, a3, a4, a5, a6, a7, a8, ⟨rT, rM, rP9⟩, mi⟩ := id ra
    obtain ⟨ok, eTh, eKd, eMs, eSz, eTb, eMo, ePl, ePi⟩ := (mi i hi).out es
    obtain ⟨hkd, hM, hM2, n1, hn, hk1, hk3, hT, hYb, hPb⟩ := id ok
    have hrow := rs.row hi es
    by_cases hct : (0 ≤ r ∧ r < n) ∧ (kd ≠ 2 ∨ r = n - 1)
    · rw [if_pos hct]
      refine g_if_neT (pc := 11) (tgt := 16) dX11_more_11 (by decide) (by omega) (by omega) ?_
      have v0 := Int.emod_nonneg v (show (M : Int) ≠ 0 by omega)
      have v1 := Int.emod_lt_of_pos v (show (0 : Int) < M by omega)
      obtain ⟨rr, er⟩ : ∃ rr : Nat, r = (rr : Int) := ⟨r.toNat, by omega⟩
      subst er
      refine g_aload_n (pc := 16) (r := .inl (some x)) dX11_more_16 rfl ?_
      refine g_getf (pc := 17) (v := vR (x + 6)) flX11_26 dX11_more_17 hx rfl ?_
      refine g_iconst (pc := 20) dX11_more_20 ?_
      refine g_iload_n (pc := 21) (x := (i : Int)) dX11_more_21 rfl ?_
      refine g_imul (pc := 22) dX11_more_22 ?_
      refine g_iload_n (pc := 23) (x := (rr : Int)) dX11_more_23 rfl ?_
      refine g_iadd (pc := 24) dX11_more_24 ?_
      refine g_iload_n (pc := 25) (x := v) dX11_more_25 rfl ?_
      refine g_i2l (pc := 26) dX11_more_26 (by omega) ?_
      refine g_aload_n (pc := 27) (r := .inl (some x)) dX11_more_27 rfl ?_
      refine g_getf (pc := 28) (v := vR (x + 3)) flX11_17 dX11_more_28 hx rfl ?_
      refine g_iload_n (pc := 31) (x := (i : Int)) dX11_more_31 rfl ?_
      refine g_ialdN (pc := 32) (j := i) dX11_more_32 a3 (by omega) (by omega) (by omega) ?_
      rw [eMs]
      refine g_callS0 (pc := 33) (as := [vJ v, vI (M : Int)]) (st := [vI ((4 * (i : Int)) + (rr : Int)), vR (x + 6)]) lsX11_116 dX11_more_33 (Nat.le_of_ble_eq_true rfl) (by omega) (Nat.zero_le _) (Nat.zero_le _) (c_mrestOf (d := 9) (by omega) (by omega) (by omega)) ?_
      rintro r8 h9 ⟨e9, e8⟩
      subst e9
      subst e8
      refine g_iastN (pc := 36) (j := (4 * i) + rr) dX11_more_36 a6 (by omega) (by omega) (by omega) ?_
      have hx_2 := hx.ne (e := eA 0 24 (va_up Mo ((4 * i) + rr) (v % (M : Int)))) (a := x + 6) (by omega)
      have a1_2 := a1.ne (e := eA 0 24 (va_up Mo ((4 * i) + rr) (v % (M : Int)))) (a := x + 6) (by omega)
      have a2_2 := a2.ne (e := eA 0 24 (va_up Mo ((4 * i) + rr) (v % (M : Int)))) (a := x + 6) (by omega)
      have a3_2 := a3.ne (e := eA 0 24 (va_up Mo ((4 * i) + rr) (v % (M : Int)))) (a := x + 6) (by omega)
      have a4_2 := a4.ne (e := eA 0 24 (va_up Mo ((4 * i) + rr) (v % (M : Int)))) (a := x + 6) (by omega)
      have a5_2 := a5.ne (e := eA 0 24 (va_up Mo ((4 * i) + rr) (v % (M : Int)))) (a := x + 6) (by omega)
      have a6_2 := a6.self (e := eA 0 24 (va_up Mo ((4 * i) + rr) (v % (M : Int))))
      have a7_2 := a7.ne (e := eA 0 24 (va_up Mo ((4 * i) + rr) (v % (M : Int)))) (a := x + 6) (by omega)
      have a8_2 := a8.ne (e := eA 0 24 (va_up Mo ((4 * i) + rr) (v % (M : Int)))) (a := x + 6) (by omega)
      refine g_iconst (pc := 37) dX11_more_37 ?_
      have hra : RA N (va_up h9 (x + 6) (eA 0 24 (va_up Mo ((4 * i) + rr) (v % (M : Int))))) x (va_up σ i (some (kd, M, n, va_up T (5 * rr + 4) (v % (M : Int)), Y, P))) Th Kd Ms Sz Tb (va_up Mo (4 * i + rr) (v % (M : Int))) Pl Pi := by
        refine ra.mor (V := va_up T (5 * rr + 4) (v % (M : Int))) hi es a6_2.2 (fun a z1 z2 z3 => va_up_ne _ _ z3) (fun r2 c2 z1 z2 => ?_) (fun r2 z1 => ?_) (fun r2 c2 z1 z2 => va_up_ne _ _ (by omega)) (fun j z => va_up_ne _ _ (by omega)) (rng_lt rM hM2 ⟨v0, v1⟩)
        · by_cases e : 5 * r2 + c2 = 5 * rr + 4
          · rw [e, va_up_self]
            exact ⟨v0, v1⟩
          · rw [va_up_ne _ _ e]
            exact hT r2 c2 z1 z2
        · by_cases e : r2 = rr
          · rw [e, va_up_self, va_up_self]
          · rw [va_up_ne _ _ (by omega), va_up_ne _ _ (by omega)]
            exact eMo r2 z1
      exact r_bool (pc := 38) dX11_more_38 rfl rfl (Nat.le_refl _) (Or.inr rfl) ⟨by first | rfl | (rw [qM_some eg, if_pos hct]), by rw [qM_some eg, if_pos hct]; simp only [Int.toNat_natCast]; exact rP.tr kg (RMs.of ⟨_, _, _, _, _, _, hx.ne (by omega)⟩ (sc.keep (fun a z1 z2 => va_up_ne _ _ (by omega))) hra) (fun a z => va_up_ne _ _ (by omega))⟩
    · rw [if_neg hct]
      refine g_if_neF (pc := 11) (tgt := 16) dX11_more_11 (by decide) (by omega) (by omega) ?_
      refine g_iconst (pc := 14) dX11_more_14 ?_
      exact r_bool (pc := 15) dX11_more_15 rfl rfl (Nat.le_refl _) (Or.inl rfl) ⟨by first | rfl | (rw [qM_some eg, if_neg (by omega)]), by rw [qM_some eg, if_neg (by omega)]; exact rp⟩

theorem r_plate {N x : Nat} {pr ts : Int} {m r v : Int} {σ : Nat → Option MSt} {h : MH} (hm : i32 m) (hr : i32 r) (hv : i32 v) (rs0 : RMs N h x σ pr ts) : Ok mX11_plate 10 0 0 [vR x, vI m, vI r, vI v] N h (fun r9 h2 => r9 = some (vI (qM σ m 0 (fun kd M n T Y P => if 0 ≤ r ∧ r < n then 1 else 0))) ∧ rP N h h2 x (qM σ m σ (fun kd M n T Y P => if 0 ≤ r ∧ r < n then va_up σ m.toNat (some (kd, M, n, T, va_up Y r.toNat (v % (M : Int)), P)) else σ)) pr ts) := by
  refine Ok.of pfX11_plate rfl (Nat.le_of_ble_eq_true rfl) (fun Ls sx => ?_)
  show G mX11_plate (10, 0, 0, Ls, sx) 0 [(0, vR x), (1, vI m), (2, vI r), (3, vI v)] [] (0, 0, N) h _
  obtain ⟨⟨th, wd, pm, fm, mu, um, hx0⟩, sc0, Th, Kd, Ms, Sz, Tb, Mo, Pl, Pi, ra0⟩ := id rs0
  replace ra0 : RA N h x σ Th Kd Ms Sz Tb Mo Pl Pi := ra0
  refine g_aload_n (pc := 0) (r := .inl (some x)) dX11_plate_0 rfl ?_
  refine g_iconst (pc := 1) dX11_plate_1 ?_
  refine g_putf (pc := 2) fpX11_104 dX11_plate_2 hx0 (okv_int _) (Nat.le_of_ble_eq_true rfl) ?_
  have hx_1 := hx0.self (e := mdl x 0 wd pm fm mu um pr ts)
  show G mX11_plate _ 5 [(0, vR x), (1, vI m), (2, vI r), (3, vI v)] [] _ (va_up h x (mdl x 0 wd pm fm mu um pr ts)) _
  obtain ⟨g, eg0⟩ : ∃ g, g = va_up h x (mdl x 0 wd pm fm mu um pr ts) := ⟨_, rfl⟩
  rw [← eg0] at hx_1 ⊢
  have hx := hx_1
  have kg : ∀ a, a ≠ x → g a = h a := fun a z => by rw [eg0, va_up_ne _ _ z]
  have ra := ra0.keep (h2 := g) (fun a z1 z2 => kg a (by omega))
  have sc := sc0.keep (h2 := g) (fun a z1 z2 => kg a (by omega))
  have mo : MO N g x pr ts := ⟨_, _, _, _, _, _, hx⟩
  have rs : RMs N g x σ pr ts := RMs.of mo sc ra
  have rp : rP N h g x σ pr ts := ⟨rs, fun a z => kg a (by omega)⟩
  refine g_aload_n (pc := 5) (r := .inl (some x)) dX11_plate_5 rfl ?_
  refine g_iload_n (pc := 6) (x := m) dX11_plate_6 rfl ?_
  refine g_callV0 (pc := 7) (as := [vI m]) (b := x) (st := []) lvX11_108 dX11_plate_7 hx (Nat.le_of_ble_eq_true rfl) (by omega) (Nat.zero_le _) (Nat.zero_le _) (c_isM (d := 9) hm hx ra) ?_
  rintro r8 h9 ⟨e9, e8⟩
  subst e9
  subst e8
  rcases eg : gt σ m with _ | ⟨kd, M, n, T, Y, P⟩
  · rw [qM_none eg]
    refine g_if_eqT (pc := 10) (tgt := 27) dX11_plate_10 (by decide) (by omega) (by omega) ?_
    refine g_iconst (pc := 27) dX11_plate_27 ?_
    exact r_bool (pc := 28) dX11_plate_28 rfl rfl (Nat.le_refl _) (Or.inl rfl) ⟨by first | rfl | (rw [qM_none eg]), by rw [qM_none eg]; exact rp⟩
  · rw [qM_some eg]
    obtain ⟨i, hi, em, es⟩ := gt_some eg
    subst em
    obtain ⟨a1, a2, a3, a4, a5, a6, a7, a8, ⟨rT, rM, rP9⟩, mi⟩ := id ra
    obtain ⟨ok, eTh, eKd, eMs, eSz, eTb, eMo, ePl, ePi⟩ := (mi i hi).out es
    obtain ⟨hkd, hM, hM2, n1, hn, hk1, hk3, hT, hYb, hPb⟩ := id ok
    have hrow := rs.row hi es
    refine g_if_eqF (pc := 10) (tgt := 27) dX11_plate_10 (by decide) (by omega) (by omega) ?_
    refine g_iload_n (pc := 13) (x := r) dX11_plate_13 rfl ?_
    refine g_if_lt (pc := 14) (tgt := 27) dX11_plate_14 (by decide) (by omega) (fun k0 => ?_) (fun k0 => ?_)
    · refine g_iconst (pc := 27) dX11_plate_27 ?_
      exact r_bool (pc := 28) dX11_plate_28 rfl rfl (Nat.le_refl _) (Or.inl rfl) ⟨by first | rfl | (rw [qM_some eg, if_neg (by omega)]), by rw [qM_some eg, if_neg (by omega)]; exact rp⟩
    · refine g_iload_n (pc := 17) (x := r) dX11_plate_17 rfl ?_
      refine g_aload_n (pc := 18) (r := .inl (some x)) dX11_plate_18 rfl ?_
      refine g_getf (pc := 19) (v := vR (x + 4)) flX11_20 dX11_plate_19 hx rfl ?_
      refine g_iload_n (pc := 22) (x := (i : Int)) dX11_plate_22 rfl ?_
      refine g_ialdN (pc := 23) (j := i) dX11_plate_23 a4 (by omega) (by omega) (by omega) ?_
      rw [eSz]
      refine g_icmp_lt (pc := 24) (tgt := 29) dX11_plate_24 (by decide) (by omega) (by omega) (fun k1 => ?_) (fun k1 => ?_)
      · have v0 := Int.emod_nonneg v (show (M : Int) ≠ 0 by omega)
        have v1 := Int.emod_lt_of_pos v (show (0 : Int) < M by omega)
        obtain ⟨rr, er⟩ : ∃ rr : Nat, r = (rr : Int) := ⟨r.toNat, by omega⟩
        subst er
        refine g_aload_n (pc := 29) (r := .inl (some x)) dX11_plate_29 rfl ?_
        refine g_getf (pc := 30) (v := vR (x + 7)) flX11_29 dX11_plate_30 hx rfl ?_
        refine g_iconst (pc := 33) dX11_plate_33 ?_
        refine g_iload_n (pc := 34) (x := (i : Int)) dX11_plate_34 rfl ?_
        refine g_imul (pc := 35) dX11_plate_35 ?_
        refine g_iload_n (pc := 36) (x := (rr : Int)) dX11_plate_36 rfl ?_
        refine g_iadd (pc := 37) dX11_plate_37 ?_
        refine g_iload_n (pc := 38) (x := v) dX11_plate_38 rfl ?_
        refine g_i2l (pc := 39) dX11_plate_39 (by omega) ?_
        refine g_aload_n (pc := 40) (r := .inl (some x)) dX11_plate_40 rfl ?_
        refine g_getf (pc := 41) (v := vR (x + 3)) flX11_17 dX11_plate_41 hx rfl ?_
        refine g_iload_n (pc := 44) (x := (i : Int)) dX11_plate_44 rfl ?_
        refine g_ialdN (pc := 45) (j := i) dX11_plate_45 a3 (by omega) (by omega) (by omega) ?_
        rw [eMs]
        refine g_callS0 (pc := 46) (as := [vJ v, vI (M : Int)]) (st := [vI ((4 * (i : Int)) + (rr : Int)), vR (x + 7)]) lsX11_116 dX11_plate_46 (Nat.le_of_ble_eq_true rfl) (by omega) (Nat.zero_le _) (Nat.zero_le _) (c_mrestOf (d := 9) (by omega) (by omega) (by omega)) ?_
        rintro r8 h9 ⟨e9, e8⟩
        subst e9
        subst e8
        refine g_iastN (pc := 49) (j := (4 * i) + rr) dX11_plate_49 a7 (by omega) (by omega) (by omega) ?_
        have hx_2 := hx.ne (e := eA 0 24 (va_up Pl ((4 * i) + rr) (v % (M : Int)))) (a := x + 7) (by omega)
        have a1_2 := a1.ne (e := eA 0 24 (va_up Pl ((4 * i) + rr) (v % (M : Int)))) (a := x + 7) (by omega)
        have a2_2 := a2.ne (e := eA 0 24 (va_up Pl ((4 * i) + rr) (v % (M : Int)))) (a := x + 7) (by omega)
        have a3_2 := a3.ne (e := eA 0 24 (va_up Pl ((4 * i) + rr) (v % (M : Int)))) (a := x + 7) (by omega)
        have a4_2 := a4.ne (e := eA 0 24 (va_up Pl ((4 * i) + rr) (v % (M : Int)))) (a := x + 7) (by omega)
        have a5_2 := a5.ne (e := eA 0 24 (va_up Pl ((4 * i) + rr) (v % (M : Int)))) (a := x + 7) (by omega)
        have a6_2 := a6.ne (e := eA 0 24 (va_up Pl ((4 * i) + rr) (v % (M : Int)))) (a := x + 7) (by omega)
        have a7_2 := a7.self (e := eA 0 24 (va_up Pl ((4 * i) + rr) (v % (M : Int))))
        have a8_2 := a8.ne (e := eA 0 24 (va_up Pl ((4 * i) + rr) (v % (M : Int)))) (a := x + 7) (by omega)
        refine g_iconst (pc := 50) dX11_plate_50 ?_
        have hra : RA N (va_up h9 (x + 7) (eA 0 24 (va_up Pl ((4 * i) + rr) (v % (M : Int))))) x (va_up σ i (some (kd, M, n, T, va_up Y rr (v % (M : Int)), P))) Th Kd Ms Sz Tb Mo (va_up Pl (4 * i + rr) (v % (M : Int))) Pi := by
          refine ra.plate (V := va_up Y rr (v % (M : Int))) hi es a7_2.2 (fun a z1 z2 z3 => va_up_ne _ _ z3) (up_bd hYb ⟨v0, v1⟩) (fun r2 z1 => ?_) (fun j z => va_up_ne _ _ (by omega)) (rng_lt rP9 hM2 ⟨v0, v1⟩)
          by_cases e : r2 = rr
          · rw [e, va_up_self, va_up_self]
          · rw [va_up_ne _ _ (by omega), va_up_ne _ _ e]
            exact ePl r2 z1
        exact r_bool (pc := 51) dX11_plate_51 rfl rfl (Nat.le_refl _) (Or.inr rfl) ⟨by first | rfl | (rw [qM_some eg, if_pos (by omega)]), by rw [qM_some eg, if_pos (by omega)]; simp only [Int.toNat_natCast]; exact rP.tr kg (RMs.of ⟨_, _, _, _, _, _, hx.ne (by omega)⟩ (sc.keep (fun a z1 z2 => va_up_ne _ _ (by omega))) hra) (fun a z => va_up_ne _ _ (by omega))⟩
      · refine g_iconst (pc := 27) dX11_plate_27 ?_
        exact r_bool (pc := 28) dX11_plate_28 rfl rfl (Nat.le_refl _) (Or.inl rfl) ⟨by first | rfl | (rw [qM_some eg, if_neg (by omega)]), by rw [qM_some eg, if_neg (by omega)]; exact rp⟩

theorem r_rest {N x : Nat} {pr ts : Int} {m r : Int} {σ : Nat → Option MSt} {h : MH} (hm : i32 m) (hr : i32 r) (rs0 : RMs N h x σ pr ts) : Ok mX11_rest 10 0 0 [vR x, vI m, vI r] N h (fun r9 h2 => r9 = some (vI (qM σ m (-1) (fun kd M n T Y P => if 0 ≤ r ∧ r < n then Y r.toNat else -1))) ∧ rP N h h2 x σ pr ts) := by
  refine Ok.of pfX11_rest rfl (Nat.le_of_ble_eq_true rfl) (fun Ls sx => ?_)
  show G mX11_rest (10, 0, 0, Ls, sx) 0 [(0, vR x), (1, vI m), (2, vI r)] [] (0, 0, N) h _
  obtain ⟨⟨th, wd, pm, fm, mu, um, hx0⟩, sc0, Th, Kd, Ms, Sz, Tb, Mo, Pl, Pi, ra0⟩ := id rs0
  replace ra0 : RA N h x σ Th Kd Ms Sz Tb Mo Pl Pi := ra0
  refine g_aload_n (pc := 0) (r := .inl (some x)) dX11_rest_0 rfl ?_
  refine g_iconst (pc := 1) dX11_rest_1 ?_
  refine g_putf (pc := 2) fpX11_104 dX11_rest_2 hx0 (okv_int _) (Nat.le_of_ble_eq_true rfl) ?_
  have hx_1 := hx0.self (e := mdl x 0 wd pm fm mu um pr ts)
  show G mX11_rest _ 5 [(0, vR x), (1, vI m), (2, vI r)] [] _ (va_up h x (mdl x 0 wd pm fm mu um pr ts)) _
  obtain ⟨g, eg0⟩ : ∃ g, g = va_up h x (mdl x 0 wd pm fm mu um pr ts) := ⟨_, rfl⟩
  rw [← eg0] at hx_1 ⊢
  have hx := hx_1
  have kg : ∀ a, a ≠ x → g a = h a := fun a z => by rw [eg0, va_up_ne _ _ z]
  have ra := ra0.keep (h2 := g) (fun a z1 z2 => kg a (by omega))
  have sc := sc0.keep (h2 := g) (fun a z1 z2 => kg a (by omega))
  have mo : MO N g x pr ts := ⟨_, _, _, _, _, _, hx⟩
  have rs : RMs N g x σ pr ts := RMs.of mo sc ra
  have rp : rP N h g x σ pr ts := ⟨rs, fun a z => kg a (by omega)⟩
  refine g_aload_n (pc := 5) (r := .inl (some x)) dX11_rest_5 rfl ?_
  refine g_iload_n (pc := 6) (x := m) dX11_rest_6 rfl ?_
  refine g_callV0 (pc := 7) (as := [vI m]) (b := x) (st := []) lvX11_108 dX11_rest_7 hx (Nat.le_of_ble_eq_true rfl) (by omega) (Nat.zero_le _) (Nat.zero_le _) (c_isM (d := 9) hm hx ra) ?_
  rintro r8 h9 ⟨e9, e8⟩
  subst e9
  subst e8
  rcases eg : gt σ m with _ | ⟨kd, M, n, T, Y, P⟩
  · rw [qM_none eg]
    refine g_if_eqT (pc := 10) (tgt := 40) dX11_rest_10 (by decide) (by omega) (by omega) ?_
    refine g_iconst (pc := 40) dX11_rest_40 ?_
    exact r_int (pc := 41) dX11_rest_41 rfl rfl (Nat.le_refl _) ⟨by first | rfl | (rw [qM_none eg]), rp⟩
  · rw [qM_some eg]
    obtain ⟨i, hi, em, es⟩ := gt_some eg
    subst em
    obtain ⟨a1, a2, a3, a4, a5, a6, a7, a8, ⟨rT, rM, rP9⟩, mi⟩ := id ra
    obtain ⟨ok, eTh, eKd, eMs, eSz, eTb, eMo, ePl, ePi⟩ := (mi i hi).out es
    obtain ⟨hkd, hM, hM2, n1, hn, hk1, hk3, hT, hYb, hPb⟩ := id ok
    have hrow := rs.row hi es
    refine g_if_eqF (pc := 10) (tgt := 40) dX11_rest_10 (by decide) (by omega) (by omega) ?_
    refine g_iload_n (pc := 13) (x := r) dX11_rest_13 rfl ?_
    refine g_if_lt (pc := 14) (tgt := 40) dX11_rest_14 (by decide) (by omega) (fun k0 => ?_) (fun k0 => ?_)
    · refine g_iconst (pc := 40) dX11_rest_40 ?_
      exact r_int (pc := 41) dX11_rest_41 rfl rfl (Nat.le_refl _) ⟨by first | rfl | (rw [qM_some eg, if_neg (by omega)]), rp⟩
    · refine g_iload_n (pc := 17) (x := r) dX11_rest_17 rfl ?_
      refine g_aload_n (pc := 18) (r := .inl (some x)) dX11_rest_18 rfl ?_
      refine g_getf (pc := 19) (v := vR (x + 4)) flX11_20 dX11_rest_19 hx rfl ?_
      refine g_iload_n (pc := 22) (x := (i : Int)) dX11_rest_22 rfl ?_
      refine g_ialdN (pc := 23) (j := i) dX11_rest_23 a4 (by omega) (by omega) (by omega) ?_
      rw [eSz]
      refine g_icmp_ge (pc := 24) (tgt := 40) dX11_rest_24 (by decide) (by omega) (by omega) (fun k1 => ?_) (fun k1 => ?_)
      · refine g_iconst (pc := 40) dX11_rest_40 ?_
        exact r_int (pc := 41) dX11_rest_41 rfl rfl (Nat.le_refl _) ⟨by first | rfl | (rw [qM_some eg, if_neg (by omega)]), rp⟩
      · obtain ⟨rr, er⟩ : ∃ rr : Nat, r = (rr : Int) := ⟨r.toNat, by omega⟩
        subst er
        refine g_aload_n (pc := 27) (r := .inl (some x)) dX11_rest_27 rfl ?_
        refine g_getf (pc := 28) (v := vR (x + 7)) flX11_29 dX11_rest_28 hx rfl ?_
        refine g_iconst (pc := 31) dX11_rest_31 ?_
        refine g_iload_n (pc := 32) (x := (i : Int)) dX11_rest_32 rfl ?_
        refine g_imul (pc := 33) dX11_rest_33 ?_
        refine g_iload_n (pc := 34) (x := (rr : Int)) dX11_rest_34 rfl ?_
        refine g_iadd (pc := 35) dX11_rest_35 ?_
        refine g_ialdN (pc := 36) (j := (4 * i) + rr) dX11_rest_36 a7 (by omega) (by omega) (by omega) ?_
        rw [ePl rr (by omega)]
        refine g_goto (pc := 37) (tgt := 41) dX11_rest_37 (by decide) ?_
        exact r_int (pc := 41) dX11_rest_41 rfl rfl (Nat.le_refl _) ⟨by first | rfl | (rw [qM_some eg, if_pos (by omega), Int.toNat_natCast]), rp⟩

theorem r_cell {N x : Nat} {pr ts : Int} {m r cl : Int} {σ : Nat → Option MSt} {h : MH} (hm : i32 m) (hr : i32 r) (hcl : i32 cl) (rs0 : RMs N h x σ pr ts) : Ok mX11_cell 10 0 0 [vR x, vI m, vI r, vI cl] N h (fun r9 h2 => r9 = some (vI (qM σ m (-1) (fun kd M n T Y P => if (0 ≤ r ∧ r < n) ∧ (0 ≤ cl ∧ cl ≤ n) then (if cl = (n : Int) then T (5 * r.toNat + 4) else T (5 * r.toNat + cl.toNat)) else -1))) ∧ rP N h h2 x σ pr ts) := by
  refine Ok.of pfX11_cell rfl (Nat.le_of_ble_eq_true rfl) (fun Ls sx => ?_)
  show G mX11_cell (10, 0, 0, Ls, sx) 0 [(0, vR x), (1, vI m), (2, vI r), (3, vI cl)] [] (0, 0, N) h _
  obtain ⟨⟨th, wd, pm, fm, mu, um, hx0⟩, sc0, Th, Kd, Ms, Sz, Tb, Mo, Pl, Pi, ra0⟩ := id rs0
  replace ra0 : RA N h x σ Th Kd Ms Sz Tb Mo Pl Pi := ra0
  refine g_aload_n (pc := 0) (r := .inl (some x)) dX11_cell_0 rfl ?_
  refine g_iconst (pc := 1) dX11_cell_1 ?_
  refine g_putf (pc := 2) fpX11_104 dX11_cell_2 hx0 (okv_int _) (Nat.le_of_ble_eq_true rfl) ?_
  have hx_1 := hx0.self (e := mdl x 0 wd pm fm mu um pr ts)
  show G mX11_cell _ 5 [(0, vR x), (1, vI m), (2, vI r), (3, vI cl)] [] _ (va_up h x (mdl x 0 wd pm fm mu um pr ts)) _
  obtain ⟨g, eg0⟩ : ∃ g, g = va_up h x (mdl x 0 wd pm fm mu um pr ts) := ⟨_, rfl⟩
  rw [← eg0] at hx_1 ⊢
  have hx := hx_1
  have kg : ∀ a, a ≠ x → g a = h a := fun a z => by rw [eg0, va_up_ne _ _ z]
  have ra := ra0.keep (h2 := g) (fun a z1 z2 => kg a (by omega))
  have sc := sc0.keep (h2 := g) (fun a z1 z2 => kg a (by omega))
  have mo : MO N g x pr ts := ⟨_, _, _, _, _, _, hx⟩
  have rs : RMs N g x σ pr ts := RMs.of mo sc ra
  have rp : rP N h g x σ pr ts := ⟨rs, fun a z => kg a (by omega)⟩
  refine g_aload_n (pc := 5) (r := .inl (some x)) dX11_cell_5 rfl ?_
  refine g_iload_n (pc := 6) (x := m) dX11_cell_6 rfl ?_
  refine g_callV0 (pc := 7) (as := [vI m]) (b := x) (st := []) lvX11_108 dX11_cell_7 hx (Nat.le_of_ble_eq_true rfl) (by omega) (Nat.zero_le _) (Nat.zero_le _) (c_isM (d := 9) hm hx ra) ?_
  rintro r8 h9 ⟨e9, e8⟩
  subst e9
  subst e8
  rcases eg : gt σ m with _ | ⟨kd, M, n, T, Y, P⟩
  · rw [qM_none eg]
    refine g_if_eqT (pc := 10) (tgt := 41) dX11_cell_10 (by decide) (by omega) (by omega) ?_
    refine g_iconst (pc := 41) dX11_cell_41 ?_
    exact r_int (pc := 42) dX11_cell_42 rfl rfl (Nat.le_refl _) ⟨by first | rfl | (rw [qM_none eg]), rp⟩
  · rw [qM_some eg]
    obtain ⟨i, hi, em, es⟩ := gt_some eg
    subst em
    obtain ⟨a1, a2, a3, a4, a5, a6, a7, a8, ⟨rT, rM, rP9⟩, mi⟩ := id ra
    obtain ⟨ok, eTh, eKd, eMs, eSz, eTb, eMo, ePl, ePi⟩ := (mi i hi).out es
    obtain ⟨hkd, hM, hM2, n1, hn, hk1, hk3, hT, hYb, hPb⟩ := id ok
    have hrow := rs.row hi es
    refine g_if_eqF (pc := 10) (tgt := 41) dX11_cell_10 (by decide) (by omega) (by omega) ?_
    refine g_iload_n (pc := 13) (x := r) dX11_cell_13 rfl ?_
    refine g_if_lt (pc := 14) (tgt := 41) dX11_cell_14 (by decide) (by omega) (fun k0 => ?_) (fun k0 => ?_)
    · refine g_iconst (pc := 41) dX11_cell_41 ?_
      exact r_int (pc := 42) dX11_cell_42 rfl rfl (Nat.le_refl _) ⟨by first | rfl | (rw [qM_some eg, if_neg (by omega)]), rp⟩
    · refine g_iload_n (pc := 17) (x := r) dX11_cell_17 rfl ?_
      refine g_aload_n (pc := 18) (r := .inl (some x)) dX11_cell_18 rfl ?_
      refine g_getf (pc := 19) (v := vR (x + 4)) flX11_20 dX11_cell_19 hx rfl ?_
      refine g_iload_n (pc := 22) (x := (i : Int)) dX11_cell_22 rfl ?_
      refine g_ialdN (pc := 23) (j := i) dX11_cell_23 a4 (by omega) (by omega) (by omega) ?_
      rw [eSz]
      refine g_icmp_ge (pc := 24) (tgt := 41) dX11_cell_24 (by decide) (by omega) (by omega) (fun k1 => ?_) (fun k1 => ?_)
      · refine g_iconst (pc := 41) dX11_cell_41 ?_
        exact r_int (pc := 42) dX11_cell_42 rfl rfl (Nat.le_refl _) ⟨by first | rfl | (rw [qM_some eg, if_neg (by omega)]), rp⟩
      · refine g_iload_n (pc := 27) (x := cl) dX11_cell_27 rfl ?_
        refine g_if_lt (pc := 28) (tgt := 41) dX11_cell_28 (by decide) (by omega) (fun k2 => ?_) (fun k2 => ?_)
        · refine g_iconst (pc := 41) dX11_cell_41 ?_
          exact r_int (pc := 42) dX11_cell_42 rfl rfl (Nat.le_refl _) ⟨by first | rfl | (rw [qM_some eg, if_neg (by omega)]), rp⟩
        · refine g_iload_n (pc := 31) (x := cl) dX11_cell_31 rfl ?_
          refine g_aload_n (pc := 32) (r := .inl (some x)) dX11_cell_32 rfl ?_
          refine g_getf (pc := 33) (v := vR (x + 4)) flX11_20 dX11_cell_33 hx rfl ?_
          refine g_iload_n (pc := 36) (x := (i : Int)) dX11_cell_36 rfl ?_
          refine g_ialdN (pc := 37) (j := i) dX11_cell_37 a4 (by omega) (by omega) (by omega) ?_
          rw [eSz]
          refine g_icmp_le (pc := 38) (tgt := 43) dX11_cell_38 (by decide) (by omega) (by omega) (fun k3 => ?_) (fun k3 => ?_)
          · obtain ⟨rr, er⟩ : ∃ rr : Nat, r = (rr : Int) := ⟨r.toNat, by omega⟩
            subst er
            obtain ⟨cc, ec⟩ : ∃ cc : Nat, cl = (cc : Int) := ⟨cl.toNat, by omega⟩
            subst ec
            refine g_iload_n (pc := 43) (x := (cc : Int)) dX11_cell_43 rfl ?_
            refine g_aload_n (pc := 44) (r := .inl (some x)) dX11_cell_44 rfl ?_
            refine g_getf (pc := 45) (v := vR (x + 4)) flX11_20 dX11_cell_45 hx rfl ?_
            refine g_iload_n (pc := 48) (x := (i : Int)) dX11_cell_48 rfl ?_
            refine g_ialdN (pc := 49) (j := i) dX11_cell_49 a4 (by omega) (by omega) (by omega) ?_
            rw [eSz]
            refine g_icmp_ne (pc := 50) (tgt := 66) dX11_cell_50 (by decide) (by omega) (by omega) (fun k4 => ?_) (fun k4 => ?_)
            · refine g_aload_n (pc := 66) (r := .inl (some x)) dX11_cell_66 rfl ?_
              refine g_getf (pc := 67) (v := vR (x + 5)) flX11_23 dX11_cell_67 hx rfl ?_
              refine g_bipush (pc := 70) dX11_cell_70 (by decide +kernel) ?_
              refine g_iload_n (pc := 72) (x := (i : Int)) dX11_cell_72 rfl ?_
              refine g_imul (pc := 73) dX11_cell_73 ?_
              refine g_iconst (pc := 74) dX11_cell_74 ?_
              refine g_iload_n (pc := 75) (x := (rr : Int)) dX11_cell_75 rfl ?_
              refine g_imul (pc := 76) dX11_cell_76 ?_
              refine g_iadd (pc := 77) dX11_cell_77 ?_
              refine g_iload_n (pc := 78) (x := (cc : Int)) dX11_cell_78 rfl ?_
              refine g_iadd (pc := 79) dX11_cell_79 ?_
              refine g_ialdN (pc := 80) (j := ((16 * i) + (4 * rr)) + cc) dX11_cell_80 a5 (by omega) (by omega) (by omega) ?_
              rw [eTb rr cc (by omega) (by omega)]
              exact r_int (pc := 81) dX11_cell_81 rfl rfl (Nat.le_refl _) ⟨by first | rfl | (rw [qM_some eg, if_pos (by omega), if_neg k4]; simp only [Int.toNat_natCast]), rp⟩
            · refine g_aload_n (pc := 53) (r := .inl (some x)) dX11_cell_53 rfl ?_
              refine g_getf (pc := 54) (v := vR (x + 6)) flX11_26 dX11_cell_54 hx rfl ?_
              refine g_iconst (pc := 57) dX11_cell_57 ?_
              refine g_iload_n (pc := 58) (x := (i : Int)) dX11_cell_58 rfl ?_
              refine g_imul (pc := 59) dX11_cell_59 ?_
              refine g_iload_n (pc := 60) (x := (rr : Int)) dX11_cell_60 rfl ?_
              refine g_iadd (pc := 61) dX11_cell_61 ?_
              refine g_ialdN (pc := 62) (j := (4 * i) + rr) dX11_cell_62 a6 (by omega) (by omega) (by omega) ?_
              rw [eMo rr (by omega)]
              refine g_goto (pc := 63) (tgt := 81) dX11_cell_63 (by decide) ?_
              exact r_int (pc := 81) dX11_cell_81 rfl rfl (Nat.le_refl _) ⟨by first | rfl | (rw [qM_some eg, if_pos (by omega), if_pos (by omega)]; simp only [Int.toNat_natCast]), rp⟩
          · refine g_iconst (pc := 41) dX11_cell_41 ?_
            exact r_int (pc := 42) dX11_cell_42 rfl rfl (Nat.le_refl _) ⟨by first | rfl | (rw [qM_some eg, if_neg (by omega)]), rp⟩

theorem r_look {N x : Nat} {pr ts : Int} {m w : Int} {σ : Nat → Option MSt} {h : MH} (hm : i32 m) (hw : i32 w) (rs0 : RMs N h x σ pr ts) : Ok mX11_look 10 0 0 [vR x, vI m, vI w] N h (fun r9 h2 => r9 = some (vI (qM σ m (-1) (fun kd M n T Y P => if w = 0 then (kd : Int) else if w = 1 then (M : Int) else if w = 2 then (n : Int) else if w = 3 then detF n T % (M : Int) else if w = 4 then (if Nat.gcd M (detF n T % (M : Int)).toNat = 1 then 1 else 0 : Int) else if w = 5 then ((fcs M).length : Int) else -1))) ∧ rP N h h2 x σ pr ts) := by
  refine Ok.of pfX11_look rfl (Nat.le_of_ble_eq_true rfl) (fun Ls sx => ?_)
  show G mX11_look (10, 0, 0, Ls, sx) 0 [(0, vR x), (1, vI m), (2, vI w)] [] (0, 0, N) h _
  obtain ⟨⟨th, wd, pm, fm, mu, um, hx0⟩, sc0, Th, Kd, Ms, Sz, Tb, Mo, Pl, Pi, ra0⟩ := id rs0
  replace ra0 : RA N h x σ Th Kd Ms Sz Tb Mo Pl Pi := ra0
  refine g_aload_n (pc := 0) (r := .inl (some x)) dX11_look_0 rfl ?_
  refine g_iconst (pc := 1) dX11_look_1 ?_
  refine g_putf (pc := 2) fpX11_104 dX11_look_2 hx0 (okv_int _) (Nat.le_of_ble_eq_true rfl) ?_
  have hx_1 := hx0.self (e := mdl x 0 wd pm fm mu um pr ts)
  show G mX11_look _ 5 [(0, vR x), (1, vI m), (2, vI w)] [] _ (va_up h x (mdl x 0 wd pm fm mu um pr ts)) _
  obtain ⟨g, eg0⟩ : ∃ g, g = va_up h x (mdl x 0 wd pm fm mu um pr ts) := ⟨_, rfl⟩
  rw [← eg0] at hx_1 ⊢
  have hx := hx_1
  have kg : ∀ a, a ≠ x → g a = h a := fun a z => by rw [eg0, va_up_ne _ _ z]
  have ra := ra0.keep (h2 := g) (fun a z1 z2 => kg a (by omega))
  have sc := sc0.keep (h2 := g) (fun a z1 z2 => kg a (by omega))
  have mo : MO N g x pr ts := ⟨_, _, _, _, _, _, hx⟩
  have rs : RMs N g x σ pr ts := RMs.of mo sc ra
  have rp : rP N h g x σ pr ts := ⟨rs, fun a z => kg a (by omega)⟩
  refine g_aload_n (pc := 5) (r := .inl (some x)) dX11_look_5 rfl ?_
  refine g_iload_n (pc := 6) (x := m) dX11_look_6 rfl ?_
  refine g_callV0 (pc := 7) (as := [vI m]) (b := x) (st := []) lvX11_108 dX11_look_7 hx (Nat.le_of_ble_eq_true rfl) (by omega) (Nat.zero_le _) (Nat.zero_le _) (c_isM (d := 9) hm hx ra) ?_
  rintro r8 h9 ⟨e9, e8⟩
  subst e9
  subst e8
  rcases eg : gt σ m with _ | ⟨kd, M, n, T, Y, P⟩
  · rw [qM_none eg]
    refine g_if_neF (pc := 10) (tgt := 15) dX11_look_10 (by decide) (by omega) (by omega) ?_
    refine g_iconst (pc := 13) dX11_look_13 ?_
    exact r_int (pc := 14) dX11_look_14 rfl rfl (Nat.le_refl _) ⟨by first | rfl | (rw [qM_none eg]), rp⟩
  · rw [qM_some eg]
    obtain ⟨i, hi, em, es⟩ := gt_some eg
    subst em
    obtain ⟨a1, a2, a3, a4, a5, a6, a7, a8, ⟨rT, rM, rP9⟩, mi⟩ := id ra
    obtain ⟨ok, eTh, eKd, eMs, eSz, eTb, eMo, ePl, ePi⟩ := (mi i hi).out es
    obtain ⟨hkd, hM, hM2, n1, hn, hk1, hk3, hT, hYb, hPb⟩ := id ok
    have hrow := rs.row hi es
    refine g_if_neT (pc := 10) (tgt := 15) dX11_look_10 (by decide) (by omega) (by omega) ?_
    refine g_iload_n (pc := 15) (x := w) dX11_look_15 rfl ?_
    by_cases hs0 : w = 0
    · refine g_tabIn (pc := 16) (tgt := 56) dX11_look_16 (by omega) (by omega) (by omega) (by rw [hs0]; rfl) (by decide) ?_
      refine g_aload_n (pc := 56) (r := .inl (some x)) dX11_look_56 rfl ?_
      refine g_getf (pc := 57) (v := vR (x + 2)) flX11_13 dX11_look_57 hx rfl ?_
      refine g_iload_n (pc := 60) (x := (i : Int)) dX11_look_60 rfl ?_
      refine g_ialdN (pc := 61) (j := i) dX11_look_61 a2 (by omega) (by omega) (by omega) ?_
      rw [eKd]
      exact r_int (pc := 62) dX11_look_62 rfl rfl (Nat.le_refl _) ⟨by first | rfl | (rw [qM_some eg, if_pos hs0]), rp⟩
    by_cases hs1 : w = 1
    · refine g_tabIn (pc := 16) (tgt := 63) dX11_look_16 (by omega) (by omega) (by omega) (by rw [hs1]; rfl) (by decide) ?_
      refine g_aload_n (pc := 63) (r := .inl (some x)) dX11_look_63 rfl ?_
      refine g_getf (pc := 64) (v := vR (x + 3)) flX11_17 dX11_look_64 hx rfl ?_
      refine g_iload_n (pc := 67) (x := (i : Int)) dX11_look_67 rfl ?_
      refine g_ialdN (pc := 68) (j := i) dX11_look_68 a3 (by omega) (by omega) (by omega) ?_
      rw [eMs]
      exact r_int (pc := 69) dX11_look_69 rfl rfl (Nat.le_refl _) ⟨by first | rfl | (rw [qM_some eg, if_neg hs0, if_pos hs1]), rp⟩
    by_cases hs2 : w = 2
    · refine g_tabIn (pc := 16) (tgt := 70) dX11_look_16 (by omega) (by omega) (by omega) (by rw [hs2]; rfl) (by decide) ?_
      refine g_aload_n (pc := 70) (r := .inl (some x)) dX11_look_70 rfl ?_
      refine g_getf (pc := 71) (v := vR (x + 4)) flX11_20 dX11_look_71 hx rfl ?_
      refine g_iload_n (pc := 74) (x := (i : Int)) dX11_look_74 rfl ?_
      refine g_ialdN (pc := 75) (j := i) dX11_look_75 a4 (by omega) (by omega) (by omega) ?_
      rw [eSz]
      exact r_int (pc := 76) dX11_look_76 rfl rfl (Nat.le_refl _) ⟨by first | rfl | (rw [qM_some eg, if_neg hs0, if_neg hs1, if_pos hs2]), rp⟩
    by_cases hs3 : w = 3
    · refine g_tabIn (pc := 16) (tgt := 77) dX11_look_16 (by omega) (by omega) (by omega) (by rw [hs3]; rfl) (by decide) ?_
      refine g_aload_n (pc := 77) (r := .inl (some x)) dX11_look_77 rfl ?_
      refine g_iload_n (pc := 78) (x := (i : Int)) dX11_look_78 rfl ?_
      refine g_callV0 (pc := 79) (as := [vI (i : Int)]) (b := x) (st := []) lvX11_150 dX11_look_79 hx (Nat.le_of_ble_eq_true rfl) (by omega) (Nat.zero_le _) (Nat.zero_le _) (c_mworth (d := 8) n1 hn hM hM2 hi mo hrow) ?_
      rintro r8 h9 ⟨e9, e8⟩
      subst e9
      subst e8
      exact r_int (pc := 82) dX11_look_82 rfl rfl (Nat.le_refl _) ⟨by first | rfl | (rw [qM_some eg, if_neg hs0, if_neg hs1, if_neg hs2, if_pos hs3]), rp⟩
    by_cases hs4 : w = 4
    · refine g_tabIn (pc := 16) (tgt := 83) dX11_look_16 (by omega) (by omega) (by omega) (by rw [hs4]; rfl) (by decide) ?_
      refine g_aload_n (pc := 83) (r := .inl (some x)) dX11_look_83 rfl ?_
      refine g_iload_n (pc := 84) (x := (i : Int)) dX11_look_84 rfl ?_
      refine g_callV0 (pc := 85) (as := [vI (i : Int)]) (b := x) (st := []) lvX11_161 dX11_look_85 hx (Nat.le_of_ble_eq_true rfl) (by omega) (Nat.zero_le _) (Nat.zero_le _) (c_isTurnable (d := 7) n1 hn hM hM2 hi mo hrow) ?_
      rintro r8 h9 ⟨e9, e8⟩
      subst e9
      subst e8
      by_cases hgb : Nat.gcd M (detF n T % (M : Int)).toNat = 1
      · rw [if_pos hgb]
        refine g_if_eqF (pc := 88) (tgt := 95) dX11_look_88 (by decide) (by omega) (by omega) ?_
        refine g_iconst (pc := 91) dX11_look_91 ?_
        refine g_goto (pc := 92) (tgt := 96) dX11_look_92 (by decide) ?_
        exact r_int (pc := 96) dX11_look_96 rfl rfl (Nat.le_refl _) ⟨by first | rfl | (rw [qM_some eg, if_neg hs0, if_neg hs1, if_neg hs2, if_neg hs3, if_pos hs4, if_pos hgb]), rp⟩
      · rw [if_neg hgb]
        refine g_if_eqT (pc := 88) (tgt := 95) dX11_look_88 (by decide) (by omega) (by omega) ?_
        refine g_iconst (pc := 95) dX11_look_95 ?_
        exact r_int (pc := 96) dX11_look_96 rfl rfl (Nat.le_refl _) ⟨by first | rfl | (rw [qM_some eg, if_neg hs0, if_neg hs1, if_neg hs2, if_neg hs3, if_pos hs4, if_neg hgb]), rp⟩
    by_cases hs5 : w = 5
    · refine g_tabIn (pc := 16) (tgt := 97) dX11_look_16 (by omega) (by omega) (by omega) (by rw [hs5]; rfl) (by decide) ?_
      obtain ⟨s9, ⟨s10, s11, s12, s13, s14, ⟨p15, s15⟩, ⟨p16, s16⟩, ⟨p17, s17⟩, s18⟩, s2, s22, s23, s24, s25⟩ := id sc
      refine g_aload_n (pc := 97) (r := .inl (some x)) dX11_look_97 rfl ?_
      refine g_aload_n (pc := 98) (r := .inl (some x)) dX11_look_98 rfl ?_
      refine g_getf (pc := 99) (v := vR (x + 3)) flX11_17 dX11_look_99 hx rfl ?_
      refine g_iload_n (pc := 102) (x := (i : Int)) dX11_look_102 rfl ?_
      refine g_ialdN (pc := 103) (j := i) dX11_look_103 a3 (by omega) (by omega) (by omega) ?_
      rw [eMs]
      refine g_callV0 (pc := 104) (as := [vI (M : Int)]) (b := x) (st := []) lvX11_164 dX11_look_104 hx (Nat.le_of_ble_eq_true rfl) (by omega) (Nat.zero_le _) (Nat.zero_le _) (c_parts (d := 9) hM hM2 hx s15 s16 s17) ?_
      rintro r8 h3 ⟨rfl, o1, ⟨P2, S2, O2, o15, o16, o17, oj⟩, k3⟩
      have hx3 : Hd (0, 0, N) h3 x (mdl x 0 wd ((fcs M).length : Int) fm mu um pr ts) := ⟨hx.1, o1⟩
      have q15 : Hd (0, 0, N) h3 (x + 15) (eA 0 5 P2) := ⟨s15.1, o15⟩
      have q16 : Hd (0, 0, N) h3 (x + 16) (eA 0 5 S2) := ⟨s16.1, o16⟩
      have q17 : Hd (0, 0, N) h3 (x + 17) (eA 0 5 O2) := ⟨s17.1, o17⟩
      have hlen := (fcs_ok hM hM2).1
      have rs3 : RMs N h3 x σ pr ts := rs.scr ⟨_, _, _, _, _, _, hx3⟩ ⟨s10.keep (k3 _ (by omega) (by omega) (by omega) (by omega)), s11.keep (k3 _ (by omega) (by omega) (by omega) (by omega)), s12.keep (k3 _ (by omega) (by omega) (by omega) (by omega)), s13.keep (k3 _ (by omega) (by omega) (by omega) (by omega)), s14.keep (k3 _ (by omega) (by omega) (by omega) (by omega)), ⟨_, q15⟩, ⟨_, q16⟩, ⟨_, q17⟩, s18.elim (fun f z => ⟨f, z.keep (k3 _ (by omega) (by omega) (by omega) (by omega))⟩)⟩ (fun a z1 z2 => k3 a z1 (by omega) (by omega) (by omega))
      have rp3 : rP N h h3 x σ pr ts := rP.tr kg rs3 (fun a z => k3 a (by omega) (by omega) (by omega) (by omega))
      have ra3 := ra.keep (h2 := h3) (fun a z1 z2 => k3 a (by omega) (by omega) (by omega) (by omega))
      obtain ⟨b1, b2, b3, b4, b5, b6, b7, b8, -⟩ := id ra3
      have hrow3 := rs3.row hi es
      refine g_aload_n (pc := 107) (r := .inl (some x)) dX11_look_107 rfl ?_
      refine g_getf (pc := 108) (v := vI ((fcs M).length : Int)) flX11_158 dX11_look_108 hx3 rfl ?_
      exact r_int (pc := 111) dX11_look_111 rfl rfl (Nat.le_refl _) ⟨by first | rfl | (rw [qM_some eg, if_neg hs0, if_neg hs1, if_neg hs2, if_neg hs3, if_neg hs4, if_pos hs5]), rp3⟩
    refine g_tabOut (pc := 16) (tgt := 112) dX11_look_16 (by omega) (by omega) (by decide) ?_
    refine g_iconst (pc := 112) dX11_look_112 ?_
    exact r_int (pc := 113) dX11_look_113 rfl rfl (Nat.le_refl _) ⟨by first | rfl | (rw [qM_some eg, if_neg hs0, if_neg hs1, if_neg hs2, if_neg hs3, if_neg hs4, if_neg hs5]), rp⟩

theorem r_part {N x : Nat} {pr ts : Int} {m k w : Int} {σ : Nat → Option MSt} {h : MH} (hm : i32 m) (hk : i32 k) (hw : i32 w) (rs0 : RMs N h x σ pr ts) : Ok mX11_part 10 0 0 [vR x, vI m, vI k, vI w] N h (fun r9 h2 => r9 = some (vI (qM σ m (-1) (fun kd M n T Y P => if 0 ≤ k ∧ k < ((fcs M).length : Int) then (if w = 0 then ((pe M k.toNat).1 : Int) else if w = 1 then (pq M k.toNat : Int) else if w = 2 then ((pe M k.toNat).2 : Int) else if w = 3 then detF n T % (M : Int) % (pq M k.toNat : Int) else -1) else -1))) ∧ rP N h h2 x σ pr ts) := by
  refine Ok.of pfX11_part rfl (Nat.le_of_ble_eq_true rfl) (fun Ls sx => ?_)
  show G mX11_part (10, 0, 0, Ls, sx) 0 [(0, vR x), (1, vI m), (2, vI k), (3, vI w)] [] (0, 0, N) h _
  obtain ⟨⟨th, wd, pm, fm, mu, um, hx0⟩, sc0, Th, Kd, Ms, Sz, Tb, Mo, Pl, Pi, ra0⟩ := id rs0
  replace ra0 : RA N h x σ Th Kd Ms Sz Tb Mo Pl Pi := ra0
  refine g_aload_n (pc := 0) (r := .inl (some x)) dX11_part_0 rfl ?_
  refine g_iconst (pc := 1) dX11_part_1 ?_
  refine g_putf (pc := 2) fpX11_104 dX11_part_2 hx0 (okv_int _) (Nat.le_of_ble_eq_true rfl) ?_
  have hx_1 := hx0.self (e := mdl x 0 wd pm fm mu um pr ts)
  show G mX11_part _ 5 [(0, vR x), (1, vI m), (2, vI k), (3, vI w)] [] _ (va_up h x (mdl x 0 wd pm fm mu um pr ts)) _
  obtain ⟨g, eg0⟩ : ∃ g, g = va_up h x (mdl x 0 wd pm fm mu um pr ts) := ⟨_, rfl⟩
  rw [← eg0] at hx_1 ⊢
  have hx := hx_1
  have kg : ∀ a, a ≠ x → g a = h a := fun a z => by rw [eg0, va_up_ne _ _ z]
  have ra := ra0.keep (h2 := g) (fun a z1 z2 => kg a (by omega))
  have sc := sc0.keep (h2 := g) (fun a z1 z2 => kg a (by omega))
  have mo : MO N g x pr ts := ⟨_, _, _, _, _, _, hx⟩
  have rs : RMs N g x σ pr ts := RMs.of mo sc ra
  have rp : rP N h g x σ pr ts := ⟨rs, fun a z => kg a (by omega)⟩
  refine g_aload_n (pc := 5) (r := .inl (some x)) dX11_part_5 rfl ?_
  refine g_iload_n (pc := 6) (x := m) dX11_part_6 rfl ?_
  refine g_callV0 (pc := 7) (as := [vI m]) (b := x) (st := []) lvX11_108 dX11_part_7 hx (Nat.le_of_ble_eq_true rfl) (by omega) (Nat.zero_le _) (Nat.zero_le _) (c_isM (d := 9) hm hx ra) ?_
  rintro r8 h9 ⟨e9, e8⟩
  subst e9
  subst e8
  rcases eg : gt σ m with _ | ⟨kd, M, n, T, Y, P⟩
  · rw [qM_none eg]
    refine g_if_neF (pc := 10) (tgt := 15) dX11_part_10 (by decide) (by omega) (by omega) ?_
    refine g_iconst (pc := 13) dX11_part_13 ?_
    exact r_int (pc := 14) dX11_part_14 rfl rfl (Nat.le_refl _) ⟨by first | rfl | (rw [qM_none eg]), rp⟩
  · rw [qM_some eg]
    obtain ⟨i, hi, em, es⟩ := gt_some eg
    subst em
    obtain ⟨a1, a2, a3, a4, a5, a6, a7, a8, ⟨rT, rM, rP9⟩, mi⟩ := id ra
    obtain ⟨ok, eTh, eKd, eMs, eSz, eTb, eMo, ePl, ePi⟩ := (mi i hi).out es
    obtain ⟨hkd, hM, hM2, n1, hn, hk1, hk3, hT, hYb, hPb⟩ := id ok
    have hrow := rs.row hi es
    refine g_if_neT (pc := 10) (tgt := 15) dX11_part_10 (by decide) (by omega) (by omega) ?_
    obtain ⟨s9, ⟨s10, s11, s12, s13, s14, ⟨p15, s15⟩, ⟨p16, s16⟩, ⟨p17, s17⟩, s18⟩, s2, s22, s23, s24, s25⟩ := id sc
    refine g_aload_n (pc := 15) (r := .inl (some x)) dX11_part_15 rfl ?_
    refine g_aload_n (pc := 16) (r := .inl (some x)) dX11_part_16 rfl ?_
    refine g_getf (pc := 17) (v := vR (x + 3)) flX11_17 dX11_part_17 hx rfl ?_
    refine g_iload_n (pc := 20) (x := (i : Int)) dX11_part_20 rfl ?_
    refine g_ialdN (pc := 21) (j := i) dX11_part_21 a3 (by omega) (by omega) (by omega) ?_
    rw [eMs]
    refine g_callV0 (pc := 22) (as := [vI (M : Int)]) (b := x) (st := []) lvX11_164 dX11_part_22 hx (Nat.le_of_ble_eq_true rfl) (by omega) (Nat.zero_le _) (Nat.zero_le _) (c_parts (d := 9) hM hM2 hx s15 s16 s17) ?_
    rintro r8 h3 ⟨rfl, o1, ⟨P2, S2, O2, o15, o16, o17, oj⟩, k3⟩
    have hx3 : Hd (0, 0, N) h3 x (mdl x 0 wd ((fcs M).length : Int) fm mu um pr ts) := ⟨hx.1, o1⟩
    have q15 : Hd (0, 0, N) h3 (x + 15) (eA 0 5 P2) := ⟨s15.1, o15⟩
    have q16 : Hd (0, 0, N) h3 (x + 16) (eA 0 5 S2) := ⟨s16.1, o16⟩
    have q17 : Hd (0, 0, N) h3 (x + 17) (eA 0 5 O2) := ⟨s17.1, o17⟩
    have hlen := (fcs_ok hM hM2).1
    have rs3 : RMs N h3 x σ pr ts := rs.scr ⟨_, _, _, _, _, _, hx3⟩ ⟨s10.keep (k3 _ (by omega) (by omega) (by omega) (by omega)), s11.keep (k3 _ (by omega) (by omega) (by omega) (by omega)), s12.keep (k3 _ (by omega) (by omega) (by omega) (by omega)), s13.keep (k3 _ (by omega) (by omega) (by omega) (by omega)), s14.keep (k3 _ (by omega) (by omega) (by omega) (by omega)), ⟨_, q15⟩, ⟨_, q16⟩, ⟨_, q17⟩, s18.elim (fun f z => ⟨f, z.keep (k3 _ (by omega) (by omega) (by omega) (by omega))⟩)⟩ (fun a z1 z2 => k3 a z1 (by omega) (by omega) (by omega))
    have rp3 : rP N h h3 x σ pr ts := rP.tr kg rs3 (fun a z => k3 a (by omega) (by omega) (by omega) (by omega))
    have ra3 := ra.keep (h2 := h3) (fun a z1 z2 => k3 a (by omega) (by omega) (by omega) (by omega))
    obtain ⟨b1, b2, b3, b4, b5, b6, b7, b8, -⟩ := id ra3
    have hrow3 := rs3.row hi es
    refine g_iload_n (pc := 25) (x := k) dX11_part_25 rfl ?_
    refine g_if_lt (pc := 26) (tgt := 37) dX11_part_26 (by decide) (by omega) (fun k0 => ?_) (fun k0 => ?_)
    · refine g_iconst (pc := 37) dX11_part_37 ?_
      exact r_int (pc := 38) dX11_part_38 rfl rfl (Nat.le_refl _) ⟨by first | rfl | (rw [qM_some eg, if_neg (by omega)]), rp3⟩
    · refine g_iload_n (pc := 29) (x := k) dX11_part_29 rfl ?_
      refine g_aload_n (pc := 30) (r := .inl (some x)) dX11_part_30 rfl ?_
      refine g_getf (pc := 31) (v := vI ((fcs M).length : Int)) flX11_158 dX11_part_31 hx3 rfl ?_
      refine g_icmp_lt (pc := 34) (tgt := 39) dX11_part_34 (by decide) (by omega) (by omega) (fun k1 => ?_) (fun k1 => ?_)
      · obtain ⟨j, ej⟩ : ∃ j : Nat, k = (j : Int) := ⟨k.toNat, by omega⟩
        subst ej
        obtain ⟨j1, j2, j3⟩ := oj j (by omega)
        obtain ⟨g1, g2, g3, g4, g5, g6⟩ := pq_ok hM hM2 (show j < (fcs M).length by omega)
        replace j2 : S2 j = (pq M j : Int) := j2
        refine g_iload_n (pc := 39) (x := w) dX11_part_39 rfl ?_
        by_cases hs0 : w = 0
        · refine g_tabIn (pc := 40) (tgt := 72) dX11_part_40 (by omega) (by omega) (by omega) (by rw [hs0]; rfl) (by decide) ?_
          refine g_aload_n (pc := 72) (r := .inl (some x)) dX11_part_72 rfl ?_
          refine g_getf (pc := 73) (v := vR (x + 15)) flX11_54 dX11_part_73 hx3 rfl ?_
          refine g_iload_n (pc := 76) (x := (j : Int)) dX11_part_76 rfl ?_
          refine g_ialdN (pc := 77) (j := j) dX11_part_77 q15 (by omega) (by omega) (by omega) ?_
          rw [j1]
          exact r_int (pc := 78) dX11_part_78 rfl rfl (Nat.le_refl _) ⟨by first | rfl | (rw [qM_some eg, if_pos (by omega), Int.toNat_natCast, if_pos hs0]), rp3⟩
        by_cases hs1 : w = 1
        · refine g_tabIn (pc := 40) (tgt := 79) dX11_part_40 (by omega) (by omega) (by omega) (by rw [hs1]; rfl) (by decide) ?_
          refine g_aload_n (pc := 79) (r := .inl (some x)) dX11_part_79 rfl ?_
          refine g_getf (pc := 80) (v := vR (x + 16)) flX11_57 dX11_part_80 hx3 rfl ?_
          refine g_iload_n (pc := 83) (x := (j : Int)) dX11_part_83 rfl ?_
          refine g_ialdN (pc := 84) (j := j) dX11_part_84 q16 (by omega) (by omega) (by omega) ?_
          rw [j2]
          exact r_int (pc := 85) dX11_part_85 rfl rfl (Nat.le_refl _) ⟨by first | rfl | (rw [qM_some eg, if_pos (by omega), Int.toNat_natCast, if_neg hs0, if_pos hs1]), rp3⟩
        by_cases hs2 : w = 2
        · refine g_tabIn (pc := 40) (tgt := 86) dX11_part_40 (by omega) (by omega) (by omega) (by rw [hs2]; rfl) (by decide) ?_
          refine g_aload_n (pc := 86) (r := .inl (some x)) dX11_part_86 rfl ?_
          refine g_getf (pc := 87) (v := vR (x + 17)) flX11_60 dX11_part_87 hx3 rfl ?_
          refine g_iload_n (pc := 90) (x := (j : Int)) dX11_part_90 rfl ?_
          refine g_ialdN (pc := 91) (j := j) dX11_part_91 q17 (by omega) (by omega) (by omega) ?_
          rw [j3]
          exact r_int (pc := 92) dX11_part_92 rfl rfl (Nat.le_refl _) ⟨by first | rfl | (rw [qM_some eg, if_pos (by omega), Int.toNat_natCast, if_neg hs0, if_neg hs1, if_pos hs2]), rp3⟩
        by_cases hs3 : w = 3
        · refine g_tabIn (pc := 40) (tgt := 93) dX11_part_40 (by omega) (by omega) (by omega) (by rw [hs3]; rfl) (by decide) ?_
          have d0 := Int.emod_nonneg (detF n T) (show (M : Int) ≠ 0 by omega)
          have d1 := Int.emod_lt_of_pos (detF n T) (show (0 : Int) < M by omega)
          refine g_aload_n (pc := 93) (r := .inl (some x)) dX11_part_93 rfl ?_
          refine g_iload_n (pc := 94) (x := (i : Int)) dX11_part_94 rfl ?_
          refine g_callV0 (pc := 95) (as := [vI (i : Int)]) (b := x) (st := []) lvX11_150 dX11_part_95 hx3 (Nat.le_of_ble_eq_true rfl) (by omega) (Nat.zero_le _) (Nat.zero_le _) (c_mworth (d := 8) n1 hn hM hM2 hi rs3.1 hrow3) ?_
          rintro r8 h9 ⟨e9, e8⟩
          subst e9
          subst e8
          refine g_aload_n (pc := 98) (r := .inl (some x)) dX11_part_98 rfl ?_
          refine g_getf (pc := 99) (v := vR (x + 16)) flX11_57 dX11_part_99 hx3 rfl ?_
          refine g_iload_n (pc := 102) (x := (j : Int)) dX11_part_102 rfl ?_
          refine g_ialdN (pc := 103) (j := j) dX11_part_103 q16 (by omega) (by omega) (by omega) ?_
          rw [j2]
          refine g_irem (pc := 104) dX11_part_104 (by omega) (by omega) (by omega) ?_
          rw [Int.tmod_eq_emod_of_nonneg d0]
          exact r_int (pc := 105) dX11_part_105 rfl rfl (Nat.le_refl _) ⟨by first | rfl | (rw [qM_some eg, if_pos (by omega), Int.toNat_natCast, if_neg hs0, if_neg hs1, if_neg hs2, if_pos hs3]), rp3⟩
        refine g_tabOut (pc := 40) (tgt := 106) dX11_part_40 (by omega) (by omega) (by decide) ?_
        refine g_iconst (pc := 106) dX11_part_106 ?_
        exact r_int (pc := 107) dX11_part_107 rfl rfl (Nat.le_refl _) ⟨by first | rfl | (rw [qM_some eg, if_pos (by omega), Int.toNat_natCast, if_neg hs0, if_neg hs1, if_neg hs2, if_neg hs3]), rp3⟩
      · refine g_iconst (pc := 37) dX11_part_37 ?_
        exact r_int (pc := 38) dX11_part_38 rfl rfl (Nat.le_refl _) ⟨by first | rfl | (rw [qM_some eg, if_neg (by omega)]), rp3⟩

theorem r_split {N x : Nat} {pr ts : Int} {m k r : Int} {σ : Nat → Option MSt} {h : MH} (hm : i32 m) (hk : i32 k) (hr : i32 r) (rs0 : RMs N h x σ pr ts) : Ok mX11_split 10 0 0 [vR x, vI m, vI k, vI r] N h (fun r9 h2 => r9 = some (vI (qM σ m (-1) (fun kd M n T Y P => if (0 ≤ k ∧ k < ((fcs M).length : Int)) ∧ (0 ≤ r ∧ r < n) then Y r.toNat % (pq M k.toNat : Int) else -1))) ∧ rP N h h2 x σ pr ts) := by
  refine Ok.of pfX11_split rfl (Nat.le_of_ble_eq_true rfl) (fun Ls sx => ?_)
  show G mX11_split (10, 0, 0, Ls, sx) 0 [(0, vR x), (1, vI m), (2, vI k), (3, vI r)] [] (0, 0, N) h _
  obtain ⟨⟨th, wd, pm, fm, mu, um, hx0⟩, sc0, Th, Kd, Ms, Sz, Tb, Mo, Pl, Pi, ra0⟩ := id rs0
  replace ra0 : RA N h x σ Th Kd Ms Sz Tb Mo Pl Pi := ra0
  refine g_aload_n (pc := 0) (r := .inl (some x)) dX11_split_0 rfl ?_
  refine g_iconst (pc := 1) dX11_split_1 ?_
  refine g_putf (pc := 2) fpX11_104 dX11_split_2 hx0 (okv_int _) (Nat.le_of_ble_eq_true rfl) ?_
  have hx_1 := hx0.self (e := mdl x 0 wd pm fm mu um pr ts)
  show G mX11_split _ 5 [(0, vR x), (1, vI m), (2, vI k), (3, vI r)] [] _ (va_up h x (mdl x 0 wd pm fm mu um pr ts)) _
  obtain ⟨g, eg0⟩ : ∃ g, g = va_up h x (mdl x 0 wd pm fm mu um pr ts) := ⟨_, rfl⟩
  rw [← eg0] at hx_1 ⊢
  have hx := hx_1
  have kg : ∀ a, a ≠ x → g a = h a := fun a z => by rw [eg0, va_up_ne _ _ z]
  have ra := ra0.keep (h2 := g) (fun a z1 z2 => kg a (by omega))
  have sc := sc0.keep (h2 := g) (fun a z1 z2 => kg a (by omega))
  have mo : MO N g x pr ts := ⟨_, _, _, _, _, _, hx⟩
  have rs : RMs N g x σ pr ts := RMs.of mo sc ra
  have rp : rP N h g x σ pr ts := ⟨rs, fun a z => kg a (by omega)⟩
  refine g_aload_n (pc := 5) (r := .inl (some x)) dX11_split_5 rfl ?_
  refine g_iload_n (pc := 6) (x := m) dX11_split_6 rfl ?_
  refine g_callV0 (pc := 7) (as := [vI m]) (b := x) (st := []) lvX11_108 dX11_split_7 hx (Nat.le_of_ble_eq_true rfl) (by omega) (Nat.zero_le _) (Nat.zero_le _) (c_isM (d := 9) hm hx ra) ?_
  rintro r8 h9 ⟨e9, e8⟩
  subst e9
  subst e8
  rcases eg : gt σ m with _ | ⟨kd, M, n, T, Y, P⟩
  · rw [qM_none eg]
    refine g_if_eqT (pc := 10) (tgt := 27) dX11_split_10 (by decide) (by omega) (by omega) ?_
    refine g_iconst (pc := 27) dX11_split_27 ?_
    exact r_int (pc := 28) dX11_split_28 rfl rfl (Nat.le_refl _) ⟨by first | rfl | (rw [qM_none eg]), rp⟩
  · rw [qM_some eg]
    obtain ⟨i, hi, em, es⟩ := gt_some eg
    subst em
    obtain ⟨a1, a2, a3, a4, a5, a6, a7, a8, ⟨rT, rM, rP9⟩, mi⟩ := id ra
    obtain ⟨ok, eTh, eKd, eMs, eSz, eTb, eMo, ePl, ePi⟩ := (mi i hi).out es
    obtain ⟨hkd, hM, hM2, n1, hn, hk1, hk3, hT, hYb, hPb⟩ := id ok
    have hrow := rs.row hi es
    refine g_if_eqF (pc := 10) (tgt := 27) dX11_split_10 (by decide) (by omega) (by omega) ?_
    refine g_iload_n (pc := 13) (x := r) dX11_split_13 rfl ?_
    refine g_if_lt (pc := 14) (tgt := 27) dX11_split_14 (by decide) (by omega) (fun k0 => ?_) (fun k0 => ?_)
    · refine g_iconst (pc := 27) dX11_split_27 ?_
      exact r_int (pc := 28) dX11_split_28 rfl rfl (Nat.le_refl _) ⟨by first | rfl | (rw [qM_some eg, if_neg (by omega)]), rp⟩
    · refine g_iload_n (pc := 17) (x := r) dX11_split_17 rfl ?_
      refine g_aload_n (pc := 18) (r := .inl (some x)) dX11_split_18 rfl ?_
      refine g_getf (pc := 19) (v := vR (x + 4)) flX11_20 dX11_split_19 hx rfl ?_
      refine g_iload_n (pc := 22) (x := (i : Int)) dX11_split_22 rfl ?_
      refine g_ialdN (pc := 23) (j := i) dX11_split_23 a4 (by omega) (by omega) (by omega) ?_
      rw [eSz]
      refine g_icmp_lt (pc := 24) (tgt := 29) dX11_split_24 (by decide) (by omega) (by omega) (fun k1 => ?_) (fun k1 => ?_)
      · obtain ⟨s9, ⟨s10, s11, s12, s13, s14, ⟨p15, s15⟩, ⟨p16, s16⟩, ⟨p17, s17⟩, s18⟩, s2, s22, s23, s24, s25⟩ := id sc
        refine g_aload_n (pc := 29) (r := .inl (some x)) dX11_split_29 rfl ?_
        refine g_aload_n (pc := 30) (r := .inl (some x)) dX11_split_30 rfl ?_
        refine g_getf (pc := 31) (v := vR (x + 3)) flX11_17 dX11_split_31 hx rfl ?_
        refine g_iload_n (pc := 34) (x := (i : Int)) dX11_split_34 rfl ?_
        refine g_ialdN (pc := 35) (j := i) dX11_split_35 a3 (by omega) (by omega) (by omega) ?_
        rw [eMs]
        refine g_callV0 (pc := 36) (as := [vI (M : Int)]) (b := x) (st := []) lvX11_164 dX11_split_36 hx (Nat.le_of_ble_eq_true rfl) (by omega) (Nat.zero_le _) (Nat.zero_le _) (c_parts (d := 9) hM hM2 hx s15 s16 s17) ?_
        rintro r8 h3 ⟨rfl, o1, ⟨P2, S2, O2, o15, o16, o17, oj⟩, k3⟩
        have hx3 : Hd (0, 0, N) h3 x (mdl x 0 wd ((fcs M).length : Int) fm mu um pr ts) := ⟨hx.1, o1⟩
        have q15 : Hd (0, 0, N) h3 (x + 15) (eA 0 5 P2) := ⟨s15.1, o15⟩
        have q16 : Hd (0, 0, N) h3 (x + 16) (eA 0 5 S2) := ⟨s16.1, o16⟩
        have q17 : Hd (0, 0, N) h3 (x + 17) (eA 0 5 O2) := ⟨s17.1, o17⟩
        have hlen := (fcs_ok hM hM2).1
        have rs3 : RMs N h3 x σ pr ts := rs.scr ⟨_, _, _, _, _, _, hx3⟩ ⟨s10.keep (k3 _ (by omega) (by omega) (by omega) (by omega)), s11.keep (k3 _ (by omega) (by omega) (by omega) (by omega)), s12.keep (k3 _ (by omega) (by omega) (by omega) (by omega)), s13.keep (k3 _ (by omega) (by omega) (by omega) (by omega)), s14.keep (k3 _ (by omega) (by omega) (by omega) (by omega)), ⟨_, q15⟩, ⟨_, q16⟩, ⟨_, q17⟩, s18.elim (fun f z => ⟨f, z.keep (k3 _ (by omega) (by omega) (by omega) (by omega))⟩)⟩ (fun a z1 z2 => k3 a z1 (by omega) (by omega) (by omega))
        have rp3 : rP N h h3 x σ pr ts := rP.tr kg rs3 (fun a z => k3 a (by omega) (by omega) (by omega) (by omega))
        have ra3 := ra.keep (h2 := h3) (fun a z1 z2 => k3 a (by omega) (by omega) (by omega) (by omega))
        obtain ⟨b1, b2, b3, b4, b5, b6, b7, b8, -⟩ := id ra3
        have hrow3 := rs3.row hi es
        refine g_iload_n (pc := 39) (x := k) dX11_split_39 rfl ?_
        refine g_if_lt (pc := 40) (tgt := 51) dX11_split_40 (by decide) (by omega) (fun k2 => ?_) (fun k2 => ?_)
        · refine g_iconst (pc := 51) dX11_split_51 ?_
          refine g_goto (pc := 52) (tgt := 72) dX11_split_52 (by decide) ?_
          exact r_int (pc := 72) dX11_split_72 rfl rfl (Nat.le_refl _) ⟨by first | rfl | (rw [qM_some eg, if_neg (by omega)]), rp3⟩
        · refine g_iload_n (pc := 43) (x := k) dX11_split_43 rfl ?_
          refine g_aload_n (pc := 44) (r := .inl (some x)) dX11_split_44 rfl ?_
          refine g_getf (pc := 45) (v := vI ((fcs M).length : Int)) flX11_158 dX11_split_45 hx3 rfl ?_
          refine g_icmp_lt (pc := 48) (tgt := 55) dX11_split_48 (by decide) (by omega) (by omega) (fun k3 => ?_) (fun k3 => ?_)
          · obtain ⟨j, ej⟩ : ∃ j : Nat, k = (j : Int) := ⟨k.toNat, by omega⟩
            subst ej
            obtain ⟨j1, j2, j3⟩ := oj j (by omega)
            obtain ⟨g1, g2, g3, g4, g5, g6⟩ := pq_ok hM hM2 (show j < (fcs M).length by omega)
            replace j2 : S2 j = (pq M j : Int) := j2
            obtain ⟨rr, er⟩ : ∃ rr : Nat, r = (rr : Int) := ⟨r.toNat, by omega⟩
            subst er
            have hyr := hYb rr (by omega)
            refine g_aload_n (pc := 55) (r := .inl (some x)) dX11_split_55 rfl ?_
            refine g_getf (pc := 56) (v := vR (x + 7)) flX11_29 dX11_split_56 hx3 rfl ?_
            refine g_iconst (pc := 59) dX11_split_59 ?_
            refine g_iload_n (pc := 60) (x := (i : Int)) dX11_split_60 rfl ?_
            refine g_imul (pc := 61) dX11_split_61 ?_
            refine g_iload_n (pc := 62) (x := (rr : Int)) dX11_split_62 rfl ?_
            refine g_iadd (pc := 63) dX11_split_63 ?_
            refine g_ialdN (pc := 64) (j := (4 * i) + rr) dX11_split_64 b7 (by omega) (by omega) (by omega) ?_
            rw [ePl rr (by omega)]
            refine g_aload_n (pc := 65) (r := .inl (some x)) dX11_split_65 rfl ?_
            refine g_getf (pc := 66) (v := vR (x + 16)) flX11_57 dX11_split_66 hx3 rfl ?_
            refine g_iload_n (pc := 69) (x := (j : Int)) dX11_split_69 rfl ?_
            refine g_ialdN (pc := 70) (j := j) dX11_split_70 q16 (by omega) (by omega) (by omega) ?_
            rw [j2]
            refine g_irem (pc := 71) dX11_split_71 (by omega) (by omega) (by omega) ?_
            rw [Int.tmod_eq_emod_of_nonneg hyr.1]
            exact r_int (pc := 72) dX11_split_72 rfl rfl (Nat.le_refl _) ⟨by first | rfl | (rw [qM_some eg, if_pos (by omega)]; simp only [Int.toNat_natCast]), rp3⟩
          · refine g_iconst (pc := 51) dX11_split_51 ?_
            refine g_goto (pc := 52) (tgt := 72) dX11_split_52 (by decide) ?_
            exact r_int (pc := 72) dX11_split_72 rfl rfl (Nat.le_refl _) ⟨by first | rfl | (rw [qM_some eg, if_neg (by omega)]), rp3⟩
      · refine g_iconst (pc := 27) dX11_split_27 ?_
        exact r_int (pc := 28) dX11_split_28 rfl rfl (Nat.le_refl _) ⟨by first | rfl | (rw [qM_some eg, if_neg (by omega)]), rp⟩

theorem mjn_l {N x i j rr M q o Ls : Nat} {sx : Nat → Int} {v X : Int} {h : MH} {Q : Option MV → MR → MH → Prop} (hq : 2 ≤ q) (hM2 : M ≤ 500) (eM : M = q * o) (ho : 1 ≤ o) (hcop : Nat.Coprime q o) (hX : 0 ≤ X ∧ X < M) (hX1 : (q : Int) ∣ X - v) (hK : G mX11_join (10, 0, 0, Ls, sx) 116 [(0, vR x), (1, vI (i : Int)), (2, vI (j : Int)), (3, vI (rr : Int)), (4, vI v), (5, vI (M : Int)), (6, vI (q : Int)), (7, vI (v % (q : Int))), (8, vI X)] [] (0, 0, N) h Q) : ∀ (f : Nat) (xe : Int), 0 ≤ xe → xe + f * o = X → G mX11_join (10, 0, 0, Ls, sx) 93 [(0, vR x), (1, vI (i : Int)), (2, vI (j : Int)), (3, vI (rr : Int)), (4, vI v), (5, vI (M : Int)), (6, vI (q : Int)), (7, vI (v % (q : Int))), (8, vI xe)] [] (0, 0, N) h Q := by
  intro f
  have hqM : q ≤ M := by rw [eM]; exact Nat.le_mul_of_pos_right q ho
  have hoM : o ≤ M := by rw [eM]; exact Nat.le_mul_of_pos_left o (by omega)
  have ed : (M : Int).tdiv (q : Int) = (o : Int) := by rw [tdivN (rfl : (M : Int) = _) (rfl : (q : Int) = _), eM, Nat.mul_div_cancel_left o (by omega)]
  have v0 := Int.emod_nonneg v (show (q : Int) ≠ 0 by omega)
  have v1 := Int.emod_lt_of_pos v (show (0 : Int) < q by omega)
  induction f with
  | zero =>
    intro xe x0 hf
    have exX : xe = X := by rw [← hf]; simp
    subst exX
    have er : xe.tmod (q : Int) = v % (q : Int) := by rw [Int.tmod_eq_emod_of_nonneg x0]; exact Int.emod_eq_emod_iff_emod_sub_eq_zero.mpr (Int.emod_eq_zero_of_dvd hX1)
    refine g_iload (pc := 93) (x := xe) dX11_join_93 rfl ?_
    refine g_iload (pc := 95) (x := (q : Int)) dX11_join_95 rfl ?_
    refine g_irem (pc := 97) dX11_join_97 (by omega) (by omega) (by omega) ?_
    rw [er]
    refine g_iload (pc := 98) (x := v % (q : Int)) dX11_join_98 rfl ?_
    refine g_icmp_eqT (pc := 100) (tgt := 116) dX11_join_100 (by decide) (by omega) (by omega) (by omega) ?_
    exact hK
  | succ f ih =>
    intro xe x0 hf
    have hfo : ((f + 1 : Nat) : Int) * (o : Int) = (f : Int) * o + o := by rw [Int.natCast_add, Int.add_mul]; simp
    have hnn : 0 ≤ (f : Int) * (o : Int) := Int.mul_nonneg (by omega) (by omega)
    have er : xe.tmod (q : Int) = xe % (q : Int) := Int.tmod_eq_emod_of_nonneg x0
    have e0 := Int.emod_nonneg xe (show (q : Int) ≠ 0 by omega)
    have e1 := Int.emod_lt_of_pos xe (show (0 : Int) < q by omega)
    have hne : ¬ xe % (q : Int) = v % (q : Int) := fun z => by
      have d1 : (q : Int) ∣ xe - v := Int.dvd_of_emod_eq_zero (Int.emod_eq_emod_iff_emod_sub_eq_zero.mp z)
      have d2 := Int.dvd_sub hX1 d1
      rw [show X - v - (xe - v) = ((f + 1 : Nat) : Int) * (o : Int) by omega, ← Int.natCast_mul] at d2
      have d3 := hcop.dvd_of_dvd_mul_right (Int.ofNat_dvd.mp d2)
      have d4 := Nat.le_of_dvd (by omega) d3
      have d5 := Nat.mul_le_mul_right o d4
      have d6 : ((q * o : Nat) : Int) ≤ (((f + 1) * o : Nat) : Int) := Int.ofNat_le.mpr d5
      rw [← eM, Int.natCast_mul] at d6
      omega
    refine g_iload (pc := 93) (x := xe) dX11_join_93 rfl ?_
    refine g_iload (pc := 95) (x := (q : Int)) dX11_join_95 rfl ?_
    refine g_irem (pc := 97) dX11_join_97 (by omega) (by omega) (by omega) ?_
    rw [er]
    refine g_iload (pc := 98) (x := v % (q : Int)) dX11_join_98 rfl ?_
    refine g_icmp_eqF (pc := 100) (tgt := 116) dX11_join_100 (by decide) (by omega) (by omega) (by omega) ?_
    refine g_iload (pc := 103) (x := xe) dX11_join_103 rfl ?_
    refine g_iload (pc := 105) (x := (M : Int)) dX11_join_105 rfl ?_
    refine g_iload (pc := 107) (x := (q : Int)) dX11_join_107 rfl ?_
    refine g_idiv (pc := 109) dX11_join_109 (by omega) (by omega) (by omega) ?_
    rw [ed]
    refine g_iadd (pc := 110) dX11_join_110 ?_
    refine g_istore (pc := 111) (lo2 := [(0, vR x), (1, vI (i : Int)), (2, vI (j : Int)), (3, vI (rr : Int)), (4, vI v), (5, vI (M : Int)), (6, vI (q : Int)), (7, vI (v % (q : Int))), (8, vI (xe + (o : Int)))]) dX11_join_111 (by decide) rfl ?_
    refine g_goto (pc := 113) (tgt := 93) dX11_join_113 (by decide) ?_
    exact ih (xe + o) (by omega) (by omega)

theorem r_join {N x : Nat} {pr ts : Int} {m k r v : Int} {σ : Nat → Option MSt} {h : MH} {X : Int} (hm : i32 m) (hk : i32 k) (hr : i32 r) (hv : i32 v) (hX : ∀ kd M n T Y P, gt σ m = some (kd, M, n, T, Y, P) → (0 ≤ k ∧ k < ((fcs M).length : Int)) ∧ (0 ≤ r ∧ r < n) → (0 ≤ X ∧ X < M) ∧ (pq M k.toNat : Int) ∣ X - v ∧ ((M / pq M k.toNat : Nat) : Int) ∣ X - Y r.toNat) (rs0 : RMs N h x σ pr ts) : Ok mX11_join 10 0 0 [vR x, vI m, vI k, vI r, vI v] N h (fun r9 h2 => r9 = some (vI (qM σ m 0 (fun kd M n T Y P => if (0 ≤ k ∧ k < ((fcs M).length : Int)) ∧ (0 ≤ r ∧ r < n) then 1 else 0))) ∧ rP N h h2 x (qM σ m σ (fun kd M n T Y P => if (0 ≤ k ∧ k < ((fcs M).length : Int)) ∧ (0 ≤ r ∧ r < n) then va_up σ m.toNat (some (kd, M, n, T, va_up Y r.toNat X, P)) else σ)) pr ts) := by
  refine Ok.of pfX11_join rfl (Nat.le_of_ble_eq_true rfl) (fun Ls sx => ?_)
  show G mX11_join (10, 0, 0, Ls, sx) 0 [(0, vR x), (1, vI m), (2, vI k), (3, vI r), (4, vI v)] [] (0, 0, N) h _
  obtain ⟨⟨th, wd, pm, fm, mu, um, hx0⟩, sc0, Th, Kd, Ms, Sz, Tb, Mo, Pl, Pi, ra0⟩ := id rs0
  replace ra0 : RA N h x σ Th Kd Ms Sz Tb Mo Pl Pi := ra0
  refine g_aload_n (pc := 0) (r := .inl (some x)) dX11_join_0 rfl ?_
  refine g_iconst (pc := 1) dX11_join_1 ?_
  refine g_putf (pc := 2) fpX11_104 dX11_join_2 hx0 (okv_int _) (Nat.le_of_ble_eq_true rfl) ?_
  have hx_1 := hx0.self (e := mdl x 0 wd pm fm mu um pr ts)
  show G mX11_join _ 5 [(0, vR x), (1, vI m), (2, vI k), (3, vI r), (4, vI v)] [] _ (va_up h x (mdl x 0 wd pm fm mu um pr ts)) _
  obtain ⟨g, eg0⟩ : ∃ g, g = va_up h x (mdl x 0 wd pm fm mu um pr ts) := ⟨_, rfl⟩
  rw [← eg0] at hx_1 ⊢
  have hx := hx_1
  have kg : ∀ a, a ≠ x → g a = h a := fun a z => by rw [eg0, va_up_ne _ _ z]
  have ra := ra0.keep (h2 := g) (fun a z1 z2 => kg a (by omega))
  have sc := sc0.keep (h2 := g) (fun a z1 z2 => kg a (by omega))
  have mo : MO N g x pr ts := ⟨_, _, _, _, _, _, hx⟩
  have rs : RMs N g x σ pr ts := RMs.of mo sc ra
  have rp : rP N h g x σ pr ts := ⟨rs, fun a z => kg a (by omega)⟩
  refine g_aload_n (pc := 5) (r := .inl (some x)) dX11_join_5 rfl ?_
  refine g_iload_n (pc := 6) (x := m) dX11_join_6 rfl ?_
  refine g_callV0 (pc := 7) (as := [vI m]) (b := x) (st := []) lvX11_108 dX11_join_7 hx (Nat.le_of_ble_eq_true rfl) (by omega) (Nat.zero_le _) (Nat.zero_le _) (c_isM (d := 9) hm hx ra) ?_
  rintro r8 h9 ⟨e9, e8⟩
  subst e9
  subst e8
  rcases eg : gt σ m with _ | ⟨kd, M, n, T, Y, P⟩
  · rw [qM_none eg]
    refine g_if_eqT (pc := 10) (tgt := 27) dX11_join_10 (by decide) (by omega) (by omega) ?_
    refine g_iconst (pc := 27) dX11_join_27 ?_
    exact r_bool (pc := 28) dX11_join_28 rfl rfl (Nat.le_refl _) (Or.inl rfl) ⟨by first | rfl | (rw [qM_none eg]), by rw [qM_none eg]; exact rp⟩
  · rw [qM_some eg]
    obtain ⟨i, hi, em, es⟩ := gt_some eg
    subst em
    obtain ⟨a1, a2, a3, a4, a5, a6, a7, a8, ⟨rT, rM, rP9⟩, mi⟩ := id ra
    obtain ⟨ok, eTh, eKd, eMs, eSz, eTb, eMo, ePl, ePi⟩ := (mi i hi).out es
    obtain ⟨hkd, hM, hM2, n1, hn, hk1, hk3, hT, hYb, hPb⟩ := id ok
    have hrow := rs.row hi es
    refine g_if_eqF (pc := 10) (tgt := 27) dX11_join_10 (by decide) (by omega) (by omega) ?_
    refine g_iload_n (pc := 13) (x := r) dX11_join_13 rfl ?_
    refine g_if_lt (pc := 14) (tgt := 27) dX11_join_14 (by decide) (by omega) (fun k0 => ?_) (fun k0 => ?_)
    · refine g_iconst (pc := 27) dX11_join_27 ?_
      exact r_bool (pc := 28) dX11_join_28 rfl rfl (Nat.le_refl _) (Or.inl rfl) ⟨by first | rfl | (rw [qM_some eg, if_neg (by omega)]), by rw [qM_some eg, if_neg (by omega)]; exact rp⟩
    · refine g_iload_n (pc := 17) (x := r) dX11_join_17 rfl ?_
      refine g_aload_n (pc := 18) (r := .inl (some x)) dX11_join_18 rfl ?_
      refine g_getf (pc := 19) (v := vR (x + 4)) flX11_20 dX11_join_19 hx rfl ?_
      refine g_iload_n (pc := 22) (x := (i : Int)) dX11_join_22 rfl ?_
      refine g_ialdN (pc := 23) (j := i) dX11_join_23 a4 (by omega) (by omega) (by omega) ?_
      rw [eSz]
      refine g_icmp_lt (pc := 24) (tgt := 29) dX11_join_24 (by decide) (by omega) (by omega) (fun k1 => ?_) (fun k1 => ?_)
      · obtain ⟨s9, ⟨s10, s11, s12, s13, s14, ⟨p15, s15⟩, ⟨p16, s16⟩, ⟨p17, s17⟩, s18⟩, s2, s22, s23, s24, s25⟩ := id sc
        refine g_aload_n (pc := 29) (r := .inl (some x)) dX11_join_29 rfl ?_
        refine g_getf (pc := 30) (v := vR (x + 3)) flX11_17 dX11_join_30 hx rfl ?_
        refine g_iload_n (pc := 33) (x := (i : Int)) dX11_join_33 rfl ?_
        refine g_ialdN (pc := 34) (j := i) dX11_join_34 a3 (by omega) (by omega) (by omega) ?_
        rw [eMs]
        refine g_istore (pc := 35) (lo2 := [(0, vR x), (1, vI (i : Int)), (2, vI k), (3, vI r), (4, vI v), (5, vI (M : Int))]) dX11_join_35 (by decide) rfl ?_
        refine g_aload_n (pc := 37) (r := .inl (some x)) dX11_join_37 rfl ?_
        refine g_iload (pc := 38) (x := (M : Int)) dX11_join_38 rfl ?_
        refine g_callV0 (pc := 40) (as := [vI (M : Int)]) (b := x) (st := []) lvX11_164 dX11_join_40 hx (Nat.le_of_ble_eq_true rfl) (by omega) (Nat.zero_le _) (Nat.zero_le _) (c_parts (d := 9) hM hM2 hx s15 s16 s17) ?_
        rintro r8 h3 ⟨rfl, o1, ⟨P2, S2, O2, o15, o16, o17, oj⟩, k3⟩
        have hx3 : Hd (0, 0, N) h3 x (mdl x 0 wd ((fcs M).length : Int) fm mu um pr ts) := ⟨hx.1, o1⟩
        have q15 : Hd (0, 0, N) h3 (x + 15) (eA 0 5 P2) := ⟨s15.1, o15⟩
        have q16 : Hd (0, 0, N) h3 (x + 16) (eA 0 5 S2) := ⟨s16.1, o16⟩
        have q17 : Hd (0, 0, N) h3 (x + 17) (eA 0 5 O2) := ⟨s17.1, o17⟩
        have hlen := (fcs_ok hM hM2).1
        have rs3 : RMs N h3 x σ pr ts := rs.scr ⟨_, _, _, _, _, _, hx3⟩ ⟨s10.keep (k3 _ (by omega) (by omega) (by omega) (by omega)), s11.keep (k3 _ (by omega) (by omega) (by omega) (by omega)), s12.keep (k3 _ (by omega) (by omega) (by omega) (by omega)), s13.keep (k3 _ (by omega) (by omega) (by omega) (by omega)), s14.keep (k3 _ (by omega) (by omega) (by omega) (by omega)), ⟨_, q15⟩, ⟨_, q16⟩, ⟨_, q17⟩, s18.elim (fun f z => ⟨f, z.keep (k3 _ (by omega) (by omega) (by omega) (by omega))⟩)⟩ (fun a z1 z2 => k3 a z1 (by omega) (by omega) (by omega))
        have rp3 : rP N h h3 x σ pr ts := rP.tr kg rs3 (fun a z => k3 a (by omega) (by omega) (by omega) (by omega))
        have ra3 := ra.keep (h2 := h3) (fun a z1 z2 => k3 a (by omega) (by omega) (by omega) (by omega))
        obtain ⟨b1, b2, b3, b4, b5, b6, b7, b8, -⟩ := id ra3
        have hrow3 := rs3.row hi es
        refine g_iload_n (pc := 43) (x := k) dX11_join_43 rfl ?_
        refine g_if_lt (pc := 44) (tgt := 55) dX11_join_44 (by decide) (by omega) (fun k2 => ?_) (fun k2 => ?_)
        · refine g_iconst (pc := 55) dX11_join_55 ?_
          exact r_bool (pc := 56) dX11_join_56 rfl rfl (Nat.le_refl _) (Or.inl rfl) ⟨by first | rfl | (rw [qM_some eg, if_neg (by omega)]), by rw [qM_some eg, if_neg (by omega)]; exact rp3⟩
        · refine g_iload_n (pc := 47) (x := k) dX11_join_47 rfl ?_
          refine g_aload_n (pc := 48) (r := .inl (some x)) dX11_join_48 rfl ?_
          refine g_getf (pc := 49) (v := vI ((fcs M).length : Int)) flX11_158 dX11_join_49 hx3 rfl ?_
          refine g_icmp_lt (pc := 52) (tgt := 57) dX11_join_52 (by decide) (by omega) (by omega) (fun k3 => ?_) (fun k3 => ?_)
          · obtain ⟨j, ej⟩ : ∃ j : Nat, k = (j : Int) := ⟨k.toNat, by omega⟩
            subst ej
            obtain ⟨j1, j2, j3⟩ := oj j (by omega)
            obtain ⟨g1, g2, g3, g4, g5, g6⟩ := pq_ok hM hM2 (show j < (fcs M).length by omega)
            replace j2 : S2 j = (pq M j : Int) := j2
            obtain ⟨rr, er⟩ : ∃ rr : Nat, r = (rr : Int) := ⟨r.toNat, by omega⟩
            subst er
            have hyr := hYb rr (by omega)
            obtain ⟨x0, x1, x2⟩ := hX _ _ _ _ _ _ eg (by omega)
            simp only [Int.toNat_natCast] at x1 x2
            obtain ⟨q, eq⟩ : ∃ q, q = pq M j := ⟨_, rfl⟩
            rw [← eq] at j2 g1 g2 g3 g4 x1 x2
            obtain ⟨o, eo⟩ := id g3
            have eMo9 : M / q = o := by rw [eo]; exact Nat.mul_div_cancel_left o (by omega)
            rw [eMo9] at g4 x2
            have ho : 1 ≤ o := by
              apply Nat.pos_of_ne_zero
              intro z
              rw [z, Nat.mul_zero] at eo
              omega
            have ed : (M : Int).tdiv (q : Int) = (o : Int) := by rw [tdivN (rfl : (M : Int) = _) (rfl : (q : Int) = _), eMo9]
            have hoM : o ≤ M := by rw [eo]; exact Nat.le_mul_of_pos_left o (by omega)
            have y0 := Int.emod_nonneg (Y rr) (show (o : Int) ≠ 0 by omega)
            have y1 := Int.emod_lt_of_pos (Y rr) (show (0 : Int) < o by omega)
            refine g_aload_n (pc := 57) (r := .inl (some x)) dX11_join_57 rfl ?_
            refine g_getf (pc := 58) (v := vR (x + 16)) flX11_57 dX11_join_58 hx3 rfl ?_
            refine g_iload_n (pc := 61) (x := (j : Int)) dX11_join_61 rfl ?_
            refine g_ialdN (pc := 62) (j := j) dX11_join_62 q16 (by omega) (by omega) (by omega) ?_
            rw [j2]
            refine g_istore (pc := 63) (lo2 := [(0, vR x), (1, vI (i : Int)), (2, vI (j : Int)), (3, vI (rr : Int)), (4, vI v), (5, vI (M : Int)), (6, vI (q : Int))]) dX11_join_63 (by decide) rfl ?_
            refine g_iload (pc := 65) (x := v) dX11_join_65 rfl ?_
            refine g_i2l (pc := 67) dX11_join_67 (by omega) ?_
            refine g_iload (pc := 68) (x := (q : Int)) dX11_join_68 rfl ?_
            refine g_callS0 (pc := 70) (as := [vJ v, vI (q : Int)]) (st := []) lsX11_116 dX11_join_70 (Nat.le_of_ble_eq_true rfl) (by omega) (Nat.zero_le _) (Nat.zero_le _) (c_mrestOf (d := 9) (by omega) (by omega) (by omega)) ?_
            rintro r8 h9 ⟨e9, e8⟩
            subst e9
            subst e8
            refine g_istore (pc := 73) (lo2 := [(0, vR x), (1, vI (i : Int)), (2, vI (j : Int)), (3, vI (rr : Int)), (4, vI v), (5, vI (M : Int)), (6, vI (q : Int)), (7, vI (v % (q : Int)))]) dX11_join_73 (by decide) rfl ?_
            refine g_aload_n (pc := 75) (r := .inl (some x)) dX11_join_75 rfl ?_
            refine g_getf (pc := 76) (v := vR (x + 7)) flX11_29 dX11_join_76 hx3 rfl ?_
            refine g_iconst (pc := 79) dX11_join_79 ?_
            refine g_iload_n (pc := 80) (x := (i : Int)) dX11_join_80 rfl ?_
            refine g_imul (pc := 81) dX11_join_81 ?_
            refine g_iload_n (pc := 82) (x := (rr : Int)) dX11_join_82 rfl ?_
            refine g_iadd (pc := 83) dX11_join_83 ?_
            refine g_ialdN (pc := 84) (j := (4 * i) + rr) dX11_join_84 b7 (by omega) (by omega) (by omega) ?_
            rw [ePl rr (by omega)]
            refine g_iload (pc := 85) (x := (M : Int)) dX11_join_85 rfl ?_
            refine g_iload (pc := 87) (x := (q : Int)) dX11_join_87 rfl ?_
            refine g_idiv (pc := 89) dX11_join_89 (by omega) (by omega) (by omega) ?_
            rw [ed]
            refine g_irem (pc := 90) dX11_join_90 (by omega) (by omega) (by omega) ?_
            rw [Int.tmod_eq_emod_of_nonneg hyr.1]
            refine g_istore (pc := 91) (lo2 := [(0, vR x), (1, vI (i : Int)), (2, vI (j : Int)), (3, vI (rr : Int)), (4, vI v), (5, vI (M : Int)), (6, vI (q : Int)), (7, vI (v % (q : Int))), (8, vI (Y rr % (o : Int)))]) dX11_join_91 (by decide) rfl ?_
            have hdv : (o : Int) ∣ X - Y rr % (o : Int) := by
              have z := Int.dvd_add x2 (show (o : Int) ∣ Y rr - Y rr % (o : Int) from ⟨Y rr / o, by have := Int.mul_ediv_add_emod (Y rr) o; omega⟩)
              rwa [show X - Y rr + (Y rr - Y rr % (o : Int)) = X - Y rr % (o : Int) by omega] at z
            obtain ⟨f9, hf9⟩ := hdv
            have hf0 : 0 ≤ f9 := by
              apply Int.not_lt.mp
              intro z
              have := Int.mul_le_mul_of_nonneg_left (show f9 ≤ -1 by omega) (show (0 : Int) ≤ o by omega)
              omega
            refine mjn_l (X := X) (o := o) g1 hM2 eo ho g4 x0 x1 ?_ f9.toNat _ y0 (by rw [Int.toNat_of_nonneg hf0, Int.mul_comm, ← hf9]; omega)
            refine g_aload_n (pc := 116) (r := .inl (some x)) dX11_join_116 rfl ?_
            refine g_getf (pc := 117) (v := vR (x + 7)) flX11_29 dX11_join_117 hx3 rfl ?_
            refine g_iconst (pc := 120) dX11_join_120 ?_
            refine g_iload_n (pc := 121) (x := (i : Int)) dX11_join_121 rfl ?_
            refine g_imul (pc := 122) dX11_join_122 ?_
            refine g_iload_n (pc := 123) (x := (rr : Int)) dX11_join_123 rfl ?_
            refine g_iadd (pc := 124) dX11_join_124 ?_
            refine g_iload (pc := 125) (x := X) dX11_join_125 rfl ?_
            refine g_iastN (pc := 127) (j := (4 * i) + rr) dX11_join_127 b7 (by omega) (by omega) (by omega) ?_
            have hx_2 := hx3.ne (e := eA 0 24 (va_up Pl ((4 * i) + rr) X)) (a := x + 7) (by omega)
            have b1_2 := b1.ne (e := eA 0 24 (va_up Pl ((4 * i) + rr) X)) (a := x + 7) (by omega)
            have b2_2 := b2.ne (e := eA 0 24 (va_up Pl ((4 * i) + rr) X)) (a := x + 7) (by omega)
            have b3_2 := b3.ne (e := eA 0 24 (va_up Pl ((4 * i) + rr) X)) (a := x + 7) (by omega)
            have b4_2 := b4.ne (e := eA 0 24 (va_up Pl ((4 * i) + rr) X)) (a := x + 7) (by omega)
            have b5_2 := b5.ne (e := eA 0 24 (va_up Pl ((4 * i) + rr) X)) (a := x + 7) (by omega)
            have b6_2 := b6.ne (e := eA 0 24 (va_up Pl ((4 * i) + rr) X)) (a := x + 7) (by omega)
            have b7_2 := b7.self (e := eA 0 24 (va_up Pl ((4 * i) + rr) X))
            have b8_2 := b8.ne (e := eA 0 24 (va_up Pl ((4 * i) + rr) X)) (a := x + 7) (by omega)
            have q15_2 := q15.ne (e := eA 0 24 (va_up Pl ((4 * i) + rr) X)) (a := x + 7) (by omega)
            have q16_2 := q16.ne (e := eA 0 24 (va_up Pl ((4 * i) + rr) X)) (a := x + 7) (by omega)
            have q17_2 := q17.ne (e := eA 0 24 (va_up Pl ((4 * i) + rr) X)) (a := x + 7) (by omega)
            refine g_iconst (pc := 128) dX11_join_128 ?_
            have hra : RA N (va_up h9 (x + 7) (eA 0 24 (va_up Pl ((4 * i) + rr) X))) x (va_up σ i (some (kd, M, n, T, va_up Y rr X, P))) Th Kd Ms Sz Tb Mo (va_up Pl (4 * i + rr) X) Pi := by
              refine ra3.plate (V := va_up Y rr X) hi es b7_2.2 (fun a z1 z2 z3 => va_up_ne _ _ z3) (up_bd hYb x0) (fun r2 z1 => ?_) (fun j z => va_up_ne _ _ (by omega)) (rng_lt rP9 hM2 x0)
              by_cases e : r2 = rr
              · rw [e, va_up_self, va_up_self]
              · rw [va_up_ne _ _ (by omega), va_up_ne _ _ e]
                exact ePl r2 z1
            exact r_bool (pc := 129) dX11_join_129 rfl rfl (Nat.le_refl _) (Or.inr rfl) ⟨by first | rfl | (rw [qM_some eg, if_pos (by omega)]), by rw [qM_some eg, if_pos (by omega)]; simp only [Int.toNat_natCast]; exact rP.tr kg (RMs.of ⟨_, _, _, _, _, _, hx3.ne (by omega)⟩ (rs3.2.1.keep (fun a z1 z2 => va_up_ne _ _ (by omega))) hra) (fun a z => (va_up_ne _ _ (by omega)).trans (k3 a (by omega) (by omega) (by omega) (by omega)))⟩
          · refine g_iconst (pc := 55) dX11_join_55 ?_
            exact r_bool (pc := 56) dX11_join_56 rfl rfl (Nat.le_refl _) (Or.inl rfl) ⟨by first | rfl | (rw [qM_some eg, if_neg (by omega)]), by rw [qM_some eg, if_neg (by omega)]; exact rp3⟩
      · refine g_iconst (pc := 27) dX11_join_27 ?_
        exact r_bool (pc := 28) dX11_join_28 rfl rfl (Nat.le_refl _) (Or.inl rfl) ⟨by first | rfl | (rw [qM_some eg, if_neg (by omega)]), by rw [qM_some eg, if_neg (by omega)]; exact rp⟩
