/-! ===== the reference: turn, tail, check ===== -/
theorem stp1 {n M k : Nat} {T Y P2 Z T2 : Nat → Int} (hn : n ≤ 4) (hM : 2 ≤ M) (e : cw (n + 1) P2 = mp (n + 1) M (au n T) 1) (hZ : ∀ r, r < n → Z r = rowS n M (au n T) Y k r) (hT2 : ∀ j, j < n → T2 j = goF n M P2 Z j) : ∀ j, j < n → T2 j = rowS n M (au n T) Y (k + 1) j := fun j hj => by
  rw [hT2 j hj, ← goF_cw hn (by omega), e, goF_congr hZ, rowS_add hn hM (aff_au hn) hj, Nat.add_comm]
theorem cb_iff {n M s t : Nat} {T Y Z : Nat → Int} (hn : n ≤ 4) (hM : 2 ≤ M) (hZ : ∀ r, r < n → Z r = rowS n M (au n T) Y s r) : (∀ a, a < n → goF n M (mp (n + 1) M (au n T) t) Z a = Z a) ↔ rowS n M (au n T) Y (s + t) = rowS n M (au n T) Y s := by
  constructor
  · intro h
    funext r
    by_cases hr : r < n
    · have z := h r hr
      rw [goF_congr hZ, rowS_add hn hM (aff_au hn) hr, hZ r hr, Nat.add_comm] at z
      exact z
    · unfold rowS
      rw [if_neg hr, if_neg hr]
  · intro h a ha
    rw [goF_congr hZ, rowS_add hn hM (aff_au hn) ha, Nat.add_comm, h, hZ a ha]
theorem rng_ifl {n M : Nat} {f g : Nat → Int} (hM2 : M ≤ 500) (h1 : ∀ j, j < n → 0 ≤ f j ∧ f j < M) (h2 : ∀ j, n ≤ j → f j = g j) (rg : rng g) : rng f := fun j => by
  by_cases hj : j < n
  · have := h1 j hj
    omega
  · rw [h2 j (by omega)]
    exact rg j

theorem mtu_l {N x i n M t Ls : Nat} {sx T Y P2 : Nat → Int} {th wd pm fm mu um pr ts : Int} {h0 : MH} {Q : Option MV → MR → MH → Prop} (hn : n ≤ 4) (hM : 2 ≤ M) (hM2 : M ≤ 500) (ht : t ≤ 5000) (e2 : cw (n + 1) P2 = mp (n + 1) M (au n T) 1) (rP2 : rng P2) (hx0 : Hd (0, 0, N) h0 x (mdl x th wd pm fm mu um pr ts)) (h11 : Hd (0, 0, N) h0 (x + 11) (eA 0 25 P2)) (hK : ∀ (xk : Int) (h : MH), (∃ Z, Hd (0, 0, N) h (x + 13) (eA 0 4 Z) ∧ rng Z ∧ ∀ r, r < n → Z r = rowS n M (au n T) Y t r) → Sc N h (x + 14) 4 → (∀ a, a ≠ x + 13 → a ≠ x + 14 → h a = h0 a) → G mX11_turn (10, 0, 0, Ls, sx) 82 [(0, vR x), (1, vI (i : Int)), (2, vI (t : Int)), (3, vI (M : Int)), (4, vI (n : Int)), (5, vI xk)] [] (0, 0, N) h Q) : ∀ (f k : Nat) (xk : Int) (h : MH), k + f = t → xk = (k : Int) → (∃ Z, Hd (0, 0, N) h (x + 13) (eA 0 4 Z) ∧ rng Z ∧ ∀ r, r < n → Z r = rowS n M (au n T) Y k r) → Sc N h (x + 14) 4 → (∀ a, a ≠ x + 13 → a ≠ x + 14 → h a = h0 a) → G mX11_turn (10, 0, 0, Ls, sx) 57 [(0, vR x), (1, vI (i : Int)), (2, vI (t : Int)), (3, vI (M : Int)), (4, vI (n : Int)), (5, vI xk)] [] (0, 0, N) h Q := by
  intro f
  induction f with
  | zero =>
    intro k xk h hf ek hZ h14 kh
    have e9 : t = k := by omega
    subst e9
    refine g_iload (pc := 57) (x := xk) dX11_turn_57 rfl ?_
    refine g_iload_n (pc := 59) (x := (t : Int)) dX11_turn_59 rfl ?_
    refine g_icmp_geT (pc := 60) (tgt := 82) dX11_turn_60 (by decide) (by omega) (by omega) (by omega) ?_
    exact hK _ _ hZ h14 kh
  | succ f ih =>
    intro k xk h hf ek hZ h14 kh
    obtain ⟨Z, hZ1, rZ, eZ⟩ := hZ
    obtain ⟨V, hV, rV⟩ := h14
    have hx := hx0.keep (kh x (by omega) (by omega))
    have g11 := h11.keep (kh _ (by omega) (by omega))
    refine g_iload (pc := 57) (x := xk) dX11_turn_57 rfl ?_
    refine g_iload_n (pc := 59) (x := (t : Int)) dX11_turn_59 rfl ?_
    refine g_icmp_geF (pc := 60) (tgt := 82) dX11_turn_60 (by decide) (by omega) (by omega) (by omega) ?_
    refine g_aload_n (pc := 63) (r := .inl (some x)) dX11_turn_63 rfl ?_
    refine g_iload (pc := 64) (x := (n : Int)) dX11_turn_64 rfl ?_
    refine g_iload_n (pc := 66) (x := (M : Int)) dX11_turn_66 rfl ?_
    refine g_callV0 (pc := 67) (as := [vI (n : Int), vI (M : Int)]) (b := x) (st := []) lvX11_140 dX11_turn_67 hx (Nat.le_of_ble_eq_true rfl) (by omega) (Nat.zero_le _) (Nat.zero_le _) (c_goes (d := 9) hn (by omega) hM2 rP2 rZ hx g11 hZ1 hV) ?_
    rintro r8 h2 ⟨rfl, k2, T2, o14, e14, f14⟩
    have hx2 := hx.keep (k2 x (by omega))
    have g13 := hZ1.keep (k2 _ (by omega))
    have g14 := hV.to o14
    refine g_aload_n (pc := 70) (r := .inl (some x)) dX11_turn_70 rfl ?_
    refine g_iload (pc := 71) (x := (n : Int)) dX11_turn_71 rfl ?_
    refine g_callV0 (pc := 73) (as := [vI (n : Int)]) (b := x) (st := []) lvX11_143 dX11_turn_73 hx2 (Nat.le_of_ble_eq_true rfl) (by omega) (Nat.zero_le _) (Nat.zero_le _) (c_takes (d := 9) hn hx2 g13 g14) ?_
    rintro r8 h3 ⟨rfl, k3, Z3, o13, e13, f13⟩
    have hS := stp1 hn hM e2 eZ e14
    refine g_iinc (pc := 76) (x := xk) (lo2 := [(0, vR x), (1, vI (i : Int)), (2, vI (t : Int)), (3, vI (M : Int)), (4, vI (n : Int)), (5, vI (xk + 1))]) dX11_turn_76 rfl (by decide) rfl ?_
    refine g_goto (pc := 79) (tgt := 57) dX11_turn_79 (by decide) ?_
    exact ih (k + 1) (xk + 1) h3 (by omega) (by omega) ⟨Z3, g13.to o13, rng_cp (rng_go (by omega) hM2 rV e14 f14) rZ e13 f13, fun r hr => (e13 r hr).trans (hS r hr)⟩ ⟨T2, g14.keep (k3 _ (by omega)), rng_go (by omega) hM2 rV e14 f14⟩ (fun a z1 z2 => (k3 a z1).trans ((k2 a z2).trans (kh a z1 z2)))

theorem mts_l {N x i n M t Ls : Nat} {sx Z Pl : Nat → Int} {th wd pm fm mu um pr ts : Int} {h0 : MH} {Q : Option MV → MR → MH → Prop} (hn : n ≤ 4) (hi : i < 6) (rZ : rng Z) (hx0 : Hd (0, 0, N) h0 x (mdl x th wd pm fm mu um pr ts)) (h13 : Hd (0, 0, N) h0 (x + 13) (eA 0 4 Z)) (hK : ∀ (xj : Int) (h : MH), (∃ A, Hd (0, 0, N) h (x + 7) (eA 0 24 A) ∧ rng A ∧ (∀ r, r < n → A (4 * i + r) = Z r) ∧ ∀ a, (a < 4 * i ∨ 4 * i + n ≤ a) → A a = Pl a) → (∀ a, a ≠ x + 7 → h a = h0 a) → G mX11_turn (10, 0, 0, Ls, sx) 116 [(0, vR x), (1, vI (i : Int)), (2, vI (t : Int)), (3, vI (M : Int)), (4, vI (n : Int)), (5, vI xj)] [] (0, 0, N) h Q) : ∀ (f j : Nat) (xj : Int) (h : MH), j + f = n → xj = (j : Int) → (∃ A, Hd (0, 0, N) h (x + 7) (eA 0 24 A) ∧ rng A ∧ (∀ r, r < j → A (4 * i + r) = Z r) ∧ ∀ a, (a < 4 * i ∨ 4 * i + j ≤ a) → A a = Pl a) → (∀ a, a ≠ x + 7 → h a = h0 a) → G mX11_turn (10, 0, 0, Ls, sx) 85 [(0, vR x), (1, vI (i : Int)), (2, vI (t : Int)), (3, vI (M : Int)), (4, vI (n : Int)), (5, vI xj)] [] (0, 0, N) h Q := by
  intro f
  induction f with
  | zero =>
    intro j xj h hf ej hA kh
    have e9 : n = j := by omega
    subst e9
    refine g_iload (pc := 85) (x := xj) dX11_turn_85 rfl ?_
    refine g_iload (pc := 87) (x := (n : Int)) dX11_turn_87 rfl ?_
    refine g_icmp_geT (pc := 89) (tgt := 116) dX11_turn_89 (by decide) (by omega) (by omega) (by omega) ?_
    exact hK _ _ hA kh
  | succ f ih =>
    intro j xj h hf ej hA kh
    obtain ⟨A, hA1, rA, eA9, fA⟩ := hA
    have hx := hx0.keep (kh x (by omega))
    have g13 := h13.keep (kh _ (by omega))
    refine g_iload (pc := 85) (x := xj) dX11_turn_85 rfl ?_
    refine g_iload (pc := 87) (x := (n : Int)) dX11_turn_87 rfl ?_
    refine g_icmp_geF (pc := 89) (tgt := 116) dX11_turn_89 (by decide) (by omega) (by omega) (by omega) ?_
    refine g_aload_n (pc := 92) (r := .inl (some x)) dX11_turn_92 rfl ?_
    refine g_getf (pc := 93) (v := vR (x + 7)) flX11_29 dX11_turn_93 hx rfl ?_
    refine g_iconst (pc := 96) dX11_turn_96 ?_
    refine g_iload_n (pc := 97) (x := (i : Int)) dX11_turn_97 rfl ?_
    refine g_imul (pc := 98) dX11_turn_98 ?_
    refine g_iload (pc := 99) (x := xj) dX11_turn_99 rfl ?_
    refine g_iadd (pc := 101) dX11_turn_101 ?_
    refine g_aload_n (pc := 102) (r := .inl (some x)) dX11_turn_102 rfl ?_
    refine g_getf (pc := 103) (v := vR (x + 13)) flX11_48 dX11_turn_103 hx rfl ?_
    refine g_iload (pc := 106) (x := xj) dX11_turn_106 rfl ?_
    refine g_ialdN (pc := 108) (j := j) dX11_turn_108 g13 (by omega) (by omega) (by omega) ?_
    refine g_iastN (pc := 109) (j := (4 * i) + j) dX11_turn_109 hA1 (by omega) (by omega) (by omega) ?_
    have hx_1 := hx.ne (e := eA 0 24 (va_up A ((4 * i) + j) (Z j))) (a := x + 7) (by omega)
    have hA1_1 := hA1.self (e := eA 0 24 (va_up A ((4 * i) + j) (Z j)))
    have g13_1 := g13.ne (e := eA 0 24 (va_up A ((4 * i) + j) (Z j))) (a := x + 7) (by omega)
    refine g_iinc (pc := 110) (x := xj) (lo2 := [(0, vR x), (1, vI (i : Int)), (2, vI (t : Int)), (3, vI (M : Int)), (4, vI (n : Int)), (5, vI (xj + 1))]) dX11_turn_110 rfl (by decide) rfl ?_
    refine g_goto (pc := 113) (tgt := 85) dX11_turn_113 (by decide) ?_
    refine ih (j + 1) (xj + 1) _ (by omega) (by omega) ⟨_, hA1_1, rng_up rA (rZ j), fun r hr => ?_, fun a ha => ?_⟩ (fun a z1 => (va_up_ne _ _ z1).trans (kh a z1))
    · by_cases e : r = j
      · rw [e, va_up_self]
      · rw [va_up_ne _ _ (by omega), eA9 r (by omega)]
    · rw [va_up_ne _ _ (by omega), fA a (by omega)]

theorem r_turn {N x : Nat} {pr ts : Int} {m t : Int} {σ : Nat → Option MSt} {h : MH} (hm : i32 m) (ht : i32 t) (rs0 : RMs N h x σ pr ts) : Ok mX11_turn 10 0 0 [vR x, vI m, vI t] N h (fun r9 h2 => r9 = some (vI (qM σ m 0 (fun kd M n T Y P => if 0 ≤ t ∧ t ≤ 5000 then 1 else 0))) ∧ rP N h h2 x (qM σ m σ (fun kd M n T Y P => if 0 ≤ t ∧ t ≤ 5000 then va_up σ m.toNat (some (kd, M, n, T, lpY n M T Y t.toNat, P)) else σ)) pr ts) := by
  refine Ok.of pfX11_turn rfl (Nat.le_of_ble_eq_true rfl) (fun Ls sx => ?_)
  show G mX11_turn (10, 0, 0, Ls, sx) 0 [(0, vR x), (1, vI m), (2, vI t)] [] (0, 0, N) h _
  obtain ⟨⟨th, wd, pm, fm, mu, um, hx0⟩, sc0, Th, Kd, Ms, Sz, Tb, Mo, Pl, Pi, ra0⟩ := id rs0
  replace ra0 : RA N h x σ Th Kd Ms Sz Tb Mo Pl Pi := ra0
  refine g_aload_n (pc := 0) (r := .inl (some x)) dX11_turn_0 rfl ?_
  refine g_iconst (pc := 1) dX11_turn_1 ?_
  refine g_putf (pc := 2) fpX11_104 dX11_turn_2 hx0 (okv_int _) (Nat.le_of_ble_eq_true rfl) ?_
  have hx_1 := hx0.self (e := mdl x 0 wd pm fm mu um pr ts)
  show G mX11_turn _ 5 [(0, vR x), (1, vI m), (2, vI t)] [] _ (va_up h x (mdl x 0 wd pm fm mu um pr ts)) _
  obtain ⟨g, eg0⟩ : ∃ g, g = va_up h x (mdl x 0 wd pm fm mu um pr ts) := ⟨_, rfl⟩
  rw [← eg0] at hx_1 ⊢
  have hx := hx_1
  have kg : ∀ a, a ≠ x → g a = h a := fun a z => by rw [eg0, va_up_ne _ _ z]
  have ra := ra0.keep (h2 := g) (fun a z1 z2 => kg a (by omega))
  have sc := sc0.keep (h2 := g) (fun a z1 z2 => kg a (by omega))
  have mo : MO N g x pr ts := ⟨_, _, _, _, _, _, hx⟩
  have rs : RMs N g x σ pr ts := RMs.of mo sc ra
  have rp : rP N h g x σ pr ts := ⟨rs, fun a z => kg a (by omega)⟩
  refine g_aload_n (pc := 5) (r := .inl (some x)) dX11_turn_5 rfl ?_
  refine g_iload_n (pc := 6) (x := m) dX11_turn_6 rfl ?_
  refine g_callV0 (pc := 7) (as := [vI m]) (b := x) (st := []) lvX11_108 dX11_turn_7 hx (Nat.le_of_ble_eq_true rfl) (by omega) (Nat.zero_le _) (Nat.zero_le _) (c_isM (d := 9) hm hx ra) ?_
  rintro r8 h9 ⟨e9, e8⟩
  subst e9
  subst e8
  rcases eg : gt σ m with _ | ⟨kd, M, n, T, Y, P⟩
  · rw [qM_none eg]
    refine g_if_eqT (pc := 10) (tgt := 24) dX11_turn_10 (by decide) (by omega) (by omega) ?_
    refine g_iconst (pc := 24) dX11_turn_24 ?_
    exact r_bool (pc := 25) dX11_turn_25 rfl rfl (Nat.le_refl _) (Or.inl rfl) ⟨by first | rfl | (rw [qM_none eg]), by rw [qM_none eg]; exact rp⟩
  · rw [qM_some eg]
    obtain ⟨i, hi, em, es⟩ := gt_some eg
    subst em
    obtain ⟨a1, a2, a3, a4, a5, a6, a7, a8, ⟨rT, rM, rP9⟩, mi⟩ := id ra
    obtain ⟨ok, eTh, eKd, eMs, eSz, eTb, eMo, ePl, ePi⟩ := (mi i hi).out es
    obtain ⟨hkd, hM, hM2, n1, hn, hk1, hk3, hT, hYb, hPb⟩ := id ok
    have hrow := rs.row hi es
    refine g_if_eqF (pc := 10) (tgt := 24) dX11_turn_10 (by decide) (by omega) (by omega) ?_
    refine g_iload_n (pc := 13) (x := t) dX11_turn_13 rfl ?_
    refine g_if_lt (pc := 14) (tgt := 24) dX11_turn_14 (by decide) (by omega) (fun k0 => ?_) (fun k0 => ?_)
    · refine g_iconst (pc := 24) dX11_turn_24 ?_
      exact r_bool (pc := 25) dX11_turn_25 rfl rfl (Nat.le_refl _) (Or.inl rfl) ⟨by first | rfl | (rw [qM_some eg, if_neg (by omega)]), by rw [qM_some eg, if_neg (by omega)]; exact rp⟩
    · refine g_iload_n (pc := 17) (x := t) dX11_turn_17 rfl ?_
      refine g_sipush (pc := 18) dX11_turn_18 (by decide +kernel) ?_
      refine g_icmp_le (pc := 21) (tgt := 26) dX11_turn_21 (by decide) (by omega) (by omega) (fun k1 => ?_) (fun k1 => ?_)
      · obtain ⟨t, et⟩ : ∃ tt : Nat, t = (tt : Int) := ⟨t.toNat, by omega⟩
        subst et
        refine g_aload_n (pc := 26) (r := .inl (some x)) dX11_turn_26 rfl ?_
        refine g_getf (pc := 27) (v := vR (x + 3)) flX11_17 dX11_turn_27 hx rfl ?_
        refine g_iload_n (pc := 30) (x := (i : Int)) dX11_turn_30 rfl ?_
        refine g_ialdN (pc := 31) (j := i) dX11_turn_31 a3 (by omega) (by omega) (by omega) ?_
        rw [eMs]
        refine g_istore_n (pc := 32) (lo2 := [(0, vR x), (1, vI (i : Int)), (2, vI (t : Int)), (3, vI (M : Int))]) dX11_turn_32 (by decide) rfl ?_
        refine g_aload_n (pc := 33) (r := .inl (some x)) dX11_turn_33 rfl ?_
        refine g_getf (pc := 34) (v := vR (x + 4)) flX11_20 dX11_turn_34 hx rfl ?_
        refine g_iload_n (pc := 37) (x := (i : Int)) dX11_turn_37 rfl ?_
        refine g_ialdN (pc := 38) (j := i) dX11_turn_38 a4 (by omega) (by omega) (by omega) ?_
        rw [eSz]
        refine g_istore (pc := 39) (lo2 := [(0, vR x), (1, vI (i : Int)), (2, vI (t : Int)), (3, vI (M : Int)), (4, vI (n : Int))]) dX11_turn_39 (by decide) rfl ?_
        refine g_aload_n (pc := 41) (r := .inl (some x)) dX11_turn_41 rfl ?_
        refine g_iload_n (pc := 42) (x := (i : Int)) dX11_turn_42 rfl ?_
        refine g_lconst1 (pc := 43) dX11_turn_43 ?_
        refine g_iload_n (pc := 44) (x := (M : Int)) dX11_turn_44 rfl ?_
        obtain ⟨s9, ⟨⟨f10, s10, r10⟩, ⟨f11, s11, r11⟩, ⟨f12, s12, r12⟩, ⟨f13, s13, r13⟩, ⟨f14, s14, r14⟩, ⟨p15, s15⟩, ⟨p16, s16⟩, ⟨p17, s17⟩, ⟨p18, s18⟩⟩, s2, s22, s23, s24, s25⟩ := id sc
        refine g_callV0 (pc := 45) (as := [vI (i : Int), vJ 1, vI (M : Int)]) (b := x) (st := []) lvX11_133 dX11_turn_45 hx (Nat.le_of_ble_eq_true rfl) (by omega) (Nat.zero_le _) (Nat.zero_le _) (c_powers (t := 1) (d := 8) hn hi (by omega) hM2 rT rM eSz (by decide) r10 r11 r12 hx a4 a5 a6 s10 s11 s12) ?_
        rintro r8 h3 ⟨rfl, k3, o1, ⟨B2, o10, rB2⟩, ⟨T2, o12, rT2⟩, P2, o11, rP2, e2⟩
        rw [ba_au hn eTb eMo] at e2
        have hx3 : Hd (0, 0, N) h3 x (mdl x 0 ((n + 1 : Nat) : Int) pm fm mu um pr ts) := ⟨hx.1, o1⟩
        have b4 := a4.keep (k3 _ (by omega) (by omega) (by omega) (by omega))
        have b7 := a7.keep (k3 _ (by omega) (by omega) (by omega) (by omega))
        have b11 : Hd (0, 0, N) h3 (x + 11) (eA 0 25 P2) := ⟨s11.1, o11⟩
        have b13 := s13.keep (k3 _ (by omega) (by omega) (by omega) (by omega))
        have b14 := s14.keep (k3 _ (by omega) (by omega) (by omega) (by omega))
        refine g_aload_n (pc := 48) (r := .inl (some x)) dX11_turn_48 rfl ?_
        refine g_iload_n (pc := 49) (x := (i : Int)) dX11_turn_49 rfl ?_
        refine g_iload_n (pc := 50) (x := (M : Int)) dX11_turn_50 rfl ?_
        refine g_callV0 (pc := 51) (as := [vI (i : Int), vI (M : Int)]) (b := x) (st := []) lvX11_137 dX11_turn_51 hx3 (Nat.le_of_ble_eq_true rfl) (by omega) (Nat.zero_le _) (Nat.zero_le _) (c_plateIs (d := 9) hn hi eSz (by omega) hM2 rP9 hx3 b4 b7 b13) ?_
        rintro r8 h4 ⟨rfl, k4, Z4, o13, e13, f13⟩
        have hx4 := hx3.keep (k4 x (by omega))
        have e13' : ∀ r, r < n → Z4 r = Y r := fun r hr => by rw [e13 r hr]; exact plate_mod ePl hYb r hr
        have rZ4 : rng Z4 := rng_ifl hM2 (fun j hj => by rw [e13' j hj]; exact hYb j hj) f13 r13
        refine g_iconst (pc := 54) dX11_turn_54 ?_
        refine g_istore (pc := 55) (lo2 := [(0, vR x), (1, vI (i : Int)), (2, vI (t : Int)), (3, vI (M : Int)), (4, vI (n : Int)), (5, vI 0)]) dX11_turn_55 (by decide) rfl ?_
        refine mtu_l (T := T) (Y := Y) hn hM hM2 (by omega) e2 rP2 hx4 (b11.keep (k4 _ (by omega))) (fun xk h5 hZ5 h145 k5 => ?_) t 0 0 h4 (by omega) rfl ⟨Z4, b13.to o13, rZ4, fun r hr => by rw [e13' r hr, rowS_0 hn hr (hYb r hr)]⟩ ⟨_, b14.keep (k4 _ (by omega)), r14⟩ (fun a z1 z2 => rfl)
        obtain ⟨Z, hZ5, rZ5, eZ5⟩ := hZ5
        refine g_iconst (pc := 82) dX11_turn_82 ?_
        refine g_istore (pc := 83) (lo2 := [(0, vR x), (1, vI (i : Int)), (2, vI (t : Int)), (3, vI (M : Int)), (4, vI (n : Int)), (5, vI 0)]) dX11_turn_83 (by decide) rfl ?_
        have hx5 := hx4.keep (k5 x (by omega) (by omega))
        have c7 := (b7.keep (k4 _ (by omega))).keep (k5 _ (by omega) (by omega))
        refine mts_l hn hi rZ5 hx5 hZ5 (fun xj h6 hA6 k6 => ?_) n 0 0 h5 (by omega) rfl ⟨Pl, c7, rP9, fun r hr => by omega, fun a z => rfl⟩ (fun a z1 => rfl)
        obtain ⟨A6, hA6, rA6, eA6, fA6⟩ := hA6
        have hx6 := hx5.keep (k6 x (by omega))
        have kk : ∀ a, a ≠ x → a ≠ x + 7 → (a < x + 10 ∨ x + 14 < a) → h6 a = h9 a := fun a z1 z2 z3 => (k6 a z2).trans ((k5 a (by omega) (by omega)).trans ((k4 a (by omega)).trans (k3 a z1 (by omega) (by omega) (by omega))))
        have k7 : ∀ a, a ≠ x + 7 → a ≠ x + 13 → a ≠ x + 14 → h6 a = h3 a := fun a z1 z2 z3 => (k6 a z1).trans ((k5 a z2 z3).trans (k4 a z2))
        have c10 : Sc N h3 (x + 10) 25 := ⟨_, ⟨s10.1, o10⟩, rB2⟩
        have c12 : Sc N h3 (x + 12) 25 := ⟨_, ⟨s12.1, o12⟩, rT2⟩
        have c11 : Sc N h3 (x + 11) 25 := ⟨_, b11, rP2⟩
        have rs6 : RMs N h6 x (va_up σ i (some (kd, M, n, T, lpY n M T Y t, P))) pr ts := RMs.of ⟨_, _, _, _, _, _, hx6⟩ (sc.scr ⟨c10.keep (k7 _ (by omega) (by omega) (by omega)), c11.keep (k7 _ (by omega) (by omega) (by omega)), c12.keep (k7 _ (by omega) (by omega) (by omega)), ⟨_, hZ5.keep (k6 _ (by omega)), rZ5⟩, h145.keep (k6 _ (by omega)), ⟨_, s15.keep (kk _ (by omega) (by omega) (by omega))⟩, ⟨_, s16.keep (kk _ (by omega) (by omega) (by omega))⟩, ⟨_, s17.keep (kk _ (by omega) (by omega) (by omega))⟩, ⟨_, s18.keep (kk _ (by omega) (by omega) (by omega))⟩⟩ (fun a z1 z2 z3 => kk a (by omega) (by omega) (by omega))) (ra.plate hi es hA6.2 (fun a z1 z2 z3 => kk a (by omega) (by omega) (by omega)) (lpY_bd hM) (fun r hr => by rw [eA6 r hr, eZ5 r hr, rowS_at hr]; unfold lpY; rw [if_pos hr]) (fun j z => fA6 j (by omega)) rA6)
        have rp6 : rP N h h6 x (va_up σ i (some (kd, M, n, T, lpY n M T Y t, P))) pr ts := rP.tr kg rs6 (fun a z => kk a (by omega) (by omega) (by omega))
        refine g_iconst (pc := 116) dX11_turn_116 ?_
        exact r_bool (pc := 117) dX11_turn_117 rfl rfl (Nat.le_refl _) (Or.inr rfl) ⟨by first | rfl | (rw [qM_some eg, if_pos (by omega)]), by rw [qM_some eg, if_pos (by omega)]; simp only [Int.toNat_natCast]; exact rp6⟩
      · refine g_iconst (pc := 24) dX11_turn_24 ?_
        exact r_bool (pc := 25) dX11_turn_25 rfl rfl (Nat.le_refl _) (Or.inl rfl) ⟨by first | rfl | (rw [qM_some eg, if_neg (by omega)]), by rw [qM_some eg, if_neg (by omega)]; exact rp⟩

theorem mta_l {N x i n M Pd τ Ls : Nat} {sx T Y Sz Tb Mo : Nat → Int} {pr ts : Int} {h0 : MH} {Q : Option MV → MR → MH → Prop} (hn : n ≤ 4) (hi : i < 6) (hM : 2 ≤ M) (hM2 : M ≤ 500) (hPd : Pd ≤ 9223372036854775807) (rT : rng Tb) (rM : rng Mo) (eSz : Sz i = (n : Int)) (eTb : ∀ r c, r < n → c < n → Tb (16 * i + 4 * r + c) = T (5 * r + c)) (eMo : ∀ r, r < n → Mo (4 * i + r) = T (5 * r + 4)) (c4 : Hd (0, 0, N) h0 (x + 4) (eA 0 6 Sz)) (c5 : Hd (0, 0, N) h0 (x + 5) (eA 0 96 Tb)) (c6 : Hd (0, 0, N) h0 (x + 6) (eA 0 24 Mo)) (hτ : isTail (rowS n M (au n T) Y) Pd τ) (hK : ∀ (h : MH), (∃ Z, Hd (0, 0, N) h (x + 13) (eA 0 4 Z) ∧ rng Z ∧ ∀ r, r < n → Z r = rowS n M (au n T) Y τ r) → MO N h x pr ts → Sc N h (x + 10) 25 → Sc N h (x + 11) 25 → Sc N h (x + 12) 25 → Sc N h (x + 14) 4 → (∀ a, a ≠ x → (a < x + 10 ∨ x + 14 < a) → h a = h0 a) → G mX11_tail (10, 0, 0, Ls, sx) 86 [(0, vR x), (1, vI (i : Int)), (2, vJ (Pd : Int)), (4, vI (M : Int)), (5, vI (n : Int)), (6, vI (τ : Int))] [] (0, 0, N) h Q) : ∀ (f k : Nat) (xk : Int) (h : MH), k + f = τ → xk = (k : Int) → (∃ Z, Hd (0, 0, N) h (x + 13) (eA 0 4 Z) ∧ rng Z ∧ ∀ r, r < n → Z r = rowS n M (au n T) Y k r) → MO N h x pr ts → Sc N h (x + 10) 25 → Sc N h (x + 11) 25 → Sc N h (x + 12) 25 → Sc N h (x + 14) 4 → (∀ a, a ≠ x → (a < x + 10 ∨ x + 14 < a) → h a = h0 a) → G mX11_tail (10, 0, 0, Ls, sx) 47 [(0, vR x), (1, vI (i : Int)), (2, vJ (Pd : Int)), (4, vI (M : Int)), (5, vI (n : Int)), (6, vI xk)] [] (0, 0, N) h Q := by
  intro f
  induction f with
  | zero =>
    intro k xk h hf ek hZ mo h10 h11 h12 h14 kh
    obtain ⟨Z, hZ1, rZ, eZ⟩ := hZ
    obtain ⟨th, wd, pm, fm, mu, um, hx⟩ := mo
    have g4 := c4.keep (kh _ (by omega) (by omega))
    have g5 := c5.keep (kh _ (by omega) (by omega))
    have g6 := c6.keep (kh _ (by omega) (by omega))
    have ht3 := hτ.1
    refine g_aload_n (pc := 47) (r := .inl (some x)) dX11_tail_47 rfl ?_
    refine g_iload_n (pc := 48) (x := (i : Int)) dX11_tail_48 rfl ?_
    refine g_lload_n (pc := 49) (x := (Pd : Int)) dX11_tail_49 rfl ?_
    refine g_iload (pc := 50) (x := (M : Int)) dX11_tail_50 rfl ?_
    refine g_callV0 (pc := 52) (as := [vI (i : Int), vJ (Pd : Int), vI (M : Int)]) (b := x) (st := []) lvX11_195 dX11_tail_52 hx (Nat.le_of_ble_eq_true rfl) (by omega) (Nat.zero_le _) (Nat.zero_le _) (c_comesBack (t := Pd) (d := 7) hn hi hM hM2 rT rM eSz (by omega) hx g4 g5 g6 h10 h11 h12 hZ1 rZ h14) ?_
    rw [ba_au hn eTb eMo, cb_iff hn hM eZ]
    rintro r8 h2 ⟨k2, o1, q10, q11, q12, q14, hr⟩
    have hx2 : Hd (0, 0, N) h2 x (mdl x th ((n + 1 : Nat) : Int) pm fm mu um pr ts) := ⟨hx.1, o1⟩
    have hZ2 := hZ1.keep (k2 _ (by omega) (by omega) (by omega) (by omega) (by omega))
    have e9 : k = τ := by omega
    subst e9
    obtain ⟨rfl, -⟩ : r8 = some (vI 1) ∧ True := by
      rcases hr with ⟨e, -⟩ | ⟨-, e⟩
      · exact ⟨e, trivial⟩
      · exact absurd hτ.2.1 e
    refine g_if_neT (pc := 55) (tgt := 86) dX11_tail_55 (by decide) (by omega) (by omega) ?_
    subst ek
    exact hK h2 ⟨Z, hZ2, rZ, eZ⟩ ⟨_, _, _, _, _, _, hx2⟩ q10 q11 q12 q14 (fun a z1 z2 => (k2 a z1 (by omega) (by omega) (by omega) (by omega)).trans (kh a z1 z2))
  | succ f ih =>
    intro k xk h hf ek hZ mo h10 h11 h12 h14 kh
    obtain ⟨Z, hZ1, rZ, eZ⟩ := hZ
    obtain ⟨th, wd, pm, fm, mu, um, hx⟩ := mo
    have g4 := c4.keep (kh _ (by omega) (by omega))
    have g5 := c5.keep (kh _ (by omega) (by omega))
    have g6 := c6.keep (kh _ (by omega) (by omega))
    have ht3 := hτ.1
    refine g_aload_n (pc := 47) (r := .inl (some x)) dX11_tail_47 rfl ?_
    refine g_iload_n (pc := 48) (x := (i : Int)) dX11_tail_48 rfl ?_
    refine g_lload_n (pc := 49) (x := (Pd : Int)) dX11_tail_49 rfl ?_
    refine g_iload (pc := 50) (x := (M : Int)) dX11_tail_50 rfl ?_
    refine g_callV0 (pc := 52) (as := [vI (i : Int), vJ (Pd : Int), vI (M : Int)]) (b := x) (st := []) lvX11_195 dX11_tail_52 hx (Nat.le_of_ble_eq_true rfl) (by omega) (Nat.zero_le _) (Nat.zero_le _) (c_comesBack (t := Pd) (d := 7) hn hi hM hM2 rT rM eSz (by omega) hx g4 g5 g6 h10 h11 h12 hZ1 rZ h14) ?_
    rw [ba_au hn eTb eMo, cb_iff hn hM eZ]
    rintro r8 h2 ⟨k2, o1, q10, q11, q12, q14, hr⟩
    have hx2 : Hd (0, 0, N) h2 x (mdl x th ((n + 1 : Nat) : Int) pm fm mu um pr ts) := ⟨hx.1, o1⟩
    have hZ2 := hZ1.keep (k2 _ (by omega) (by omega) (by omega) (by omega) (by omega))
    obtain ⟨rfl, -⟩ : r8 = some (vI 0) ∧ True := by
      rcases hr with ⟨-, e⟩ | ⟨e, -⟩
      · exact absurd e (hτ.2.2 k (by omega))
      · exact ⟨e, trivial⟩
    obtain ⟨f10, s10, r10⟩ := q10
    obtain ⟨f11, s11, r11⟩ := q11
    obtain ⟨f12, s12, r12⟩ := q12
    obtain ⟨f14, s14, r14⟩ := q14
    have a4 := g4.keep (k2 _ (by omega) (by omega) (by omega) (by omega) (by omega))
    have a5 := g5.keep (k2 _ (by omega) (by omega) (by omega) (by omega) (by omega))
    have a6 := g6.keep (k2 _ (by omega) (by omega) (by omega) (by omega) (by omega))
    refine g_if_neF (pc := 55) (tgt := 86) dX11_tail_55 (by decide) (by omega) (by omega) ?_
    refine g_aload_n (pc := 58) (r := .inl (some x)) dX11_tail_58 rfl ?_
    refine g_iload_n (pc := 59) (x := (i : Int)) dX11_tail_59 rfl ?_
    refine g_lconst1 (pc := 60) dX11_tail_60 ?_
    refine g_iload (pc := 61) (x := (M : Int)) dX11_tail_61 rfl ?_
    refine g_callV0 (pc := 63) (as := [vI (i : Int), vJ 1, vI (M : Int)]) (b := x) (st := []) lvX11_133 dX11_tail_63 hx2 (Nat.le_of_ble_eq_true rfl) (by omega) (Nat.zero_le _) (Nat.zero_le _) (c_powers (t := 1) (d := 8) hn hi (by omega) hM2 rT rM eSz (by decide) r10 r11 r12 hx2 a4 a5 a6 s10 s11 s12) ?_
    rintro r8 h3 ⟨rfl, k3, o19, ⟨B2, o10, rB2⟩, ⟨T2, o12, rT2⟩, P2, o11, rP2, e2⟩
    rw [ba_au hn eTb eMo] at e2
    have hx3 : Hd (0, 0, N) h3 x (mdl x th ((n + 1 : Nat) : Int) pm fm mu um pr ts) := ⟨hx.1, o19⟩
    have b11 : Hd (0, 0, N) h3 (x + 11) (eA 0 25 P2) := ⟨s11.1, by assumption⟩
    have b13 := hZ2.keep (k3 _ (by omega) (by omega) (by omega) (by omega))
    have b14 := s14.keep (k3 _ (by omega) (by omega) (by omega) (by omega))
    refine g_aload_n (pc := 66) (r := .inl (some x)) dX11_tail_66 rfl ?_
    refine g_iload (pc := 67) (x := (n : Int)) dX11_tail_67 rfl ?_
    refine g_iload (pc := 69) (x := (M : Int)) dX11_tail_69 rfl ?_
    refine g_callV0 (pc := 71) (as := [vI (n : Int), vI (M : Int)]) (b := x) (st := []) lvX11_140 dX11_tail_71 hx3 (Nat.le_of_ble_eq_true rfl) (by omega) (Nat.zero_le _) (Nat.zero_le _) (c_goes (d := 9) hn (by omega) hM2 rP2 rZ hx3 b11 b13 b14) ?_
    rintro r8 h4 ⟨rfl, k4, T4, o14, e14, f14⟩
    have hx4 := hx3.keep (k4 x (by omega))
    have d13 := b13.keep (k4 _ (by omega))
    have d14 := b14.to o14
    refine g_aload_n (pc := 74) (r := .inl (some x)) dX11_tail_74 rfl ?_
    refine g_iload (pc := 75) (x := (n : Int)) dX11_tail_75 rfl ?_
    refine g_callV0 (pc := 77) (as := [vI (n : Int)]) (b := x) (st := []) lvX11_143 dX11_tail_77 hx4 (Nat.le_of_ble_eq_true rfl) (by omega) (Nat.zero_le _) (Nat.zero_le _) (c_takes (d := 9) hn hx4 d13 d14) ?_
    rintro r8 h5 ⟨rfl, k5, Z5, o13, e13, f13⟩
    have hx5 := hx4.keep (k5 x (by omega))
    have hS := stp1 hn hM e2 eZ e14
    have rT4 := rng_go (by omega) hM2 r14 e14 f14
    refine g_iinc (pc := 80) (x := xk) (lo2 := [(0, vR x), (1, vI (i : Int)), (2, vJ (Pd : Int)), (4, vI (M : Int)), (5, vI (n : Int)), (6, vI (xk + 1))]) dX11_tail_80 rfl (by decide) rfl ?_
    refine g_goto (pc := 83) (tgt := 47) dX11_tail_83 (by decide) ?_
    exact ih (k + 1) (xk + 1) h5 (by omega) (by omega) ⟨Z5, d13.to o13, rng_cp rT4 rZ e13 f13, fun r hr => (e13 r hr).trans (hS r hr)⟩ ⟨_, _, _, _, _, _, hx5⟩ ⟨_, ⟨s10.1, ((k5 _ (by omega)).trans (k4 _ (by omega))).trans o10⟩, rB2⟩ ⟨_, (b11.keep (k4 _ (by omega))).keep (k5 _ (by omega)), rP2⟩ ⟨_, ⟨s12.1, ((k5 _ (by omega)).trans (k4 _ (by omega))).trans o12⟩, rT2⟩ ⟨_, d14.keep (k5 _ (by omega)), rT4⟩ (fun a z1 z2 => (k5 a (by omega)).trans ((k4 a (by omega)).trans ((k3 a z1 (by omega) (by omega) (by omega)).trans ((k2 a z1 (by omega) (by omega) (by omega) (by omega)).trans (kh a z1 z2)))))

theorem r_tail {N x : Nat} {pr ts : Int} {m : Int} {σ : Nat → Option MSt} {h : MH} {τ Pd : Nat} (hm : i32 m) (hτ : ∀ kd M n T Y P, gt σ m = some (kd, M, n, T, Y, P) → (isPer (rowS n M (au n T) Y) 32 Pd ∧ isTail (rowS n M (au n T) Y) Pd τ) ∧ Pd ≤ 9223372036854775807) (rs0 : RMs N h x σ pr ts) : Ok mX11_tail 10 0 0 [vR x, vI m] N h (fun r9 h2 => r9 = some (vI (qM σ m (-1) (fun kd M n T Y P => (τ : Int)))) ∧ rP N h h2 x σ pr ts) := by
  refine Ok.of pfX11_tail rfl (Nat.le_of_ble_eq_true rfl) (fun Ls sx => ?_)
  show G mX11_tail (10, 0, 0, Ls, sx) 0 [(0, vR x), (1, vI m)] [] (0, 0, N) h _
  obtain ⟨⟨th, wd, pm, fm, mu, um, hx0⟩, sc0, Th, Kd, Ms, Sz, Tb, Mo, Pl, Pi, ra0⟩ := id rs0
  replace ra0 : RA N h x σ Th Kd Ms Sz Tb Mo Pl Pi := ra0
  refine g_aload_n (pc := 0) (r := .inl (some x)) dX11_tail_0 rfl ?_
  refine g_iconst (pc := 1) dX11_tail_1 ?_
  refine g_putf (pc := 2) fpX11_104 dX11_tail_2 hx0 (okv_int _) (Nat.le_of_ble_eq_true rfl) ?_
  have hx_1 := hx0.self (e := mdl x 0 wd pm fm mu um pr ts)
  show G mX11_tail _ 5 [(0, vR x), (1, vI m)] [] _ (va_up h x (mdl x 0 wd pm fm mu um pr ts)) _
  obtain ⟨g, eg0⟩ : ∃ g, g = va_up h x (mdl x 0 wd pm fm mu um pr ts) := ⟨_, rfl⟩
  rw [← eg0] at hx_1 ⊢
  have hx := hx_1
  have kg : ∀ a, a ≠ x → g a = h a := fun a z => by rw [eg0, va_up_ne _ _ z]
  have ra := ra0.keep (h2 := g) (fun a z1 z2 => kg a (by omega))
  have sc := sc0.keep (h2 := g) (fun a z1 z2 => kg a (by omega))
  have mo : MO N g x pr ts := ⟨_, _, _, _, _, _, hx⟩
  have rs : RMs N g x σ pr ts := RMs.of mo sc ra
  have rp : rP N h g x σ pr ts := ⟨rs, fun a z => kg a (by omega)⟩
  refine g_aload_n (pc := 5) (r := .inl (some x)) dX11_tail_5 rfl ?_
  refine g_iload_n (pc := 6) (x := m) dX11_tail_6 rfl ?_
  refine g_callV0 (pc := 7) (as := [vI m]) (b := x) (st := []) lvX11_108 dX11_tail_7 hx (Nat.le_of_ble_eq_true rfl) (by omega) (Nat.zero_le _) (Nat.zero_le _) (c_isM (d := 9) hm hx ra) ?_
  rintro r8 h9 ⟨e9, e8⟩
  subst e9
  subst e8
  rcases eg : gt σ m with _ | ⟨kd, M, n, T, Y, P⟩
  · rw [qM_none eg]
    refine g_if_neF (pc := 10) (tgt := 15) dX11_tail_10 (by decide) (by omega) (by omega) ?_
    refine g_iconst (pc := 13) dX11_tail_13 ?_
    exact r_int (pc := 14) dX11_tail_14 rfl rfl (Nat.le_refl _) ⟨by first | rfl | (rw [qM_none eg]), rp⟩
  · rw [qM_some eg]
    obtain ⟨i, hi, em, es⟩ := gt_some eg
    subst em
    obtain ⟨a1, a2, a3, a4, a5, a6, a7, a8, ⟨rT, rM, rP9⟩, mi⟩ := id ra
    obtain ⟨ok, eTh, eKd, eMs, eSz, eTb, eMo, ePl, ePi⟩ := (mi i hi).out es
    obtain ⟨hkd, hM, hM2, n1, hn, hk1, hk3, hT, hYb, hPb⟩ := id ok
    have hrow := rs.row hi es
    refine g_if_neT (pc := 10) (tgt := 15) dX11_tail_10 (by decide) (by omega) (by omega) ?_
    obtain ⟨⟨hper, htl⟩, hPd⟩ := hτ _ _ _ _ _ _ eg
    refine g_aload_n (pc := 15) (r := .inl (some x)) dX11_tail_15 rfl ?_
    refine g_iload_n (pc := 16) (x := (i : Int)) dX11_tail_16 rfl ?_
    refine g_callV0 (pc := 17) (as := [vI (i : Int)]) (b := x) (st := []) lvX11_202 dX11_tail_17 hx (Nat.le_of_ble_eq_true rfl) (by omega) (Nat.zero_le _) (Nat.zero_le _) (c_mroundOf (d := 6) n1 hn hM hM2 hi hper mo hrow sc.2.1) ?_
    rintro r8 h5 ⟨rfl, mo5, sr5, k5⟩
    have rs5 : RMs N h5 x σ pr ts := rs.scr mo5 sr5 k5
    obtain ⟨⟨th5, wd5, pm5, fm5, mu5, um5, hx5⟩, sc5, Th5, Kd5, Ms5, Sz5, Tb5, Mo5, Pl5, Pi5, ra5⟩ := id rs5
    replace ra5 : RA N h5 x σ Th5 Kd5 Ms5 Sz5 Tb5 Mo5 Pl5 Pi5 := ra5
    obtain ⟨c1, c2, c3, c4, c5, c6, c7, c8, ⟨rT5, rM5, rP5⟩, mi5⟩ := id ra5
    obtain ⟨-, eTh5, eKd5, eMs5, eSz5, eTb5, eMo5, ePl5, ePi5⟩ := (mi5 i hi).out es
    obtain ⟨v9, ⟨v10, v11, v12, ⟨v13f, v13, v13r⟩, v14, ⟨w15, v15⟩, ⟨w16, v16⟩, ⟨w17, v17⟩, ⟨w18, v18⟩⟩, -, -, -, -, -⟩ := id sc5
    refine g_lstore_n (pc := 20) (lo2 := [(0, vR x), (1, vI (i : Int)), (2, vJ (Pd : Int))]) dX11_tail_20 (by decide) rfl ?_
    refine g_aload_n (pc := 21) (r := .inl (some x)) dX11_tail_21 rfl ?_
    refine g_getf (pc := 22) (v := vR (x + 3)) flX11_17 dX11_tail_22 hx5 rfl ?_
    refine g_iload_n (pc := 25) (x := (i : Int)) dX11_tail_25 rfl ?_
    refine g_ialdN (pc := 26) (j := i) dX11_tail_26 c3 (by omega) (by omega) (by omega) ?_
    rw [eMs5]
    refine g_istore (pc := 27) (lo2 := [(0, vR x), (1, vI (i : Int)), (2, vJ (Pd : Int)), (4, vI (M : Int))]) dX11_tail_27 (by decide) rfl ?_
    refine g_aload_n (pc := 29) (r := .inl (some x)) dX11_tail_29 rfl ?_
    refine g_getf (pc := 30) (v := vR (x + 4)) flX11_20 dX11_tail_30 hx5 rfl ?_
    refine g_iload_n (pc := 33) (x := (i : Int)) dX11_tail_33 rfl ?_
    refine g_ialdN (pc := 34) (j := i) dX11_tail_34 c4 (by omega) (by omega) (by omega) ?_
    rw [eSz5]
    refine g_istore (pc := 35) (lo2 := [(0, vR x), (1, vI (i : Int)), (2, vJ (Pd : Int)), (4, vI (M : Int)), (5, vI (n : Int))]) dX11_tail_35 (by decide) rfl ?_
    refine g_aload_n (pc := 37) (r := .inl (some x)) dX11_tail_37 rfl ?_
    refine g_iload_n (pc := 38) (x := (i : Int)) dX11_tail_38 rfl ?_
    refine g_iload (pc := 39) (x := (M : Int)) dX11_tail_39 rfl ?_
    refine g_callV0 (pc := 41) (as := [vI (i : Int), vI (M : Int)]) (b := x) (st := []) lvX11_137 dX11_tail_41 hx5 (Nat.le_of_ble_eq_true rfl) (by omega) (Nat.zero_le _) (Nat.zero_le _) (c_plateIs (d := 9) hn hi eSz5 (by omega) hM2 rP5 hx5 c4 c7 v13) ?_
    rintro r8 h4 ⟨rfl, k4, Z4, o13, e13, f13⟩
    have hx4 := hx5.keep (k4 x (by omega))
    have e13' : ∀ r, r < n → Z4 r = Y r := fun r hr => by rw [e13 r hr]; exact plate_mod ePl5 hYb r hr
    have rZ4 : rng Z4 := rng_ifl hM2 (fun j hj => by rw [e13' j hj]; exact hYb j hj) f13 v13r
    refine g_iconst (pc := 44) dX11_tail_44 ?_
    refine g_istore (pc := 45) (lo2 := [(0, vR x), (1, vI (i : Int)), (2, vJ (Pd : Int)), (4, vI (M : Int)), (5, vI (n : Int)), (6, vI 0)]) dX11_tail_45 (by decide) rfl ?_
    refine mta_l (T := T) (Y := Y) hn hi hM hM2 hPd rT5 rM5 eSz5 eTb5 eMo5 (c4.keep (k4 _ (by omega))) (c5.keep (k4 _ (by omega))) (c6.keep (k4 _ (by omega))) htl (fun h6 hZ6 mo6 q10 q11 q12 q14 k6 => ?_) τ 0 0 h4 (by omega) rfl ⟨Z4, v13.to o13, rZ4, fun r hr => by rw [e13' r hr, rowS_0 hn hr (hYb r hr)]⟩ ⟨_, _, _, _, _, _, hx4⟩ (v10.keep (k4 _ (by omega))) (v11.keep (k4 _ (by omega))) (v12.keep (k4 _ (by omega))) (v14.keep (k4 _ (by omega))) (fun a z1 z2 => rfl)
    obtain ⟨Z6, z6, rz6, -⟩ := hZ6
    have kk : ∀ a, a ≠ x → (a < x + 10 ∨ x + 14 < a) → h6 a = h5 a := fun a z1 z2 => (k6 a z1 z2).trans (k4 a (by omega))
    have rs6 : RMs N h6 x σ pr ts := rs5.scr mo6 ⟨q10, q11, q12, ⟨_, z6, rz6⟩, q14, ⟨_, v15.keep (kk _ (by omega) (by omega))⟩, ⟨_, v16.keep (kk _ (by omega) (by omega))⟩, ⟨_, v17.keep (kk _ (by omega) (by omega))⟩, ⟨_, v18.keep (kk _ (by omega) (by omega))⟩⟩ (fun a z1 z2 => kk a z1 (by omega))
    have rp6 : rP N h h6 x σ pr ts := rP.tr kg rs6 (fun a z => (kk a (by omega) (by omega)).trans (k5 a (by omega) (by omega)))
    refine g_iload (pc := 86) (x := (τ : Int)) dX11_tail_86 rfl ?_
    exact r_int (pc := 88) dX11_tail_88 rfl rfl (Nat.le_refl _) ⟨by first | rfl | (rw [qM_some eg]), rp6⟩

theorem mck_l {N x i n M Pd v Ls : Nat} {sx T Y Sz Tb Mo U Z : Nat → Int} {us : List Nat} {pr ts : Int} {h0 : MH} (hn : n ≤ 4) (hi : i < 6) (hM : 2 ≤ M) (hM2 : M ≤ 500) (v1 : 1 ≤ v) (hv : v ≤ 1000000000000) (rT : rng Tb) (rM : rng Mo) (eSz : Sz i = (n : Int)) (eTb : ∀ r c, r < n → c < n → Tb (16 * i + 4 * r + c) = T (5 * r + c)) (eMo : ∀ r, r < n → Mo (4 * i + r) = T (5 * r + 4)) (c4 : Hd (0, 0, N) h0 (x + 4) (eA 0 6 Sz)) (c5 : Hd (0, 0, N) h0 (x + 5) (eA 0 96 Tb)) (c6 : Hd (0, 0, N) h0 (x + 6) (eA 0 24 Mo)) (c13 : Hd (0, 0, N) h0 (x + 13) (eA 0 4 Z)) (rZ : rng Z) (eZ : ∀ r, r < n → Z r = rowS n M (au n T) Y 64 r) (c22 : Hd (0, 0, N) h0 (x + 22) (eA 3 16 U)) (hF : FLk U us) (h11 : us.length ≤ 11) (hus : ∀ y, y ∈ us ↔ prm y ∧ y ∣ v) (hP : isPer (rowS n M (au n T) Y) 64 Pd) (hd : Pd ∣ v) : ∀ (f k : Nat) (xk : Int) (h : MH), k + f = us.length → xk = (k : Int) → (∀ j, j < k → ¬ Pd ∣ v / us.getD j 0) → (∃ th wd pm fm mu : Int, Hd (0, 0, N) h x (mdl x th wd pm fm mu (us.length : Int) pr ts)) → Sc N h (x + 10) 25 → Sc N h (x + 11) 25 → Sc N h (x + 12) 25 → Sc N h (x + 14) 4 → (∀ a, a ≠ x → (a < x + 10 ∨ (x + 12 < a ∧ a < x + 14) ∨ x + 14 < a) → h a = h0 a) → G mX11_check (10, 0, 0, Ls, sx) 65 [(0, vR x), (1, vI (i : Int)), (2, vJ (v : Int)), (4, vI (M : Int)), (5, vI xk)] [] (0, 0, N) h (Pq mX11_check 0 0 (fun r9 h2 => r9 = some (vI (if (Pd : Int) = (v : Int) then 1 else 0)) ∧ MO N h2 x pr ts ∧ Sc N h2 (x + 10) 25 ∧ Sc N h2 (x + 11) 25 ∧ Sc N h2 (x + 12) 25 ∧ Sc N h2 (x + 14) 4 ∧ (∀ a, a ≠ x → (a < x + 10 ∨ (x + 12 < a ∧ a < x + 14) ∨ x + 14 < a) → h2 a = h0 a))) := by
  intro f
  induction f with
  | zero =>
    intro k xk h hf ek hno mo h10 h11 h12 h14 kh
    obtain ⟨th, wd, pm, fm, mu, hx⟩ := mo
    have e9 : v = Pd := red_end v1 hd (fun l z1 z2 => by
      obtain ⟨j, hj, ej⟩ := List.mem_iff_getElem.mp ((hus l).mpr ⟨z1, z2⟩)
      have := hno j (by omega)
      rwa [show us.getD j 0 = us[j] by simp [hj], ej] at this)
    refine g_iload (pc := 65) (x := xk) dX11_check_65 rfl ?_
    refine g_aload_n (pc := 67) (r := .inl (some x)) dX11_check_67 rfl ?_
    refine g_getf (pc := 68) (v := vI (us.length : Int)) flX11_230 dX11_check_68 hx rfl ?_
    refine g_icmp_geT (pc := 71) (tgt := 101) dX11_check_71 (by decide) (by omega) (by omega) (by omega) ?_
    refine g_iconst (pc := 101) dX11_check_101 ?_
    exact r_int (pc := 102) dX11_check_102 rfl rfl (Nat.le_refl _) ⟨by rw [if_pos (by omega)], ⟨_, _, _, _, _, _, hx⟩, h10, h11, h12, h14, kh⟩
  | succ f ih =>
    intro k xk h hf ek hno mo h10 h11 h12 h14 kh
    obtain ⟨th, wd, pm, fm, mu, hx⟩ := mo
    have g4 := c4.keep (kh _ (by omega) (by omega))
    have g5 := c5.keep (kh _ (by omega) (by omega))
    have g6 := c6.keep (kh _ (by omega) (by omega))
    have g13 := c13.keep (kh _ (by omega) (by omega))
    have g22 := c22.keep (kh _ (by omega) (by omega))
    obtain ⟨u, eu⟩ : ∃ u, u = us.getD k 0 := ⟨_, rfl⟩
    have hu := (hus u).mp (by rw [eu, show us.getD k 0 = us[k]'(by omega) by simp [show k < us.length by omega]]; exact List.getElem_mem _)
    have eU : U k = (u : Int) := by rw [eu]; exact hF k (by omega)
    have u2 := hu.1.1
    have ub := Nat.le_of_dvd (by omega) hu.2
    have hq : v / u < v := Nat.div_lt_self (by omega) (by omega)
    refine g_iload (pc := 65) (x := xk) dX11_check_65 rfl ?_
    refine g_aload_n (pc := 67) (r := .inl (some x)) dX11_check_67 rfl ?_
    refine g_getf (pc := 68) (v := vI (us.length : Int)) flX11_230 dX11_check_68 hx rfl ?_
    refine g_icmp_geF (pc := 71) (tgt := 101) dX11_check_71 (by decide) (by omega) (by omega) (by omega) ?_
    refine g_aload_n (pc := 74) (r := .inl (some x)) dX11_check_74 rfl ?_
    refine g_iload_n (pc := 75) (x := (i : Int)) dX11_check_75 rfl ?_
    refine g_lload_n (pc := 76) (x := (v : Int)) dX11_check_76 rfl ?_
    refine g_aload_n (pc := 77) (r := .inl (some x)) dX11_check_77 rfl ?_
    refine g_getf (pc := 78) (v := vR (x + 22)) flX11_76 dX11_check_78 hx rfl ?_
    refine g_iload (pc := 81) (x := xk) dX11_check_81 rfl ?_
    refine g_laldN (pc := 83) (j := k) dX11_check_83 g22 (by omega) (by omega) (by omega) ?_
    rw [eU]
    refine g_ldiv (pc := 84) dX11_check_84 (by omega) (by omega) (by omega) ?_
    rw [tdivN (x := v) (y := u) rfl rfl]
    refine g_iload (pc := 85) (x := (M : Int)) dX11_check_85 rfl ?_
    refine g_callV0 (pc := 87) (as := [vI (i : Int), vJ ((v / u : Nat) : Int), vI (M : Int)]) (b := x) (st := []) lvX11_195 dX11_check_87 hx (Nat.le_of_ble_eq_true rfl) (by omega) (Nat.zero_le _) (Nat.zero_le _) (c_comesBack (t := v / u) (d := 7) hn hi hM hM2 rT rM eSz (by omega) hx g4 g5 g6 h10 h11 h12 g13 rZ h14) ?_
    rw [ba_au hn eTb eMo, cb_iff hn hM eZ, hP.2]
    rintro r8 h2 ⟨k2, o1, q10, q11, q12, q14, hr⟩
    have hx2 : Hd (0, 0, N) h2 x (mdl x th ((n + 1 : Nat) : Int) pm fm mu (us.length : Int) pr ts) := ⟨hx.1, o1⟩
    have kh2 : ∀ a, a ≠ x → (a < x + 10 ∨ (x + 12 < a ∧ a < x + 14) ∨ x + 14 < a) → h2 a = h0 a := fun a z1 z2 => (k2 a z1 (by omega) (by omega) (by omega) (by omega)).trans (kh a z1 z2)
    rcases hr with ⟨rfl, hr⟩ | ⟨rfl, hr⟩
    · refine g_if_eqF (pc := 90) (tgt := 95) dX11_check_90 (by decide) (by omega) (by omega) ?_
      refine g_iconst (pc := 93) dX11_check_93 ?_
      have e8 : ¬ (Pd : Int) = (v : Int) := fun e => by
        have e7 := Nat.le_of_dvd (Nat.div_pos ub (by omega)) hr
        omega
      exact r_int (pc := 94) dX11_check_94 rfl rfl (Nat.le_refl _) ⟨by rw [if_neg e8], ⟨_, _, _, _, _, _, hx2⟩, q10, q11, q12, q14, kh2⟩
    · refine g_if_eqT (pc := 90) (tgt := 95) dX11_check_90 (by decide) (by omega) (by omega) ?_
      refine g_iinc (pc := 95) (x := xk) (lo2 := [(0, vR x), (1, vI (i : Int)), (2, vJ (v : Int)), (4, vI (M : Int)), (5, vI (xk + 1))]) dX11_check_95 rfl (by decide) rfl ?_
      refine g_goto (pc := 98) (tgt := 65) dX11_check_98 (by decide) ?_
      exact ih (k + 1) (xk + 1) h2 (by omega) (by omega) (fun j hj => by
        by_cases e : j = k
        · rw [e, ← eu]
          exact hr
        · exact hno j (by omega)) ⟨_, _, _, _, _, hx2⟩ q10 q11 q12 q14 kh2

theorem r_check {N x : Nat} {pr ts : Int} {m t : Int} {σ : Nat → Option MSt} {h : MH} {Pd : Nat} (hm : i32 m) (ht : i64 t) (hτ : ∀ kd M n T Y P, gt σ m = some (kd, M, n, T, Y, P) → isPer (rowS n M (au n T) Y) 32 Pd) (rs0 : RMs N h x σ pr ts) : Ok mX11_check 10 0 0 [vR x, vI m, vJ t] N h (fun r9 h2 => r9 = some (vI (qM σ m (-1) (fun kd M n T Y P => if 1 ≤ t ∧ t ≤ 1000000000000 then (if (Pd : Int) = t then 1 else 0) else -1))) ∧ rP N h h2 x σ pr ts) := by
  refine Ok.of pfX11_check rfl (Nat.le_of_ble_eq_true rfl) (fun Ls sx => ?_)
  show G mX11_check (10, 0, 0, Ls, sx) 0 [(0, vR x), (1, vI m), (2, vJ t)] [] (0, 0, N) h _
  obtain ⟨⟨th, wd, pm, fm, mu, um, hx0⟩, sc0, Th, Kd, Ms, Sz, Tb, Mo, Pl, Pi, ra0⟩ := id rs0
  replace ra0 : RA N h x σ Th Kd Ms Sz Tb Mo Pl Pi := ra0
  refine g_aload_n (pc := 0) (r := .inl (some x)) dX11_check_0 rfl ?_
  refine g_iconst (pc := 1) dX11_check_1 ?_
  refine g_putf (pc := 2) fpX11_104 dX11_check_2 hx0 (okv_int _) (Nat.le_of_ble_eq_true rfl) ?_
  have hx_1 := hx0.self (e := mdl x 0 wd pm fm mu um pr ts)
  show G mX11_check _ 5 [(0, vR x), (1, vI m), (2, vJ t)] [] _ (va_up h x (mdl x 0 wd pm fm mu um pr ts)) _
  obtain ⟨g, eg0⟩ : ∃ g, g = va_up h x (mdl x 0 wd pm fm mu um pr ts) := ⟨_, rfl⟩
  rw [← eg0] at hx_1 ⊢
  have hx := hx_1
  have kg : ∀ a, a ≠ x → g a = h a := fun a z => by rw [eg0, va_up_ne _ _ z]
  have ra := ra0.keep (h2 := g) (fun a z1 z2 => kg a (by omega))
  have sc := sc0.keep (h2 := g) (fun a z1 z2 => kg a (by omega))
  have mo : MO N g x pr ts := ⟨_, _, _, _, _, _, hx⟩
  have rs : RMs N g x σ pr ts := RMs.of mo sc ra
  have rp : rP N h g x σ pr ts := ⟨rs, fun a z => kg a (by omega)⟩
  refine g_aload_n (pc := 5) (r := .inl (some x)) dX11_check_5 rfl ?_
  refine g_iload_n (pc := 6) (x := m) dX11_check_6 rfl ?_
  refine g_callV0 (pc := 7) (as := [vI m]) (b := x) (st := []) lvX11_108 dX11_check_7 hx (Nat.le_of_ble_eq_true rfl) (by omega) (Nat.zero_le _) (Nat.zero_le _) (c_isM (d := 9) hm hx ra) ?_
  rintro r8 h9 ⟨e9, e8⟩
  subst e9
  subst e8
  rcases eg : gt σ m with _ | ⟨kd, M, n, T, Y, P⟩
  · rw [qM_none eg]
    refine g_if_eqT (pc := 10) (tgt := 27) dX11_check_10 (by decide) (by omega) (by omega) ?_
    refine g_iconst (pc := 27) dX11_check_27 ?_
    exact r_int (pc := 28) dX11_check_28 rfl rfl (Nat.le_refl _) ⟨by first | rfl | (rw [qM_none eg]), rp⟩
  · rw [qM_some eg]
    obtain ⟨i, hi, em, es⟩ := gt_some eg
    subst em
    obtain ⟨a1, a2, a3, a4, a5, a6, a7, a8, ⟨rT, rM, rP9⟩, mi⟩ := id ra
    obtain ⟨ok, eTh, eKd, eMs, eSz, eTb, eMo, ePl, ePi⟩ := (mi i hi).out es
    obtain ⟨hkd, hM, hM2, n1, hn, hk1, hk3, hT, hYb, hPb⟩ := id ok
    have hrow := rs.row hi es
    refine g_if_eqF (pc := 10) (tgt := 27) dX11_check_10 (by decide) (by omega) (by omega) ?_
    refine g_lload_n (pc := 13) (x := t) dX11_check_13 rfl ?_
    refine g_lconst1 (pc := 14) dX11_check_14 ?_
    refine g_lif_lt (pc := 15) (tgt := 27) dX11_check_15 dX11_check_16 (by decide) (by omega) (by omega) (fun k0 => ?_) (fun k0 => ?_)
    · refine g_iconst (pc := 27) dX11_check_27 ?_
      exact r_int (pc := 28) dX11_check_28 rfl rfl (Nat.le_refl _) ⟨by first | rfl | (rw [qM_some eg, if_neg (by omega)]), rp⟩
    · refine g_lload_n (pc := 19) (x := t) dX11_check_19 rfl ?_
      refine g_ldc2 (pc := 20) (n := 1000000000000) dX11_check_20 kcX11_233 ?_
      refine g_lif_le (pc := 23) (tgt := 29) dX11_check_23 dX11_check_24 (by decide) (by omega) (by omega) (fun k1 => ?_) (fun k1 => ?_)
      · obtain ⟨v, et⟩ : ∃ tt : Nat, t = (tt : Int) := ⟨t.toNat, by omega⟩
        subst et
        have hper := hτ _ _ _ _ _ _ eg
        have hp64 : isPer (rowS n M (au n T) Y) 64 Pd := (per_shift (rowS_det hn hM (aff_au hn)) hper.1 ((hper.2 Pd).mpr (Nat.dvd_refl Pd)) (by omega)).mpr hper
        obtain ⟨s9, ⟨s10, s11, s12, s13, s14, ⟨p15, s15⟩, ⟨p16, s16⟩, ⟨p17, s17⟩, ⟨p18, s18⟩⟩, s2, ⟨p22, s22⟩, s23, s24, s25⟩ := id sc
        refine g_aload_n (pc := 29) (r := .inl (some x)) dX11_check_29 rfl ?_
        refine g_getf (pc := 30) (v := vR (x + 3)) flX11_17 dX11_check_30 hx rfl ?_
        refine g_iload_n (pc := 33) (x := (i : Int)) dX11_check_33 rfl ?_
        refine g_ialdN (pc := 34) (j := i) dX11_check_34 a3 (by omega) (by omega) (by omega) ?_
        rw [eMs]
        refine g_istore (pc := 35) (lo2 := [(0, vR x), (1, vI (i : Int)), (2, vJ (v : Int)), (4, vI (M : Int))]) dX11_check_35 (by decide) rfl ?_
        refine g_aload_n (pc := 37) (r := .inl (some x)) dX11_check_37 rfl ?_
        refine g_iload_n (pc := 38) (x := (i : Int)) dX11_check_38 rfl ?_
        refine g_iload (pc := 39) (x := (M : Int)) dX11_check_39 rfl ?_
        refine g_callV0 (pc := 41) (as := [vI (i : Int), vI (M : Int)]) (b := x) (st := []) lvX11_192 dX11_check_41 hx (Nat.le_of_ble_eq_true rfl) (by omega) (Nat.zero_le _) (Nat.zero_le _) (c_settles (d := 7) hn hi hM hM2 rT rM eSz rP9 hx a4 a5 a6 s10 s11 s12 a7 s13 s14) ?_
        rintro r8 h3 ⟨rfl, k3, o1, z10, z11, z12, z14, Z, z13, rZ, eZ0⟩
        have eZ : ∀ r, r < n → Z r = rowS n M (au n T) Y 64 r := fun r hr => by rw [eZ0 r hr, ba_au hn eTb eMo, goF_congr (plate_mod ePl hYb), rowS_at hr]
        have hx3 : Hd (0, 0, N) h3 x (mdl x 0 ((n + 1 : Nat) : Int) pm fm mu um pr ts) := ⟨hx.1, o1⟩
        have b4 := a4.keep (k3 _ (by omega) (by omega) (by omega) (by omega) (by omega) (by omega))
        have b5 := a5.keep (k3 _ (by omega) (by omega) (by omega) (by omega) (by omega) (by omega))
        have b6 := a6.keep (k3 _ (by omega) (by omega) (by omega) (by omega) (by omega) (by omega))
        refine g_aload_n (pc := 44) (r := .inl (some x)) dX11_check_44 rfl ?_
        refine g_iload_n (pc := 45) (x := (i : Int)) dX11_check_45 rfl ?_
        refine g_lload_n (pc := 46) (x := (v : Int)) dX11_check_46 rfl ?_
        refine g_iload (pc := 47) (x := (M : Int)) dX11_check_47 rfl ?_
        refine g_callV0 (pc := 49) (as := [vI (i : Int), vJ (v : Int), vI (M : Int)]) (b := x) (st := []) lvX11_195 dX11_check_49 hx3 (Nat.le_of_ble_eq_true rfl) (by omega) (Nat.zero_le _) (Nat.zero_le _) (c_comesBack (t := v) (d := 7) hn hi hM hM2 rT rM eSz (by omega) hx3 b4 b5 b6 z10 z11 z12 z13 rZ z14) ?_
        rw [ba_au hn eTb eMo, cb_iff hn hM eZ, hp64.2]
        rintro r8 h4 ⟨k4, o14, q10, q11, q12, q14, hr⟩
        have hx4 : Hd (0, 0, N) h4 x (mdl x 0 ((n + 1 : Nat) : Int) pm fm mu um pr ts) := ⟨hx.1, o14⟩
        have kk : ∀ a, a ≠ x → (a < x + 10 ∨ x + 14 < a) → h4 a = h9 a := fun a z1 z2 => (k4 a z1 (by omega) (by omega) (by omega) (by omega)).trans (k3 a z1 (by omega) (by omega) (by omega) (by omega) (by omega))
        have b13 := z13.keep (k4 _ (by omega) (by omega) (by omega) (by omega) (by omega))
        have rs4 : RMs N h4 x σ pr ts := rs.scr ⟨_, _, _, _, _, _, hx4⟩ ⟨q10, q11, q12, ⟨_, b13, rZ⟩, q14, ⟨_, s15.keep (kk _ (by omega) (by omega))⟩, ⟨_, s16.keep (kk _ (by omega) (by omega))⟩, ⟨_, s17.keep (kk _ (by omega) (by omega))⟩, ⟨_, s18.keep (kk _ (by omega) (by omega))⟩⟩ (fun a z1 z2 => kk a z1 (by omega))
        have rp4 : rP N h h4 x σ pr ts := rP.tr kg rs4 (fun a z => kk a (by omega) (by omega))
        rcases hr with ⟨rfl, hr⟩ | ⟨rfl, hr⟩
        · refine g_if_neT (pc := 52) (tgt := 57) dX11_check_52 (by decide) (by omega) (by omega) ?_
          refine g_aload_n (pc := 57) (r := .inl (some x)) dX11_check_57 rfl ?_
          refine g_lload_n (pc := 58) (x := (v : Int)) dX11_check_58 rfl ?_
          refine g_callV0 (pc := 59) (as := [vJ (v : Int)]) (b := x) (st := []) lvX11_235 dX11_check_59 hx4 (Nat.le_of_ble_eq_true rfl) (by omega) (Nat.zero_le _) (Nat.zero_le _) (c_primesOf (v := v) (d := 8) (by omega) (by omega) ⟨_, _, _, _, _, _, hx4⟩ ⟨_, s18.keep (kk _ (by omega) (by omega))⟩ ⟨_, s22.keep (kk _ (by omega) (by omega))⟩) ?_
          rintro r8 h5 ⟨rfl, us, U, th5, wd5, pm5, fm5, mu5, hx5, h22, ⟨p18', h18⟩, hF, hnd, hus, k5⟩
          have hu11 := few_11 (show 1 ≤ v by omega) (show v ≤ 1000000000000 by omega) hnd (fun y hy => (hus y).mp hy)
          have k45 : ∀ a, a ≠ x → a ≠ x + 18 → a ≠ x + 22 → (a < x + 10 ∨ x + 14 < a) → h5 a = h9 a := fun a z1 z2 z3 z4 => (k5 a z1 z2 z3).trans (kk a z1 z4)
          refine g_iconst (pc := 62) dX11_check_62 ?_
          refine g_istore (pc := 63) (lo2 := [(0, vR x), (1, vI (i : Int)), (2, vJ (v : Int)), (4, vI (M : Int)), (5, vI 0)]) dX11_check_63 (by decide) rfl ?_
          refine Q_mono (mck_l (T := T) (Y := Y) (Z := Z) (U := U) (us := us) hn hi hM hM2 (by omega) (by omega) rT rM eSz eTb eMo (a4.keep (k45 _ (by omega) (by omega) (by omega) (by omega))) (a5.keep (k45 _ (by omega) (by omega) (by omega) (by omega))) (a6.keep (k45 _ (by omega) (by omega) (by omega) (by omega))) (b13.keep (k5 _ (by omega) (by omega) (by omega))) rZ eZ h22 hF hu11 hus hp64 hr us.length 0 0 h5 (by omega) rfl (fun j hj => by omega) ⟨_, _, _, _, _, hx5⟩ (q10.keep (k5 _ (by omega) (by omega) (by omega))) (q11.keep (k5 _ (by omega) (by omega) (by omega))) (q12.keep (k5 _ (by omega) (by omega) (by omega))) (q14.keep (k5 _ (by omega) (by omega) (by omega))) (fun a z1 z2 => rfl)) ?_
          rintro r9 h6 ⟨rfl, mo6, y10, y11, y12, y14, k6⟩
          have k7 : ∀ a, a ≠ x → a ≠ x + 18 → a ≠ x + 22 → (a < x + 10 ∨ x + 14 < a) → h6 a = h9 a := fun a z1 z2 z3 z4 => (k6 a z1 (by omega)).trans (k45 a z1 z2 z3 z4)
          have rs6 : RMs N h6 x σ pr ts := rs.same mo6 (by
            obtain ⟨⟨e9, d9⟩, d1, d2, -, ⟨e23, d23⟩, ⟨e24, d24⟩, e25, d25⟩ := id sc
            exact ⟨⟨e9, d9.keep (k7 _ (by omega) (by omega) (by omega) (by omega))⟩, ⟨y10, y11, y12, ⟨_, (b13.keep (k5 _ (by omega) (by omega) (by omega))).keep (k6 _ (by omega) (by omega)), rZ⟩, y14, ⟨_, s15.keep (k7 _ (by omega) (by omega) (by omega) (by omega))⟩, ⟨_, s16.keep (k7 _ (by omega) (by omega) (by omega) (by omega))⟩, ⟨_, s17.keep (k7 _ (by omega) (by omega) (by omega) (by omega))⟩, ⟨_, h18.keep (k6 _ (by omega) (by omega))⟩⟩, d2.keep (fun a z1 z2 => k7 a (by omega) (by omega) (by omega) (by omega)), ⟨_, h22.keep (k6 _ (by omega) (by omega))⟩, ⟨e23, d23.keep (k7 _ (by omega) (by omega) (by omega) (by omega))⟩, ⟨e24, d24.keep (k7 _ (by omega) (by omega) (by omega) (by omega))⟩, e25, d25.keep (k7 _ (by omega) (by omega) (by omega) (by omega))⟩) (fun a z1 z2 => k7 a (by omega) (by omega) (by omega) (by omega))
          exact ⟨by first | rfl | (rw [qM_some eg, if_pos (show 1 ≤ (v : Int) ∧ (v : Int) ≤ 1000000000000 by omega)]), rP.tr kg rs6 (fun a z => k7 a (by omega) (by omega) (by omega) (by omega))⟩
        · refine g_if_neF (pc := 52) (tgt := 57) dX11_check_52 (by decide) (by omega) (by omega) ?_
          refine g_iconst (pc := 55) dX11_check_55 ?_
          have e8 : ¬ (Pd : Int) = (v : Int) := fun e => hr (by
            rw [show v = Pd by omega]
            exact Nat.dvd_refl _)
          exact r_int (pc := 56) dX11_check_56 rfl rfl (Nat.le_refl _) ⟨by first | rfl | (rw [qM_some eg, if_pos (by omega), if_neg e8]), rp4⟩
      · refine g_iconst (pc := 27) dX11_check_27 ?_
        exact r_int (pc := 28) dX11_check_28 rfl rfl (Nat.le_refl _) ⟨by first | rfl | (rw [qM_some eg, if_neg (by omega)]), rp⟩
