/-! ===== the reference: settlesRule, hasRule, leastRule ===== -/
theorem sru_i {N d x p ct l m c t Ls : Nat} {th wd pm fm mu um : Int} {V : Int} {sx R Pv Nm : Nat → Int} {h : MH} {Q : Option MV → MR → MH → Prop} (hml : m + l ≤ 64) (hc : c < l) (htm : t < m) (hpc : Pv c = (t : Int)) (hz : ∀ k, k < c → R (65 * t + k) * Nm k = 0) (hx : Hd (0, 0, N) h x (mdl x th wd pm fm mu um (p : Int) (ct : Int))) (hR : Hd (0, 0, N) h (x + 27) (eA 0 4160 R)) (hN : Hd (0, 0, N) h (x + 28) (eA 0 65 Nm)) (hP : Hd (0, 0, N) h (x + 29) (eA 0 65 Pv)) (hK : G mX11_settlesRule (d + 1, 0, 0, Ls, sx) 87 [(0, vR x), (1, vI (l : Int)), (2, vI (c : Int)), (3, vI V)] [] (0, 0, N) h Q) : ∀ (f k : Nat) (xk e : Int), k + f = c → xk = (k : Int) → e = V → G mX11_settlesRule (d + 1, 0, 0, Ls, sx) 47 [(0, vR x), (1, vI (l : Int)), (2, vI (c : Int)), (3, vI e), (4, vI xk)] [] (0, 0, N) h Q := by
  intro f
  induction f with
  | zero =>
    intro k xk e hf ex ee
    subst ee
    refine g_iload (pc := 47) (x := xk) dX11_settlesRule_47 rfl ?_
    refine g_iload_n (pc := 49) (x := (c : Int)) dX11_settlesRule_49 rfl ?_
    refine g_icmp_geT (pc := 50) (tgt := 87) dX11_settlesRule_50 (by decide) (by omega) (by omega) (by omega) ?_
    refine g_pick [0, 1, 2, 3] (lo2 := [(0, vR x), (1, vI (l : Int)), (2, vI (c : Int)), (3, vI e)]) rfl ?_
    exact hK
  | succ f ih =>
    intro k xk e hf ex ee
    subst ex
    have hzk := hz k (by omega)
    refine g_iload (pc := 47) (x := (k : Int)) dX11_settlesRule_47 rfl ?_
    refine g_iload_n (pc := 49) (x := (c : Int)) dX11_settlesRule_49 rfl ?_
    refine g_icmp_geF (pc := 50) (tgt := 87) dX11_settlesRule_50 (by decide) (by omega) (by omega) (by omega) ?_
    refine g_iload_n (pc := 53) (x := e) dX11_settlesRule_53 rfl ?_
    refine g_aload_n (pc := 54) (r := .inl (some x)) dX11_settlesRule_54 rfl ?_
    refine g_getf (pc := 55) (v := vR (x + 27)) flX11_91 dX11_settlesRule_55 hx rfl ?_
    refine g_bipush (pc := 58) dX11_settlesRule_58 (by decide +kernel) ?_
    refine g_aload_n (pc := 60) (r := .inl (some x)) dX11_settlesRule_60 rfl ?_
    refine g_getf (pc := 61) (v := vR (x + 29)) flX11_97 dX11_settlesRule_61 hx rfl ?_
    refine g_iload_n (pc := 64) (x := (c : Int)) dX11_settlesRule_64 rfl ?_
    refine g_ialdN (pc := 65) (j := c) dX11_settlesRule_65 hP (by omega) (by omega) (by omega) ?_
    rw [hpc]
    refine g_imul (pc := 66) dX11_settlesRule_66 ?_
    refine g_iload (pc := 67) (x := (k : Int)) dX11_settlesRule_67 rfl ?_
    refine g_iadd (pc := 69) dX11_settlesRule_69 ?_
    refine g_ialdN (pc := 70) (j := (65 * t) + k) dX11_settlesRule_70 hR (by omega) (by omega) (by omega) ?_
    refine g_aload_n (pc := 71) (r := .inl (some x)) dX11_settlesRule_71 rfl ?_
    refine g_getf (pc := 72) (v := vR (x + 28)) flX11_94 dX11_settlesRule_72 hx rfl ?_
    refine g_iload (pc := 75) (x := (k : Int)) dX11_settlesRule_75 rfl ?_
    refine g_ialdN (pc := 77) (j := k) dX11_settlesRule_77 hN (by omega) (by omega) (by omega) ?_
    refine g_imul (pc := 78) dX11_settlesRule_78 ?_
    refine g_isub (pc := 79) dX11_settlesRule_79 ?_
    refine g_istore_n (pc := 80) (lo2 := [(0, vR x), (1, vI (l : Int)), (2, vI (c : Int)), (3, vI (e - ((R ((65 * t) + k)) * (Nm k)))), (4, vI (k : Int))]) dX11_settlesRule_80 (by decide) rfl ?_
    refine g_iinc (pc := 81) (x := (k : Int)) (lo2 := [(0, vR x), (1, vI (l : Int)), (2, vI (c : Int)), (3, vI (e - ((R ((65 * t) + k)) * (Nm k)))), (4, vI ((k : Int) + 1))]) dX11_settlesRule_81 rfl (by decide) rfl ?_
    refine g_goto (pc := 84) (tgt := 47) dX11_settlesRule_84 (by decide) ?_
    exact ih (k + 1) _ _ (by omega) (by omega) (by rw [hzk, ee]; omega)

theorem sru_o {N d x p ct l m u Ls : Nat} {th wd pm fm mu um : Int} {sx R Pv pv : Nat → Int} {F : Nat → Nat → Int} {h0 : MH} (hp : prm p) (hp2 : p ≤ 499) (hml : m + l ≤ 64) (gi : gjI p m l l F u pv) (hag : (∀ i j, i < m → j ≤ l → R (65 * i + j) = F i (mir l j))) (hap : (∀ j, j < l → Pv j = pv (l - 1 - j))) (hx0 : Hd (0, 0, N) h0 x (mdl x th wd pm fm mu um (p : Int) (ct : Int))) (hR0 : Hd (0, 0, N) h0 (x + 27) (eA 0 4160 R)) (hP0 : Hd (0, 0, N) h0 (x + 29) (eA 0 65 Pv)) : ∀ (f c : Nat) (xc : Int) (Nm : Nat → Int) (h : MH), c + f = l → xc = (c : Int) → Hd (0, 0, N) h (x + 28) (eA 0 65 Nm) → (∀ j, j < c → Nm j = nmb l F pv (l - 1 - j)) → (∀ a, a ≠ x + 28 → h a = h0 a) → G mX11_settlesRule (d + 1, 0, 0, Ls, sx) 2 [(0, vR x), (1, vI (l : Int)), (2, vI xc)] [] (0, 0, N) h (Pq mX11_settlesRule 0 0 (fun r h2 => r = none ∧ (∃ Nm2, Hd (0, 0, N) h2 (x + 28) (eA 0 65 Nm2) ∧ ∀ j, j < l → Nm2 j = nmb l F pv (l - 1 - j)) ∧ ∀ a, a ≠ x + 28 → h2 a = h0 a)) := by
  intro f
  induction f with
  | zero =>
    intro c xc Nm h hf ex hN fn hk
    have hx := hx0.keep (hk x (by omega))
    have hR := hR0.keep (hk _ (by omega))
    have hP := hP0.keep (hk _ (by omega))
    refine g_iload_n (pc := 2) (x := xc) dX11_settlesRule_2 rfl ?_
    refine g_iload_n (pc := 3) (x := (l : Int)) dX11_settlesRule_3 rfl ?_
    refine g_icmp_geT (pc := 4) (tgt := 108) dX11_settlesRule_4 (by decide) (by omega) (by omega) (by omega) ?_
    exact r_void (pc := 108) dX11_settlesRule_108 rfl rfl (Nat.le_refl _) ⟨rfl, ⟨Nm, hN, fun j hj => fn j (by omega)⟩, hk⟩
  | succ f ih =>
    intro c xc Nm h hf ex hN fn hk
    have hx := hx0.keep (hk x (by omega))
    have hR := hR0.keep (hk _ (by omega))
    have hP := hP0.keep (hk _ (by omega))
    subst ex
    obtain ⟨⟨i1, i2⟩, i3, i4, i5, i6, i7⟩ := id gi
    have eP := hap c (by omega)
    have p2 := hp.1
    refine g_iload_n (pc := 2) (x := (c : Int)) dX11_settlesRule_2 rfl ?_
    refine g_iload_n (pc := 3) (x := (l : Int)) dX11_settlesRule_3 rfl ?_
    refine g_icmp_geF (pc := 4) (tgt := 108) dX11_settlesRule_4 (by decide) (by omega) (by omega) (by omega) ?_
    refine g_aload_n (pc := 7) (r := .inl (some x)) dX11_settlesRule_7 rfl ?_
    refine g_getf (pc := 8) (v := vR (x + 28)) flX11_94 dX11_settlesRule_8 hx rfl ?_
    refine g_iload_n (pc := 11) (x := (c : Int)) dX11_settlesRule_11 rfl ?_
    refine g_iconst (pc := 12) dX11_settlesRule_12 ?_
    refine g_iastN (pc := 13) (j := c) dX11_settlesRule_13 hN (by omega) (by omega) (by omega) ?_
    have hx_1 := hx.ne (e := eA 0 65 (va_up Nm c 0)) (a := x + 28) (by omega)
    have hR_1 := hR.ne (e := eA 0 65 (va_up Nm c 0)) (a := x + 28) (by omega)
    have hN_1 := hN.self (e := eA 0 65 (va_up Nm c 0))
    have hP_1 := hP.ne (e := eA 0 65 (va_up Nm c 0)) (a := x + 28) (by omega)
    refine g_aload_n (pc := 14) (r := .inl (some x)) dX11_settlesRule_14 rfl ?_
    refine g_getf (pc := 15) (v := vR (x + 29)) flX11_97 dX11_settlesRule_15 hx_1 rfl ?_
    refine g_iload_n (pc := 18) (x := (c : Int)) dX11_settlesRule_18 rfl ?_
    refine g_ialdN (pc := 19) (j := c) dX11_settlesRule_19 hP_1 (by omega) (by omega) (by omega) ?_
    rw [eP]
    rcases i5 (l - 1 - c) (by omega) with y | ⟨t, t1, t2, t3, t4⟩
    · rw [y]
      refine g_iconst (pc := 20) dX11_settlesRule_20 ?_
      refine g_icmp_neF (pc := 21) (tgt := 27) dX11_settlesRule_21 (by decide) (by omega) (by omega) (by omega) ?_
      refine g_goto (pc := 24) (tgt := 102) dX11_settlesRule_24 (by decide) ?_
      refine g_iinc (pc := 102) (x := (c : Int)) (lo2 := [(0, vR x), (1, vI (l : Int)), (2, vI ((c : Int) + 1))]) dX11_settlesRule_102 rfl (by decide) rfl ?_
      refine g_goto (pc := 105) (tgt := 2) dX11_settlesRule_105 (by decide) ?_
      refine ih (c + 1) _ _ _ (by omega) (by omega) hN_1 (fun j z1 => ?_) (fun a z1 => ?_)
      · by_cases ej : j = c
        · rw [ej, va_up_self]
          unfold nmb
          rw [if_pos y]
        · rw [va_up_ne _ _ ej]
          exact fn j (by omega)
      · rw [va_up_ne _ _ z1]
        exact hk a z1
    · rw [t1]
      refine g_iconst (pc := 20) dX11_settlesRule_20 ?_
      refine g_icmp_neT (pc := 21) (tgt := 27) dX11_settlesRule_21 (by decide) (by omega) (by omega) (by omega) ?_
      refine g_aload_n (pc := 27) (r := .inl (some x)) dX11_settlesRule_27 rfl ?_
      refine g_getf (pc := 28) (v := vR (x + 27)) flX11_91 dX11_settlesRule_28 hx_1 rfl ?_
      refine g_bipush (pc := 31) dX11_settlesRule_31 (by decide +kernel) ?_
      refine g_aload_n (pc := 33) (r := .inl (some x)) dX11_settlesRule_33 rfl ?_
      refine g_getf (pc := 34) (v := vR (x + 29)) flX11_97 dX11_settlesRule_34 hx_1 rfl ?_
      refine g_iload_n (pc := 37) (x := (c : Int)) dX11_settlesRule_37 rfl ?_
      refine g_ialdN (pc := 38) (j := c) dX11_settlesRule_38 hP_1 (by omega) (by omega) (by omega) ?_
      rw [eP, t1]
      refine g_imul (pc := 39) dX11_settlesRule_39 ?_
      refine g_iload_n (pc := 40) (x := (l : Int)) dX11_settlesRule_40 rfl ?_
      refine g_iadd (pc := 41) dX11_settlesRule_41 ?_
      refine g_ialdN (pc := 42) (j := (65 * t) + l) dX11_settlesRule_42 hR_1 (by omega) (by omega) (by omega) ?_
      rw [hag t l (by omega) (Nat.le_refl l), mir_l]
      refine g_istore_n (pc := 43) (lo2 := [(0, vR x), (1, vI (l : Int)), (2, vI (c : Int)), (3, vI (F t l))]) dX11_settlesRule_43 (by decide) rfl ?_
      refine g_iconst (pc := 44) dX11_settlesRule_44 ?_
      refine g_istore (pc := 45) (lo2 := [(0, vR x), (1, vI (l : Int)), (2, vI (c : Int)), (3, vI (F t l)), (4, vI 0)]) dX11_settlesRule_45 (by decide) rfl ?_
      have bF := i3 t l (by omega) (Nat.le_refl l)
      have hzz : ∀ k, k < c → R (65 * t + k) * (va_up Nm c 0) k = 0 := fun k hk2 => by
        rw [va_up_ne _ _ (by omega), fn k hk2, hag t k (by omega) (by omega), mir_lt (by omega)]
        rcases i5 (l - 1 - k) (by omega) with y | ⟨t', t1', t2', t3', t4'⟩
        · unfold nmb
          rw [if_pos y, Int.mul_zero]
        · rw [t4' t (by omega) (fun e => by
            have := i7 (l - 1 - k) (l - 1 - c) (by omega) (by omega) (by omega) (by omega)
            omega), Int.zero_mul]
      refine sru_i (V := F t l) (t := t) (Nm := va_up Nm c 0) hml (by omega) (by omega) (eP.trans t1) hzz hx_1 hR_1 hN_1 hP_1 ?_ c 0 _ _ (by omega) rfl rfl
      refine g_aload_n (pc := 87) (r := .inl (some x)) dX11_settlesRule_87 rfl ?_
      refine g_getf (pc := 88) (v := vR (x + 28)) flX11_94 dX11_settlesRule_88 hx_1 rfl ?_
      refine g_iload_n (pc := 91) (x := (c : Int)) dX11_settlesRule_91 rfl ?_
      refine g_iload_n (pc := 92) (x := F t l) dX11_settlesRule_92 rfl ?_
      refine g_i2l (pc := 93) dX11_settlesRule_93 (by omega) ?_
      refine g_aload_n (pc := 94) (r := .inl (some x)) dX11_settlesRule_94 rfl ?_
      refine g_getf (pc := 95) (v := vI (p : Int)) flX11_267 dX11_settlesRule_95 hx_1 rfl ?_
      refine g_callS0 (pc := 98) (as := [vJ (F t l), vI (p : Int)]) (st := [vI (c : Int), vR (x + 28)]) lsX11_116 dX11_settlesRule_98 (Nat.le_of_ble_eq_true rfl) (by omega) (Nat.zero_le _) (Nat.zero_le _) (c_mrestOf (d := d) (by omega) (by omega) (by omega)) ?_
      rintro r h1 ⟨e9, e8⟩
      subst e9
      subst e8
      rw [Int.emod_eq_of_lt bF.1 bF.2]
      refine g_iastN (pc := 101) (j := c) dX11_settlesRule_101 hN_1 (by omega) (by omega) (by omega) ?_
      have hx_2 := hx_1.ne (e := eA 0 65 (va_up (va_up Nm c 0) c (F t l))) (a := x + 28) (by omega)
      have hR_2 := hR_1.ne (e := eA 0 65 (va_up (va_up Nm c 0) c (F t l))) (a := x + 28) (by omega)
      have hN_2 := hN_1.self (e := eA 0 65 (va_up (va_up Nm c 0) c (F t l)))
      have hP_2 := hP_1.ne (e := eA 0 65 (va_up (va_up Nm c 0) c (F t l))) (a := x + 28) (by omega)
      refine g_pick [0, 1, 2] (lo2 := [(0, vR x), (1, vI (l : Int)), (2, vI (c : Int))]) rfl ?_
      refine g_iinc (pc := 102) (x := (c : Int)) (lo2 := [(0, vR x), (1, vI (l : Int)), (2, vI ((c : Int) + 1))]) dX11_settlesRule_102 rfl (by decide) rfl ?_
      refine g_goto (pc := 105) (tgt := 2) dX11_settlesRule_105 (by decide) ?_
      refine ih (c + 1) _ _ _ (by omega) (by omega) hN_2 (fun j z1 => ?_) (fun a z1 => ?_)
      · by_cases ej : j = c
        · rw [ej, va_up_self]
          unfold nmb
          rw [if_neg (by omega), t1, Int.toNat_natCast]
        · rw [va_up_ne _ _ ej, va_up_ne _ _ ej]
          exact fn j (by omega)
      · rw [va_up_ne _ _ z1, va_up_ne _ _ z1]
        exact hk a z1

theorem c_settlesRule {N d x p ct l m u : Nat} {th wd pm fm mu um : Int} {R Pv pv : Nat → Int} {F : Nat → Nat → Int} {h0 : MH} {Nm : Nat → Int} (hp : prm p) (hp2 : p ≤ 499) (hml : m + l ≤ 64) (gi : gjI p m l l F u pv) (hag : (∀ i j, i < m → j ≤ l → R (65 * i + j) = F i (mir l j))) (hap : (∀ j, j < l → Pv j = pv (l - 1 - j))) (hx0 : Hd (0, 0, N) h0 x (mdl x th wd pm fm mu um (p : Int) (ct : Int))) (hR0 : Hd (0, 0, N) h0 (x + 27) (eA 0 4160 R)) (hP0 : Hd (0, 0, N) h0 (x + 29) (eA 0 65 Pv)) (hN : Hd (0, 0, N) h0 (x + 28) (eA 0 65 Nm)) : Ok mX11_settlesRule (d + 1) 0 0 [vR x, vI (l : Int)] N h0 (fun r h2 => r = none ∧ (∃ Nm2, Hd (0, 0, N) h2 (x + 28) (eA 0 65 Nm2) ∧ ∀ j, j < l → Nm2 j = nmb l F pv (l - 1 - j)) ∧ ∀ a, a ≠ x + 28 → h2 a = h0 a) := by
  refine Ok.of pfX11_settlesRule rfl (Nat.le_of_ble_eq_true rfl) (fun Ls sx => ?_)
  show G mX11_settlesRule (d + 1, 0, 0, Ls, sx) 0 [(0, vR x), (1, vI (l : Int))] [] (0, 0, N) h0 _
  refine g_iconst (pc := 0) dX11_settlesRule_0 ?_
  refine g_istore_n (pc := 1) (lo2 := [(0, vR x), (1, vI (l : Int)), (2, vI 0)]) dX11_settlesRule_1 (by decide) rfl ?_
  exact sru_o hp hp2 hml gi hag hap hx0 hR0 hP0 l 0 _ Nm h0 (by omega) rfl hN (fun j z => absurd z (Nat.not_lt_zero j)) (fun _ _ => rfl)

theorem hru_a {N d x p ct l m Ls : Nat} {th wd pm fm mu um : Int} {sx s Tl : Nat → Int} {h0 : MH} {Q : Option MV → MR → MH → Prop} {i : Nat} (hp : prm p) (hp2 : p ≤ 499) (hm : m + l = ct) (hct : ct ≤ 64) (hs : ∀ n, n < ct → 0 ≤ s n ∧ s n < p) (eT : ∀ n, n < ct → Tl n = s n) (hx0 : Hd (0, 0, N) h0 x (mdl x th wd pm fm mu um (p : Int) (ct : Int))) (hT0 : Hd (0, 0, N) h0 (x + 26) (eA 0 64 Tl)) (hi : i < m) (hK : ∀ (R : Nat → Int) (h : MH), Hd (0, 0, N) h (x + 27) (eA 0 4160 R) → (∀ i2 k, i2 < i → k ≤ l → R (65 * i2 + k) = s (i2 + mir l k)) → (∀ k, k + 1 < (l + 1) → R (65 * i + k) = s (i + mir l k)) → (∀ a, a ≠ x + 27 → h a = h0 a) → G mX11_hasRule (d + 2, 0, 0, Ls, sx) 54 [(0, vR x), (1, vI (l : Int)), (2, vI (m : Int)), (3, vI (i : Int))] [] (0, 0, N) h Q) : ∀ (f j : Nat) (xj : Int) (R : Nat → Int) (h : MH), j + f = l + 1 → 1 ≤ j → xj = (j : Int) → Hd (0, 0, N) h (x + 27) (eA 0 4160 R) → (∀ i2 k, i2 < i → k ≤ l → R (65 * i2 + k) = s (i2 + mir l k)) → (∀ k, k + 1 < j → R (65 * i + k) = s (i + mir l k)) → (∀ a, a ≠ x + 27 → h a = h0 a) → G mX11_hasRule (d + 2, 0, 0, Ls, sx) 17 [(0, vR x), (1, vI (l : Int)), (2, vI (m : Int)), (3, vI (i : Int)), (4, vI xj)] [] (0, 0, N) h Q := by
  intro f
  induction f with
  | zero =>
    intro j xj R h hf j1 ex hR f1 f2 hk
    have hx := hx0.keep (hk x (by omega))
    have hT := hT0.keep (hk _ (by omega))
    refine g_iload (pc := 17) (x := xj) dX11_hasRule_17 rfl ?_
    refine g_iload_n (pc := 19) (x := (l : Int)) dX11_hasRule_19 rfl ?_
    refine g_icmp_gtT (pc := 20) (tgt := 54) dX11_hasRule_20 (by decide) (by omega) (by omega) (by omega) ?_
    refine g_pick [0, 1, 2, 3] (lo2 := [(0, vR x), (1, vI (l : Int)), (2, vI (m : Int)), (3, vI (i : Int))]) rfl ?_
    exact hK R h hR f1 (fun k z1 => f2 k (by omega)) hk
  | succ f ih =>
    intro j xj R h hf j1 ex hR f1 f2 hk
    have hx := hx0.keep (hk x (by omega))
    have hT := hT0.keep (hk _ (by omega))
    subst ex
    refine g_iload (pc := 17) (x := (j : Int)) dX11_hasRule_17 rfl ?_
    refine g_iload_n (pc := 19) (x := (l : Int)) dX11_hasRule_19 rfl ?_
    refine g_icmp_gtF (pc := 20) (tgt := 54) dX11_hasRule_20 (by decide) (by omega) (by omega) (by omega) ?_
    refine g_aload_n (pc := 23) (r := .inl (some x)) dX11_hasRule_23 rfl ?_
    refine g_getf (pc := 24) (v := vR (x + 27)) flX11_91 dX11_hasRule_24 hx rfl ?_
    refine g_bipush (pc := 27) dX11_hasRule_27 (by decide +kernel) ?_
    refine g_iload_n (pc := 29) (x := (i : Int)) dX11_hasRule_29 rfl ?_
    refine g_imul (pc := 30) dX11_hasRule_30 ?_
    refine g_iload (pc := 31) (x := (j : Int)) dX11_hasRule_31 rfl ?_
    refine g_iadd (pc := 33) dX11_hasRule_33 ?_
    refine g_iconst (pc := 34) dX11_hasRule_34 ?_
    refine g_isub (pc := 35) dX11_hasRule_35 ?_
    refine g_aload_n (pc := 36) (r := .inl (some x)) dX11_hasRule_36 rfl ?_
    refine g_getf (pc := 37) (v := vR (x + 26)) flX11_88 dX11_hasRule_37 hx rfl ?_
    refine g_iload_n (pc := 40) (x := (l : Int)) dX11_hasRule_40 rfl ?_
    refine g_iload_n (pc := 41) (x := (i : Int)) dX11_hasRule_41 rfl ?_
    refine g_iadd (pc := 42) dX11_hasRule_42 ?_
    refine g_iload (pc := 43) (x := (j : Int)) dX11_hasRule_43 rfl ?_
    refine g_isub (pc := 45) dX11_hasRule_45 ?_
    refine g_ialdN (pc := 46) (j := l + i - j) dX11_hasRule_46 hT (by omega) (by omega) (by omega) ?_
    rw [eT _ (by omega)]
    refine g_iastN (pc := 47) (j := 65 * i + j - 1) dX11_hasRule_47 hR (by omega) (by omega) (by omega) ?_
    have hx_1 := hx.ne (e := eA 0 4160 (va_up R (65 * i + j - 1) (s (l + i - j)))) (a := x + 27) (by omega)
    have hT_1 := hT.ne (e := eA 0 4160 (va_up R (65 * i + j - 1) (s (l + i - j)))) (a := x + 27) (by omega)
    have hR_1 := hR.self (e := eA 0 4160 (va_up R (65 * i + j - 1) (s (l + i - j))))
    refine g_iinc (pc := 48) (x := (j : Int)) (lo2 := [(0, vR x), (1, vI (l : Int)), (2, vI (m : Int)), (3, vI (i : Int)), (4, vI ((j : Int) + 1))]) dX11_hasRule_48 rfl (by decide) rfl ?_
    refine g_goto (pc := 51) (tgt := 17) dX11_hasRule_51 (by decide) ?_
    refine ih (j + 1) _ _ _ (by omega) (by omega) (by omega) hR_1 (fun i2 k z1 z2 => ?_) (fun k z1 => ?_) (fun a z1 => (va_up_ne _ _ z1).trans (hk a z1))
    · rw [va_up_ne _ _ (by omega)]
      exact f1 i2 k z1 z2
    · by_cases ek : k + 1 = j
      · rw [show 65 * i + k = 65 * i + j - 1 by omega, va_up_self, mir_lt (by omega)]
        congr 1
        omega
      · rw [va_up_ne _ _ (by omega)]
        exact f2 k (by omega)

theorem hru_o {N d x p ct l m Ls : Nat} {th wd pm fm mu um : Int} {sx s Tl : Nat → Int} {h0 : MH} {Q : Option MV → MR → MH → Prop} (hp : prm p) (hp2 : p ≤ 499) (hm : m + l = ct) (hct : ct ≤ 64) (hs : ∀ n, n < ct → 0 ≤ s n ∧ s n < p) (eT : ∀ n, n < ct → Tl n = s n) (hx0 : Hd (0, 0, N) h0 x (mdl x th wd pm fm mu um (p : Int) (ct : Int))) (hT0 : Hd (0, 0, N) h0 (x + 26) (eA 0 64 Tl)) (hK : ∀ (R : Nat → Int) (h : MH), Hd (0, 0, N) h (x + 27) (eA 0 4160 R) → (∀ i2 k, i2 < m → k ≤ l → R (65 * i2 + k) = s (i2 + mir l k)) → (∀ a, a ≠ x + 27 → h a = h0 a) → G mX11_hasRule (d + 2, 0, 0, Ls, sx) 79 [(0, vR x), (1, vI (l : Int)), (2, vI (m : Int))] [] (0, 0, N) h Q) : ∀ (f i : Nat) (xi : Int) (R : Nat → Int) (h : MH), i + f = m → xi = (i : Int) → Hd (0, 0, N) h (x + 27) (eA 0 4160 R) → (∀ i2 k, i2 < i → k ≤ l → R (65 * i2 + k) = s (i2 + mir l k)) → (∀ a, a ≠ x + 27 → h a = h0 a) → G mX11_hasRule (d + 2, 0, 0, Ls, sx) 9 [(0, vR x), (1, vI (l : Int)), (2, vI (m : Int)), (3, vI xi)] [] (0, 0, N) h Q := by
  intro f
  induction f with
  | zero =>
    intro i xi R h hf ex hR f1 hk
    have hx := hx0.keep (hk x (by omega))
    have hT := hT0.keep (hk _ (by omega))
    refine g_iload_n (pc := 9) (x := xi) dX11_hasRule_9 rfl ?_
    refine g_iload_n (pc := 10) (x := (m : Int)) dX11_hasRule_10 rfl ?_
    refine g_icmp_geT (pc := 11) (tgt := 79) dX11_hasRule_11 (by decide) (by omega) (by omega) (by omega) ?_
    refine g_pick [0, 1, 2] (lo2 := [(0, vR x), (1, vI (l : Int)), (2, vI (m : Int))]) rfl ?_
    exact hK R h hR (fun i2 k z1 z2 => f1 i2 k (by omega) z2) hk
  | succ f ih =>
    intro i xi R h hf ex hR f1 hk
    have hx := hx0.keep (hk x (by omega))
    have hT := hT0.keep (hk _ (by omega))
    subst ex
    refine g_iload_n (pc := 9) (x := (i : Int)) dX11_hasRule_9 rfl ?_
    refine g_iload_n (pc := 10) (x := (m : Int)) dX11_hasRule_10 rfl ?_
    refine g_icmp_geF (pc := 11) (tgt := 79) dX11_hasRule_11 (by decide) (by omega) (by omega) (by omega) ?_
    refine g_iconst (pc := 14) dX11_hasRule_14 ?_
    refine g_istore (pc := 15) (lo2 := [(0, vR x), (1, vI (l : Int)), (2, vI (m : Int)), (3, vI (i : Int)), (4, vI 1)]) dX11_hasRule_15 (by decide) rfl ?_
    refine hru_a hp hp2 hm hct hs eT hx0 hT0 (by omega) (fun R2 h2 hR2 g1 g2 k2 => ?_) l 1 _ R h (by omega) (Nat.le_refl 1) rfl hR f1 (fun k z1 => by omega) hk
    have hx2 := hx0.keep (k2 x (by omega))
    have hT2 := hT0.keep (k2 _ (by omega))
    refine g_aload_n (pc := 54) (r := .inl (some x)) dX11_hasRule_54 rfl ?_
    refine g_getf (pc := 55) (v := vR (x + 27)) flX11_91 dX11_hasRule_55 hx2 rfl ?_
    refine g_bipush (pc := 58) dX11_hasRule_58 (by decide +kernel) ?_
    refine g_iload_n (pc := 60) (x := (i : Int)) dX11_hasRule_60 rfl ?_
    refine g_imul (pc := 61) dX11_hasRule_61 ?_
    refine g_iload_n (pc := 62) (x := (l : Int)) dX11_hasRule_62 rfl ?_
    refine g_iadd (pc := 63) dX11_hasRule_63 ?_
    refine g_aload_n (pc := 64) (r := .inl (some x)) dX11_hasRule_64 rfl ?_
    refine g_getf (pc := 65) (v := vR (x + 26)) flX11_88 dX11_hasRule_65 hx2 rfl ?_
    refine g_iload_n (pc := 68) (x := (l : Int)) dX11_hasRule_68 rfl ?_
    refine g_iload_n (pc := 69) (x := (i : Int)) dX11_hasRule_69 rfl ?_
    refine g_iadd (pc := 70) dX11_hasRule_70 ?_
    refine g_ialdN (pc := 71) (j := l + i) dX11_hasRule_71 hT2 (by omega) (by omega) (by omega) ?_
    rw [eT _ (by omega)]
    refine g_iastN (pc := 72) (j := (65 * i) + l) dX11_hasRule_72 hR2 (by omega) (by omega) (by omega) ?_
    have hx_1 := hx2.ne (e := eA 0 4160 (va_up R2 ((65 * i) + l) (s (l + i)))) (a := x + 27) (by omega)
    have hT2_1 := hT2.ne (e := eA 0 4160 (va_up R2 ((65 * i) + l) (s (l + i)))) (a := x + 27) (by omega)
    have hR2_1 := hR2.self (e := eA 0 4160 (va_up R2 ((65 * i) + l) (s (l + i))))
    refine g_iinc (pc := 73) (x := (i : Int)) (lo2 := [(0, vR x), (1, vI (l : Int)), (2, vI (m : Int)), (3, vI ((i : Int) + 1))]) dX11_hasRule_73 rfl (by decide) rfl ?_
    refine g_goto (pc := 76) (tgt := 9) dX11_hasRule_76 (by decide) ?_
    refine ih (i + 1) _ _ _ (by omega) (by omega) hR2_1 (fun i2 k z1 z2 => ?_) (fun a z1 => (va_up_ne _ _ z1).trans (k2 a z1))
    by_cases e : i2 = i
    · by_cases ek : k = l
      · rw [e, ek, va_up_self, mir_l, Nat.add_comm]
      · rw [e, va_up_ne _ _ (by omega)]
        exact g2 k (by omega)
    · rw [va_up_ne _ _ (by omega)]
      exact g1 i2 k (by omega) z2

theorem hru_c {N d x p ct l m u cN Ls : Nat} {th wd pm fm mu um : Int} {sx R : Nat → Int} {h : MH} {Q : Option MV → MR → MH → Prop} (hml : m + l ≤ 64) (hc : cN < l) (hb : ∀ r, r < m → i32 (R (65 * r + cN))) (hx : Hd (0, 0, N) h x (mdl x th wd pm fm mu um (p : Int) (ct : Int))) (hR : Hd (0, 0, N) h (x + 27) (eA 0 4160 R)) (hK : ∀ v : Nat, u ≤ v → v ≤ m → (∀ j, u ≤ j → j < v → R (65 * j + cN) = 0) → (v < m → R (65 * v + cN) ≠ 0) → G mX11_hasRule (d + 2, 0, 0, Ls, sx) 130 [(0, vR x), (1, vI (l : Int)), (2, vI (m : Int)), (3, vI (u : Int)), (4, vI (cN : Int)), (5, vI (v : Int))] [] (0, 0, N) h Q) : ∀ (f r : Nat) (xr : Int), r + f = m → xr = (r : Int) → u ≤ r → (∀ j, u ≤ j → j < r → R (65 * j + cN) = 0) → G mX11_hasRule (d + 2, 0, 0, Ls, sx) 102 [(0, vR x), (1, vI (l : Int)), (2, vI (m : Int)), (3, vI (u : Int)), (4, vI (cN : Int)), (5, vI xr)] [] (0, 0, N) h Q := by
  intro f
  induction f with
  | zero =>
    intro r xr hf ex hur hz
    subst ex
    refine g_iload (pc := 102) (x := (r : Int)) dX11_hasRule_102 rfl ?_
    refine g_iload_n (pc := 104) (x := (m : Int)) dX11_hasRule_104 rfl ?_
    refine g_icmp_geT (pc := 105) (tgt := 130) dX11_hasRule_105 (by decide) (by omega) (by omega) (by omega) ?_
    exact hK r hur (by omega) hz (fun y => by omega)
  | succ f ih =>
    intro r xr hf ex hur hz
    subst ex
    have hbr := hb r (by omega)
    refine g_iload (pc := 102) (x := (r : Int)) dX11_hasRule_102 rfl ?_
    refine g_iload_n (pc := 104) (x := (m : Int)) dX11_hasRule_104 rfl ?_
    refine g_icmp_geF (pc := 105) (tgt := 130) dX11_hasRule_105 (by decide) (by omega) (by omega) (by omega) ?_
    refine g_aload_n (pc := 108) (r := .inl (some x)) dX11_hasRule_108 rfl ?_
    refine g_getf (pc := 109) (v := vR (x + 27)) flX11_91 dX11_hasRule_109 hx rfl ?_
    refine g_bipush (pc := 112) dX11_hasRule_112 (by decide +kernel) ?_
    refine g_iload (pc := 114) (x := (r : Int)) dX11_hasRule_114 rfl ?_
    refine g_imul (pc := 116) dX11_hasRule_116 ?_
    refine g_iload (pc := 117) (x := (cN : Int)) dX11_hasRule_117 rfl ?_
    refine g_iadd (pc := 119) dX11_hasRule_119 ?_
    refine g_ialdN (pc := 120) (j := (65 * r) + cN) dX11_hasRule_120 hR (by omega) (by omega) (by omega) ?_
    refine g_if_ne (pc := 121) (tgt := 130) dX11_hasRule_121 (by decide) (by omega) (fun h0 => ?_) (fun h0 => ?_)
    · exact hK r hur (by omega) hz (fun _ => h0)
    · refine g_iinc (pc := 124) (x := (r : Int)) (lo2 := [(0, vR x), (1, vI (l : Int)), (2, vI (m : Int)), (3, vI (u : Int)), (4, vI (cN : Int)), (5, vI ((r : Int) + 1))]) dX11_hasRule_124 rfl (by decide) rfl ?_
      refine g_goto (pc := 127) (tgt := 102) dX11_hasRule_127 (by decide) ?_
      refine ih (r + 1) _ (by omega) (by omega) (by omega) (fun j j1 j2 => ?_)
      by_cases e : j = r
      · rw [e]
        exact h0
      · exact hz j j1 (by omega)

theorem hru_b {N d x p ct l m Ls : Nat} {th wd pm fm mu um : Int} {sx s Tl : Nat → Int} {h0 : MH} {Q : Option MV → MR → MH → Prop} (hp : prm p) (hp2 : p ≤ 499) (hm : m + l = ct) (hct : ct ≤ 64) (hs : ∀ n, n < ct → 0 ≤ s n ∧ s n < p) (eT : ∀ n, n < ct → Tl n = s n) (hx0 : Hd (0, 0, N) h0 x (mdl x th wd pm fm mu um (p : Int) (ct : Int))) (hT0 : Hd (0, 0, N) h0 (x + 26) (eA 0 64 Tl)) (hK : ∀ (R Pv : Nat → Int) (h : MH), Hd (0, 0, N) h (x + 27) (eA 0 4160 R) → Hd (0, 0, N) h (x + 29) (eA 0 65 Pv) → (∀ i j, i < m → j ≤ l → R (65 * i + j) = (gj p m (F0s s) l).1 i (mir l j)) → (∀ k, k < l → Pv (l - 1 - k) = (gj p m (F0s s) l).2.2 k) → (∀ a, a ≠ x + 27 → a ≠ x + 29 → h a = h0 a) → G mX11_hasRule (d + 2, 0, 0, Ls, sx) 167 [(0, vR x), (1, vI (l : Int)), (2, vI (m : Int)), (3, vI ((gj p m (F0s s) l).2.1 : Int))] [] (0, 0, N) h Q) : ∀ (f c u : Nat) (xc : Int) (R Pv : Nat → Int) (h : MH), c + f = l → xc = (l : Int) - 1 - c → u = (gj p m (F0s s) c).2.1 → Hd (0, 0, N) h (x + 27) (eA 0 4160 R) → Hd (0, 0, N) h (x + 29) (eA 0 65 Pv) → (∀ i j, i < m → j ≤ l → R (65 * i + j) = (gj p m (F0s s) c).1 i (mir l j)) → (∀ k, k < c → Pv (l - 1 - k) = (gj p m (F0s s) c).2.2 k) → (∀ a, a ≠ x + 27 → a ≠ x + 29 → h a = h0 a) → G mX11_hasRule (d + 2, 0, 0, Ls, sx) 86 [(0, vR x), (1, vI (l : Int)), (2, vI (m : Int)), (3, vI (u : Int)), (4, vI xc)] [] (0, 0, N) h Q := by
  intro f
  induction f with
  | zero =>
    intro c u xc R Pv h hf ex eu hR hP f1 f2 hk
    have hx := hx0.keep (hk x (by omega) (by omega))
    refine g_iload (pc := 86) (x := xc) dX11_hasRule_86 rfl ?_
    refine g_if_ltT (pc := 88) (tgt := 167) dX11_hasRule_88 (by decide) (by omega) (by omega) ?_
    refine g_pick [0, 1, 2, 3] (lo2 := [(0, vR x), (1, vI (l : Int)), (2, vI (m : Int)), (3, vI (u : Int))]) rfl ?_
    have ec : c = l := by omega
    subst ec
    subst eu
    exact hK R Pv h hR hP f1 f2 hk
  | succ f ih =>
    intro c u xc R Pv h hf ex eu hR hP f1 f2 hk
    have hx := hx0.keep (hk x (by omega) (by omega))
    obtain ⟨cN, hcN⟩ : ∃ cN : Nat, cN + c + 1 = l := ⟨l - 1 - c, by omega⟩
    have exc : xc = (cN : Int) := by omega
    subst exc
    obtain ⟨gi, -⟩ := gj_all (F0 := F0s s) (m := m) (l := l) hp (fun r k z1 z2 => hs (r + k) (by omega)) c (by omega)
    rw [← eu] at gi
    obtain ⟨⟨i1, i2⟩, i3, i4, i5, i6, i7⟩ := id gi
    have hmc : mir l cN = c := by rw [mir_lt (by omega)]; omega
    have fcc : ∀ j, j < m → R (65 * j + cN) = (gj p m (F0s s) c).1 j c := fun j hj => by have := f1 j cN hj (by omega); rw [hmc] at this; exact this
    have hrg : ∀ i j, i < m → j ≤ l → 0 ≤ R (65 * i + j) ∧ R (65 * i + j) < p := fun i j z1 z2 => by rw [f1 i j z1 z2]; exact i3 i _ z1 (mir_le z2)
    refine g_iload (pc := 86) (x := (cN : Int)) dX11_hasRule_86 rfl ?_
    refine g_if_ltF (pc := 88) (tgt := 167) dX11_hasRule_88 (by decide) (by omega) (by omega) ?_
    refine g_aload_n (pc := 91) (r := .inl (some x)) dX11_hasRule_91 rfl ?_
    refine g_getf (pc := 92) (v := vR (x + 29)) flX11_97 dX11_hasRule_92 hx rfl ?_
    refine g_iload (pc := 95) (x := (cN : Int)) dX11_hasRule_95 rfl ?_
    refine g_iconst (pc := 97) dX11_hasRule_97 ?_
    refine g_iastN (pc := 98) (j := cN) dX11_hasRule_98 hP (by omega) (by omega) (by omega) ?_
    have hx_1 := hx.ne (e := eA 0 65 (va_up Pv cN (-1))) (a := x + 29) (by omega)
    have hR_1 := hR.ne (e := eA 0 65 (va_up Pv cN (-1))) (a := x + 29) (by omega)
    have hP_1 := hP.self (e := eA 0 65 (va_up Pv cN (-1)))
    refine g_iload_n (pc := 99) (x := (u : Int)) dX11_hasRule_99 rfl ?_
    refine g_istore (pc := 100) (lo2 := [(0, vR x), (1, vI (l : Int)), (2, vI (m : Int)), (3, vI (u : Int)), (4, vI (cN : Int)), (5, vI (u : Int))]) dX11_hasRule_100 (by decide) rfl ?_
    refine hru_c (R := R) (by omega) (by omega) (fun r hr => by have := hrg r cN hr (by omega); omega) hx_1 hR_1 (fun v v1 v2 v3 v4 => ?_) (m - u) u _ (by omega) rfl (Nat.le_refl u) (fun j j1 j2 => by omega)
    refine g_iload (pc := 130) (x := (v : Int)) dX11_hasRule_130 rfl ?_
    refine g_iload_n (pc := 132) (x := (m : Int)) dX11_hasRule_132 rfl ?_
    refine g_icmp_ne (pc := 133) (tgt := 139) dX11_hasRule_133 (by decide) (by omega) (by omega) (fun hv => ?_) (fun hv => ?_)
    · have hvm : v < m := by omega
      have v5 := v4 hvm
      refine g_aload_n (pc := 139) (r := .inl (some x)) dX11_hasRule_139 rfl ?_
      refine g_iload (pc := 140) (x := (v : Int)) dX11_hasRule_140 rfl ?_
      refine g_iload_n (pc := 142) (x := (u : Int)) dX11_hasRule_142 rfl ?_
      refine g_iload (pc := 143) (x := (cN : Int)) dX11_hasRule_143 rfl ?_
      refine g_iload_n (pc := 145) (x := (l : Int)) dX11_hasRule_145 rfl ?_
      refine g_iload_n (pc := 146) (x := (m : Int)) dX11_hasRule_146 rfl ?_
      refine g_callV0 (pc := 147) (as := [vI (v : Int), vI (u : Int), vI (cN : Int), vI (l : Int), vI (m : Int)]) (b := x) (st := []) lvX11_273 dX11_hasRule_147 hx_1 (Nat.le_of_ble_eq_true rfl) (by omega) (Nat.zero_le _) (Nat.zero_le _) (c_clears (d := d) (R0 := R) hp hp2 hvm (show u < m by omega) (show cN < l by omega) (by omega) v1 v5 hrg hx_1 hR_1) ?_
      rintro r9 h2 ⟨rfl, ⟨R2, hR2, g2⟩, k2⟩
      have hx2 := hx_1.keep (k2 _ (by omega))
      have hP2 := hP_1.keep (k2 _ (by omega))
      refine g_aload_n (pc := 150) (r := .inl (some x)) dX11_hasRule_150 rfl ?_
      refine g_getf (pc := 151) (v := vR (x + 29)) flX11_97 dX11_hasRule_151 hx2 rfl ?_
      refine g_iload (pc := 154) (x := (cN : Int)) dX11_hasRule_154 rfl ?_
      refine g_iload_n (pc := 156) (x := (u : Int)) dX11_hasRule_156 rfl ?_
      refine g_iastN (pc := 157) (j := cN) dX11_hasRule_157 hP2 (by omega) (by omega) (by omega) ?_
      have hx_2 := hx2.ne (e := eA 0 65 (va_up (va_up Pv cN (-1)) cN (u : Int))) (a := x + 29) (by omega)
      have hP2_2 := hP2.self (e := eA 0 65 (va_up (va_up Pv cN (-1)) cN (u : Int)))
      refine g_pick [0, 1, 2, 3, 4] (lo2 := [(0, vR x), (1, vI (l : Int)), (2, vI (m : Int)), (3, vI (u : Int)), (4, vI (cN : Int))]) rfl ?_
      refine g_iinc (pc := 158) (x := (u : Int)) (lo2 := [(0, vR x), (1, vI (l : Int)), (2, vI (m : Int)), (3, vI ((u : Int) + 1)), (4, vI (cN : Int))]) dX11_hasRule_158 rfl (by decide) rfl ?_
      refine g_iinc (pc := 161) (x := (cN : Int)) (lo2 := [(0, vR x), (1, vI (l : Int)), (2, vI (m : Int)), (3, vI ((u : Int) + 1)), (4, vI ((cN : Int) + (-1)))]) dX11_hasRule_161 rfl (by decide) rfl ?_
      refine g_goto (pc := 164) (tgt := 86) dX11_hasRule_164 (by decide) ?_
      have eg := gj_yes (p := p) (m := m) (c := c) (q := v) (F0 := F0s s) (by rw [← eu]; exact v1) hvm (fun j j1 j2 => by rw [← fcc j (by omega)]; exact v3 j (by rw [eu]; exact j1) j2) (by rw [← fcc v hvm]; exact v5)
      rw [← eu] at eg
      refine ih (c + 1) (u + 1) _ R2 _ _ (by omega) (by omega) (by rw [eg]) (hR2.ne (by omega)) hP2_2 (fun i j z1 z2 => ?_) (fun k z1 => ?_) (fun a z1 z2 => ?_)
      · rw [eg, g2 i j z1 z2]
        show elm p (fun i j => R (65 * i + j)) u cN v (pin p (R (65 * v + cN))) i j = elm p (gj p m (F0s s) c).1 u c v (pin p ((gj p m (F0s s) c).1 v c)) i (mir l j)
        have tl := (tsp_ge v1 hvm z1).2.1
        unfold elm
        dsimp only
        rw [fcc v hvm, f1 v j hvm z2, f1 _ j tl z2, fcc _ tl]
      · rw [eg]
        dsimp only
        by_cases ek : k = c
        · rw [show l - 1 - k = cN by omega, va_up_self, ek, va_up_self]
        · rw [va_up_ne _ _ (by omega), va_up_ne _ _ (by omega), va_up_ne _ _ ek]
          exact f2 k (by omega)
      · rw [va_up_ne _ _ z2, k2 a z1, va_up_ne _ _ z2]
        exact hk a z1 z2
    · refine g_goto (pc := 136) (tgt := 161) dX11_hasRule_136 (by decide) ?_
      refine g_iinc (pc := 161) (x := (cN : Int)) (lo2 := [(0, vR x), (1, vI (l : Int)), (2, vI (m : Int)), (3, vI (u : Int)), (4, vI ((cN : Int) + (-1))), (5, vI (v : Int))]) dX11_hasRule_161 rfl (by decide) rfl ?_
      refine g_goto (pc := 164) (tgt := 86) dX11_hasRule_164 (by decide) ?_
      refine g_pick [0, 1, 2, 3, 4] (lo2 := [(0, vR x), (1, vI (l : Int)), (2, vI (m : Int)), (3, vI (u : Int)), (4, vI ((cN : Int) + (-1)))]) rfl ?_
      have eg := gj_no (p := p) (m := m) (c := c) (F0 := F0s s) (by rw [← eu]; exact i1) (fun j j1 j2 => by rw [← fcc j j2]; exact v3 j (by rw [eu]; exact j1) (by omega))
      refine ih (c + 1) u _ R _ _ (by omega) (by omega) (by rw [eg]; exact eu) hR_1 hP_1 (fun i j z1 z2 => by rw [eg]; exact f1 i j z1 z2) (fun k z1 => ?_) (fun a z1 z2 => (va_up_ne _ _ z2).trans (hk a z1 z2))
      rw [eg]
      dsimp only
      by_cases ek : k = c
      · rw [show l - 1 - k = cN by omega, va_up_self, ek, va_up_self]
      · rw [va_up_ne _ _ (by omega), va_up_ne _ _ ek]
        exact f2 k (by omega)

theorem hru_d {N d x p ct l m Ls : Nat} {th wd pm fm mu um : Int} {sx s Tl : Nat → Int} {h0 : MH}  {xu : Int} {R Pv Nm : Nat → Int} (hp : prm p) (hp2 : p ≤ 499) (hm : m + l = ct) (hct : ct ≤ 64) (hs : ∀ n, n < ct → 0 ≤ s n ∧ s n < p) (eT : ∀ n, n < ct → Tl n = s n) (hx0 : Hd (0, 0, N) h0 x (mdl x th wd pm fm mu um (p : Int) (ct : Int))) (hT0 : Hd (0, 0, N) h0 (x + 26) (eA 0 64 Tl)) (hR : Hd (0, 0, N) h0 (x + 27) (eA 0 4160 R)) (hP : Hd (0, 0, N) h0 (x + 29) (eA 0 65 Pv)) (hN : Hd (0, 0, N) h0 (x + 28) (eA 0 65 Nm)) (f1 : ∀ i j, i < m → j ≤ l → R (65 * i + j) = (gj p m (F0s s) l).1 i (mir l j)) (f2 : ∀ k, k < l → Pv (l - 1 - k) = (gj p m (F0s s) l).2.2 k) : ∀ (f r : Nat) (xr : Int), r + f = m → xr = (r : Int) → (gj p m (F0s s) l).2.1 ≤ r → (∀ j, (gj p m (F0s s) l).2.1 ≤ j → j < r → (gj p m (F0s s) l).1 j l = 0) → G mX11_hasRule (d + 2, 0, 0, Ls, sx) 170 [(0, vR x), (1, vI (l : Int)), (2, vI (m : Int)), (3, vI xu), (4, vI xr)] [] (0, 0, N) h0 (Pq mX11_hasRule 0 0 (fun r9 h2 => (((∃ y, sol p m l (F0s s) y) ∧ r9 = some (vI 1) ∧ ∃ Nm2, Hd (0, 0, N) h2 (x + 28) (eA 0 65 Nm2) ∧ (∀ j, j < l → Nm2 j = nmb l (gj p m (F0s s) l).1 (gj p m (F0s s) l).2.2 (l - 1 - j))) ∨ (¬ (∃ y, sol p m l (F0s s) y) ∧ r9 = some (vI 0) ∧ ∃ Nm2, Hd (0, 0, N) h2 (x + 28) (eA 0 65 Nm2))) ∧ ∀ a, a ≠ x + 28 → h2 a = h0 a)) := by
  intro f
  obtain ⟨gi, gs⟩ := gj_all (F0 := F0s s) (m := m) (l := l) hp (fun r k z1 z2 => hs (r + k) (by omega)) l (Nat.le_refl l)
  have hse := sol_end hp gi
  have hEX : (∃ y, sol p m l (F0s s) y) ↔ ∀ r, (gj p m (F0s s) l).2.1 ≤ r → r < m → (gj p m (F0s s) l).1 r l = 0 := ⟨fun ⟨y, hy⟩ => hse.mp ⟨y, (gs y).mpr hy⟩, fun z => by obtain ⟨y, hy⟩ := hse.mpr z; exact ⟨y, (gs y).mp hy⟩⟩
  induction f with
  | zero =>
    intro r xr hf ex hur hz
    refine g_iload (pc := 170) (x := xr) dX11_hasRule_170 rfl ?_
    refine g_iload_n (pc := 172) (x := (m : Int)) dX11_hasRule_172 rfl ?_
    refine g_icmp_geT (pc := 173) (tgt := 199) dX11_hasRule_173 (by decide) (by omega) (by omega) (by omega) ?_
    refine g_aload_n (pc := 199) (r := .inl (some x)) dX11_hasRule_199 rfl ?_
    refine g_iload_n (pc := 200) (x := (l : Int)) dX11_hasRule_200 rfl ?_
    refine g_callV0 (pc := 201) (as := [vI (l : Int)]) (b := x) (st := []) lvX11_276 dX11_hasRule_201 hx0 (Nat.le_of_ble_eq_true rfl) (by omega) (Nat.zero_le _) (Nat.zero_le _) (c_settlesRule (d := d) hp hp2 (by omega) gi f1 (fun j hj => by have := f2 (l - 1 - j) (by omega); rw [show l - 1 - (l - 1 - j) = j by omega] at this; exact this) hx0 hR hP hN) ?_
    rintro r9 h2 ⟨rfl, o1, o2⟩
    refine g_iconst (pc := 204) dX11_hasRule_204 ?_
    exact r_bool (pc := 205) dX11_hasRule_205 rfl rfl (Nat.le_refl _) (Or.inr rfl) ⟨Or.inl ⟨hEX.mpr (fun j j1 j2 => hz j j1 (by omega)), rfl, o1⟩, o2⟩
  | succ f ih =>
    intro r xr hf ex hur hz
    subst ex
    have e1 := f1 r l (by omega) (Nat.le_refl l)
    rw [mir_l] at e1
    have b1 := gi.2.1 r l (by omega) (Nat.le_refl l)
    refine g_iload (pc := 170) (x := (r : Int)) dX11_hasRule_170 rfl ?_
    refine g_iload_n (pc := 172) (x := (m : Int)) dX11_hasRule_172 rfl ?_
    refine g_icmp_geF (pc := 173) (tgt := 199) dX11_hasRule_173 (by decide) (by omega) (by omega) (by omega) ?_
    refine g_aload_n (pc := 176) (r := .inl (some x)) dX11_hasRule_176 rfl ?_
    refine g_getf (pc := 177) (v := vR (x + 27)) flX11_91 dX11_hasRule_177 hx0 rfl ?_
    refine g_bipush (pc := 180) dX11_hasRule_180 (by decide +kernel) ?_
    refine g_iload (pc := 182) (x := (r : Int)) dX11_hasRule_182 rfl ?_
    refine g_imul (pc := 184) dX11_hasRule_184 ?_
    refine g_iload_n (pc := 185) (x := (l : Int)) dX11_hasRule_185 rfl ?_
    refine g_iadd (pc := 186) dX11_hasRule_186 ?_
    refine g_ialdN (pc := 187) (j := (65 * r) + l) dX11_hasRule_187 hR (by omega) (by omega) (by omega) ?_
    rw [e1]
    refine g_if_eq (pc := 188) (tgt := 193) dX11_hasRule_188 (by decide) (by omega) (fun h0z => ?_) (fun h0z => ?_)
    · refine g_iinc (pc := 193) (x := (r : Int)) (lo2 := [(0, vR x), (1, vI (l : Int)), (2, vI (m : Int)), (3, vI xu), (4, vI ((r : Int) + 1))]) dX11_hasRule_193 rfl (by decide) rfl ?_
      refine g_goto (pc := 196) (tgt := 170) dX11_hasRule_196 (by decide) ?_
      refine ih (r + 1) _ (by omega) (by omega) (by omega) (fun j j1 j2 => ?_)
      by_cases e : j = r
      · rw [e]
        exact h0z
      · exact hz j j1 (by omega)
    · refine g_iconst (pc := 191) dX11_hasRule_191 ?_
      exact r_bool (pc := 192) dX11_hasRule_192 rfl rfl (Nat.le_refl _) (Or.inl rfl) ⟨Or.inr ⟨fun z => h0z (hEX.mp z r hur (by omega)), rfl, Nm, hN⟩, fun _ _ => rfl⟩

theorem c_hasRule {N d x p ct l m : Nat} {th wd pm fm mu um : Int} {s Tl : Nat → Int} {h0 : MH}  {R Pv Nm : Nat → Int} (hp : prm p) (hp2 : p ≤ 499) (hm : m + l = ct) (hct : ct ≤ 64) (hs : ∀ n, n < ct → 0 ≤ s n ∧ s n < p) (eT : ∀ n, n < ct → Tl n = s n) (hx0 : Hd (0, 0, N) h0 x (mdl x th wd pm fm mu um (p : Int) (ct : Int))) (hT0 : Hd (0, 0, N) h0 (x + 26) (eA 0 64 Tl)) (hR : Hd (0, 0, N) h0 (x + 27) (eA 0 4160 R)) (hP : Hd (0, 0, N) h0 (x + 29) (eA 0 65 Pv)) (hN : Hd (0, 0, N) h0 (x + 28) (eA 0 65 Nm)) : Ok mX11_hasRule (d + 2) 0 0 [vR x, vI (l : Int)] N h0 (fun r9 h2 => (((∃ y, sol p m l (F0s s) y) ∧ r9 = some (vI 1) ∧ ∃ Nm2, Hd (0, 0, N) h2 (x + 28) (eA 0 65 Nm2) ∧ (∀ j, j < l → Nm2 j = nmb l (gj p m (F0s s) l).1 (gj p m (F0s s) l).2.2 (l - 1 - j))) ∨ (¬ (∃ y, sol p m l (F0s s) y) ∧ r9 = some (vI 0) ∧ ∃ Nm2, Hd (0, 0, N) h2 (x + 28) (eA 0 65 Nm2))) ∧ (∃ f, Hd (0, 0, N) h2 (x + 27) (eA 0 4160 f)) ∧ (∃ f, Hd (0, 0, N) h2 (x + 29) (eA 0 65 f)) ∧ ∀ a, a ≠ x + 27 → a ≠ x + 28 → a ≠ x + 29 → h2 a = h0 a) := by
  refine Ok.of pfX11_hasRule rfl (Nat.le_of_ble_eq_true rfl) (fun Ls sx => ?_)
  show G mX11_hasRule (d + 2, 0, 0, Ls, sx) 0 [(0, vR x), (1, vI (l : Int))] [] (0, 0, N) h0 _
  refine g_aload_n (pc := 0) (r := .inl (some x)) dX11_hasRule_0 rfl ?_
  refine g_getf (pc := 1) (v := vI (ct : Int)) flX11_270 dX11_hasRule_1 hx0 rfl ?_
  refine g_iload_n (pc := 4) (x := (l : Int)) dX11_hasRule_4 rfl ?_
  refine g_isub (pc := 5) dX11_hasRule_5 ?_
  rw [show (ct : Int) - (l : Int) = (m : Int) by omega]
  refine g_istore_n (pc := 6) (lo2 := [(0, vR x), (1, vI (l : Int)), (2, vI (m : Int))]) dX11_hasRule_6 (by decide) rfl ?_
  refine g_iconst (pc := 7) dX11_hasRule_7 ?_
  refine g_istore_n (pc := 8) (lo2 := [(0, vR x), (1, vI (l : Int)), (2, vI (m : Int)), (3, vI 0)]) dX11_hasRule_8 (by decide) rfl ?_
  refine hru_o hp hp2 hm hct hs eT hx0 hT0 (fun R1 h1 hR1 f1 k1 => ?_) m 0 _ R h0 (by omega) rfl hR (fun i2 k z => absurd z (Nat.not_lt_zero i2)) (fun _ _ => rfl)
  refine g_iconst (pc := 79) dX11_hasRule_79 ?_
  refine g_istore_n (pc := 80) (lo2 := [(0, vR x), (1, vI (l : Int)), (2, vI (m : Int)), (3, vI 0)]) dX11_hasRule_80 (by decide) rfl ?_
  refine g_iload_n (pc := 81) (x := (l : Int)) dX11_hasRule_81 rfl ?_
  refine g_iconst (pc := 82) dX11_hasRule_82 ?_
  refine g_isub (pc := 83) dX11_hasRule_83 ?_
  refine g_istore (pc := 84) (lo2 := [(0, vR x), (1, vI (l : Int)), (2, vI (m : Int)), (3, vI 0), (4, vI ((l : Int) - 1))]) dX11_hasRule_84 (by decide) rfl ?_
  refine hru_b hp hp2 hm hct hs eT (hx0.keep (k1 _ (by omega))) (hT0.keep (k1 _ (by omega))) (fun R2 Pv2 h2 hR2 hP2 f2 g2 k2 => ?_) l 0 0 _ R1 Pv h1 (by omega) (by omega) rfl hR1 (hP.keep (k1 _ (by omega))) (fun i j z1 z2 => f1 i j z1 z2) (fun k z => absurd z (Nat.not_lt_zero k)) (fun _ _ _ => rfl)
  refine g_iload_n (pc := 167) (x := ((gj p m (F0s s) l).2.1 : Int)) dX11_hasRule_167 rfl ?_
  refine g_istore (pc := 168) (lo2 := [(0, vR x), (1, vI (l : Int)), (2, vI (m : Int)), (3, vI ((gj p m (F0s s) l).2.1 : Int)), (4, vI ((gj p m (F0s s) l).2.1 : Int))]) dX11_hasRule_168 (by decide) rfl ?_
  have hum := (gj_all (F0 := F0s s) (m := m) (l := l) hp (fun r k z1 z2 => hs (r + k) (by omega)) l (Nat.le_refl l)).1.1.1
  refine Q_mono (hru_d (h0 := h2) hp hp2 hm hct hs eT ((hx0.keep (k1 _ (by omega))).keep (k2 _ (by omega) (by omega))) ((hT0.keep (k1 _ (by omega))).keep (k2 _ (by omega) (by omega))) hR2 hP2 ((hN.keep (k1 _ (by omega))).keep (k2 _ (by omega) (by omega))) f2 g2 (m - (gj p m (F0s s) l).2.1) (gj p m (F0s s) l).2.1 _ (by omega) rfl (Nat.le_refl _) (fun j j1 j2 => by omega)) ?_
  rintro r9 h3 ⟨o1, o2⟩
  exact ⟨o1, ⟨R2, hR2.keep (o2 _ (by omega))⟩, ⟨Pv2, hP2.keep (o2 _ (by omega))⟩, fun a z1 z2 z3 => (o2 a z2).trans ((k2 a z1 z3).trans (k1 a z1))⟩

theorem lru_l {N d x p ct L Ls : Nat} {th wd pm fm mu um : Int} {sx s Tl : Nat → Int} {h0 : MH} (hp : prm p) (hp2 : p ≤ 499) (hct : ct ≤ 64) (hs : ∀ n, n < ct → 0 ≤ s n ∧ s n < p) (eT : ∀ n, n < ct → Tl n = s n) (hLc : L ≤ ct) (hL : hasL p ct L s) (hmin : ∀ l, hasL p ct l s → L ≤ l) (hx0 : Hd (0, 0, N) h0 x (mdl x th wd pm fm mu um (p : Int) (ct : Int))) (hT0 : Hd (0, 0, N) h0 (x + 26) (eA 0 64 Tl)) : ∀ (f l : Nat) (xl : Int) (h : MH), l + f = L → xl = (l : Int) → (∃ f, Hd (0, 0, N) h (x + 28) (eA 0 65 f)) → ((∃ f, Hd (0, 0, N) h (x + 27) (eA 0 4160 f)) ∧ (∃ f, Hd (0, 0, N) h (x + 29) (eA 0 65 f)) ∧ ∀ a, a ≠ x + 27 → a ≠ x + 28 → a ≠ x + 29 → h a = h0 a) → G mX11_leastRule (d + 3, 0, 0, Ls, sx) 2 [(0, vR x), (1, vI xl)] [] (0, 0, N) h (Pq mX11_leastRule 0 0 (fun r9 h2 => r9 = some (vI (L : Int)) ∧ (∃ Nm2, Hd (0, 0, N) h2 (x + 28) (eA 0 65 Nm2) ∧ ∀ j, j < L → Nm2 j = numS p ct L s (j + 1)) ∧ (∃ f, Hd (0, 0, N) h2 (x + 27) (eA 0 4160 f)) ∧ (∃ f, Hd (0, 0, N) h2 (x + 29) (eA 0 65 f)) ∧ ∀ a, a ≠ x + 27 → a ≠ x + 28 → a ≠ x + 29 → h2 a = h0 a)) := by
  intro f
  induction f with
  | zero =>
    intro l xl h hf ex s28 sc
    obtain ⟨Nm, hN⟩ := s28
    obtain ⟨⟨R, hR⟩, ⟨Pv, hP⟩, hk⟩ := sc
    subst ex
    have hx := hx0.keep (hk x (by omega) (by omega) (by omega))
    have hif := has_iff (p := p) (s := s) (show l ≤ ct by omega)
    refine g_aload_n (pc := 2) (r := .inl (some x)) dX11_leastRule_2 rfl ?_
    refine g_iload_n (pc := 3) (x := (l : Int)) dX11_leastRule_3 rfl ?_
    refine g_callV0 (pc := 4) (as := [vI (l : Int)]) (b := x) (st := []) lvX11_282 dX11_leastRule_4 hx (Nat.le_of_ble_eq_true rfl) (by omega) (Nat.zero_le _) (Nat.zero_le _) (c_hasRule (d := d) (m := ct - l) hp hp2 (by omega) hct hs eT hx (hT0.keep (hk _ (by omega) (by omega) (by omega))) hR hP hN) ?_
    rintro r9 h2 ⟨o1, o2, o3, k2⟩
    have el : l = L := by omega
    subst el
    obtain ⟨-, e9, Nm2, n1, n2⟩ := o1.resolve_right (fun z => z.1 (hif.mp hL))
    subst e9
    refine g_if_neT (pc := 7) (tgt := 16) dX11_leastRule_7 (by decide) (by omega) (by omega) ?_
    refine g_iload_n (pc := 16) (x := (l : Int)) dX11_leastRule_16 rfl ?_
    refine r_int (pc := 17) dX11_leastRule_17 rfl rfl (Nat.le_refl _) ⟨rfl, ⟨Nm2, n1, fun j hj => ?_⟩, o2, o3, fun a z1 z2 z3 => (k2 a z1 z2 z3).trans (hk a z1 z2 z3)⟩
    rw [n2 j hj]
    unfold numS
    rw [show l - (j + 1) = l - 1 - j by omega]
  | succ f ih =>
    intro l xl h hf ex s28 sc
    obtain ⟨Nm, hN⟩ := s28
    obtain ⟨⟨R, hR⟩, ⟨Pv, hP⟩, hk⟩ := sc
    subst ex
    have hx := hx0.keep (hk x (by omega) (by omega) (by omega))
    have hif := has_iff (p := p) (s := s) (show l ≤ ct by omega)
    refine g_aload_n (pc := 2) (r := .inl (some x)) dX11_leastRule_2 rfl ?_
    refine g_iload_n (pc := 3) (x := (l : Int)) dX11_leastRule_3 rfl ?_
    refine g_callV0 (pc := 4) (as := [vI (l : Int)]) (b := x) (st := []) lvX11_282 dX11_leastRule_4 hx (Nat.le_of_ble_eq_true rfl) (by omega) (Nat.zero_le _) (Nat.zero_le _) (c_hasRule (d := d) (m := ct - l) hp hp2 (by omega) hct hs eT hx (hT0.keep (hk _ (by omega) (by omega) (by omega))) hR hP hN) ?_
    rintro r9 h2 ⟨o1, o2, o3, k2⟩
    obtain ⟨-, e9, n1⟩ := o1.resolve_left (fun z => by have := hmin l (hif.mpr z.1); omega)
    subst e9
    refine g_if_neF (pc := 7) (tgt := 16) dX11_leastRule_7 (by decide) (by omega) (by omega) ?_
    refine g_iinc (pc := 10) (x := (l : Int)) (lo2 := [(0, vR x), (1, vI ((l : Int) + 1))]) dX11_leastRule_10 rfl (by decide) rfl ?_
    refine g_goto (pc := 13) (tgt := 2) dX11_leastRule_13 (by decide) ?_
    exact ih (l + 1) _ h2 (by omega) (by omega) n1 ⟨o2, o3, fun a z1 z2 z3 => (k2 a z1 z2 z3).trans (hk a z1 z2 z3)⟩
theorem c_leastRule {N d x p ct L : Nat} {th wd pm fm mu um : Int} {s Tl : Nat → Int} {h0 : MH} (hp : prm p) (hp2 : p ≤ 499) (hct : ct ≤ 64) (hs : ∀ n, n < ct → 0 ≤ s n ∧ s n < p) (eT : ∀ n, n < ct → Tl n = s n) (hLc : L ≤ ct) (hL : hasL p ct L s) (hmin : ∀ l, hasL p ct l s → L ≤ l) (hx0 : Hd (0, 0, N) h0 x (mdl x th wd pm fm mu um (p : Int) (ct : Int))) (hT0 : Hd (0, 0, N) h0 (x + 26) (eA 0 64 Tl)) (s27 : ∃ f, Hd (0, 0, N) h0 (x + 27) (eA 0 4160 f)) (s28 : ∃ f, Hd (0, 0, N) h0 (x + 28) (eA 0 65 f)) (s29 : ∃ f, Hd (0, 0, N) h0 (x + 29) (eA 0 65 f)) : Ok mX11_leastRule (d + 3) 0 0 [vR x] N h0 (fun r9 h2 => r9 = some (vI (L : Int)) ∧ (∃ Nm2, Hd (0, 0, N) h2 (x + 28) (eA 0 65 Nm2) ∧ ∀ j, j < L → Nm2 j = numS p ct L s (j + 1)) ∧ (∃ f, Hd (0, 0, N) h2 (x + 27) (eA 0 4160 f)) ∧ (∃ f, Hd (0, 0, N) h2 (x + 29) (eA 0 65 f)) ∧ ∀ a, a ≠ x + 27 → a ≠ x + 28 → a ≠ x + 29 → h2 a = h0 a) := by
  refine Ok.of pfX11_leastRule rfl (Nat.le_of_ble_eq_true rfl) (fun Ls sx => ?_)
  show G mX11_leastRule (d + 3, 0, 0, Ls, sx) 0 [(0, vR x)] [] (0, 0, N) h0 _
  refine g_iconst (pc := 0) dX11_leastRule_0 ?_
  refine g_istore_n (pc := 1) (lo2 := [(0, vR x), (1, vI 0)]) dX11_leastRule_1 (by decide) rfl ?_
  exact lru_l hp hp2 hct hs eT hLc hL hmin hx0 hT0 L 0 _ h0 (by omega) rfl s28 ⟨s27, s29, fun _ _ _ _ => rfl⟩
