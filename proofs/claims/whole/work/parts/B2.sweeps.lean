/-! ===== the reference: stays, sweeps ===== -/
theorem sty_l2 {κ : KX} {N x n q lf : Nat} {h : MH} {P : Option MV → MH → Prop} (hlf : lf ≤ 4) (hP : P (some (vJ ((q ^ lf : Nat) : Int))) h) (hq2 : q ≤ 500) : ∀ (f r : Nat) (xr K : Int), r + f = lf → xr = (r : Int) → K = ((q ^ r : Nat) : Int) → G mX11_stays κ 49 [(0, vR x), (1, vI (n : Int)), (2, vI (q : Int)), (3, vI (lf : Int)), (4, vJ K), (6, vI xr)] [] (0, 0, N) h (Pq mX11_stays 0 0 P) := by
  intro f
  induction f with
  | zero =>
    intro r xr K hf ex eK
    have er : r = lf := by omega
    rw [er] at eK
    subst eK
    refine g_iload (pc := 49) (x := xr) dX11_stays_49 rfl ?_
    refine g_iload_n (pc := 51) (x := (lf : Int)) dX11_stays_51 rfl ?_
    refine g_icmp_geT (pc := 52) (tgt := 68) dX11_stays_52 (by decide) (by omega) (by omega) (by omega) ?_
    refine g_lload (pc := 68) (x := ((q ^ lf : Nat) : Int)) dX11_stays_68 rfl ?_
    exact r_long (pc := 70) dX11_stays_70 rfl rfl (Nat.le_refl _) hP
  | succ f ih =>
    intro r xr K hf ex eK
    refine g_iload (pc := 49) (x := xr) dX11_stays_49 rfl ?_
    refine g_iload_n (pc := 51) (x := (lf : Int)) dX11_stays_51 rfl ?_
    refine g_icmp_geF (pc := 52) (tgt := 68) dX11_stays_52 (by decide) (by omega) (by omega) (by omega) ?_
    refine g_lload (pc := 55) (x := K) dX11_stays_55 rfl ?_
    refine g_iload_n (pc := 57) (x := (q : Int)) dX11_stays_57 rfl ?_
    refine g_i2l (pc := 58) dX11_stays_58 (by omega) ?_
    refine g_lmul (pc := 59) dX11_stays_59 ?_
    refine g_lstore (pc := 60) (lo2 := [(0, vR x), (1, vI (n : Int)), (2, vI (q : Int)), (3, vI (lf : Int)), (4, vJ (K * (q : Int))), (6, vI xr)]) dX11_stays_60 (by decide) rfl ?_
    refine g_iinc (pc := 62) (x := xr) (lo2 := [(0, vR x), (1, vI (n : Int)), (2, vI (q : Int)), (3, vI (lf : Int)), (4, vJ (K * (q : Int))), (6, vI (xr + 1))]) dX11_stays_62 rfl (by decide) rfl ?_
    refine g_goto (pc := 65) (tgt := 49) dX11_stays_65 (by decide) ?_
    exact ih (r + 1) _ _ (by omega) (by omega) (by rw [eK, Nat.pow_succ, Int.natCast_mul])

theorem sty_l1 {κ : KX} {N x n q lf : Nat} {th wd pm fm mu um pr ts : Int} {E Rk : Nat → Int} {h : MH} (hn : n ≤ 4) (hq : 0 < q) (hq2 : q ≤ 500) (hlf : lf ≤ 4) (hRk : ∀ r, r < 4 → Rk r = 0 ∨ Rk r = 1) (hEr : ∀ r c, r < n → c ≤ n → 0 ≤ E (5 * r + c) ∧ E (5 * r + c) < q) (hx : Hd (0, 0, N) h x (mdl x th wd pm fm mu um pr ts)) (hE : Hd (0, 0, N) h (x + 19) (eA 0 20 E)) (hR : Hd (0, 0, N) h (x + 20) (eA 2 4 Rk)) : ∀ (f r : Nat) (xr : Int), r + f = n → xr = (r : Int) → (∀ r2, r2 < r → Rk r2 = 0 → (q : Int) ∣ E (5 * r2 + n)) → G mX11_stays κ 6 [(0, vR x), (1, vI (n : Int)), (2, vI (q : Int)), (3, vI (lf : Int)), (4, vJ 1), (6, vI xr)] [] (0, 0, N) h (Pq mX11_stays 0 0 (fun r9 h2 => h2 = h ∧ (((∀ r, r < n → Rk r = 0 → (q : Int) ∣ E (5 * r + n)) ∧ r9 = some (vJ ((q ^ lf : Nat) : Int))) ∨ (¬ (∀ r, r < n → Rk r = 0 → (q : Int) ∣ E (5 * r + n)) ∧ r9 = some (vJ 0))))) := by
  intro f
  induction f with
  | zero =>
    intro r xr hf ex hd
    refine g_iload (pc := 6) (x := xr) dX11_stays_6 rfl ?_
    refine g_iload_n (pc := 8) (x := (n : Int)) dX11_stays_8 rfl ?_
    refine g_icmp_geT (pc := 9) (tgt := 46) dX11_stays_9 (by decide) (by omega) (by omega) (by omega) ?_
    refine g_iconst (pc := 46) dX11_stays_46 ?_
    refine g_istore (pc := 47) (lo2 := [(0, vR x), (1, vI (n : Int)), (2, vI (q : Int)), (3, vI (lf : Int)), (4, vJ 1), (6, vI 0)]) dX11_stays_47 (by decide) rfl ?_
    exact sty_l2 hlf ⟨rfl, Or.inl ⟨fun r2 z1 => hd r2 (by omega), rfl⟩⟩ hq2 lf 0 _ _ (by omega) rfl rfl
  | succ f ih =>
    intro r xr hf ex hd
    have rr := hRk r (by omega)
    have er := hEr r n (by omega) (Nat.le_refl n)
    obtain ⟨v, ev⟩ : ∃ v : Nat, E (5 * r + n) = (v : Int) := ⟨(E (5 * r + n)).toNat, by omega⟩
    have em := tmodN (rfl : (v : Int) = (v : Int)) (rfl : (q : Int) = (q : Int))
    have hml := Nat.mod_lt v hq
    refine g_iload (pc := 6) (x := xr) dX11_stays_6 rfl ?_
    refine g_iload_n (pc := 8) (x := (n : Int)) dX11_stays_8 rfl ?_
    refine g_icmp_geF (pc := 9) (tgt := 46) dX11_stays_9 (by decide) (by omega) (by omega) (by omega) ?_
    refine g_aload_n (pc := 12) (r := .inl (some x)) dX11_stays_12 rfl ?_
    refine g_getf (pc := 13) (v := vR (x + 20)) flX11_70 dX11_stays_13 hx rfl ?_
    refine g_iload (pc := 16) (x := xr) dX11_stays_16 rfl ?_
    refine g_zaldN (pc := 18) (j := r) dX11_stays_18 hR (by omega) (by omega) (by omega) ?_
    refine g_if_ne (pc := 19) (tgt := 40) dX11_stays_19 (by decide) (by omega) (fun h9 => ?_) (fun h9 => ?_)
    · refine g_iinc (pc := 40) (x := xr) (lo2 := [(0, vR x), (1, vI (n : Int)), (2, vI (q : Int)), (3, vI (lf : Int)), (4, vJ 1), (6, vI (xr + 1))]) dX11_stays_40 rfl (by decide) rfl ?_
      refine g_goto (pc := 43) (tgt := 6) dX11_stays_43 (by decide) ?_
      exact ih (r + 1) _ (by omega) (by omega) (fun r2 z1 z2 => hd r2 (by
        by_cases hrr : r2 = r
        · rw [hrr] at z2
          omega
        · omega) z2)
    · refine g_aload_n (pc := 22) (r := .inl (some x)) dX11_stays_22 rfl ?_
      refine g_getf (pc := 23) (v := vR (x + 19)) flX11_67 dX11_stays_23 hx rfl ?_
      refine g_iconst (pc := 26) dX11_stays_26 ?_
      refine g_iload (pc := 27) (x := xr) dX11_stays_27 rfl ?_
      refine g_imul (pc := 29) dX11_stays_29 ?_
      refine g_iload_n (pc := 30) (x := (n : Int)) dX11_stays_30 rfl ?_
      refine g_iadd (pc := 31) dX11_stays_31 ?_
      refine g_ialdN (pc := 32) (j := 5 * r + n) dX11_stays_32 hE (by omega) (by omega) (by omega) ?_
      rw [ev]
      refine g_iload_n (pc := 33) (x := (q : Int)) dX11_stays_33 rfl ?_
      refine g_irem (pc := 34) dX11_stays_34 (by omega) (by omega) (by omega) ?_
      rw [em]
      refine g_if_eq (pc := 35) (tgt := 40) dX11_stays_35 (by decide) (by omega) (fun h8 => ?_) (fun h8 => ?_)
      · refine g_iinc (pc := 40) (x := xr) (lo2 := [(0, vR x), (1, vI (n : Int)), (2, vI (q : Int)), (3, vI (lf : Int)), (4, vJ 1), (6, vI (xr + 1))]) dX11_stays_40 rfl (by decide) rfl ?_
        refine g_goto (pc := 43) (tgt := 6) dX11_stays_43 (by decide) ?_
        refine ih (r + 1) _ (by omega) (by omega) (fun r2 z1 z2 => ?_)
        by_cases hrr : r2 = r
        · rw [hrr, ev]
          exact Int.ofNat_dvd.mpr (Nat.dvd_of_mod_eq_zero (by omega))
        · exact hd r2 (by omega) z2
      · refine g_lconst0 (pc := 38) dX11_stays_38 ?_
        have hno : ¬ (∀ r, r < n → Rk r = 0 → (q : Int) ∣ E (5 * r + n)) := fun y => by
          have y1 := y r (by omega) (by omega)
          rw [ev] at y1
          have := Nat.mod_eq_zero_of_dvd (Int.ofNat_dvd.mp y1)
          omega
        exact r_long (pc := 39) dX11_stays_39 rfl rfl (Nat.le_refl _) ⟨rfl, Or.inr ⟨hno, rfl⟩⟩

theorem c_stays {d : Nat} {N x n q lf : Nat} {th wd pm fm mu um pr ts : Int} {E Rk : Nat → Int} {h : MH} (hn : n ≤ 4) (hq : 0 < q) (hq2 : q ≤ 500) (hlf : lf ≤ 4) (hRk : ∀ r, r < 4 → Rk r = 0 ∨ Rk r = 1) (hEr : ∀ r c, r < n → c ≤ n → 0 ≤ E (5 * r + c) ∧ E (5 * r + c) < q) (hx : Hd (0, 0, N) h x (mdl x th wd pm fm mu um pr ts)) (hE : Hd (0, 0, N) h (x + 19) (eA 0 20 E)) (hR : Hd (0, 0, N) h (x + 20) (eA 2 4 Rk)) : Ok mX11_stays d 0 0 [vR x, vI (n : Int), vI (q : Int), vI (lf : Int)] N h (fun r9 h2 => h2 = h ∧ (((∀ r, r < n → Rk r = 0 → (q : Int) ∣ E (5 * r + n)) ∧ r9 = some (vJ ((q ^ lf : Nat) : Int))) ∨ (¬ (∀ r, r < n → Rk r = 0 → (q : Int) ∣ E (5 * r + n)) ∧ r9 = some (vJ 0)))) := by
  refine Ok.of pfX11_stays rfl (Nat.le_of_ble_eq_true rfl) (fun Ls sx => ?_)
  show G mX11_stays (d, 0, 0, Ls, sx) 0 [(0, vR x), (1, vI (n : Int)), (2, vI (q : Int)), (3, vI (lf : Int))] [] (0, 0, N) h _
  refine g_lconst1 (pc := 0) dX11_stays_0 ?_
  refine g_lstore (pc := 1) (lo2 := [(0, vR x), (1, vI (n : Int)), (2, vI (q : Int)), (3, vI (lf : Int)), (4, vJ 1)]) dX11_stays_1 (by decide) rfl ?_
  refine g_iconst (pc := 3) dX11_stays_3 ?_
  refine g_istore (pc := 4) (lo2 := [(0, vR x), (1, vI (n : Int)), (2, vI (q : Int)), (3, vI (lf : Int)), (4, vJ 1), (6, vI 0)]) dX11_stays_4 (by decide) rfl ?_
  exact sty_l1 hn hq hq2 hlf hRk hEr hx hE hR n 0 _ (by omega) rfl (fun r2 z => absurd z (Nat.not_lt_zero r2))

theorem swe_l1 {κ : KX} {ρ : MR} {Q : Option MV → MR → MH → Prop} {x n q ro co g u m i0 : Nat} {h : MH} (hg : 0 < g) (hm : q / g = m) (m2 : 2 ≤ m) (hg5 : g ≤ 500) (hm5 : m ≤ 500) (hq2 : q ≤ 500) (hu : u ≤ 500) (h0 : i0 ≤ 500) (hi0 : i0 * u % m = 1) (hK : ∀ i2 : Nat, 1 ≤ i2 → i2 ≤ 500 → i2 * u % m = 1 → G mX11_sweeps κ 44 [(0, vR x), (1, vI (n : Int)), (2, vI (q : Int)), (3, vI (ro : Int)), (4, vI (co : Int)), (5, vI (g : Int)), (6, vI (u : Int)), (7, vI ((i2 : Nat) : Int))] [] ρ h Q) : ∀ (f i : Nat) (xi : Int), i + f = i0 → xi = (i : Int) → 1 ≤ i → G mX11_sweeps κ 19 [(0, vR x), (1, vI (n : Int)), (2, vI (q : Int)), (3, vI (ro : Int)), (4, vI (co : Int)), (5, vI (g : Int)), (6, vI (u : Int)), (7, vI xi)] [] ρ h Q := by
  have ed := tdivN (rfl : (q : Int) = (q : Int)) (rfl : (g : Int) = (g : Int))
  have e1 : (1 : Int).tmod (m : Int) = 1 := by
    have e0 := tmodN (x := 1) (y := m) (a := 1) (b := (m : Int)) rfl rfl
    rw [e0, Nat.mod_eq_of_lt (by omega)]
    rfl
  intro f
  induction f with
  | zero =>
    intro i xi hf ex i1
    have ei : i = i0 := by omega
    have hiu : i * u ≤ 250000 := by
      have := Nat.mul_le_mul (show i ≤ 500 by omega) hu
      omega
    have em : ((i : Int) * (u : Int)).tmod (m : Int) = ((i * u % m : Nat) : Int) := tmodN (by rw [Int.natCast_mul]) rfl
    have hml := Nat.mod_lt (i * u) (show 0 < m by omega)
    have hiuI : (i : Int) * (u : Int) = ((i * u : Nat) : Int) := (Int.natCast_mul i u).symm
    rw [hm] at ed
    subst ex
    refine g_iload (pc := 19) (x := (i : Int)) dX11_sweeps_19 rfl ?_
    refine g_iload (pc := 21) (x := (u : Int)) dX11_sweeps_21 rfl ?_
    refine g_imul (pc := 23) dX11_sweeps_23 ?_
    refine g_iload_n (pc := 24) (x := (q : Int)) dX11_sweeps_24 rfl ?_
    refine g_iload (pc := 25) (x := (g : Int)) dX11_sweeps_25 rfl ?_
    refine g_idiv (pc := 27) dX11_sweeps_27 (by omega) (by omega) (by omega) ?_
    rw [ed]
    refine g_irem (pc := 28) dX11_sweeps_28 (by omega) (by omega) (by omega) ?_
    rw [em]
    refine g_iconst (pc := 29) dX11_sweeps_29 ?_
    refine g_iload_n (pc := 30) (x := (q : Int)) dX11_sweeps_30 rfl ?_
    refine g_iload (pc := 31) (x := (g : Int)) dX11_sweeps_31 rfl ?_
    refine g_idiv (pc := 33) dX11_sweeps_33 (by omega) (by omega) (by omega) ?_
    rw [ed]
    refine g_irem (pc := 34) dX11_sweeps_34 (by omega) (by omega) (by omega) ?_
    rw [e1]
    refine g_icmp_eqT (pc := 35) (tgt := 44) dX11_sweeps_35 (by decide) (by omega) (by omega) (by rw [ei, hi0]; rfl) ?_
    exact hK i i1 (by omega) (by rw [ei]; exact hi0)
  | succ f ih =>
    intro i xi hf ex i1
    have hiu : i * u ≤ 250000 := by
      have := Nat.mul_le_mul (show i ≤ 500 by omega) hu
      omega
    have em : ((i : Int) * (u : Int)).tmod (m : Int) = ((i * u % m : Nat) : Int) := tmodN (by rw [Int.natCast_mul]) rfl
    have hml := Nat.mod_lt (i * u) (show 0 < m by omega)
    have hiuI : (i : Int) * (u : Int) = ((i * u : Nat) : Int) := (Int.natCast_mul i u).symm
    rw [hm] at ed
    subst ex
    refine g_iload (pc := 19) (x := (i : Int)) dX11_sweeps_19 rfl ?_
    refine g_iload (pc := 21) (x := (u : Int)) dX11_sweeps_21 rfl ?_
    refine g_imul (pc := 23) dX11_sweeps_23 ?_
    refine g_iload_n (pc := 24) (x := (q : Int)) dX11_sweeps_24 rfl ?_
    refine g_iload (pc := 25) (x := (g : Int)) dX11_sweeps_25 rfl ?_
    refine g_idiv (pc := 27) dX11_sweeps_27 (by omega) (by omega) (by omega) ?_
    rw [ed]
    refine g_irem (pc := 28) dX11_sweeps_28 (by omega) (by omega) (by omega) ?_
    rw [em]
    refine g_iconst (pc := 29) dX11_sweeps_29 ?_
    refine g_iload_n (pc := 30) (x := (q : Int)) dX11_sweeps_30 rfl ?_
    refine g_iload (pc := 31) (x := (g : Int)) dX11_sweeps_31 rfl ?_
    refine g_idiv (pc := 33) dX11_sweeps_33 (by omega) (by omega) (by omega) ?_
    rw [ed]
    refine g_irem (pc := 34) dX11_sweeps_34 (by omega) (by omega) (by omega) ?_
    rw [e1]
    refine g_icmp_eq (pc := 35) (tgt := 44) dX11_sweeps_35 (by decide) (by omega) (by omega) (fun h9 => ?_) (fun h9 => ?_)
    · exact hK i i1 (by omega) (by omega)
    · refine g_iinc (pc := 38) (x := (i : Int)) (lo2 := [(0, vR x), (1, vI (n : Int)), (2, vI (q : Int)), (3, vI (ro : Int)), (4, vI (co : Int)), (5, vI (g : Int)), (6, vI (u : Int)), (7, vI ((i : Int) + 1))]) dX11_sweeps_38 rfl (by decide) rfl ?_
      refine g_goto (pc := 41) (tgt := 19) dX11_sweeps_41 (by decide) ?_
      exact ih (i + 1) _ (by omega) (by omega) (by omega)

theorem swe_l2 {N d x n q ro co g u iv by9 r Ls : Nat} {th wd pm fm mu um pr ts : Int} {sx E0 : Nat → Int} {h0 : MH} {Q : Option MV → MR → MH → Prop} (hn : n ≤ 4) (hq : 0 < q) (hq2 : q ≤ 500) (hr : r < n) (hro : ro < n) (hrr : r ≠ ro) (hb9 : by9 ≤ 500) (hEr : ∀ r c, r < n → c ≤ n → 0 ≤ E0 (5 * r + c) ∧ E0 (5 * r + c) < q) (hx0 : Hd (0, 0, N) h0 x (mdl x th wd pm fm mu um pr ts)) (hK : ∀ (E : Nat → Int) (h2 : MH), Hd (0, 0, N) h2 (x + 19) (eA 0 20 E) → (∀ c2, c2 < (n + 1) → E (5 * r + c2) = (E0 (5 * r + c2) - (by9 : Int) * E0 (5 * ro + c2)) % (q : Int)) → (∀ j, ¬ (5 * r ≤ j ∧ j < 5 * r + (n + 1)) → E j = E0 j) → (∀ a, a ≠ x + 19 → h2 a = h0 a) → G mX11_sweeps (d + 1, 0, 0, Ls, sx) 149 [(0, vR x), (1, vI (n : Int)), (2, vI (q : Int)), (3, vI (ro : Int)), (4, vI (co : Int)), (5, vI (g : Int)), (6, vI (u : Int)), (7, vI (iv : Int)), (8, vI (r : Int))] [] (0, 0, N) h2 Q) : ∀ (f c : Nat) (xc : Int) (E : Nat → Int) (h : MH), c + f = n + 1 → xc = (c : Int) → Hd (0, 0, N) h (x + 19) (eA 0 20 E) → (∀ c2, c2 < c → E (5 * r + c2) = (E0 (5 * r + c2) - (by9 : Int) * E0 (5 * ro + c2)) % (q : Int)) → (∀ j, ¬ (5 * r ≤ j ∧ j < 5 * r + c) → E j = E0 j) → (∀ a, a ≠ x + 19 → h a = h0 a) → G mX11_sweeps (d + 1, 0, 0, Ls, sx) 91 [(0, vR x), (1, vI (n : Int)), (2, vI (q : Int)), (3, vI (ro : Int)), (4, vI (co : Int)), (5, vI (g : Int)), (6, vI (u : Int)), (7, vI (iv : Int)), (8, vI (r : Int)), (9, vI (by9 : Int)), (10, vI xc)] [] (0, 0, N) h Q := by
  intro f
  induction f with
  | zero =>
    intro c xc E h hf ex hE f1 f2 hk
    have hx := hx0.keep (hk x (by omega))
    have ec : c = n + 1 := by omega
    rw [ec] at f1 f2
    refine g_iload (pc := 91) (x := xc) dX11_sweeps_91 rfl ?_
    refine g_iload_n (pc := 93) (x := (n : Int)) dX11_sweeps_93 rfl ?_
    refine g_icmp_gtT (pc := 94) (tgt := 149) dX11_sweeps_94 (by decide) (by omega) (by omega) (by omega) ?_
    refine g_pick [0, 1, 2, 3, 4, 5, 6, 7, 8] (lo2 := [(0, vR x), (1, vI (n : Int)), (2, vI (q : Int)), (3, vI (ro : Int)), (4, vI (co : Int)), (5, vI (g : Int)), (6, vI (u : Int)), (7, vI (iv : Int)), (8, vI (r : Int))]) rfl ?_
    exact hK E h hE f1 f2 hk
  | succ f ih =>
    intro c xc E h hf ex hE f1 f2 hk
    have hx := hx0.keep (hk x (by omega))
    have e1 := f2 (5 * r + c) (by omega)
    have e2 := f2 (5 * ro + c) (by omega)
    have b1 := hEr r c hr (by omega)
    have b2 := hEr ro c hro (by omega)
    have zz := mul_bd (A := 500) (B := 500) (show -500 ≤ (by9 : Int) ∧ (by9 : Int) ≤ 500 by omega) (show -500 ≤ E0 (5 * ro + c) ∧ E0 (5 * ro + c) ≤ 500 by omega)
    refine g_iload (pc := 91) (x := xc) dX11_sweeps_91 rfl ?_
    refine g_iload_n (pc := 93) (x := (n : Int)) dX11_sweeps_93 rfl ?_
    refine g_icmp_gtF (pc := 94) (tgt := 149) dX11_sweeps_94 (by decide) (by omega) (by omega) (by omega) ?_
    refine g_aload_n (pc := 97) (r := .inl (some x)) dX11_sweeps_97 rfl ?_
    refine g_getf (pc := 98) (v := vR (x + 19)) flX11_67 dX11_sweeps_98 hx rfl ?_
    refine g_iconst (pc := 101) dX11_sweeps_101 ?_
    refine g_iload (pc := 102) (x := (r : Int)) dX11_sweeps_102 rfl ?_
    refine g_imul (pc := 104) dX11_sweeps_104 ?_
    refine g_iload (pc := 105) (x := xc) dX11_sweeps_105 rfl ?_
    refine g_iadd (pc := 107) dX11_sweeps_107 ?_
    refine g_aload_n (pc := 108) (r := .inl (some x)) dX11_sweeps_108 rfl ?_
    refine g_getf (pc := 109) (v := vR (x + 19)) flX11_67 dX11_sweeps_109 hx rfl ?_
    refine g_iconst (pc := 112) dX11_sweeps_112 ?_
    refine g_iload (pc := 113) (x := (r : Int)) dX11_sweeps_113 rfl ?_
    refine g_imul (pc := 115) dX11_sweeps_115 ?_
    refine g_iload (pc := 116) (x := xc) dX11_sweeps_116 rfl ?_
    refine g_iadd (pc := 118) dX11_sweeps_118 ?_
    refine g_ialdN (pc := 119) (j := 5 * r + c) dX11_sweeps_119 hE (by omega) (by omega) (by omega) ?_
    rw [e1]
    refine g_i2l (pc := 120) dX11_sweeps_120 (by omega) ?_
    refine g_iload (pc := 121) (x := (by9 : Int)) dX11_sweeps_121 rfl ?_
    refine g_i2l (pc := 123) dX11_sweeps_123 (by omega) ?_
    refine g_aload_n (pc := 124) (r := .inl (some x)) dX11_sweeps_124 rfl ?_
    refine g_getf (pc := 125) (v := vR (x + 19)) flX11_67 dX11_sweeps_125 hx rfl ?_
    refine g_iconst (pc := 128) dX11_sweeps_128 ?_
    refine g_iload_n (pc := 129) (x := (ro : Int)) dX11_sweeps_129 rfl ?_
    refine g_imul (pc := 130) dX11_sweeps_130 ?_
    refine g_iload (pc := 131) (x := xc) dX11_sweeps_131 rfl ?_
    refine g_iadd (pc := 133) dX11_sweeps_133 ?_
    refine g_ialdN (pc := 134) (j := 5 * ro + c) dX11_sweeps_134 hE (by omega) (by omega) (by omega) ?_
    rw [e2]
    refine g_i2l (pc := 135) dX11_sweeps_135 (by omega) ?_
    refine g_lmul (pc := 136) dX11_sweeps_136 ?_
    refine g_lsub (pc := 137) dX11_sweeps_137 ?_
    refine g_iload_n (pc := 138) (x := (q : Int)) dX11_sweeps_138 rfl ?_
    refine g_callS0 (pc := 139) (as := [vJ ((E0 (5 * r + c)) - ((by9 : Int) * (E0 (5 * ro + c)))), vI (q : Int)]) (st := [vI ((5 * (r : Int)) + xc), vR (x + 19)]) lsX11_116 dX11_sweeps_139 (Nat.le_of_ble_eq_true rfl) (by omega) (Nat.zero_le _) (Nat.zero_le _) (c_mrestOf (d := d) (by omega) (by omega) (by omega)) ?_
    rintro r8 h2 ⟨e9, rfl⟩
    subst e9
    refine g_iastN (pc := 142) (j := 5 * r + c) dX11_sweeps_142 hE (by omega) (by omega) (by omega) ?_
    have hE_1 := hE.self (e := eA 0 20 (va_up E (5 * r + c) ((E0 (5 * r + c) - (by9 : Int) * E0 (5 * ro + c)) % (q : Int))))
    refine g_iinc (pc := 143) (x := xc) (lo2 := [(0, vR x), (1, vI (n : Int)), (2, vI (q : Int)), (3, vI (ro : Int)), (4, vI (co : Int)), (5, vI (g : Int)), (6, vI (u : Int)), (7, vI (iv : Int)), (8, vI (r : Int)), (9, vI (by9 : Int)), (10, vI (xc + 1))]) dX11_sweeps_143 rfl (by decide) rfl ?_
    refine g_goto (pc := 146) (tgt := 91) dX11_sweeps_146 (by decide) ?_
    refine ih (c + 1) _ _ _ (by omega) (by omega) hE_1 (fun c2 z1 => ?_) (fun j z1 => ?_) (fun a z1 => (va_up_ne _ _ z1).trans (hk a z1))
    · by_cases hcc : c2 = c
      · subst hcc
        rw [va_up_self]
      · rw [va_up_ne _ _ (by omega)]
        exact f1 c2 (by omega)
    · rw [va_up_ne _ _ (by omega)]
      exact f2 j (by omega)

theorem swe_l3 {N d x n q ro co g u iv Ls : Nat} {th wd pm fm mu um pr ts : Int} {sx E0 Rk : Nat → Int} {h0 : MH} (hn : n ≤ 4) (hq : 0 < q) (hq2 : q ≤ 500) (hro : ro < n) (hco : co < n) (hg : 0 < g) (hg5 : g ≤ 500) (hiv : iv ≤ 500) (hRk : ∀ r, r < 4 → Rk r = 0 ∨ Rk r = 1) (hRo : Rk ro = 1) (hEr : ∀ r c, r < n → c ≤ n → 0 ≤ E0 (5 * r + c) ∧ E0 (5 * r + c) < q) (hx0 : Hd (0, 0, N) h0 x (mdl x th wd pm fm mu um pr ts)) (hR0 : Hd (0, 0, N) h0 (x + 20) (eA 2 4 Rk)) : ∀ (f r : Nat) (xr : Int) (E : Nat → Int) (h : MH), r + f = n → xr = (r : Int) → Hd (0, 0, N) h (x + 19) (eA 0 20 E) → (∀ r2, r2 < r → Rk r2 = 0 → ∀ c2, c2 ≤ n → E (5 * r2 + c2) = (E0 (5 * r2 + c2) - (((((E0 (5 * r2 + co)).toNat / g) * iv % q : Nat)) : Int) * E0 (5 * ro + c2)) % (q : Int)) → (∀ r2, (r2 < n → r ≤ r2 ∨ ¬ Rk r2 = 0) → ∀ c2, c2 < 5 → E (5 * r2 + c2) = E0 (5 * r2 + c2)) → (∀ a, a ≠ x + 19 → h a = h0 a) → G mX11_sweeps (d + 1, 0, 0, Ls, sx) 47 [(0, vR x), (1, vI (n : Int)), (2, vI (q : Int)), (3, vI (ro : Int)), (4, vI (co : Int)), (5, vI (g : Int)), (6, vI (u : Int)), (7, vI (iv : Int)), (8, vI xr)] [] (0, 0, N) h (Pq mX11_sweeps 0 0 (fun r9 h2 => r9 = none ∧ (∃ E2, h2 (x + 19) = eA 0 20 E2 ∧ (∀ r2, r2 < n → Rk r2 = 0 → ∀ c2, c2 ≤ n → E2 (5 * r2 + c2) = (E0 (5 * r2 + c2) - (((((E0 (5 * r2 + co)).toNat / g) * iv % q : Nat)) : Int) * E0 (5 * ro + c2)) % (q : Int)) ∧ (∀ r2, (r2 < n → ¬ Rk r2 = 0) → ∀ c2, c2 < 5 → E2 (5 * r2 + c2) = E0 (5 * r2 + c2))) ∧ ∀ a, a ≠ x + 19 → h2 a = h0 a)) := by
  intro f
  induction f with
  | zero =>
    intro r xr E h hf ex hE f1 f2 hk
    have hx := hx0.keep (hk x (by omega))
    have hR := hR0.keep (hk (x + 20) (by omega))
    refine g_iload (pc := 47) (x := xr) dX11_sweeps_47 rfl ?_
    refine g_iload_n (pc := 49) (x := (n : Int)) dX11_sweeps_49 rfl ?_
    refine g_icmp_geT (pc := 50) (tgt := 155) dX11_sweeps_50 (by decide) (by omega) (by omega) (by omega) ?_
    exact r_void (pc := 155) dX11_sweeps_155 rfl rfl (Nat.le_refl _) ⟨rfl, ⟨E, hE.2, fun r2 z1 => f1 r2 (by omega), fun r2 z1 => f2 r2 (fun z2 => Or.inr (z1 z2))⟩, hk⟩
  | succ f ih =>
    intro r xr E h hf ex hE f1 f2 hk
    have hx := hx0.keep (hk x (by omega))
    have hR := hR0.keep (hk (x + 20) (by omega))
    have rr := hRk r (by omega)
    have e1 := f2 r (fun _ => Or.inl (Nat.le_refl r)) co (by omega)
    have b1 := hEr r co (by omega) (by omega)
    obtain ⟨v, ev⟩ : ∃ v : Nat, E0 (5 * r + co) = (v : Int) := ⟨(E0 (5 * r + co)).toNat, by omega⟩
    have etn : (E0 (5 * r + co)).toNat = v := by omega
    have ed := tdivN (rfl : (v : Int) = (v : Int)) (rfl : (g : Int) = (g : Int))
    have hvg := Nat.div_le_self v g
    have hvi : v / g * iv ≤ 250000 := by
      have := Nat.mul_le_mul (show v / g ≤ 500 by omega) hiv
      omega
    have em : (((v / g : Nat) : Int) * (iv : Int)).tmod (q : Int) = ((v / g * iv % q : Nat) : Int) := tmodN (by rw [Int.natCast_mul]) rfl
    have hvI : ((v / g : Nat) : Int) * (iv : Int) = ((v / g * iv : Nat) : Int) := (Int.natCast_mul _ _).symm
    have hml := Nat.mod_lt (v / g * iv) hq
    refine g_iload (pc := 47) (x := xr) dX11_sweeps_47 rfl ?_
    refine g_iload_n (pc := 49) (x := (n : Int)) dX11_sweeps_49 rfl ?_
    refine g_icmp_geF (pc := 50) (tgt := 155) dX11_sweeps_50 (by decide) (by omega) (by omega) (by omega) ?_
    refine g_aload_n (pc := 53) (r := .inl (some x)) dX11_sweeps_53 rfl ?_
    refine g_getf (pc := 54) (v := vR (x + 20)) flX11_70 dX11_sweeps_54 hx rfl ?_
    refine g_iload (pc := 57) (x := xr) dX11_sweeps_57 rfl ?_
    refine g_zaldN (pc := 59) (j := r) dX11_sweeps_59 hR (by omega) (by omega) (by omega) ?_
    refine g_if_eq (pc := 60) (tgt := 66) dX11_sweeps_60 (by decide) (by omega) (fun h9 => ?_) (fun h9 => ?_)
    · subst ex
      refine g_aload_n (pc := 66) (r := .inl (some x)) dX11_sweeps_66 rfl ?_
      refine g_getf (pc := 67) (v := vR (x + 19)) flX11_67 dX11_sweeps_67 hx rfl ?_
      refine g_iconst (pc := 70) dX11_sweeps_70 ?_
      refine g_iload (pc := 71) (x := (r : Int)) dX11_sweeps_71 rfl ?_
      refine g_imul (pc := 73) dX11_sweeps_73 ?_
      refine g_iload (pc := 74) (x := (co : Int)) dX11_sweeps_74 rfl ?_
      refine g_iadd (pc := 76) dX11_sweeps_76 ?_
      refine g_ialdN (pc := 77) (j := 5 * r + co) dX11_sweeps_77 hE (by omega) (by omega) (by omega) ?_
      rw [e1, ev]
      refine g_iload (pc := 78) (x := (g : Int)) dX11_sweeps_78 rfl ?_
      refine g_idiv (pc := 80) dX11_sweeps_80 (by omega) (by omega) (by omega) ?_
      rw [ed]
      refine g_iload (pc := 81) (x := (iv : Int)) dX11_sweeps_81 rfl ?_
      refine g_imul (pc := 83) dX11_sweeps_83 ?_
      refine g_iload_n (pc := 84) (x := (q : Int)) dX11_sweeps_84 rfl ?_
      rw [hvI]
      rw [hvI] at em
      obtain ⟨V9, eV⟩ : ∃ V9, V9 = v / g * iv := ⟨_, rfl⟩
      rw [← eV] at em hml hvi ⊢
      refine g_irem (pc := 85) dX11_sweeps_85 (by omega) (by omega) (by omega) ?_
      rw [em]
      refine g_istore (pc := 86) (lo2 := [(0, vR x), (1, vI (n : Int)), (2, vI (q : Int)), (3, vI (ro : Int)), (4, vI (co : Int)), (5, vI (g : Int)), (6, vI (u : Int)), (7, vI (iv : Int)), (8, vI (r : Int)), (9, vI ((V9 % q : Nat) : Int))]) dX11_sweeps_86 (by decide) rfl ?_
      refine g_iconst (pc := 88) dX11_sweeps_88 ?_
      refine g_istore (pc := 89) (lo2 := [(0, vR x), (1, vI (n : Int)), (2, vI (q : Int)), (3, vI (ro : Int)), (4, vI (co : Int)), (5, vI (g : Int)), (6, vI (u : Int)), (7, vI (iv : Int)), (8, vI (r : Int)), (9, vI ((V9 % q : Nat) : Int)), (10, vI 0)]) dX11_sweeps_89 (by decide) rfl ?_
      refine swe_l2 (h0 := h0) (E0 := E) (by9 := V9 % q) hn hq hq2 (show r < n by omega) hro (fun z => by rw [z] at h9; omega) (by omega) (fun r2 c2 z1 z2 => ?_) hx0 (fun E3 h3 hE3 u1 u2 k3 => ?_) (n + 1) 0 _ E h (by omega) rfl hE (fun c2 z => absurd z (Nat.not_lt_zero c2)) (fun _ _ => rfl) hk
      · by_cases hd2 : r2 < r ∧ Rk r2 = 0
        · rw [f1 r2 hd2.1 hd2.2 c2 z2]
          exact ⟨Int.emod_nonneg _ (by omega), Int.emod_lt_of_pos _ (by omega)⟩
        · rw [f2 r2 (fun _ => by omega) c2 (by omega)]
          exact hEr r2 c2 z1 z2
      · refine g_iinc (pc := 149) (x := (r : Int)) (lo2 := [(0, vR x), (1, vI (n : Int)), (2, vI (q : Int)), (3, vI (ro : Int)), (4, vI (co : Int)), (5, vI (g : Int)), (6, vI (u : Int)), (7, vI (iv : Int)), (8, vI ((r : Int) + 1))]) dX11_sweeps_149 rfl (by decide) rfl ?_
        refine g_goto (pc := 152) (tgt := 47) dX11_sweeps_152 (by decide) ?_
        refine ih (r + 1) _ E3 h3 (by omega) (by omega) hE3 (fun r2 z1 z2 c2 z3 => ?_) (fun r2 z1 c2 z2 => ?_) k3
        · by_cases hrr : r2 = r
          · subst hrr
            rw [u1 c2 (by omega), f2 r2 (fun _ => Or.inl (Nat.le_refl _)) c2 (by omega), f2 ro (fun _ => Or.inr (by omega)) c2 (by omega), etn, ← eV]
          · rw [u2 _ (by omega)]
            exact f1 r2 (by omega) z2 c2 z3
        · by_cases hrr : r2 = r
          · exfalso
            have := z1 (by omega)
            rw [hrr] at this
            omega
          · rw [u2 _ (by omega)]
            exact f2 r2 (fun y => by have := z1 y; omega) c2 z2
    · refine g_goto (pc := 63) (tgt := 149) dX11_sweeps_63 (by decide) ?_
      refine g_iinc (pc := 149) (x := xr) (lo2 := [(0, vR x), (1, vI (n : Int)), (2, vI (q : Int)), (3, vI (ro : Int)), (4, vI (co : Int)), (5, vI (g : Int)), (6, vI (u : Int)), (7, vI (iv : Int)), (8, vI (xr + 1))]) dX11_sweeps_149 rfl (by decide) rfl ?_
      refine g_goto (pc := 152) (tgt := 47) dX11_sweeps_152 (by decide) ?_
      refine ih (r + 1) _ E h (by omega) (by omega) hE (fun r2 z1 z2 c2 z3 => ?_) (fun r2 z1 c2 z2 => f2 r2 (fun y => by have := z1 y; omega) c2 z2) hk
      exact f1 r2 (by
        by_cases hrr : r2 = r
        · rw [hrr] at z2
          omega
        · omega) z2 c2 z3

theorem inv_ex {u m : Nat} (m2 : 2 ≤ m) (h : Nat.Coprime u m) : ∃ i, 1 ≤ i ∧ i ≤ m ∧ i * u % m = 1 := by
  obtain ⟨x, y, e⟩ := bez u m
  rw [h] at e
  have n0 := Int.emod_nonneg x (show (m : Int) ≠ 0 by omega)
  have n1 := Int.emod_lt_of_pos x (show (0 : Int) < m by omega)
  obtain ⟨i, ei⟩ : ∃ i : Nat, x % (m : Int) = (i : Int) := ⟨(x % (m : Int)).toNat, by omega⟩
  have hi : ((i * u % m : Nat) : Int) = 1 := by
    rw [Int.natCast_emod, Int.natCast_mul, ← ei]
    refine eq_of_dvd (p := m) ⟨Int.emod_nonneg _ (by omega), Int.emod_lt_of_pos _ (by omega)⟩ ⟨by omega, by omega⟩ ?_
    have h1 := Int.mul_ediv_add_emod x (m : Int)
    have h2 := Int.mul_ediv_add_emod (x % (m : Int) * (u : Int)) (m : Int)
    refine ⟨-y - (x / (m : Int)) * u - (x % (m : Int) * (u : Int)) / (m : Int), ?_⟩
    generalize x / (m : Int) = a at *
    generalize (x % (m : Int) * (u : Int)) / (m : Int) = c at *
    generalize (x % (m : Int) * (u : Int)) % (m : Int) = d at *
    generalize x % (m : Int) = b at *
    grind
  refine ⟨i, Nat.pos_of_ne_zero (fun z => ?_), by omega, by omega⟩
  rw [z, Nat.zero_mul, Nat.zero_mod] at hi
  omega

theorem c_sweeps {N d x n q ro co g u m : Nat} {th wd pm fm mu um pr ts : Int} {E0 Rk : Nat → Int} {h : MH} (hn : n ≤ 4) (hq : 0 < q) (hq2 : q ≤ 500) (hro : ro < n) (hco : co < n) (hg : 0 < g) (hg5 : g ≤ 500) (hRk : ∀ r, r < 4 → Rk r = 0 ∨ Rk r = 1) (hRo : Rk ro = 1) (hEr : ∀ r c, r < n → c ≤ n → 0 ≤ E0 (5 * r + c) ∧ E0 (5 * r + c) < q) (hxA : Hd (0, 0, N) h x (mdl x th wd pm fm mu um pr ts)) (hRA : Hd (0, 0, N) h (x + 20) (eA 2 4 Rk)) (hm : q / g = m) (m2 : 2 ≤ m) (hu : u ≤ 500) (hpv : E0 (5 * ro + co) = ((g * u : Nat) : Int)) (hcp : Nat.Coprime u m) (hE : Hd (0, 0, N) h (x + 19) (eA 0 20 E0)) : Ok mX11_sweeps (d + 1) 0 0 [vR x, vI (n : Int), vI (q : Int), vI (ro : Int), vI (co : Int), vI (g : Int)] N h (fun r9 h2 => ∃ iv : Nat, iv * u % m = 1 ∧ r9 = none ∧ (∃ E2, h2 (x + 19) = eA 0 20 E2 ∧ (∀ r2, r2 < n → Rk r2 = 0 → ∀ c2, c2 ≤ n → E2 (5 * r2 + c2) = (E0 (5 * r2 + c2) - (((((E0 (5 * r2 + co)).toNat / g) * iv % q : Nat)) : Int) * E0 (5 * ro + c2)) % (q : Int)) ∧ (∀ r2, (r2 < n → ¬ Rk r2 = 0) → ∀ c2, c2 < 5 → E2 (5 * r2 + c2) = E0 (5 * r2 + c2))) ∧ ∀ a, a ≠ x + 19 → h2 a = h a) := by
  refine Ok.of pfX11_sweeps rfl (Nat.le_of_ble_eq_true rfl) (fun Ls sx => ?_)
  show G mX11_sweeps (d + 1, 0, 0, Ls, sx) 0 [(0, vR x), (1, vI (n : Int)), (2, vI (q : Int)), (3, vI (ro : Int)), (4, vI (co : Int)), (5, vI (g : Int))] [] (0, 0, N) h _
  have ed := tdivN (rfl : ((g * u : Nat) : Int) = ((g * u : Nat) : Int)) (rfl : (g : Int) = (g : Int))
  rw [Nat.mul_div_cancel_left _ hg] at ed
  have hgu : g * u < q := by
    have := (hEr ro co hro (by omega)).2
    rw [hpv] at this
    omega
  obtain ⟨i0, i1, i2, i3⟩ := inv_ex m2 hcp
  have hm5 : m ≤ q := by rw [← hm]; exact Nat.div_le_self _ _
  have hxh := hxA
  have hRh := hRA
  refine g_aload_n (pc := 0) (r := .inl (some x)) dX11_sweeps_0 rfl ?_
  refine g_getf (pc := 1) (v := vR (x + 19)) flX11_67 dX11_sweeps_1 hxh rfl ?_
  refine g_iconst (pc := 4) dX11_sweeps_4 ?_
  refine g_iload_n (pc := 5) (x := (ro : Int)) dX11_sweeps_5 rfl ?_
  refine g_imul (pc := 6) dX11_sweeps_6 ?_
  refine g_iload (pc := 7) (x := (co : Int)) dX11_sweeps_7 rfl ?_
  refine g_iadd (pc := 9) dX11_sweeps_9 ?_
  refine g_ialdN (pc := 10) (j := 5 * ro + co) dX11_sweeps_10 hE (by omega) (by omega) (by omega) ?_
  rw [hpv]
  refine g_iload (pc := 11) (x := (g : Int)) dX11_sweeps_11 rfl ?_
  refine g_idiv (pc := 13) dX11_sweeps_13 (by omega) (by omega) (by omega) ?_
  rw [ed]
  refine g_istore (pc := 14) (lo2 := [(0, vR x), (1, vI (n : Int)), (2, vI (q : Int)), (3, vI (ro : Int)), (4, vI (co : Int)), (5, vI (g : Int)), (6, vI (u : Int))]) dX11_sweeps_14 (by decide) rfl ?_
  refine g_iconst (pc := 16) dX11_sweeps_16 ?_
  refine g_istore (pc := 17) (lo2 := [(0, vR x), (1, vI (n : Int)), (2, vI (q : Int)), (3, vI (ro : Int)), (4, vI (co : Int)), (5, vI (g : Int)), (6, vI (u : Int)), (7, vI 1)]) dX11_sweeps_17 (by decide) rfl ?_
  refine swe_l1 hg hm m2 hg5 (by omega) hq2 hu (show i0 ≤ 500 by omega) i3 (fun iv j1 j2 j3 => ?_) (i0 - 1) 1 _ (by omega) rfl (by omega)
  refine g_iconst (pc := 44) dX11_sweeps_44 ?_
  refine g_istore (pc := 45) (lo2 := [(0, vR x), (1, vI (n : Int)), (2, vI (q : Int)), (3, vI (ro : Int)), (4, vI (co : Int)), (5, vI (g : Int)), (6, vI (u : Int)), (7, vI (iv : Int)), (8, vI 0)]) dX11_sweeps_45 (by decide) rfl ?_
  refine Q_mono (swe_l3 (h0 := h) (u := u) hn hq hq2 hro hco hg hg5 j2 hRk hRo hEr hxA hRA n 0 _ E0 h (by omega) rfl hE (fun r2 z => absurd z (Nat.not_lt_zero r2)) (fun _ _ _ _ => rfl) (fun _ _ => rfl)) ?_
  rintro r9 h2 hh
  exact ⟨iv, j3, hh⟩
