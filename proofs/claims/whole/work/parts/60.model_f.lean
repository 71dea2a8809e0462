/-! ===== the reference: leaps, isStill ===== -/
theorem leaps_l {κ : KX} {N x : Nat} {th pm fm mu um pr ts : Int} {i n M t : Nat} {V : Nat → Int} (hn : n ≤ 4) (hi : i < 6) {P : Option MV → MH → Prop} : ∀ (k j : Nat) (xj : Int) (h : MH) (Pl : Nat → Int), j + k = n → xj = (j : Int) → Hd (0, 0, N) h x (mdl x th ((n + 1 : Nat) : Int) pm fm mu um pr ts) → Hd (0, 0, N) h (x + 7) (eA 0 24 Pl) → Hd (0, 0, N) h (x + 14) (eA 0 4 V) → (∀ h2 P2, Hd (0, 0, N) h2 (x + 7) (eA 0 24 P2) → (∀ b, b ≠ x + 7 → h2 b = h b) → (∀ a, j ≤ a → a < n → P2 (4 * i + a) = V a) → (∀ a, (a < 4 * i + j ∨ 4 * i + n ≤ a) → P2 a = Pl a) → P none h2) → G mX11_leaps κ 42 [(0, vR x), (1, vI (i : Int)), (2, vJ (t : Int)), (4, vI (M : Int)), (5, vI (n : Int)), (6, vI xj)] [] (0, 0, N) h (Pq mX11_leaps 0 0 P) := by
  intro k
  induction k with
  | zero =>
    intro j xj h Pl hk ex hx hP hV hK
    refine g_iload (pc := 42) (x := xj) dX11_leaps_42 rfl ?_
    refine g_iload (pc := 44) (x := (n : Int)) dX11_leaps_44 rfl ?_
    refine g_icmp_geT (pc := 46) (tgt := 73) dX11_leaps_46 (by decide) (by omega) (by omega) (by omega) ?_
    exact r_void (pc := 73) dX11_leaps_73 rfl rfl (Nat.le_refl _) (hK h Pl hP (fun _ _ => rfl) (fun a _ _ => by omega) (fun _ _ => rfl))
  | succ k ih =>
    intro j xj h Pl hk ex hx hP hV hK
    refine g_iload (pc := 42) (x := xj) dX11_leaps_42 rfl ?_
    refine g_iload (pc := 44) (x := (n : Int)) dX11_leaps_44 rfl ?_
    refine g_icmp_geF (pc := 46) (tgt := 73) dX11_leaps_46 (by decide) (by omega) (by omega) (by omega) ?_
    refine g_aload_n (pc := 49) (r := .inl (some x)) dX11_leaps_49 rfl ?_
    refine g_getf (pc := 50) (v := vR (x + 7)) flX11_29 dX11_leaps_50 hx rfl ?_
    refine g_iconst (pc := 53) dX11_leaps_53 ?_
    refine g_iload_n (pc := 54) (x := (i : Int)) dX11_leaps_54 rfl ?_
    refine g_imul (pc := 55) dX11_leaps_55 ?_
    refine g_iload (pc := 56) (x := xj) dX11_leaps_56 rfl ?_
    refine g_iadd (pc := 58) dX11_leaps_58 ?_
    refine g_aload_n (pc := 59) (r := .inl (some x)) dX11_leaps_59 rfl ?_
    refine g_getf (pc := 60) (v := vR (x + 14)) flX11_51 dX11_leaps_60 hx rfl ?_
    refine g_iload (pc := 63) (x := xj) dX11_leaps_63 rfl ?_
    refine g_ialdN (pc := 65) (j := j) dX11_leaps_65 hV (by omega) (by omega) (by omega) ?_
    refine g_iastN (pc := 66) (j := 4 * i + j) dX11_leaps_66 hP (by omega) (by omega) (by omega) ?_
    have hx_1 := hx.ne (e := eA 0 24 (va_up Pl (4 * i + j) (V j))) (a := x + 7) (by omega)
    have hP_1 := hP.self (e := eA 0 24 (va_up Pl (4 * i + j) (V j)))
    have hV_1 := hV.ne (e := eA 0 24 (va_up Pl (4 * i + j) (V j))) (a := x + 7) (by omega)
    refine g_iinc (pc := 67) (x := xj) (lo2 := [(0, vR x), (1, vI (i : Int)), (2, vJ (t : Int)), (4, vI (M : Int)), (5, vI (n : Int)), (6, vI (xj + 1))]) dX11_leaps_67 rfl (by decide) rfl ?_
    refine g_goto (pc := 70) (tgt := 42) dX11_leaps_70 (by decide) ?_
    refine ih (j + 1) (xj + 1) _ _ (by omega) (by omega) hx_1 hP_1 hV_1 (fun h2 P2 q1 q2 q3 q4 => hK h2 P2 q1 (fun b hb => (q2 b hb).trans (va_up_ne _ _ hb)) (fun a a1 a2 => ?_) (fun a a1 => ?_))
    · by_cases hj : a = j
      · subst hj
        rw [q4 _ (by omega), va_up_self]
      · exact q3 a (by omega) a2
    · rw [q4 a (by omega), va_up_ne _ _ (by omega)]

theorem c_leaps {N d x : Nat} {th wd pm fm mu um pr ts : Int} {i n M t : Nat} {Ms Sz Tb Mo Pl : Nat → Int} (hn : n ≤ 4) (hi : i < 6) (hq : 2 ≤ M) (hq2 : M ≤ 500) (rT : rng Tb) (rM : rng Mo) (hz : Sz i = (n : Int)) (hm : Ms i = (M : Int)) (ht : (t : Int) ≤ 9223372036854775807) (rPl : rng Pl) {h : MH} (hx : Hd (0, 0, N) h x (mdl x th wd pm fm mu um pr ts)) (hZ : Hd (0, 0, N) h (x + 4) (eA 0 6 Sz)) (hTb : Hd (0, 0, N) h (x + 5) (eA 0 96 Tb)) (hMo : Hd (0, 0, N) h (x + 6) (eA 0 24 Mo)) (s10 : Sc N h (x + 10) 25) (s11 : Sc N h (x + 11) 25) (s12 : Sc N h (x + 12) 25) (hMs : Hd (0, 0, N) h (x + 3) (eA 0 6 Ms)) (hP : Hd (0, 0, N) h (x + 7) (eA 0 24 Pl)) (s13 : Sc N h (x + 13) 4) (s14 : Sc N h (x + 14) 4) : Ok mX11_leaps (d + 2) 0 0 [vR x, vI (i : Int), vJ (t : Int)] N h (fun r h2 => r = none ∧ (∀ b, b ≠ x → b ≠ x + 7 → b ≠ x + 10 → b ≠ x + 11 → b ≠ x + 12 → b ≠ x + 13 → b ≠ x + 14 → h2 b = h b) ∧ h2 x = mdl x th ((n + 1 : Nat) : Int) pm fm mu um pr ts ∧ Sc N h2 (x + 10) 25 ∧ Sc N h2 (x + 11) 25 ∧ Sc N h2 (x + 12) 25 ∧ Sc N h2 (x + 13) 4 ∧ Sc N h2 (x + 14) 4 ∧ ∃ P9, h2 (x + 7) = eA 0 24 P9 ∧ rng P9 ∧ (∀ a, a < n → P9 (4 * i + a) = goF n M (mp (n + 1) M (baF n M i Tb Mo) t) (fun j => Pl (4 * i + j) % (M : Int)) a) ∧ ∀ a, (a < 4 * i ∨ 4 * i + n ≤ a) → P9 a = Pl a) := by
  refine Ok.of pfX11_leaps rfl (Nat.le_of_ble_eq_true rfl) (fun Ls sx => ?_)
  show G mX11_leaps (d + 2, 0, 0, Ls, sx) 0 [(0, vR x), (1, vI (i : Int)), (2, vJ (t : Int))] [] (0, 0, N) h _
  obtain ⟨B, hB, rB⟩ := s10
  obtain ⟨Pw, hPw, rP⟩ := s11
  obtain ⟨T, hT, rT2⟩ := s12
  obtain ⟨Y, hY, rY⟩ := s13
  obtain ⟨V, hV, rV⟩ := s14
  refine g_aload_n (pc := 0) (r := .inl (some x)) dX11_leaps_0 rfl ?_
  refine g_getf (pc := 1) (v := vR (x + 3)) flX11_17 dX11_leaps_1 hx rfl ?_
  refine g_iload_n (pc := 4) (x := (i : Int)) dX11_leaps_4 rfl ?_
  refine g_ialdN (pc := 5) (j := i) dX11_leaps_5 hMs (by omega) (by omega) (by omega) ?_
  rw [hm]
  refine g_istore (pc := 6) (lo2 := [(0, vR x), (1, vI (i : Int)), (2, vJ (t : Int)), (4, vI (M : Int))]) dX11_leaps_6 (by decide) rfl ?_
  refine g_aload_n (pc := 8) (r := .inl (some x)) dX11_leaps_8 rfl ?_
  refine g_getf (pc := 9) (v := vR (x + 4)) flX11_20 dX11_leaps_9 hx rfl ?_
  refine g_iload_n (pc := 12) (x := (i : Int)) dX11_leaps_12 rfl ?_
  refine g_ialdN (pc := 13) (j := i) dX11_leaps_13 hZ (by omega) (by omega) (by omega) ?_
  rw [hz]
  refine g_istore (pc := 14) (lo2 := [(0, vR x), (1, vI (i : Int)), (2, vJ (t : Int)), (4, vI (M : Int)), (5, vI (n : Int))]) dX11_leaps_14 (by decide) rfl ?_
  refine g_aload_n (pc := 16) (r := .inl (some x)) dX11_leaps_16 rfl ?_
  refine g_iload_n (pc := 17) (x := (i : Int)) dX11_leaps_17 rfl ?_
  refine g_lload_n (pc := 18) (x := (t : Int)) dX11_leaps_18 rfl ?_
  refine g_iload (pc := 19) (x := (M : Int)) dX11_leaps_19 rfl ?_
  refine g_callV0 (pc := 21) (as := [vI (i : Int), vJ (t : Int), vI (M : Int)]) (b := x) (st := []) lvX11_133 dX11_leaps_21 hx (Nat.le_of_ble_eq_true rfl) (by omega) (Nat.zero_le _) (Nat.zero_le _) (c_powers (d := d) (q := M) (t := t) hn hi (by omega) hq2 rT rM hz ht rB rP rT2 hx hZ hTb hMo hB hPw hT) ?_
  rintro r h2 ⟨rfl, c1, c2, ⟨B2, c3, rB2⟩, ⟨T2, c4, rT3⟩, P2, c5, rP2, c6⟩
  have hx_1 := hx.to c2
  have hZ_1 := hZ.keep (c1 _ (by omega) (by omega) (by omega) (by omega))
  have hTb_1 := hTb.keep (c1 _ (by omega) (by omega) (by omega) (by omega))
  have hMo_1 := hMo.keep (c1 _ (by omega) (by omega) (by omega) (by omega))
  have hB_1 := hB.to c3
  have hPw_1 := hPw.to c5
  have hT_1 := hT.to c4
  have hMs_1 := hMs.keep (c1 _ (by omega) (by omega) (by omega) (by omega))
  have hP_1 := hP.keep (c1 _ (by omega) (by omega) (by omega) (by omega))
  have hY_1 := hY.keep (c1 _ (by omega) (by omega) (by omega) (by omega))
  have hV_1 := hV.keep (c1 _ (by omega) (by omega) (by omega) (by omega))
  refine g_aload_n (pc := 24) (r := .inl (some x)) dX11_leaps_24 rfl ?_
  refine g_iload_n (pc := 25) (x := (i : Int)) dX11_leaps_25 rfl ?_
  refine g_iload (pc := 26) (x := (M : Int)) dX11_leaps_26 rfl ?_
  refine g_callV0 (pc := 28) (as := [vI (i : Int), vI (M : Int)]) (b := x) (st := []) lvX11_137 dX11_leaps_28 hx_1 (Nat.le_of_ble_eq_true rfl) (by omega) (Nat.zero_le _) (Nat.zero_le _) (c_plateIs (d := d + 1) (q := M) hn hi hz (by omega) hq2 rPl hx_1 hZ_1 hP_1 hY_1) ?_
  rintro r h3 ⟨rfl, e1, Y2, e2, e3, e4⟩
  have hx_2 := hx_1.keep (e1 _ (by omega))
  have hZ_2 := hZ_1.keep (e1 _ (by omega))
  have hTb_2 := hTb_1.keep (e1 _ (by omega))
  have hMo_2 := hMo_1.keep (e1 _ (by omega))
  have hB_2 := hB_1.keep (e1 _ (by omega))
  have hPw_2 := hPw_1.keep (e1 _ (by omega))
  have hT_2 := hT_1.keep (e1 _ (by omega))
  have hMs_2 := hMs_1.keep (e1 _ (by omega))
  have hP_2 := hP_1.keep (e1 _ (by omega))
  have hY_2 := hY_1.to e2
  have hV_2 := hV_1.keep (e1 _ (by omega))
  have rY2 : rng Y2 := by
    intro j
    by_cases hj : j < n
    · rw [e3 j hj]
      have g1 := Int.emod_nonneg (Pl (4 * i + j)) (show (M : Int) ≠ 0 by omega)
      have g2 := Int.emod_lt_of_pos (Pl (4 * i + j)) (show 0 < (M : Int) by omega)
      omega
    · rw [e4 j (by omega)]
      exact rY j
  refine g_aload_n (pc := 31) (r := .inl (some x)) dX11_leaps_31 rfl ?_
  refine g_iload (pc := 32) (x := (n : Int)) dX11_leaps_32 rfl ?_
  refine g_iload (pc := 34) (x := (M : Int)) dX11_leaps_34 rfl ?_
  refine g_callV0 (pc := 36) (as := [vI (n : Int), vI (M : Int)]) (b := x) (st := []) lvX11_140 dX11_leaps_36 hx_2 (Nat.le_of_ble_eq_true rfl) (by omega) (Nat.zero_le _) (Nat.zero_le _) (c_goes (d := d + 1) (q := M) hn (by omega) hq2 rP2 rY2 hx_2 hPw_2 hY_2 hV_2) ?_
  rintro r h4 ⟨rfl, f1, V2, f2, f3, f4⟩
  have hx_3 := hx_2.keep (f1 _ (by omega))
  have hZ_3 := hZ_2.keep (f1 _ (by omega))
  have hTb_3 := hTb_2.keep (f1 _ (by omega))
  have hMo_3 := hMo_2.keep (f1 _ (by omega))
  have hB_3 := hB_2.keep (f1 _ (by omega))
  have hPw_3 := hPw_2.keep (f1 _ (by omega))
  have hT_3 := hT_2.keep (f1 _ (by omega))
  have hMs_3 := hMs_2.keep (f1 _ (by omega))
  have hP_3 := hP_2.keep (f1 _ (by omega))
  have hY_3 := hY_2.keep (f1 _ (by omega))
  have hV_3 := hV_2.to f2
  have rV2 := rng_go (by omega) hq2 rV f3 f4
  refine g_iconst (pc := 39) dX11_leaps_39 ?_
  refine g_istore (pc := 40) (lo2 := [(0, vR x), (1, vI (i : Int)), (2, vJ (t : Int)), (4, vI (M : Int)), (5, vI (n : Int)), (6, vI 0)]) dX11_leaps_40 (by decide) rfl ?_
  refine leaps_l hn hi n 0 _ h4 Pl (by omega) rfl hx_3 hP_3 hV_3 (fun h5 P9 q1 q2 q3 q4 => ⟨rfl, fun b b1 b2 b3 b4 b5 b6 b7 => (q2 b b2).trans ((f1 b b7).trans ((e1 b b6).trans (c1 b b1 b3 b4 b5))), (q2 _ (by omega)).trans hx_3.2, ⟨_, hB_3.keep (q2 _ (by omega)), rB2⟩, ⟨_, hPw_3.keep (q2 _ (by omega)), rP2⟩, ⟨_, hT_3.keep (q2 _ (by omega)), rT3⟩, ⟨_, hY_3.keep (q2 _ (by omega)), rY2⟩, ⟨_, hV_3.keep (q2 _ (by omega)), rV2⟩, P9, q1.2, fun j => ?_, fun a ha => by rw [q3 a (Nat.zero_le _) ha, f3 a ha, ← goF_cw hn (by omega), c6]; exact goF_congr (fun j hj => e3 j hj), fun a ha => q4 a (by omega)⟩)
  by_cases hj : 4 * i ≤ j ∧ j < 4 * i + n
  · have := q3 (j - 4 * i) (Nat.zero_le _) (by omega)
    rw [show 4 * i + (j - 4 * i) = j by omega] at this
    rw [this]
    exact rV2 _
  · rw [q4 j (by omega)]
    exact rPl j

theorem still_l1 {κ : KX} {N x : Nat} {th pm fm mu um pr ts : Int} {i n q t : Nat} {P2 : Nat → Int} {h : MH} {P : Option MV → MH → Prop} (hn : n ≤ 4) (hx : Hd (0, 0, N) h x (mdl x th ((n + 1 : Nat) : Int) pm fm mu um pr ts)) (hPw : Hd (0, 0, N) h (x + 11) (eA 0 25 P2)) (rP : rng P2) (p0 : (¬ ∀ r c, r < n + 1 → c < n + 1 → P2 (5 * r + c) = if r = c then 1 else 0) → P (some (vI 0)) h) {r : Nat} (hr : r < n + 1) {x5 : Int} (h5 : x5 = (r : Int)) : ∀ (k c : Nat) (x6 : Int), c + k = n + 1 → x6 = (c : Int) → (∀ a, a < c → P2 (5 * r + a) = if r = a then 1 else 0) → ((∀ a, a < n + 1 → P2 (5 * r + a) = if r = a then 1 else 0) → G mX11_isStill κ 67 [(0, vR x), (1, vI (i : Int)), (2, vJ (t : Int)), (4, vI (q : Int)), (5, vI x5)] [] (0, 0, N) h (Pq mX11_isStill 0 0 P)) → G mX11_isStill κ 23 [(0, vR x), (1, vI (i : Int)), (2, vJ (t : Int)), (4, vI (q : Int)), (5, vI x5), (6, vI x6)] [] (0, 0, N) h (Pq mX11_isStill 0 0 P) := by
  intro k
  induction k with
  | zero =>
    intro c x6 hk ex ha hK
    refine g_iload (pc := 23) (x := x6) dX11_isStill_23 rfl ?_
    refine g_aload_n (pc := 25) (r := .inl (some x)) dX11_isStill_25 rfl ?_
    refine g_getf (pc := 26) (v := vI ((n + 1 : Nat) : Int)) flX11_120 dX11_isStill_26 hx rfl ?_
    refine g_icmp_geT (pc := 29) (tgt := 67) dX11_isStill_29 (by decide) (by omega) (by omega) (by omega) ?_
    refine g_pick [0, 1, 2, 3, 4] (lo2 := [(0, vR x), (1, vI (i : Int)), (2, vJ (t : Int)), (4, vI (q : Int)), (5, vI x5)]) rfl ?_
    exact hK (fun a h1 => ha a (by omega))
  | succ k ih =>
    intro c x6 hk ex ha hK
    have r1 := rP (5 * r + c)
    refine g_iload (pc := 23) (x := x6) dX11_isStill_23 rfl ?_
    refine g_aload_n (pc := 25) (r := .inl (some x)) dX11_isStill_25 rfl ?_
    refine g_getf (pc := 26) (v := vI ((n + 1 : Nat) : Int)) flX11_120 dX11_isStill_26 hx rfl ?_
    refine g_icmp_geF (pc := 29) (tgt := 67) dX11_isStill_29 (by decide) (by omega) (by omega) (by omega) ?_
    refine g_aload_n (pc := 32) (r := .inl (some x)) dX11_isStill_32 rfl ?_
    refine g_getf (pc := 33) (v := vR (x + 11)) flX11_42 dX11_isStill_33 hx rfl ?_
    refine g_iconst (pc := 36) dX11_isStill_36 ?_
    refine g_iload (pc := 37) (x := x5) dX11_isStill_37 rfl ?_
    refine g_imul (pc := 39) dX11_isStill_39 ?_
    refine g_iload (pc := 40) (x := x6) dX11_isStill_40 rfl ?_
    refine g_iadd (pc := 42) dX11_isStill_42 ?_
    refine g_ialdN (pc := 43) (j := 5 * r + c) dX11_isStill_43 hPw (by omega) (by omega) (by omega) ?_
    refine g_iload (pc := 44) (x := x5) dX11_isStill_44 rfl ?_
    refine g_iload (pc := 46) (x := x6) dX11_isStill_46 rfl ?_
    refine g_icmp_ne (pc := 48) (tgt := 55) dX11_isStill_48 (by decide) (by omega) (by omega) (fun hrc => ?_) (fun hrc => ?_)
    · refine g_iconst (pc := 55) dX11_isStill_55 ?_
      refine g_icmp_eq (pc := 56) (tgt := 61) dX11_isStill_56 (by decide) (by omega) (by omega) (fun he => ?_) (fun he => ?_)
      · refine g_iinc (pc := 61) (x := x6) (lo2 := [(0, vR x), (1, vI (i : Int)), (2, vJ (t : Int)), (4, vI (q : Int)), (5, vI x5), (6, vI (x6 + 1))]) dX11_isStill_61 rfl (by decide) rfl ?_
        refine g_goto (pc := 64) (tgt := 23) dX11_isStill_64 (by decide) ?_
        exact ih (c + 1) (x6 + 1) (by omega) (by omega) (lt_s ha (by rw [if_neg (by omega)]; exact he)) hK
      · refine g_iconst (pc := 59) dX11_isStill_59 ?_
        exact r_bool (pc := 60) dX11_isStill_60 rfl rfl (Nat.le_refl _) (Or.inl rfl) (p0 (fun z => he (by have := z r c hr (by omega); rw [if_neg (by omega)] at this; exact this)))
    · refine g_iconst (pc := 51) dX11_isStill_51 ?_
      refine g_goto (pc := 52) (tgt := 56) dX11_isStill_52 (by decide) ?_
      refine g_icmp_eq (pc := 56) (tgt := 61) dX11_isStill_56 (by decide) (by omega) (by omega) (fun he => ?_) (fun he => ?_)
      · refine g_iinc (pc := 61) (x := x6) (lo2 := [(0, vR x), (1, vI (i : Int)), (2, vJ (t : Int)), (4, vI (q : Int)), (5, vI x5), (6, vI (x6 + 1))]) dX11_isStill_61 rfl (by decide) rfl ?_
        refine g_goto (pc := 64) (tgt := 23) dX11_isStill_64 (by decide) ?_
        exact ih (c + 1) (x6 + 1) (by omega) (by omega) (lt_s ha (by rw [if_pos (by omega)]; exact he)) hK
      · refine g_iconst (pc := 59) dX11_isStill_59 ?_
        exact r_bool (pc := 60) dX11_isStill_60 rfl rfl (Nat.le_refl _) (Or.inl rfl) (p0 (fun z => he (by have := z r c hr (by omega); rw [if_pos (by omega)] at this; exact this)))

theorem still_l2 {κ : KX} {N x : Nat} {th pm fm mu um pr ts : Int} {i n q t : Nat} {P2 : Nat → Int} {h : MH} {P : Option MV → MH → Prop} (hn : n ≤ 4) (hx : Hd (0, 0, N) h x (mdl x th ((n + 1 : Nat) : Int) pm fm mu um pr ts)) (hPw : Hd (0, 0, N) h (x + 11) (eA 0 25 P2)) (rP : rng P2) (p0 : (¬ ∀ r c, r < n + 1 → c < n + 1 → P2 (5 * r + c) = if r = c then 1 else 0) → P (some (vI 0)) h) (p1 : (∀ r c, r < n + 1 → c < n + 1 → P2 (5 * r + c) = if r = c then 1 else 0) → P (some (vI 1)) h) : ∀ (k r : Nat) (x5 : Int), r + k = n + 1 → x5 = (r : Int) → (∀ a, a < r → ∀ c, c < n + 1 → P2 (5 * a + c) = if a = c then 1 else 0) → G mX11_isStill κ 11 [(0, vR x), (1, vI (i : Int)), (2, vJ (t : Int)), (4, vI (q : Int)), (5, vI x5)] [] (0, 0, N) h (Pq mX11_isStill 0 0 P) := by
  intro k
  induction k with
  | zero =>
    intro r x5 hk ex ha
    refine g_iload (pc := 11) (x := x5) dX11_isStill_11 rfl ?_
    refine g_aload_n (pc := 13) (r := .inl (some x)) dX11_isStill_13 rfl ?_
    refine g_getf (pc := 14) (v := vI ((n + 1 : Nat) : Int)) flX11_120 dX11_isStill_14 hx rfl ?_
    refine g_icmp_geT (pc := 17) (tgt := 73) dX11_isStill_17 (by decide) (by omega) (by omega) (by omega) ?_
    refine g_iconst (pc := 73) dX11_isStill_73 ?_
    exact r_bool (pc := 74) dX11_isStill_74 rfl rfl (Nat.le_refl _) (Or.inr rfl) (p1 (fun r c h1 h2 => ha r (by omega) c h2))
  | succ k ih =>
    intro r x5 hk ex ha
    refine g_iload (pc := 11) (x := x5) dX11_isStill_11 rfl ?_
    refine g_aload_n (pc := 13) (r := .inl (some x)) dX11_isStill_13 rfl ?_
    refine g_getf (pc := 14) (v := vI ((n + 1 : Nat) : Int)) flX11_120 dX11_isStill_14 hx rfl ?_
    refine g_icmp_geF (pc := 17) (tgt := 73) dX11_isStill_17 (by decide) (by omega) (by omega) (by omega) ?_
    refine g_iconst (pc := 20) dX11_isStill_20 ?_
    refine g_istore (pc := 21) (lo2 := [(0, vR x), (1, vI (i : Int)), (2, vJ (t : Int)), (4, vI (q : Int)), (5, vI x5), (6, vI 0)]) dX11_isStill_21 (by decide) rfl ?_
    refine still_l1 (r := r) hn hx hPw rP p0 (by omega) ex (n + 1) 0 _ (by omega) rfl (fun a h1 => by omega) (fun hrow => ?_)
    refine g_iinc (pc := 67) (x := x5) (lo2 := [(0, vR x), (1, vI (i : Int)), (2, vJ (t : Int)), (4, vI (q : Int)), (5, vI (x5 + 1))]) dX11_isStill_67 rfl (by decide) rfl ?_
    refine g_goto (pc := 70) (tgt := 11) dX11_isStill_70 (by decide) ?_
    exact ih (r + 1) (x5 + 1) (by omega) (by omega) (lt_s ha hrow)

theorem c_isStill {N d x : Nat} {th wd pm fm mu um pr ts : Int} {i n q t : Nat} {Sz Tb Mo : Nat → Int} (hn : n ≤ 4) (hi : i < 6) (hq : 2 ≤ q) (hq2 : q ≤ 500) (rT : rng Tb) (rM : rng Mo) (hz : Sz i = (n : Int)) (ht : (t : Int) ≤ 9223372036854775807) {h : MH} (hx : Hd (0, 0, N) h x (mdl x th wd pm fm mu um pr ts)) (hZ : Hd (0, 0, N) h (x + 4) (eA 0 6 Sz)) (hTb : Hd (0, 0, N) h (x + 5) (eA 0 96 Tb)) (hMo : Hd (0, 0, N) h (x + 6) (eA 0 24 Mo)) (s10 : Sc N h (x + 10) 25) (s11 : Sc N h (x + 11) 25) (s12 : Sc N h (x + 12) 25) : Ok mX11_isStill (d + 2) 0 0 [vR x, vI (i : Int), vJ (t : Int), vI (q : Int)] N h (fun r h2 => (∀ b, b ≠ x → b ≠ x + 10 → b ≠ x + 11 → b ≠ x + 12 → h2 b = h b) ∧ h2 x = mdl x th ((n + 1 : Nat) : Int) pm fm mu um pr ts ∧ Sc N h2 (x + 10) 25 ∧ Sc N h2 (x + 11) 25 ∧ Sc N h2 (x + 12) 25 ∧ ((r = some (vI 1) ∧ mp (n + 1) q (baF n q i Tb Mo) t = m1 (n + 1) q) ∨ (r = some (vI 0) ∧ ¬ mp (n + 1) q (baF n q i Tb Mo) t = m1 (n + 1) q))) := by
  refine Ok.of pfX11_isStill rfl (Nat.le_of_ble_eq_true rfl) (fun Ls sx => ?_)
  show G mX11_isStill (d + 2, 0, 0, Ls, sx) 0 [(0, vR x), (1, vI (i : Int)), (2, vJ (t : Int)), (4, vI (q : Int))] [] (0, 0, N) h _
  obtain ⟨B, hB, rB⟩ := s10
  obtain ⟨Pw, hPw, rP⟩ := s11
  obtain ⟨T, hT, rT2⟩ := s12
  refine g_aload_n (pc := 0) (r := .inl (some x)) dX11_isStill_0 rfl ?_
  refine g_iload_n (pc := 1) (x := (i : Int)) dX11_isStill_1 rfl ?_
  refine g_lload_n (pc := 2) (x := (t : Int)) dX11_isStill_2 rfl ?_
  refine g_iload (pc := 3) (x := (q : Int)) dX11_isStill_3 rfl ?_
  refine g_callV0 (pc := 5) (as := [vI (i : Int), vJ (t : Int), vI (q : Int)]) (b := x) (st := []) lvX11_133 dX11_isStill_5 hx (Nat.le_of_ble_eq_true rfl) (by omega) (Nat.zero_le _) (Nat.zero_le _) (c_powers (d := d) (t := t) hn hi (by omega) hq2 rT rM hz ht rB rP rT2 hx hZ hTb hMo hB hPw hT) ?_
  rintro r h2 ⟨rfl, c1, c2, ⟨B2, c3, rB2⟩, ⟨T2, c4, rT3⟩, P2, c5, rP2, c6⟩
  have hx_1 := hx.to c2
  have hZ_1 := hZ.keep (c1 _ (by omega) (by omega) (by omega) (by omega))
  have hTb_1 := hTb.keep (c1 _ (by omega) (by omega) (by omega) (by omega))
  have hMo_1 := hMo.keep (c1 _ (by omega) (by omega) (by omega) (by omega))
  have hB_1 := hB.to c3
  have hPw_1 := hPw.to c5
  have hT_1 := hT.to c4
  refine g_iconst (pc := 8) dX11_isStill_8 ?_
  refine g_istore (pc := 9) (lo2 := [(0, vR x), (1, vI (i : Int)), (2, vJ (t : Int)), (4, vI (q : Int)), (5, vI 0)]) dX11_isStill_9 (by decide) rfl ?_
  have key : (∀ r c, r < n + 1 → c < n + 1 → P2 (5 * r + c) = if r = c then 1 else 0) ↔ mp (n + 1) q (baF n q i Tb Mo) t = m1 (n + 1) q := by
    rw [← c6]
    have e0 : (1 : Int) % (q : Int) = 1 := Int.emod_eq_of_lt (by omega) (by omega)
    have ec : ∀ r c, r < n + 1 → c < n + 1 → cw (n + 1) P2 (5 * r + c) = P2 (5 * r + c) := fun r c hr hc => by
      obtain ⟨g1, g2⟩ := dm5 (w := n + 1) (r := r) (by omega) hc
      unfold cw
      rw [g1, g2, if_pos ⟨hr, hc⟩]
    constructor
    · intro z
      refine ext5 (fun j hj => if_neg hj) (fun j hj => if_neg hj) (fun r c hr hc => ?_)
      rw [ec r c hr hc, z r c hr hc, m1_at (by omega) hr hc, e0]
    · intro z r c hr hc
      rw [← ec r c hr hc, z, m1_at (by omega) hr hc, e0]
  exact still_l2 hn hx_1 hPw_1 rP2 (fun z => ⟨c1, hx_1.2, ⟨_, hB_1, rB2⟩, ⟨_, hPw_1, rP2⟩, ⟨_, hT_1, rT3⟩, Or.inr ⟨rfl, fun y => z (key.mpr y)⟩⟩) (fun z => ⟨c1, hx_1.2, ⟨_, hB_1, rB2⟩, ⟨_, hPw_1, rP2⟩, ⟨_, hT_1, rT3⟩, Or.inl ⟨rfl, key.mp z⟩⟩) (n + 1) 0 _ (by omega) rfl (fun a h1 => by omega)
