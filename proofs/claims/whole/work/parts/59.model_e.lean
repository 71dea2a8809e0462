/-! ===== the reference: comesBack, settles, leaps ===== -/
/-- a spare row of rests -/
def Sc (N : Nat) (h : MH) (a n : Nat) : Prop := ∃ f, Hd (0, 0, N) h a (eA 0 n f) ∧ rng f
theorem Sc.keep {N a n : Nat} {h h2 : MH} (s : Sc N h a n) (q : h2 a = h a) : Sc N h2 a n := by
  obtain ⟨f, h1, r⟩ := s
  exact ⟨f, h1.keep q, r⟩
theorem goF_cw {n q r : Nat} {A Y : Nat → Int} (hn : n ≤ 4) (hr : r < n + 1) : goF n q (cw (n + 1) A) Y r = goF n q A Y r := by
  have e : ∀ c, c < n + 1 → cw (n + 1) A (5 * r + c) = A (5 * r + c) := fun c hc => by
    obtain ⟨h1, h2⟩ := dm5 (w := n + 1) (r := r) (by omega) hc
    unfold cw
    rw [h1, h2, if_pos ⟨hr, hc⟩]
  unfold goF
  rw [e n (by omega), ss_congr n 0 (fun i _ hi => by rw [e i (by omega)])]
theorem rng_go {n q : Nat} {A Y T T2 : Nat → Int} (hq : 0 < q) (hq2 : q ≤ 500) (rT : rng T) (h1 : ∀ j, j < n → T2 j = goF n q A Y j) (h2 : ∀ j, n ≤ j → T2 j = T j) : rng T2 := by
  intro j
  by_cases hj : j < n
  · rw [h1 j hj]
    have := go_bd (n := n) (A := A) (Y := Y) (r := j) hq
    omega
  · rw [h2 j (by omega)]
    exact rT j

theorem c_comesBack {N d x : Nat} {th wd pm fm mu um pr ts : Int} {i n q t : Nat} {Sz Tb Mo Y : Nat → Int} (hn : n ≤ 4) (hi : i < 6) (hq : 2 ≤ q) (hq2 : q ≤ 500) (rT : rng Tb) (rM : rng Mo) (hz : Sz i = (n : Int)) (ht : (t : Int) ≤ 9223372036854775807) {h : MH} (hx : Hd (0, 0, N) h x (mdl x th wd pm fm mu um pr ts)) (hZ : Hd (0, 0, N) h (x + 4) (eA 0 6 Sz)) (hTb : Hd (0, 0, N) h (x + 5) (eA 0 96 Tb)) (hMo : Hd (0, 0, N) h (x + 6) (eA 0 24 Mo)) (s10 : Sc N h (x + 10) 25) (s11 : Sc N h (x + 11) 25) (s12 : Sc N h (x + 12) 25) (hY : Hd (0, 0, N) h (x + 13) (eA 0 4 Y)) (rY : rng Y) (s14 : Sc N h (x + 14) 4) : Ok mX11_comesBack (d + 2) 0 0 [vR x, vI (i : Int), vJ (t : Int), vI (q : Int)] N h (fun r h2 => (∀ b, b ≠ x → b ≠ x + 10 → b ≠ x + 11 → b ≠ x + 12 → b ≠ x + 14 → h2 b = h b) ∧ h2 x = mdl x th ((n + 1 : Nat) : Int) pm fm mu um pr ts ∧ Sc N h2 (x + 10) 25 ∧ Sc N h2 (x + 11) 25 ∧ Sc N h2 (x + 12) 25 ∧ Sc N h2 (x + 14) 4 ∧ ((r = some (vI 1) ∧ ∀ a, a < n → goF n q (mp (n + 1) q (baF n q i Tb Mo) t) Y a = Y a) ∨ (r = some (vI 0) ∧ ¬ ∀ a, a < n → goF n q (mp (n + 1) q (baF n q i Tb Mo) t) Y a = Y a))) := by
  refine Ok.of pfX11_comesBack rfl (Nat.le_of_ble_eq_true rfl) (fun Ls sx => ?_)
  show G mX11_comesBack (d + 2, 0, 0, Ls, sx) 0 [(0, vR x), (1, vI (i : Int)), (2, vJ (t : Int)), (4, vI (q : Int))] [] (0, 0, N) h _
  obtain ⟨B, hB, rB⟩ := s10
  obtain ⟨Pw, hPw, rP⟩ := s11
  obtain ⟨T, hT, rT2⟩ := s12
  obtain ⟨V, hV, rV⟩ := s14
  refine g_aload_n (pc := 0) (r := .inl (some x)) dX11_comesBack_0 rfl ?_
  refine g_iload_n (pc := 1) (x := (i : Int)) dX11_comesBack_1 rfl ?_
  refine g_lload_n (pc := 2) (x := (t : Int)) dX11_comesBack_2 rfl ?_
  refine g_iload (pc := 3) (x := (q : Int)) dX11_comesBack_3 rfl ?_
  refine g_callV0 (pc := 5) (as := [vI (i : Int), vJ (t : Int), vI (q : Int)]) (b := x) (st := []) lvX11_133 dX11_comesBack_5 hx (Nat.le_of_ble_eq_true rfl) (by omega) (Nat.zero_le _) (Nat.zero_le _) (c_powers (d := d) (t := t) hn hi (by omega) hq2 rT rM hz ht rB rP rT2 hx hZ hTb hMo hB hPw hT) ?_
  rintro r h2 ⟨rfl, c1, c2, ⟨B2, c3, rB2⟩, ⟨T2, c4, rT3⟩, P2, c5, rP2, c6⟩
  have hx_1 := hx.to c2
  have hZ_1 := hZ.keep (c1 _ (by omega) (by omega) (by omega) (by omega))
  have hTb_1 := hTb.keep (c1 _ (by omega) (by omega) (by omega) (by omega))
  have hMo_1 := hMo.keep (c1 _ (by omega) (by omega) (by omega) (by omega))
  have hB_1 := hB.to c3
  have hPw_1 := hPw.to c5
  have hT_1 := hT.to c4
  have hY_1 := hY.keep (c1 _ (by omega) (by omega) (by omega) (by omega))
  have hV_1 := hV.keep (c1 _ (by omega) (by omega) (by omega) (by omega))
  refine g_aload_n (pc := 8) (r := .inl (some x)) dX11_comesBack_8 rfl ?_
  refine g_aload_n (pc := 9) (r := .inl (some x)) dX11_comesBack_9 rfl ?_
  refine g_getf (pc := 10) (v := vR (x + 4)) flX11_20 dX11_comesBack_10 hx_1 rfl ?_
  refine g_iload_n (pc := 13) (x := (i : Int)) dX11_comesBack_13 rfl ?_
  refine g_ialdN (pc := 14) (j := i) dX11_comesBack_14 hZ_1 (by omega) (by omega) (by omega) ?_
  rw [hz]
  refine g_iload (pc := 15) (x := (q : Int)) dX11_comesBack_15 rfl ?_
  refine g_callV0 (pc := 17) (as := [vI (n : Int), vI (q : Int)]) (b := x) (st := []) lvX11_140 dX11_comesBack_17 hx_1 (Nat.le_of_ble_eq_true rfl) (by omega) (Nat.zero_le _) (Nat.zero_le _) (c_goes (d := d + 1) hn (by omega) hq2 rP2 rY hx_1 hPw_1 hY_1 hV_1) ?_
  rintro r h3 ⟨rfl, e1, V2, e2, e3, e4⟩
  have hx_2 := hx_1.keep (e1 _ (by omega))
  have hZ_2 := hZ_1.keep (e1 _ (by omega))
  have hTb_2 := hTb_1.keep (e1 _ (by omega))
  have hMo_2 := hMo_1.keep (e1 _ (by omega))
  have hB_2 := hB_1.keep (e1 _ (by omega))
  have hPw_2 := hPw_1.keep (e1 _ (by omega))
  have hT_2 := hT_1.keep (e1 _ (by omega))
  have hY_2 := hY_1.keep (e1 _ (by omega))
  have hV_2 := hV_1.to e2
  have rV2 := rng_go (by omega) hq2 rV e3 e4
  refine g_aload_n (pc := 20) (r := .inl (some x)) dX11_comesBack_20 rfl ?_
  refine g_aload_n (pc := 21) (r := .inl (some x)) dX11_comesBack_21 rfl ?_
  refine g_getf (pc := 22) (v := vR (x + 4)) flX11_20 dX11_comesBack_22 hx_2 rfl ?_
  refine g_iload_n (pc := 25) (x := (i : Int)) dX11_comesBack_25 rfl ?_
  refine g_ialdN (pc := 26) (j := i) dX11_comesBack_26 hZ_2 (by omega) (by omega) (by omega) ?_
  rw [hz]
  refine g_callV0 (pc := 27) (as := [vI (n : Int)]) (b := x) (st := []) lvX11_186 dX11_comesBack_27 hx_2 (Nat.le_of_ble_eq_true rfl) (by omega) (Nat.zero_le _) (Nat.zero_le _) (c_isBack (d := d + 1) hn rY rV2 hx_2 hY_2 hV_2) ?_
  have key : ∀ a, a < n → V2 a = goF n q (mp (n + 1) q (baF n q i Tb Mo) t) Y a := fun a ha => by rw [e3 a ha, ← goF_cw hn (by omega), c6]
  rintro r h4 ⟨rfl, ⟨rfl, g1⟩ | ⟨rfl, g1⟩⟩
  · exact r_bool (pc := 30) dX11_comesBack_30 rfl rfl (Nat.le_refl _) (Or.inr rfl) ⟨fun b b1 b2 b3 b4 b5 => (e1 b b5).trans (c1 b b1 b2 b3 b4), hx_2.2, ⟨_, hB_2, rB2⟩, ⟨_, hPw_2, rP2⟩, ⟨_, hT_2, rT3⟩, ⟨_, hV_2, rV2⟩, Or.inl ⟨rfl, fun a ha => by rw [← key a ha]; exact g1 a ha⟩⟩
  · exact r_bool (pc := 30) dX11_comesBack_30 rfl rfl (Nat.le_refl _) (Or.inl rfl) ⟨fun b b1 b2 b3 b4 b5 => (e1 b b5).trans (c1 b b1 b2 b3 b4), hx_2.2, ⟨_, hB_2, rB2⟩, ⟨_, hPw_2, rP2⟩, ⟨_, hT_2, rT3⟩, ⟨_, hV_2, rV2⟩, Or.inr ⟨rfl, fun z => g1 (fun a ha => by rw [key a ha]; exact z a ha)⟩⟩

theorem c_settles {N d x : Nat} {th wd pm fm mu um pr ts : Int} {i n q : Nat} {Sz Tb Mo Pl : Nat → Int} (hn : n ≤ 4) (hi : i < 6) (hq : 2 ≤ q) (hq2 : q ≤ 500) (rT : rng Tb) (rM : rng Mo) (hz : Sz i = (n : Int)) (rPl : rng Pl) {h : MH} (hx : Hd (0, 0, N) h x (mdl x th wd pm fm mu um pr ts)) (hZ : Hd (0, 0, N) h (x + 4) (eA 0 6 Sz)) (hTb : Hd (0, 0, N) h (x + 5) (eA 0 96 Tb)) (hMo : Hd (0, 0, N) h (x + 6) (eA 0 24 Mo)) (s10 : Sc N h (x + 10) 25) (s11 : Sc N h (x + 11) 25) (s12 : Sc N h (x + 12) 25) (hP : Hd (0, 0, N) h (x + 7) (eA 0 24 Pl)) (s13 : Sc N h (x + 13) 4) (s14 : Sc N h (x + 14) 4) : Ok mX11_settles (d + 2) 0 0 [vR x, vI (i : Int), vI (q : Int)] N h (fun r h2 => r = none ∧ (∀ b, b ≠ x → b ≠ x + 10 → b ≠ x + 11 → b ≠ x + 12 → b ≠ x + 13 → b ≠ x + 14 → h2 b = h b) ∧ h2 x = mdl x th ((n + 1 : Nat) : Int) pm fm mu um pr ts ∧ Sc N h2 (x + 10) 25 ∧ Sc N h2 (x + 11) 25 ∧ Sc N h2 (x + 12) 25 ∧ Sc N h2 (x + 14) 4 ∧ ∃ Y, Hd (0, 0, N) h2 (x + 13) (eA 0 4 Y) ∧ rng Y ∧ ∀ a, a < n → Y a = goF n q (mp (n + 1) q (baF n q i Tb Mo) 64) (fun j => Pl (4 * i + j) % (q : Int)) a) := by
  refine Ok.of pfX11_settles rfl (Nat.le_of_ble_eq_true rfl) (fun Ls sx => ?_)
  show G mX11_settles (d + 2, 0, 0, Ls, sx) 0 [(0, vR x), (1, vI (i : Int)), (2, vI (q : Int))] [] (0, 0, N) h _
  obtain ⟨B, hB, rB⟩ := s10
  obtain ⟨Pw, hPw, rP⟩ := s11
  obtain ⟨T, hT, rT2⟩ := s12
  obtain ⟨Y, hY, rY⟩ := s13
  obtain ⟨V, hV, rV⟩ := s14
  refine g_aload_n (pc := 0) (r := .inl (some x)) dX11_settles_0 rfl ?_
  refine g_iload_n (pc := 1) (x := (i : Int)) dX11_settles_1 rfl ?_
  refine g_ldc2 (pc := 2) (n := 64) dX11_settles_2 kcX11_184 ?_
  refine g_iload_n (pc := 5) (x := (q : Int)) dX11_settles_5 rfl ?_
  refine g_callV0 (pc := 6) (as := [vI (i : Int), vJ 64, vI (q : Int)]) (b := x) (st := []) lvX11_133 dX11_settles_6 hx (Nat.le_of_ble_eq_true rfl) (by omega) (Nat.zero_le _) (Nat.zero_le _) (c_powers (d := d) (t := 64) hn hi (by omega) hq2 rT rM hz (by decide) rB rP rT2 hx hZ hTb hMo hB hPw hT) ?_
  rintro r h2 ⟨rfl, c1, c2, ⟨B2, c3, rB2⟩, ⟨T2, c4, rT3⟩, P2, c5, rP2, c6⟩
  have hx_1 := hx.to c2
  have hZ_1 := hZ.keep (c1 _ (by omega) (by omega) (by omega) (by omega))
  have hTb_1 := hTb.keep (c1 _ (by omega) (by omega) (by omega) (by omega))
  have hMo_1 := hMo.keep (c1 _ (by omega) (by omega) (by omega) (by omega))
  have hB_1 := hB.to c3
  have hPw_1 := hPw.to c5
  have hT_1 := hT.to c4
  have hP_1 := hP.keep (c1 _ (by omega) (by omega) (by omega) (by omega))
  have hY_1 := hY.keep (c1 _ (by omega) (by omega) (by omega) (by omega))
  have hV_1 := hV.keep (c1 _ (by omega) (by omega) (by omega) (by omega))
  refine g_aload_n (pc := 9) (r := .inl (some x)) dX11_settles_9 rfl ?_
  refine g_iload_n (pc := 10) (x := (i : Int)) dX11_settles_10 rfl ?_
  refine g_iload_n (pc := 11) (x := (q : Int)) dX11_settles_11 rfl ?_
  refine g_callV0 (pc := 12) (as := [vI (i : Int), vI (q : Int)]) (b := x) (st := []) lvX11_137 dX11_settles_12 hx_1 (Nat.le_of_ble_eq_true rfl) (by omega) (Nat.zero_le _) (Nat.zero_le _) (c_plateIs (d := d + 1) hn hi hz (by omega) hq2 rPl hx_1 hZ_1 hP_1 hY_1) ?_
  rintro r h3 ⟨rfl, e1, Y2, e2, e3, e4⟩
  have hx_2 := hx_1.keep (e1 _ (by omega))
  have hZ_2 := hZ_1.keep (e1 _ (by omega))
  have hTb_2 := hTb_1.keep (e1 _ (by omega))
  have hMo_2 := hMo_1.keep (e1 _ (by omega))
  have hB_2 := hB_1.keep (e1 _ (by omega))
  have hPw_2 := hPw_1.keep (e1 _ (by omega))
  have hT_2 := hT_1.keep (e1 _ (by omega))
  have hP_2 := hP_1.keep (e1 _ (by omega))
  have hY_2 := hY_1.to e2
  have hV_2 := hV_1.keep (e1 _ (by omega))
  have rY2 : rng Y2 := by
    intro j
    by_cases hj : j < n
    · rw [e3 j hj]
      have g1 := Int.emod_nonneg (Pl (4 * i + j)) (show (q : Int) ≠ 0 by omega)
      have g2 := Int.emod_lt_of_pos (Pl (4 * i + j)) (show 0 < (q : Int) by omega)
      omega
    · rw [e4 j (by omega)]
      exact rY j
  refine g_aload_n (pc := 15) (r := .inl (some x)) dX11_settles_15 rfl ?_
  refine g_aload_n (pc := 16) (r := .inl (some x)) dX11_settles_16 rfl ?_
  refine g_getf (pc := 17) (v := vR (x + 4)) flX11_20 dX11_settles_17 hx_2 rfl ?_
  refine g_iload_n (pc := 20) (x := (i : Int)) dX11_settles_20 rfl ?_
  refine g_ialdN (pc := 21) (j := i) dX11_settles_21 hZ_2 (by omega) (by omega) (by omega) ?_
  rw [hz]
  refine g_iload_n (pc := 22) (x := (q : Int)) dX11_settles_22 rfl ?_
  refine g_callV0 (pc := 23) (as := [vI (n : Int), vI (q : Int)]) (b := x) (st := []) lvX11_140 dX11_settles_23 hx_2 (Nat.le_of_ble_eq_true rfl) (by omega) (Nat.zero_le _) (Nat.zero_le _) (c_goes (d := d + 1) hn (by omega) hq2 rP2 rY2 hx_2 hPw_2 hY_2 hV_2) ?_
  rintro r h4 ⟨rfl, f1, V2, f2, f3, f4⟩
  have hx_3 := hx_2.keep (f1 _ (by omega))
  have hZ_3 := hZ_2.keep (f1 _ (by omega))
  have hTb_3 := hTb_2.keep (f1 _ (by omega))
  have hMo_3 := hMo_2.keep (f1 _ (by omega))
  have hB_3 := hB_2.keep (f1 _ (by omega))
  have hPw_3 := hPw_2.keep (f1 _ (by omega))
  have hT_3 := hT_2.keep (f1 _ (by omega))
  have hP_3 := hP_2.keep (f1 _ (by omega))
  have hY_3 := hY_2.keep (f1 _ (by omega))
  have hV_3 := hV_2.to f2
  have rV2 := rng_go (by omega) hq2 rV f3 f4
  refine g_aload_n (pc := 26) (r := .inl (some x)) dX11_settles_26 rfl ?_
  refine g_aload_n (pc := 27) (r := .inl (some x)) dX11_settles_27 rfl ?_
  refine g_getf (pc := 28) (v := vR (x + 4)) flX11_20 dX11_settles_28 hx_3 rfl ?_
  refine g_iload_n (pc := 31) (x := (i : Int)) dX11_settles_31 rfl ?_
  refine g_ialdN (pc := 32) (j := i) dX11_settles_32 hZ_3 (by omega) (by omega) (by omega) ?_
  rw [hz]
  refine g_callV0 (pc := 33) (as := [vI (n : Int)]) (b := x) (st := []) lvX11_143 dX11_settles_33 hx_3 (Nat.le_of_ble_eq_true rfl) (by omega) (Nat.zero_le _) (Nat.zero_le _) (c_takes (d := d + 1) hn hx_3 hY_3 hV_3) ?_
  rintro r h5 ⟨rfl, g1, Y3, g2, g3, g4⟩
  have hx_4 := hx_3.keep (g1 _ (by omega))
  have hZ_4 := hZ_3.keep (g1 _ (by omega))
  have hTb_4 := hTb_3.keep (g1 _ (by omega))
  have hMo_4 := hMo_3.keep (g1 _ (by omega))
  have hB_4 := hB_3.keep (g1 _ (by omega))
  have hPw_4 := hPw_3.keep (g1 _ (by omega))
  have hT_4 := hT_3.keep (g1 _ (by omega))
  have hP_4 := hP_3.keep (g1 _ (by omega))
  have hY_4 := hY_3.to g2
  have hV_4 := hV_3.keep (g1 _ (by omega))
  have rY3 : rng Y3 := rng_cp rV2 rY2 g3 g4
  exact r_void (pc := 36) dX11_settles_36 rfl rfl (Nat.le_refl _) ⟨rfl, fun b b1 b2 b3 b4 b5 b6 => (g1 b b5).trans ((f1 b b6).trans ((e1 b b5).trans (c1 b b1 b2 b3 b4))), hx_4.2, ⟨_, hB_4, rB2⟩, ⟨_, hPw_4, rP2⟩, ⟨_, hT_4, rT3⟩, ⟨_, hV_4, rV2⟩, Y3, hY_4, rY3, fun a ha => by rw [g3 a ha, f3 a ha, ← goF_cw hn (by omega), c6]; exact goF_congr (fun j hj => e3 j hj)⟩
