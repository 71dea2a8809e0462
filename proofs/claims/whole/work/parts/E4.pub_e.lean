/-! ===== the class: what is told; mill ===== -/
theorem tprime_prm {v : Int} (h : tprime v) : ∃ p : Nat, v = (p : Int) ∧ prm p ∧ p ≤ 499 := by
  obtain ⟨h1, h2, h3⟩ := h
  refine ⟨v.toNat, by omega, ⟨by omega, fun j j1 j2 z => h3 j j1 (by omega) (Nat.mod_eq_zero_of_dvd z)⟩, by omega⟩
theorem tprime_of {p : Nat} (h : prm p) (h2 : p ≤ 499) : tprime (p : Int) := ⟨by have := h.1; omega, by omega, fun j j1 j2 z => h.2 j j1 (by omega) (Nat.dvd_of_mod_eq_zero (by rw [Int.toNat_natCast] at z; exact z))⟩

theorem k_begin {N p ct : Nat} {v : Int} {s : Nat → Int} {h : MH} (hv : i32 v) (c1 : Hd (0, 0, N) h 0 (eO 10 [vR 1, vR 2, vR 74])) (td : TD N h 2 p ct s) : Ok mX10_begin 10 0 0 [vR 0, vI v] N h (fun r9 h2 => (¬ tprime v ∧ r9 = some (vI 0) ∧ h2 = h) ∨ ∃ p9 : Nat, v = (p9 : Int) ∧ prm p9 ∧ p9 ≤ 499 ∧ r9 = some (vI 1) ∧ TD N h2 2 p9 0 s ∧ (∀ a, (a < 2 ∨ 74 ≤ a) → h2 a = h a)) := by
  refine Ok.of pfX10_begin rfl (Nat.le_of_ble_eq_true rfl) (fun Ls sx => ?_)
  show G mX10_begin (10, 0, 0, Ls, sx) 0 [(0, vR 0), (1, vI v)] [] (0, 0, N) h _
  obtain ⟨⟨hp, hp2, hct, hs⟩, Lc, gap, b, nf, C, B, Nm, Rs, S, Bt, Sp, Pv, g, F, bm, ⟨hC, hBr, hb⟩, hq, hNm, hRs, eR, hS, eS, hB, eB, hSp, hPv, tg, hnf⟩ := id td
  refine g_iload_n (pc := 0) (x := v) dX10_begin_0 rfl ?_
  refine g_callS0 (pc := 1) (as := [vI v]) (st := []) lsX10_197 dX10_begin_1 (Nat.le_of_ble_eq_true rfl) (by omega) (Nat.zero_le _) (Nat.zero_le _) (c_isTellingPrime (d := 9) hv) ?_
  rintro r8 h9 ⟨e9, e8⟩
  subst e9
  rcases e8 with ⟨e8, hpr⟩ | ⟨e8, hpr⟩ <;> subst e8
  · refine g_if_neT (pc := 4) (tgt := 9) dX10_begin_4 (by decide) (by omega) (by omega) ?_
    refine g_aload_n (pc := 9) (r := .inl (some 0)) dX10_begin_9 rfl ?_
    refine g_getf (pc := 10) (v := vR 2) flX10_18 dX10_begin_10 c1 rfl ?_
    refine g_iload_n (pc := 13) (x := v) dX10_begin_13 rfl ?_
    refine g_callV0 (pc := 14) (as := [vI v]) (b := 2) (st := []) lvX10_200 dX10_begin_14 hq (Nat.le_of_ble_eq_true rfl) (by omega) (Nat.zero_le _) (Nat.zero_le _) (c_toldClear (d := 8) hq hS hB) ?_
    rintro r8 h3 ⟨rfl, o1, ⟨S2, o2, o3⟩, ⟨P2, o4, o5⟩, k3⟩
    refine g_iconst (pc := 17) dX10_begin_17 ?_
    obtain ⟨p9, ev, q1, q2⟩ := tprime_prm hpr
    subst ev
    exact r_bool (pc := 18) dX10_begin_18 rfl rfl (Nat.le_refl _) (Or.inr rfl) (Or.inr ⟨p9, rfl, q1, q2, rfl, ⟨⟨q1, q2, Nat.zero_le 64, fun n z => absurd z (Nat.not_lt_zero n)⟩, 0, 1, 1, 0, _, _, Nm, Rs, S2, P2, Sp, Pv, g, F, bm_zero q1, ⟨fun j => by have := q1.1; split <;> omega, fun j => by have := q1.1; split <;> omega, by have := q1.1; omega⟩, ⟨hq.1, o1⟩, hNm.keep (k3 _ (by omega) (by omega) (by omega)), hRs.keep (k3 _ (by omega) (by omega) (by omega)), fun n z => absurd z (Nat.not_lt_zero n), ⟨hS.1, o2⟩, o3, ⟨hB.1, o4⟩, o5, hSp.keep (k3 _ (by omega) (by omega) (by omega)), hPv.keep (k3 _ (by omega) (by omega) (by omega)), tg.keep (fun a z1 z2 => k3 a (by omega) (by omega) (by omega)), Or.inl rfl⟩, fun a z => k3 a (by omega) (by omega) (by omega)⟩)
  · refine g_if_neF (pc := 4) (tgt := 9) dX10_begin_4 (by decide) (by omega) (by omega) ?_
    refine g_iconst (pc := 7) dX10_begin_7 ?_
    exact r_bool (pc := 8) dX10_begin_8 rfl rfl (Nat.le_refl _) (Or.inl rfl) (Or.inl ⟨hpr, rfl, rfl⟩)

theorem k_tell {N p ct : Nat} {v : Int} {s : Nat → Int} {h : MH} (hv : i32 v) (c1 : Hd (0, 0, N) h 0 (eO 10 [vR 1, vR 2, vR 74])) (td : TD N h 2 p ct s) : Ok mX10_tell 10 0 0 [vR 0, vI v] N h (fun r9 h2 => (ct = 64 ∧ r9 = some (vI (-1)) ∧ h2 = h) ∨ (ct < 64 ∧ r9 = some (vI ((ct + 1 : Nat) : Int)) ∧ TD N h2 2 p (ct + 1) (va_up s ct (v % (p : Int))) ∧ (∀ a, (a < 2 ∨ 74 ≤ a) → h2 a = h a))) := by
  refine Ok.of pfX10_tell rfl (Nat.le_of_ble_eq_true rfl) (fun Ls sx => ?_)
  show G mX10_tell (10, 0, 0, Ls, sx) 0 [(0, vR 0), (1, vI v)] [] (0, 0, N) h _
  have hqo := td.2
  obtain ⟨Lc, gap, b, nf, C, B, Nm, Rs, S, Bt, Sp, Pv, g, F, -, -, hq, -⟩ := hqo
  refine g_aload_n (pc := 0) (r := .inl (some 0)) dX10_tell_0 rfl ?_
  refine g_getf (pc := 1) (v := vR 2) flX10_18 dX10_tell_1 c1 rfl ?_
  refine g_iload_n (pc := 4) (x := v) dX10_tell_4 rfl ?_
  refine g_callV0 (pc := 5) (as := [vI v]) (b := 2) (st := []) lvX10_204 dX10_tell_5 hq (Nat.le_of_ble_eq_true rfl) (by omega) (Nat.zero_le _) (Nat.zero_le _) (c_tadd (d := 5) hv td) ?_
  rintro r8 h3 e8
  rcases e8 with ⟨e64, e8, e9⟩ | ⟨e64, e8, td2, k3⟩ <;> subst e8
  · subst e9
    refine g_if_eqT (pc := 8) (tgt := 21) dX10_tell_8 (by decide) (by omega) (by omega) ?_
    refine g_iconst (pc := 21) dX10_tell_21 ?_
    exact r_int (pc := 22) dX10_tell_22 rfl rfl (Nat.le_refl _) (Or.inl ⟨e64, rfl, rfl⟩)
  · obtain ⟨Lc2, gap2, b2, nf2, C2, B2, Nm2, Rs2, S2, Bt2, Sp2, Pv2, g2, F2, -, -, hq2, -⟩ := td2.2
    have c1b := c1.keep (k3 0 (by omega))
    refine g_if_eqF (pc := 8) (tgt := 21) dX10_tell_8 (by decide) (by omega) (by omega) ?_
    refine g_aload_n (pc := 11) (r := .inl (some 0)) dX10_tell_11 rfl ?_
    refine g_getf (pc := 12) (v := vR 2) flX10_18 dX10_tell_12 c1b rfl ?_
    refine g_getf (pc := 15) (v := vI ((ct + 1 : Nat) : Int)) flX10_207 dX10_tell_15 hq2 rfl ?_
    refine g_goto (pc := 18) (tgt := 22) dX10_tell_18 (by decide) ?_
    exact r_int (pc := 22) dX10_tell_22 rfl rfl (Nat.le_refl _) (Or.inr ⟨e64, rfl, td2, fun a z => k3 a (by omega)⟩)

theorem k_least {N p ct : Nat} {s : Nat → Int} {h : MH} {L : Nat}  (hL : hasL p ct L s) (hmin : ∀ l, hasL p ct l s → L ≤ l) (c1 : Hd (0, 0, N) h 0 (eO 10 [vR 1, vR 2, vR 74])) (td : TD N h 2 p ct s) : Ok mX10_least 10 0 0 [vR 0] N h (fun r9 h2 => h2 = h ∧ r9 = some (vI (L : Int))) := by
  refine Ok.of pfX10_least rfl (Nat.le_of_ble_eq_true rfl) (fun Ls sx => ?_)
  show G mX10_least (10, 0, 0, Ls, sx) 0 [(0, vR 0)] [] (0, 0, N) h _
  obtain ⟨⟨hp, hp2, hct, hs⟩, Lc, gap, b, nf, C, B, Nm, Rs, S, Bt, Sp, Pv, g, F, bm, ⟨hC, hBr, hb⟩, hq, hNm, hRs, eR, hS, eS, hB, eB, hSp, hPv, tg, hnf⟩ := id td
  have eL : Lc = L := Nat.le_antisymm (bm.2.1 L hL) (hmin Lc ⟨C, bm.1.1, bm.1.2.2.2⟩)
  subst eL
  refine g_aload_n (pc := 0) (r := .inl (some 0)) dX10_least_0 rfl ?_
  refine g_getf (pc := 1) (v := vR 2) flX10_18 dX10_least_1 c1 rfl ?_
  refine g_getf (pc := 4) (v := vI (Lc : Int)) flX10_210 dX10_least_4 hq rfl ?_
  exact r_int (pc := 7) dX10_least_7 rfl rfl (Nat.le_refl _) ⟨rfl, rfl⟩

theorem k_shown {N p ct : Nat} {s : Nat → Int} {h : MH} {L : Nat}  (hL : hasL p ct L s) (hmin : ∀ l, hasL p ct l s → L ≤ l) (c1 : Hd (0, 0, N) h 0 (eO 10 [vR 1, vR 2, vR 74])) (td : TD N h 2 p ct s) : Ok mX10_shown 10 0 0 [vR 0] N h (fun r9 h2 => h2 = h ∧ r9 = some (vI (if 2 * L ≤ ct then 1 else 0))) := by
  refine Ok.of pfX10_shown rfl (Nat.le_of_ble_eq_true rfl) (fun Ls sx => ?_)
  show G mX10_shown (10, 0, 0, Ls, sx) 0 [(0, vR 0)] [] (0, 0, N) h _
  obtain ⟨⟨hp, hp2, hct, hs⟩, Lc, gap, b, nf, C, B, Nm, Rs, S, Bt, Sp, Pv, g, F, bm, ⟨hC, hBr, hb⟩, hq, hNm, hRs, eR, hS, eS, hB, eB, hSp, hPv, tg, hnf⟩ := id td
  have eL : Lc = L := Nat.le_antisymm (bm.2.1 L hL) (hmin Lc ⟨C, bm.1.1, bm.1.2.2.2⟩)
  subst eL
  have hLc := bm.1.2.2.1
  refine g_iconst (pc := 0) dX10_shown_0 ?_
  refine g_aload_n (pc := 1) (r := .inl (some 0)) dX10_shown_1 rfl ?_
  refine g_getf (pc := 2) (v := vR 2) flX10_18 dX10_shown_2 c1 rfl ?_
  refine g_getf (pc := 5) (v := vI (Lc : Int)) flX10_210 dX10_shown_5 hq rfl ?_
  refine g_imul (pc := 8) dX10_shown_8 ?_
  refine g_aload_n (pc := 9) (r := .inl (some 0)) dX10_shown_9 rfl ?_
  refine g_getf (pc := 10) (v := vR 2) flX10_18 dX10_shown_10 c1 rfl ?_
  refine g_getf (pc := 13) (v := vI (ct : Int)) flX10_207 dX10_shown_13 hq rfl ?_
  refine g_icmp_gt (pc := 16) (tgt := 23) dX10_shown_16 (by decide) (by omega) (by omega) (fun k0 => ?_) (fun k0 => ?_)
  · refine g_iconst (pc := 23) dX10_shown_23 ?_
    exact r_int (pc := 24) dX10_shown_24 rfl rfl (Nat.le_refl _) ⟨rfl, by rw [if_neg (by omega)]⟩
  · refine g_iconst (pc := 19) dX10_shown_19 ?_
    refine g_goto (pc := 20) (tgt := 24) dX10_shown_20 (by decide) ?_
    exact r_int (pc := 24) dX10_shown_24 rfl rfl (Nat.le_refl _) ⟨rfl, by rw [if_pos (by omega)]⟩

theorem k_rule {N p ct : Nat} {k : Int} {s : Nat → Int} {h : MH} {L : Nat} (hk : i32 k) (hL : hasL p ct L s) (hmin : ∀ l, hasL p ct l s → L ≤ l) (c1 : Hd (0, 0, N) h 0 (eO 10 [vR 1, vR 2, vR 74])) (td : TD N h 2 p ct s) : Ok mX10_rule 10 0 0 [vR 0, vI k] N h (fun r9 h2 => r9 = some (vI (if 1 ≤ k ∧ k ≤ (L : Int) then numS p ct L s k.toNat else -1)) ∧ TD N h2 2 p ct s ∧ (∀ a, (a < 2 ∨ 74 ≤ a) → h2 a = h a)) := by
  refine Ok.of pfX10_rule rfl (Nat.le_of_ble_eq_true rfl) (fun Ls sx => ?_)
  show G mX10_rule (10, 0, 0, Ls, sx) 0 [(0, vR 0), (1, vI k)] [] (0, 0, N) h _
  obtain ⟨⟨hp, hp2, hct, hs⟩, Lc, gap, b, nf, C, B, Nm, Rs, S, Bt, Sp, Pv, g, F, bm, ⟨hC, hBr, hb⟩, hq, hNm, hRs, eR, hS, eS, hB, eB, hSp, hPv, tg, hnf⟩ := id td
  have eL : Lc = L := Nat.le_antisymm (bm.2.1 L hL) (hmin Lc ⟨C, bm.1.1, bm.1.2.2.2⟩)
  subst eL
  have hLc := bm.1.2.2.1
  refine g_iload_n (pc := 0) (x := k) dX10_rule_0 rfl ?_
  refine g_iconst (pc := 1) dX10_rule_1 ?_
  refine g_icmp_lt (pc := 2) (tgt := 16) dX10_rule_2 (by decide) (by omega) (by omega) (fun k0 => ?_) (fun k0 => ?_)
  · refine g_iconst (pc := 16) dX10_rule_16 ?_
    exact r_int (pc := 17) dX10_rule_17 rfl rfl (Nat.le_refl _) ⟨by rw [if_neg (by omega)], td, fun _ _ => rfl⟩
  · refine g_iload_n (pc := 5) (x := k) dX10_rule_5 rfl ?_
    refine g_aload_n (pc := 6) (r := .inl (some 0)) dX10_rule_6 rfl ?_
    refine g_getf (pc := 7) (v := vR 2) flX10_18 dX10_rule_7 c1 rfl ?_
    refine g_getf (pc := 10) (v := vI (Lc : Int)) flX10_210 dX10_rule_10 hq rfl ?_
    refine g_icmp_le (pc := 13) (tgt := 18) dX10_rule_13 (by decide) (by omega) (by omega) (fun k1 => ?_) (fun k1 => ?_)
    · obtain ⟨q, eq⟩ : ∃ q : Nat, k = (q : Int) := ⟨k.toNat, by omega⟩
      subst eq
      refine g_aload_n (pc := 18) (r := .inl (some 0)) dX10_rule_18 rfl ?_
      refine g_getf (pc := 19) (v := vR 2) flX10_18 dX10_rule_19 c1 rfl ?_
      refine g_callV0 (pc := 22) (as := []) (b := 2) (st := []) lvX10_213 dX10_rule_22 hq (Nat.le_of_ble_eq_true rfl) (by omega) (Nat.zero_le _) (Nat.zero_le _) (c_findNumbers (d := 5) hp hp2 hLc hct hs hq hNm hRs eR hPv tg hnf) ?_
      rintro r8 h3 ⟨rfl, o1, ⟨Nm2, o2, o3⟩, ⟨Pv2, o4⟩, ⟨g2, F2, o5⟩, k3⟩
      have c1b := c1.keep (k3 0 (by omega) (by omega) (by omega))
      refine g_aload_n (pc := 25) (r := .inl (some 0)) dX10_rule_25 rfl ?_
      refine g_getf (pc := 26) (v := vR 2) flX10_18 dX10_rule_26 c1b rfl ?_
      refine g_getf (pc := 29) (v := vR (2 + 1)) flX10_216 dX10_rule_29 o1 rfl ?_
      refine g_iload_n (pc := 32) (x := (q : Int)) dX10_rule_32 rfl ?_
      refine g_ialdN (pc := 33) (j := q) dX10_rule_33 o2 (by omega) (by omega) (by omega) ?_
      rw [o3 q (by omega) (by omega)]
      exact r_int (pc := 34) dX10_rule_34 rfl rfl (Nat.le_refl _) ⟨by rw [if_pos (by omega), Int.toNat_natCast], ⟨⟨hp, hp2, hct, hs⟩, Lc, gap, b, 1, C, B, Nm2, Rs, S, Bt, Sp, Pv2, g2, F2, bm, ⟨hC, hBr, hb⟩, o1, o2, hRs.keep (k3 _ (by omega) (by omega) (by omega)), eR, hS.keep (k3 _ (by omega) (by omega) (by omega)), eS, hB.keep (k3 _ (by omega) (by omega) (by omega)), eB, hSp.keep (k3 _ (by omega) (by omega) (by omega)), o4, o5, Or.inr ⟨rfl, o3⟩⟩, fun a z => k3 a (by omega) (by omega) (by omega)⟩
    · refine g_iconst (pc := 16) dX10_rule_16 ?_
      exact r_int (pc := 17) dX10_rule_17 rfl rfl (Nat.le_refl _) ⟨by rw [if_neg (by omega)], td, fun _ _ => rfl⟩

theorem kml_l {N kd M n Ls : Nat} {sx : Nat → Int} {σ : Nat → Option MSt} {h : MH} (hkd : kd ≤ 3) (hM : 2 ≤ M) (hM2 : M ≤ 500) (n1 : 1 ≤ n) (hn : n ≤ 4) (hk1 : kd = 1 → n = 1) (hk3 : kd = 3 → n = 2 ∧ M ≤ 64) (c : CMs N h σ) : ∀ (f i : Nat) (xi : Int), i + f = 6 → xi = (i : Int) → (∀ j, j < i → σ j ≠ none) → G mX10_mill (10, 0, 0, Ls, sx) 14 [(0, vR 0), (1, vI (kd : Int)), (2, vI (M : Int)), (3, vI (n : Int)), (4, vI xi)] [] (0, 0, N) h (Pq mX10_mill 0 0 (fun r9 h2 => ((∀ i, i < 6 → σ i ≠ none) ∧ r9 = some (vI (-1)) ∧ cP N h h2 σ) ∨ ∃ (i : Nat) (T Y : Nat → Int), i < 6 ∧ σ i = none ∧ (∀ j, j < i → σ j ≠ none) ∧ r9 = some (vI (i : Int)) ∧ iniT kd n T ∧ (∀ r, r < n → Y r = 0) ∧ okS kd M n T Y (fun _ _ => 0) ∧ cP N h h2 (va_up σ i (some (kd, M, n, T, Y, fun _ _ => 0))))) := by
  intro f
  obtain ⟨c1, c2, c3, c4⟩ := id c
  induction f with
  | zero =>
    intro i xi hf ex hj
    refine g_iload (pc := 14) (x := xi) dX10_mill_14 rfl ?_
    refine g_aload_n (pc := 16) (r := .inl (some 0)) dX10_mill_16 rfl ?_
    refine g_getf (pc := 17) (v := vR 1) flX10_11 dX10_mill_17 c1 rfl ?_
    refine g_qlen (pc := 20) dX10_mill_20 c2 (by decide) ?_
    refine g_icmp_geT (pc := 21) (tgt := 59) dX10_mill_21 (by decide) (by omega) (by omega) (by omega) ?_
    refine g_iconst (pc := 59) dX10_mill_59 ?_
    exact r_int (pc := 60) dX10_mill_60 rfl rfl (Nat.le_refl _) (Or.inl ⟨fun j q => hj j (by omega), rfl, cP.rfl c⟩)
  | succ f ih =>
    intro i xi hf ex hj
    subst ex
    have hi : i < 6 := by omega
    rcases es : σ i with _ | s
    · obtain ⟨cz, kd0, M0, n0, hml⟩ := (c4 i hi).1 es
      refine g_iload (pc := 14) (x := (i : Int)) dX10_mill_14 rfl ?_
      refine g_aload_n (pc := 16) (r := .inl (some 0)) dX10_mill_16 rfl ?_
      refine g_getf (pc := 17) (v := vR 1) flX10_11 dX10_mill_17 c1 rfl ?_
      refine g_qlen (pc := 20) dX10_mill_20 c2 (by decide) ?_
      refine g_icmp_geF (pc := 21) (tgt := 59) dX10_mill_21 (by decide) (by omega) (by omega) (by omega) ?_
      refine g_aload_n (pc := 24) (r := .inl (some 0)) dX10_mill_24 rfl ?_
      refine g_getf (pc := 25) (v := vR 1) flX10_11 dX10_mill_25 c1 rfl ?_
      refine g_iload (pc := 28) (x := (i : Int)) dX10_mill_28 rfl ?_
      refine g_aaldN (pc := 30) (j := i) dX10_mill_30 c2 (by decide) (by omega) (by omega) (by omega) ?_
      rw [mlF_at (b := 75) (n := 6) (i := i) (by omega)]
      refine g_getf (pc := 31) (v := vI 0) flX10_31 dX10_mill_31 hml rfl ?_
      refine g_if_neF (pc := 34) (tgt := 53) dX10_mill_34 (by decide) (by omega) (by omega) ?_
      refine g_aload_n (pc := 37) (r := .inl (some 0)) dX10_mill_37 rfl ?_
      refine g_getf (pc := 38) (v := vR 1) flX10_11 dX10_mill_38 c1 rfl ?_
      refine g_iload (pc := 41) (x := (i : Int)) dX10_mill_41 rfl ?_
      refine g_aaldN (pc := 43) (j := i) dX10_mill_43 c2 (by decide) (by omega) (by omega) (by omega) ?_
      rw [mlF_at (b := 75) (n := 6) (i := i) (by omega)]
      refine g_iload_n (pc := 44) (x := (kd : Int)) dX10_mill_44 rfl ?_
      refine g_iload_n (pc := 45) (x := (M : Int)) dX10_mill_45 rfl ?_
      refine g_iload_n (pc := 46) (x := (n : Int)) dX10_mill_46 rfl ?_
      refine g_callV0 (pc := 47) (as := [vI (kd : Int), vI (M : Int), vI (n : Int)]) (b := 75 + 93 * i) (st := []) lvX10_35 dX10_mill_47 hml (Nat.le_of_ble_eq_true rfl) (by omega) (Nat.zero_le _) (Nat.zero_le _) (c_open (d := 6) hkd hM hM2 n1 hn hk1 hk3 hml cz) ?_
      rintro r8 h3 ⟨rfl, ⟨T, Y, cm, iT, iY⟩, k3⟩
      refine g_iload (pc := 50) (x := (i : Int)) dX10_mill_50 rfl ?_
      exact r_int (pc := 52) dX10_mill_52 rfl rfl (Nat.le_refl _) (Or.inr ⟨i, T, Y, hi, es, hj, rfl, iT, iY, cm.out.1, cP.set c hi rfl k3 cm⟩)
    · obtain ⟨kd9, M9, n9, T9, Y9, P9⟩ := s
      have hml := ((c4 i hi).2 _ es).out.2.1
      refine g_iload (pc := 14) (x := (i : Int)) dX10_mill_14 rfl ?_
      refine g_aload_n (pc := 16) (r := .inl (some 0)) dX10_mill_16 rfl ?_
      refine g_getf (pc := 17) (v := vR 1) flX10_11 dX10_mill_17 c1 rfl ?_
      refine g_qlen (pc := 20) dX10_mill_20 c2 (by decide) ?_
      refine g_icmp_geF (pc := 21) (tgt := 59) dX10_mill_21 (by decide) (by omega) (by omega) (by omega) ?_
      refine g_aload_n (pc := 24) (r := .inl (some 0)) dX10_mill_24 rfl ?_
      refine g_getf (pc := 25) (v := vR 1) flX10_11 dX10_mill_25 c1 rfl ?_
      refine g_iload (pc := 28) (x := (i : Int)) dX10_mill_28 rfl ?_
      refine g_aaldN (pc := 30) (j := i) dX10_mill_30 c2 (by decide) (by omega) (by omega) (by omega) ?_
      rw [mlF_at (b := 75) (n := 6) (i := i) (by omega)]
      refine g_getf (pc := 31) (v := vI 1) flX10_31 dX10_mill_31 hml rfl ?_
      refine g_if_neT (pc := 34) (tgt := 53) dX10_mill_34 (by decide) (by omega) (by omega) ?_
      refine g_iinc (pc := 53) (x := (i : Int)) (lo2 := [(0, vR 0), (1, vI (kd : Int)), (2, vI (M : Int)), (3, vI (n : Int)), (4, vI ((i : Int) + 1))]) dX10_mill_53 rfl (by decide) rfl ?_
      refine g_goto (pc := 56) (tgt := 14) dX10_mill_56 (by decide) ?_
      refine ih (i + 1) _ (by omega) (by omega) (fun j q => ?_)
      by_cases e : j = i
      · rw [e, es]
        exact fun z => nomatch z
      · exact hj j (by omega)
theorem k_mill {N : Nat} {k mm ss : Int} {σ : Nat → Option MSt} {h : MH} (hk : i32 k) (hmm : i32 mm) (hss : i32 ss) (c : CMs N h σ) : Ok mX10_mill 10 0 0 [vR 0, vI k, vI mm, vI ss] N h (fun r9 h2 => (¬ okMill k mm ss ∧ r9 = some (vI (-1)) ∧ cP N h h2 σ) ∨ ∃ kd M n : Nat, k = (kd : Int) ∧ mm = (M : Int) ∧ ss = (n : Int) ∧ okMill k mm ss ∧ (((∀ i, i < 6 → σ i ≠ none) ∧ r9 = some (vI (-1)) ∧ cP N h h2 σ) ∨ ∃ (i : Nat) (T Y : Nat → Int), i < 6 ∧ σ i = none ∧ (∀ j, j < i → σ j ≠ none) ∧ r9 = some (vI (i : Int)) ∧ iniT kd n T ∧ (∀ r, r < n → Y r = 0) ∧ okS kd M n T Y (fun _ _ => 0) ∧ cP N h h2 (va_up σ i (some (kd, M, n, T, Y, fun _ _ => 0))))) := by
  refine Ok.of pfX10_mill rfl (Nat.le_of_ble_eq_true rfl) (fun Ls sx => ?_)
  show G mX10_mill (10, 0, 0, Ls, sx) 0 [(0, vR 0), (1, vI k), (2, vI mm), (3, vI ss)] [] (0, 0, N) h _
  obtain ⟨c1, c2, c3, c4⟩ := id c
  refine g_iload_n (pc := 0) (x := k) dX10_mill_0 rfl ?_
  refine g_iload_n (pc := 1) (x := mm) dX10_mill_1 rfl ?_
  refine g_iload_n (pc := 2) (x := ss) dX10_mill_2 rfl ?_
  refine g_callS0 (pc := 3) (as := [vI k, vI mm, vI ss]) (st := []) lsX10_27 dX10_mill_3 (Nat.le_of_ble_eq_true rfl) (by omega) (Nat.zero_le _) (Nat.zero_le _) (c_canBe (d := 9) hk hmm hss) ?_
  rintro r8 h9 ⟨e9, e8⟩
  subst e9
  rcases e8 with ⟨e8, hok⟩ | ⟨e8, hok⟩ <;> subst e8
  · refine g_if_neT (pc := 6) (tgt := 11) dX10_mill_6 (by decide) (by omega) (by omega) ?_
    obtain ⟨q1, q2, q3, q4, q5⟩ := hok
    obtain ⟨kd, ek⟩ : ∃ kd : Nat, k = (kd : Int) := ⟨k.toNat, by omega⟩
    obtain ⟨M, em⟩ : ∃ M : Nat, mm = (M : Int) := ⟨mm.toNat, by omega⟩
    obtain ⟨n, en⟩ : ∃ n : Nat, ss = (n : Int) := ⟨ss.toNat, by omega⟩
    subst ek em en
    refine g_iconst (pc := 11) dX10_mill_11 ?_
    refine g_istore (pc := 12) (lo2 := [(0, vR 0), (1, vI (kd : Int)), (2, vI (M : Int)), (3, vI (n : Int)), (4, vI 0)]) dX10_mill_12 (by decide) rfl ?_
    refine Q_mono (kml_l (by omega) (by omega) (by omega) (by omega) (by omega) (fun z => by have := q4 (by omega); omega) (fun z => by have := q5 (by omega); omega) c 6 0 _ (by omega) rfl (fun j z => absurd z (Nat.not_lt_zero j))) ?_
    rintro r9 h2 z
    exact Or.inr ⟨kd, M, n, rfl, rfl, rfl, ⟨q1, q2, q3, q4, q5⟩, z⟩
  · refine g_if_neF (pc := 6) (tgt := 11) dX10_mill_6 (by decide) (by omega) (by omega) ?_
    refine g_iconst (pc := 9) dX10_mill_9 ?_
    exact r_int (pc := 10) dX10_mill_10 rfl rfl (Nat.le_refl _) (Or.inl ⟨hok, rfl, cP.rfl c⟩)
