/-! ===== Picture: startOf, moveBy, looksAlike, has, place, clear; Rounds: turnsToLookAlike ===== -/
theorem inc_mod {a c M : Int} (hM : 0 < M) (hc : 0 ≤ c ∧ c < M) : (a % M + c < M → a % M + c = (a + c) % M) ∧ (M ≤ a % M + c → a % M + c - M = (a + c) % M) := by
  have h0 := Int.emod_nonneg a (show M ≠ 0 by omega)
  have h1 := Int.emod_lt_of_pos a hM
  have e : (a % M + c) % M = (a + c) % M := Int.emod_add_emod a M c
  constructor
  · intro h
    rw [← e, Int.emod_eq_of_lt (by omega) h]
  · intro h
    have e2 : (a % M + c - M + M) % M = (a % M + c - M) % M := Int.add_emod_right _ _
    rw [show a % M + c - M + M = a % M + c by omega, e, Int.emod_eq_of_lt (a := a % M + c - M) (b := M) (by omega) (by omega)] at e2
    exact e2.symm
theorem pX_inc {M : Nat} {A : Nat → Int} (hM : 0 < M) (hA : 0 ≤ A 1 ∧ A 1 < M) (x y : Nat) : ((pX M A x y : Int) + A 1 < M → (pX M A x y : Int) + A 1 = (pX M A x (y + 1) : Int)) ∧ ((M : Int) ≤ (pX M A x y : Int) + A 1 → (pX M A x y : Int) + A 1 - M = (pX M A x (y + 1) : Int)) := by
  rw [pX_I hM, pX_I hM, show A 2 + A 0 * (x : Int) + A 1 * ((y + 1 : Nat) : Int) = A 2 + A 0 * x + A 1 * y + A 1 by rw [Int.natCast_add]; grind]
  exact inc_mod (by omega) hA
theorem pY_inc {M : Nat} {A : Nat → Int} (hM : 0 < M) (hA : 0 ≤ A 6 ∧ A 6 < M) (x y : Nat) : ((pY M A x y : Int) + A 6 < M → (pY M A x y : Int) + A 6 = (pY M A x (y + 1) : Int)) ∧ ((M : Int) ≤ (pY M A x y : Int) + A 6 → (pY M A x y : Int) + A 6 - M = (pY M A x (y + 1) : Int)) := by
  rw [pY_I hM, pY_I hM, show A 7 + A 5 * (x : Int) + A 6 * ((y + 1 : Nat) : Int) = A 7 + A 5 * x + A 6 * y + A 6 by rw [Int.natCast_add]; grind]
  exact inc_mod (by omega) hA
theorem cell_lt {M x y : Nat} (hM : M ≤ 64) (hx : x < M) (hy : y < M) : x * M + y < M * M ∧ M * M ≤ 4096 := by
  have h1 := Nat.mul_le_mul_right M (show x + 1 ≤ M by omega)
  have h2 := Nat.mul_le_mul hM hM
  rw [Nat.add_mul, Nat.one_mul] at h1
  omega
theorem cell_inj {M x y x2 y2 : Nat} (hy : y < M) (hy2 : y2 < M) (e : x * M + y = x2 * M + y2) : x = x2 ∧ y = y2 := by
  have h1 := hor_dm (a := x) hy
  have h2 := hor_dm (a := x2) hy2
  rw [e] at h1
  exact ⟨h1.1.symm.trans h2.1, h1.2.symm.trans h2.2⟩
/-- the step's numbers -/
def stp (Y A : Nat → Int) (M : Nat) : Prop := (Y 0 = A 0 ∧ Y 1 = A 1 ∧ Y 4 = A 2 ∧ Y 5 = A 5 ∧ Y 6 = A 6 ∧ Y 9 = A 7) ∧ ∀ j, 0 ≤ A j ∧ A j < M
theorem stp_of {Y A : Nat → Int} {M : Nat} (hA : au 2 Y = A) (hc : can 3 M A) : stp Y A M := by
  subst hA
  exact ⟨⟨rfl, rfl, rfl, rfl, rfl, rfl⟩, hc.2⟩

theorem c_startOfX {N d b M x : Nat} {Y A : Nat → Int} {h : MH} (hM : 2 ≤ M) (hM2 : M ≤ 64) (hx : x < M) (hs : stp Y A M) (hp : Hd (0, 0, N) h (b + 5) (eO 5 [vR (b + 6), vI (M : Int)])) (hY : Hd (0, 0, N) h (b + 90) (eA 0 20 Y)) : Ok mX5_startOf (d + 2) 0 0 [vR (b + 5), vR (b + 90), vI 0, vI (x : Int)] N h (fun r h2 => h2 = h ∧ r = some (vI (pX M A x 0 : Int))) := by
  refine Ok.of pfX5_startOf rfl (Nat.le_of_ble_eq_true rfl) (fun Ls sx => ?_)
  show G mX5_startOf (d + 2, 0, 0, Ls, sx) 0 [(0, vR (b + 5)), (1, vR (b + 90)), (2, vI 0), (3, vI (x : Int))] [] (0, 0, N) h _
  obtain ⟨⟨y0, y1, y4, y5, y6, y9⟩, hb⟩ := hs
  have b0 := hb 0
  have b2 := hb 2
  have m1 := mul_bd (A := 500) (B := 64) (x := A 0) (y := (x : Int)) (by omega) (by omega)
  refine g_aload_n (pc := 0) (r := .inl (some (b + 90))) dX5_startOf_0 rfl ?_
  refine g_iload_n (pc := 1) (x := 0) dX5_startOf_1 rfl ?_
  refine g_ialdN (pc := 2) (j := 0) dX5_startOf_2 hY (by omega) (by omega) (by omega) ?_
  rw [y0]
  refine g_i2l (pc := 3) dX5_startOf_3 (by omega) ?_
  refine g_iload_n (pc := 4) (x := (x : Int)) dX5_startOf_4 rfl ?_
  refine g_i2l (pc := 5) dX5_startOf_5 (by omega) ?_
  refine g_lmul (pc := 6) dX5_startOf_6 ?_
  refine g_aload_n (pc := 7) (r := .inl (some (b + 90))) dX5_startOf_7 rfl ?_
  refine g_iload_n (pc := 8) (x := 0) dX5_startOf_8 rfl ?_
  refine g_iconst (pc := 9) dX5_startOf_9 ?_
  refine g_iadd (pc := 10) dX5_startOf_10 ?_
  refine g_ialdN (pc := 11) (j := 0 + 4) dX5_startOf_11 hY (by omega) (by omega) (by omega) ?_
  rw [show Y (0 + 4) = A 2 from y4]
  refine g_i2l (pc := 12) dX5_startOf_12 (by omega) ?_
  refine g_ladd (pc := 13) dX5_startOf_13 ?_
  refine g_aload_n (pc := 14) (r := .inl (some (b + 5))) dX5_startOf_14 rfl ?_
  refine g_getf (pc := 15) (v := vI (M : Int)) flX5_21 dX5_startOf_15 hp rfl ?_
  refine g_callS0 (pc := 18) (as := [vJ (((A 0) * (x : Int)) + (A 2)), vI (M : Int)]) (st := []) lsX5_43 dX5_startOf_18 (Nat.le_of_ble_eq_true rfl) (by omega) (Nat.zero_le _) (Nat.zero_le _) (c_restOf (d := d) (by omega) (by omega) (by omega)) ?_
  rintro r h1 ⟨e9, e8⟩
  subst e9
  subst e8
  exact r_int (pc := 21) dX5_startOf_21 rfl rfl (Nat.le_refl _) ⟨rfl, by rw [pX_I (by omega), show A 2 + A 0 * (x : Int) + A 1 * ((0 : Nat) : Int) = A 0 * x + A 2 by omega]⟩

theorem c_startOfY {N d b M x : Nat} {Y A : Nat → Int} {h : MH} (hM : 2 ≤ M) (hM2 : M ≤ 64) (hx : x < M) (hs : stp Y A M) (hp : Hd (0, 0, N) h (b + 5) (eO 5 [vR (b + 6), vI (M : Int)])) (hY : Hd (0, 0, N) h (b + 90) (eA 0 20 Y)) : Ok mX5_startOf (d + 2) 0 0 [vR (b + 5), vR (b + 90), vI 5, vI (x : Int)] N h (fun r h2 => h2 = h ∧ r = some (vI (pY M A x 0 : Int))) := by
  refine Ok.of pfX5_startOf rfl (Nat.le_of_ble_eq_true rfl) (fun Ls sx => ?_)
  show G mX5_startOf (d + 2, 0, 0, Ls, sx) 0 [(0, vR (b + 5)), (1, vR (b + 90)), (2, vI 5), (3, vI (x : Int))] [] (0, 0, N) h _
  obtain ⟨⟨y0, y1, y4, y5, y6, y9⟩, hb⟩ := hs
  have b0 := hb 5
  have b2 := hb 7
  have m1 := mul_bd (A := 500) (B := 64) (x := A 5) (y := (x : Int)) (by omega) (by omega)
  refine g_aload_n (pc := 0) (r := .inl (some (b + 90))) dX5_startOf_0 rfl ?_
  refine g_iload_n (pc := 1) (x := 5) dX5_startOf_1 rfl ?_
  refine g_ialdN (pc := 2) (j := 5) dX5_startOf_2 hY (by omega) (by omega) (by omega) ?_
  rw [y5]
  refine g_i2l (pc := 3) dX5_startOf_3 (by omega) ?_
  refine g_iload_n (pc := 4) (x := (x : Int)) dX5_startOf_4 rfl ?_
  refine g_i2l (pc := 5) dX5_startOf_5 (by omega) ?_
  refine g_lmul (pc := 6) dX5_startOf_6 ?_
  refine g_aload_n (pc := 7) (r := .inl (some (b + 90))) dX5_startOf_7 rfl ?_
  refine g_iload_n (pc := 8) (x := 5) dX5_startOf_8 rfl ?_
  refine g_iconst (pc := 9) dX5_startOf_9 ?_
  refine g_iadd (pc := 10) dX5_startOf_10 ?_
  refine g_ialdN (pc := 11) (j := 5 + 4) dX5_startOf_11 hY (by omega) (by omega) (by omega) ?_
  rw [show Y (5 + 4) = A 7 from y9]
  refine g_i2l (pc := 12) dX5_startOf_12 (by omega) ?_
  refine g_ladd (pc := 13) dX5_startOf_13 ?_
  refine g_aload_n (pc := 14) (r := .inl (some (b + 5))) dX5_startOf_14 rfl ?_
  refine g_getf (pc := 15) (v := vI (M : Int)) flX5_21 dX5_startOf_15 hp rfl ?_
  refine g_callS0 (pc := 18) (as := [vJ (((A 5) * (x : Int)) + (A 7)), vI (M : Int)]) (st := []) lsX5_43 dX5_startOf_18 (Nat.le_of_ble_eq_true rfl) (by omega) (Nat.zero_le _) (Nat.zero_le _) (c_restOf (d := d) (by omega) (by omega) (by omega)) ?_
  rintro r h1 ⟨e9, e8⟩
  subst e9
  subst e8
  exact r_int (pc := 21) dX5_startOf_21 rfl rfl (Nat.le_refl _) ⟨rfl, by rw [pY_I (by omega), show A 7 + A 5 * (x : Int) + A 6 * ((0 : Nat) : Int) = A 5 * x + A 7 by omega]⟩

theorem mvb_i {N d b M x Ls : Nat} {sx Y A f : Nat → Int} {P P2 : Nat → Nat → Int} {h0 : MH} {Q : Option MV → MR → MH → Prop} (hM : 2 ≤ M) (hM2 : M ≤ 64) (hb : 75 ≤ b) (hs : stp Y A M) (hP : ∀ x y, x < M → y < M → f (x * M + y) = P x y) (hP2 : ∀ x y, x < M → y < M → P2 (pX M A x y) (pY M A x y) = P x y) (hp0 : Hd (0, 0, N) h0 (b + 5) (eO 5 [vR (b + 6), vI (M : Int)])) (hf0 : Hd (0, 0, N) h0 (b + 6) (eA 0 4096 f)) (hY0 : Hd (0, 0, N) h0 (b + 90) (eA 0 20 Y)) (hx : x < M) (hK : ∀ (xa : Int) (sp : Nat → Int) (h2 : MH), xa = (((x + 1) * M : Nat) : Int) → Hd (0, 0, N) h2 74 (eA 0 4096 sp) → (∀ x0 y0, x0 < M → y0 < M → (x0 < (x + 1) ∨ (x0 = (x + 1) ∧ y0 < 0)) → sp (pX M A x0 y0 * M + pY M A x0 y0) = P2 (pX M A x0 y0) (pY M A x0 y0)) → (∀ a, a ≠ 74 → h2 a = h0 a) → G mX5_moveBy (d + 3, 0, 0, Ls, sx) 134 [(0, vR (b + 5)), (1, vR (b + 90)), (2, vR 74), (3, vI xa), (4, vI (x : Int))] [] (0, 0, N) h2 Q) : ∀ (g y : Nat) (xa xy e5 e6 : Int) (sp : Nat → Int) (h : MH), y + g = M → xa = ((x * M + y : Nat) : Int) → xy = (y : Int) → e5 = (pX M A x y : Int) → e6 = (pY M A x y : Int) → Hd (0, 0, N) h 74 (eA 0 4096 sp) → (∀ x0 y0, x0 < M → y0 < M → (x0 < x ∨ (x0 = x ∧ y0 < y)) → sp (pX M A x0 y0 * M + pY M A x0 y0) = P2 (pX M A x0 y0) (pY M A x0 y0)) → (∀ a, a ≠ 74 → h a = h0 a) → G mX5_moveBy (d + 3, 0, 0, Ls, sx) 37 [(0, vR (b + 5)), (1, vR (b + 90)), (2, vR 74), (3, vI xa), (4, vI (x : Int)), (5, vI e5), (6, vI e6), (7, vI xy)] [] (0, 0, N) h Q := by
  intro g
  induction g with
  | zero =>
    intro y xa xy e5 e6 sp h hg ea ey h5 h6 hsp hi hk
    have hp := hp0.keep (hk _ (by omega))
    have hf := hf0.keep (hk _ (by omega))
    have hY := hY0.keep (hk _ (by omega))
    refine g_iload (pc := 37) (x := xy) dX5_moveBy_37 rfl ?_
    refine g_aload_n (pc := 39) (r := .inl (some (b + 5))) dX5_moveBy_39 rfl ?_
    refine g_getf (pc := 40) (v := vI (M : Int)) flX5_21 dX5_moveBy_40 hp rfl ?_
    refine g_icmp_geT (pc := 43) (tgt := 134) dX5_moveBy_43 (by decide) (by omega) (by omega) (by omega) ?_
    refine g_pick [0, 1, 2, 3, 4] (lo2 := [(0, vR (b + 5)), (1, vR (b + 90)), (2, vR 74), (3, vI xa), (4, vI (x : Int))]) rfl ?_
    refine hK xa sp h ?_ hsp (fun x0 y0 q1 q2 q3 => hi x0 y0 q1 q2 (by omega)) hk
    rw [ea, Nat.add_mul, Nat.one_mul, show y = M by omega]
  | succ g ih =>
    intro y xa xy e5 e6 sp h hg ea ey h5 h6 hsp hi hk
    have hp := hp0.keep (hk _ (by omega))
    have hf := hf0.keep (hk _ (by omega))
    have hY := hY0.keep (hk _ (by omega))
    obtain ⟨⟨s0, s1, s4, s5, s6, s9⟩, sb⟩ := id hs
    have b1 := sb 1
    have b6 := sb 6
    have lX := pX_lt (A := A) (x := x) (y := y) (show 0 < M by omega)
    have lY := pY_lt (A := A) (x := x) (y := y) (show 0 < M by omega)
    have c1 := cell_lt hM2 lX lY
    have c2 := cell_lt hM2 hx (show y < M by omega)
    have iX := pX_inc (A := A) (show 0 < M by omega) b1 x y
    have iY := pY_inc (A := A) (show 0 < M by omega) b6 x y
    subst h5
    subst h6
    refine g_iload (pc := 37) (x := xy) dX5_moveBy_37 rfl ?_
    refine g_aload_n (pc := 39) (r := .inl (some (b + 5))) dX5_moveBy_39 rfl ?_
    refine g_getf (pc := 40) (v := vI (M : Int)) flX5_21 dX5_moveBy_40 hp rfl ?_
    refine g_icmp_geF (pc := 43) (tgt := 134) dX5_moveBy_43 (by decide) (by omega) (by omega) (by omega) ?_
    refine g_aload_n (pc := 46) (r := .inl (some 74)) dX5_moveBy_46 rfl ?_
    refine g_iload (pc := 47) (x := (pX M A x y : Int)) dX5_moveBy_47 rfl ?_
    refine g_aload_n (pc := 49) (r := .inl (some (b + 5))) dX5_moveBy_49 rfl ?_
    refine g_getf (pc := 50) (v := vI (M : Int)) flX5_21 dX5_moveBy_50 hp rfl ?_
    refine g_imul (pc := 53) dX5_moveBy_53 ?_
    refine g_iload (pc := 54) (x := (pY M A x y : Int)) dX5_moveBy_54 rfl ?_
    refine g_iadd (pc := 56) dX5_moveBy_56 ?_
    refine g_aload_n (pc := 57) (r := .inl (some (b + 5))) dX5_moveBy_57 rfl ?_
    refine g_getf (pc := 58) (v := vR (b + 6)) flX5_9 dX5_moveBy_58 hp rfl ?_
    refine g_iload_n (pc := 61) (x := xa) dX5_moveBy_61 rfl ?_
    refine g_ialdN (pc := 62) (j := x * M + y) dX5_moveBy_62 hf (by omega) (by omega) (by omega) ?_
    rw [hP x y hx (by omega), ← hP2 x y hx (by omega)]
    refine g_iastN (pc := 63) (j := ((pX M A x y) * M) + (pY M A x y)) dX5_moveBy_63 hsp (by omega) (by omega) (by omega) ?_
    have hp_1 := hp.ne (e := eA 0 4096 (va_up sp (((pX M A x y) * M) + (pY M A x y)) (P2 (pX M A x y) (pY M A x y)))) (a := 74) (by omega)
    have hf_1 := hf.ne (e := eA 0 4096 (va_up sp (((pX M A x y) * M) + (pY M A x y)) (P2 (pX M A x y) (pY M A x y)))) (a := 74) (by omega)
    have hY_1 := hY.ne (e := eA 0 4096 (va_up sp (((pX M A x y) * M) + (pY M A x y)) (P2 (pX M A x y) (pY M A x y)))) (a := 74) (by omega)
    have hsp_1 := hsp.self (e := eA 0 4096 (va_up sp (((pX M A x y) * M) + (pY M A x y)) (P2 (pX M A x y) (pY M A x y))))
    have hi2 : (∀ x0 y0, x0 < M → y0 < M → (x0 < x ∨ (x0 = x ∧ y0 < (y + 1))) → (va_up sp (((pX M A x y) * M) + (pY M A x y)) (P2 (pX M A x y) (pY M A x y))) (pX M A x0 y0 * M + pY M A x0 y0) = P2 (pX M A x0 y0) (pY M A x0 y0)) := fun x0 y0 q1 q2 q3 => by
      by_cases e : pX M A x0 y0 * M + pY M A x0 y0 = (pX M A x y) * M + (pY M A x y)
      · obtain ⟨ex, ey2⟩ := cell_inj (pY_lt (by omega)) lY e
        rw [ex, ey2, va_up_self]
      · rw [va_up_ne _ _ e]
        refine hi x0 y0 q1 q2 ?_
        by_cases e2 : x0 = x ∧ y0 = y
        · rw [e2.1, e2.2] at e
          exact absurd rfl e
        · omega
    refine g_iinc (pc := 64) (x := xa) (lo2 := [(0, vR (b + 5)), (1, vR (b + 90)), (2, vR 74), (3, vI (xa + 1)), (4, vI (x : Int)), (5, vI (pX M A x y : Int)), (6, vI (pY M A x y : Int)), (7, vI xy)]) dX5_moveBy_64 rfl (by decide) rfl ?_
    refine g_iload (pc := 67) (x := (pX M A x y : Int)) dX5_moveBy_67 rfl ?_
    refine g_aload_n (pc := 69) (r := .inl (some (b + 90))) dX5_moveBy_69 rfl ?_
    refine g_iconst (pc := 70) dX5_moveBy_70 ?_
    refine g_ialdN (pc := 71) (j := 1) dX5_moveBy_71 hY_1 (by omega) (by omega) (by omega) ?_
    rw [s1]
    refine g_iadd (pc := 72) dX5_moveBy_72 ?_
    refine g_istore (pc := 73) (lo2 := [(0, vR (b + 5)), (1, vR (b + 90)), (2, vR 74), (3, vI (xa + 1)), (4, vI (x : Int)), (5, vI ((pX M A x y : Int) + (A 1))), (6, vI (pY M A x y : Int)), (7, vI xy)]) dX5_moveBy_73 (by decide) rfl ?_
    refine g_iload (pc := 75) (x := (pX M A x y : Int) + (A 1)) dX5_moveBy_75 rfl ?_
    refine g_iload (pc := 77) (x := (pX M A x y : Int) + (A 1)) dX5_moveBy_77 rfl ?_
    refine g_aload_n (pc := 79) (r := .inl (some (b + 5))) dX5_moveBy_79 rfl ?_
    refine g_getf (pc := 80) (v := vI (M : Int)) flX5_21 dX5_moveBy_80 hp_1 rfl ?_
    refine g_icmp_ge (pc := 83) (tgt := 90) dX5_moveBy_83 (by decide) (by omega) (by omega) (fun t5 => ?_) (fun t5 => ?_)
    · refine g_aload_n (pc := 90) (r := .inl (some (b + 5))) dX5_moveBy_90 rfl ?_
      refine g_getf (pc := 91) (v := vI (M : Int)) flX5_21 dX5_moveBy_91 hp_1 rfl ?_
      refine g_isub (pc := 94) dX5_moveBy_94 ?_
      refine g_istore (pc := 95) (lo2 := [(0, vR (b + 5)), (1, vR (b + 90)), (2, vR 74), (3, vI (xa + 1)), (4, vI (x : Int)), (5, vI (((pX M A x y : Int) + (A 1)) - (M : Int))), (6, vI (pY M A x y : Int)), (7, vI xy)]) dX5_moveBy_95 (by decide) rfl ?_
      refine g_iload (pc := 97) (x := (pY M A x y : Int)) dX5_moveBy_97 rfl ?_
      refine g_aload_n (pc := 99) (r := .inl (some (b + 90))) dX5_moveBy_99 rfl ?_
      refine g_bipush (pc := 100) dX5_moveBy_100 (by decide +kernel) ?_
      refine g_ialdN (pc := 102) (j := 6) dX5_moveBy_102 hY_1 (by omega) (by omega) (by omega) ?_
      rw [s6]
      refine g_iadd (pc := 103) dX5_moveBy_103 ?_
      refine g_istore (pc := 104) (lo2 := [(0, vR (b + 5)), (1, vR (b + 90)), (2, vR 74), (3, vI (xa + 1)), (4, vI (x : Int)), (5, vI (((pX M A x y : Int) + (A 1)) - (M : Int))), (6, vI ((pY M A x y : Int) + (A 6))), (7, vI xy)]) dX5_moveBy_104 (by decide) rfl ?_
      refine g_iload (pc := 106) (x := (pY M A x y : Int) + (A 6)) dX5_moveBy_106 rfl ?_
      refine g_iload (pc := 108) (x := (pY M A x y : Int) + (A 6)) dX5_moveBy_108 rfl ?_
      refine g_aload_n (pc := 110) (r := .inl (some (b + 5))) dX5_moveBy_110 rfl ?_
      refine g_getf (pc := 111) (v := vI (M : Int)) flX5_21 dX5_moveBy_111 hp_1 rfl ?_
      refine g_icmp_ge (pc := 114) (tgt := 121) dX5_moveBy_114 (by decide) (by omega) (by omega) (fun t6 => ?_) (fun t6 => ?_)
      · refine g_aload_n (pc := 121) (r := .inl (some (b + 5))) dX5_moveBy_121 rfl ?_
        refine g_getf (pc := 122) (v := vI (M : Int)) flX5_21 dX5_moveBy_122 hp_1 rfl ?_
        refine g_isub (pc := 125) dX5_moveBy_125 ?_
        refine g_istore (pc := 126) (lo2 := [(0, vR (b + 5)), (1, vR (b + 90)), (2, vR 74), (3, vI (xa + 1)), (4, vI (x : Int)), (5, vI (((pX M A x y : Int) + (A 1)) - (M : Int))), (6, vI (((pY M A x y : Int) + (A 6)) - (M : Int))), (7, vI xy)]) dX5_moveBy_126 (by decide) rfl ?_
        refine g_iinc (pc := 128) (x := xy) (lo2 := [(0, vR (b + 5)), (1, vR (b + 90)), (2, vR 74), (3, vI (xa + 1)), (4, vI (x : Int)), (5, vI (((pX M A x y : Int) + (A 1)) - (M : Int))), (6, vI (((pY M A x y : Int) + (A 6)) - (M : Int))), (7, vI (xy + 1))]) dX5_moveBy_128 rfl (by decide) rfl ?_
        refine g_goto (pc := 131) (tgt := 37) dX5_moveBy_131 (by decide) ?_
        exact ih (y + 1) _ _ _ _ _ _ (by omega) (by omega) (by omega) (iX.2 (by omega)) (iY.2 (by omega)) hsp_1 hi2 (fun a z1 => (va_up_ne _ _ z1).trans (hk a z1))
      · refine g_iconst (pc := 117) dX5_moveBy_117 ?_
        refine g_goto (pc := 118) (tgt := 125) dX5_moveBy_118 (by decide) ?_
        refine g_isub (pc := 125) dX5_moveBy_125 ?_
        refine g_istore (pc := 126) (lo2 := [(0, vR (b + 5)), (1, vR (b + 90)), (2, vR 74), (3, vI (xa + 1)), (4, vI (x : Int)), (5, vI (((pX M A x y : Int) + (A 1)) - (M : Int))), (6, vI (((pY M A x y : Int) + (A 6)) - 0)), (7, vI xy)]) dX5_moveBy_126 (by decide) rfl ?_
        refine g_iinc (pc := 128) (x := xy) (lo2 := [(0, vR (b + 5)), (1, vR (b + 90)), (2, vR 74), (3, vI (xa + 1)), (4, vI (x : Int)), (5, vI (((pX M A x y : Int) + (A 1)) - (M : Int))), (6, vI (((pY M A x y : Int) + (A 6)) - 0)), (7, vI (xy + 1))]) dX5_moveBy_128 rfl (by decide) rfl ?_
        refine g_goto (pc := 131) (tgt := 37) dX5_moveBy_131 (by decide) ?_
        exact ih (y + 1) _ _ _ _ _ _ (by omega) (by omega) (by omega) (iX.2 (by omega)) ((Int.sub_zero _).trans (iY.1 (by omega))) hsp_1 hi2 (fun a z1 => (va_up_ne _ _ z1).trans (hk a z1))
    · refine g_iconst (pc := 86) dX5_moveBy_86 ?_
      refine g_goto (pc := 87) (tgt := 94) dX5_moveBy_87 (by decide) ?_
      refine g_isub (pc := 94) dX5_moveBy_94 ?_
      refine g_istore (pc := 95) (lo2 := [(0, vR (b + 5)), (1, vR (b + 90)), (2, vR 74), (3, vI (xa + 1)), (4, vI (x : Int)), (5, vI (((pX M A x y : Int) + (A 1)) - 0)), (6, vI (pY M A x y : Int)), (7, vI xy)]) dX5_moveBy_95 (by decide) rfl ?_
      refine g_iload (pc := 97) (x := (pY M A x y : Int)) dX5_moveBy_97 rfl ?_
      refine g_aload_n (pc := 99) (r := .inl (some (b + 90))) dX5_moveBy_99 rfl ?_
      refine g_bipush (pc := 100) dX5_moveBy_100 (by decide +kernel) ?_
      refine g_ialdN (pc := 102) (j := 6) dX5_moveBy_102 hY_1 (by omega) (by omega) (by omega) ?_
      rw [s6]
      refine g_iadd (pc := 103) dX5_moveBy_103 ?_
      refine g_istore (pc := 104) (lo2 := [(0, vR (b + 5)), (1, vR (b + 90)), (2, vR 74), (3, vI (xa + 1)), (4, vI (x : Int)), (5, vI (((pX M A x y : Int) + (A 1)) - 0)), (6, vI ((pY M A x y : Int) + (A 6))), (7, vI xy)]) dX5_moveBy_104 (by decide) rfl ?_
      refine g_iload (pc := 106) (x := (pY M A x y : Int) + (A 6)) dX5_moveBy_106 rfl ?_
      refine g_iload (pc := 108) (x := (pY M A x y : Int) + (A 6)) dX5_moveBy_108 rfl ?_
      refine g_aload_n (pc := 110) (r := .inl (some (b + 5))) dX5_moveBy_110 rfl ?_
      refine g_getf (pc := 111) (v := vI (M : Int)) flX5_21 dX5_moveBy_111 hp_1 rfl ?_
      refine g_icmp_ge (pc := 114) (tgt := 121) dX5_moveBy_114 (by decide) (by omega) (by omega) (fun t6 => ?_) (fun t6 => ?_)
      · refine g_aload_n (pc := 121) (r := .inl (some (b + 5))) dX5_moveBy_121 rfl ?_
        refine g_getf (pc := 122) (v := vI (M : Int)) flX5_21 dX5_moveBy_122 hp_1 rfl ?_
        refine g_isub (pc := 125) dX5_moveBy_125 ?_
        refine g_istore (pc := 126) (lo2 := [(0, vR (b + 5)), (1, vR (b + 90)), (2, vR 74), (3, vI (xa + 1)), (4, vI (x : Int)), (5, vI (((pX M A x y : Int) + (A 1)) - 0)), (6, vI (((pY M A x y : Int) + (A 6)) - (M : Int))), (7, vI xy)]) dX5_moveBy_126 (by decide) rfl ?_
        refine g_iinc (pc := 128) (x := xy) (lo2 := [(0, vR (b + 5)), (1, vR (b + 90)), (2, vR 74), (3, vI (xa + 1)), (4, vI (x : Int)), (5, vI (((pX M A x y : Int) + (A 1)) - 0)), (6, vI (((pY M A x y : Int) + (A 6)) - (M : Int))), (7, vI (xy + 1))]) dX5_moveBy_128 rfl (by decide) rfl ?_
        refine g_goto (pc := 131) (tgt := 37) dX5_moveBy_131 (by decide) ?_
        exact ih (y + 1) _ _ _ _ _ _ (by omega) (by omega) (by omega) ((Int.sub_zero _).trans (iX.1 (by omega))) (iY.2 (by omega)) hsp_1 hi2 (fun a z1 => (va_up_ne _ _ z1).trans (hk a z1))
      · refine g_iconst (pc := 117) dX5_moveBy_117 ?_
        refine g_goto (pc := 118) (tgt := 125) dX5_moveBy_118 (by decide) ?_
        refine g_isub (pc := 125) dX5_moveBy_125 ?_
        refine g_istore (pc := 126) (lo2 := [(0, vR (b + 5)), (1, vR (b + 90)), (2, vR 74), (3, vI (xa + 1)), (4, vI (x : Int)), (5, vI (((pX M A x y : Int) + (A 1)) - 0)), (6, vI (((pY M A x y : Int) + (A 6)) - 0)), (7, vI xy)]) dX5_moveBy_126 (by decide) rfl ?_
        refine g_iinc (pc := 128) (x := xy) (lo2 := [(0, vR (b + 5)), (1, vR (b + 90)), (2, vR 74), (3, vI (xa + 1)), (4, vI (x : Int)), (5, vI (((pX M A x y : Int) + (A 1)) - 0)), (6, vI (((pY M A x y : Int) + (A 6)) - 0)), (7, vI (xy + 1))]) dX5_moveBy_128 rfl (by decide) rfl ?_
        refine g_goto (pc := 131) (tgt := 37) dX5_moveBy_131 (by decide) ?_
        exact ih (y + 1) _ _ _ _ _ _ (by omega) (by omega) (by omega) ((Int.sub_zero _).trans (iX.1 (by omega))) ((Int.sub_zero _).trans (iY.1 (by omega))) hsp_1 hi2 (fun a z1 => (va_up_ne _ _ z1).trans (hk a z1))

theorem mvb_o {N d b M Ls : Nat} {sx Y A f : Nat → Int} {P P2 : Nat → Nat → Int} {h0 : MH} (hM : 2 ≤ M) (hM2 : M ≤ 64) (hb : 75 ≤ b) (hs : stp Y A M) (hP : ∀ x y, x < M → y < M → f (x * M + y) = P x y) (hP2 : ∀ x y, x < M → y < M → P2 (pX M A x y) (pY M A x y) = P x y) (hp0 : Hd (0, 0, N) h0 (b + 5) (eO 5 [vR (b + 6), vI (M : Int)])) (hf0 : Hd (0, 0, N) h0 (b + 6) (eA 0 4096 f)) (hY0 : Hd (0, 0, N) h0 (b + 90) (eA 0 20 Y)) (hsu : ∀ x y, x < M → y < M → ∃ x0 y0, x0 < M ∧ y0 < M ∧ pX M A x0 y0 = x ∧ pY M A x0 y0 = y) : ∀ (g x : Nat) (xa xx : Int) (sp : Nat → Int) (h : MH), x + g = M → xa = ((x * M : Nat) : Int) → xx = (x : Int) → Hd (0, 0, N) h 74 (eA 0 4096 sp) → (∀ x0 y0, x0 < M → y0 < M → (x0 < x ∨ (x0 = x ∧ y0 < 0)) → sp (pX M A x0 y0 * M + pY M A x0 y0) = P2 (pX M A x0 y0) (pY M A x0 y0)) → (∀ a, a ≠ 74 → h a = h0 a) → G mX5_moveBy (d + 3, 0, 0, Ls, sx) 5 [(0, vR (b + 5)), (1, vR (b + 90)), (2, vR 74), (3, vI xa), (4, vI xx)] [] (0, 0, N) h (Pq mX5_moveBy 0 0 (fun r h2 => r = none ∧ (∃ f2, h2 (b + 6) = eA 0 4096 f2 ∧ ∀ x y, x < M → y < M → f2 (x * M + y) = P2 x y) ∧ (∃ f2, Hd (0, 0, N) h2 74 (eA 0 4096 f2)) ∧ ∀ a, a ≠ 74 → a ≠ b + 6 → h2 a = h0 a)) := by
  intro g
  induction g with
  | zero =>
    intro x xa xx sp h hg ea ex hsp hi hk
    have hp := hp0.keep (hk _ (by omega))
    have hf := hf0.keep (hk _ (by omega))
    have hY := hY0.keep (hk _ (by omega))
    have c2 := (cell_lt hM2 (show 0 < M by omega) (show 0 < M by omega)).2
    refine g_iload (pc := 5) (x := xx) dX5_moveBy_5 rfl ?_
    refine g_aload_n (pc := 7) (r := .inl (some (b + 5))) dX5_moveBy_7 rfl ?_
    refine g_getf (pc := 8) (v := vI (M : Int)) flX5_21 dX5_moveBy_8 hp rfl ?_
    refine g_icmp_geT (pc := 11) (tgt := 140) dX5_moveBy_11 (by decide) (by omega) (by omega) (by omega) ?_
    refine g_aload_n (pc := 140) (r := .inl (some 74)) dX5_moveBy_140 rfl ?_
    refine g_iconst (pc := 141) dX5_moveBy_141 ?_
    refine g_aload_n (pc := 142) (r := .inl (some (b + 5))) dX5_moveBy_142 rfl ?_
    refine g_getf (pc := 143) (v := vR (b + 6)) flX5_9 dX5_moveBy_143 hp rfl ?_
    refine g_iconst (pc := 146) dX5_moveBy_146 ?_
    refine g_aload_n (pc := 147) (r := .inl (some (b + 5))) dX5_moveBy_147 rfl ?_
    refine g_getf (pc := 148) (v := vI (M : Int)) flX5_21 dX5_moveBy_148 hp rfl ?_
    refine g_aload_n (pc := 151) (r := .inl (some (b + 5))) dX5_moveBy_151 rfl ?_
    refine g_getf (pc := 152) (v := vI (M : Int)) flX5_21 dX5_moveBy_152 hp rfl ?_
    refine g_imul (pc := 155) dX5_moveBy_155 ?_
    refine g_copy (pc := 156) (st := []) (sp := 0) (dp := 0) (n := M * M) cpX5_37 dX5_moveBy_156 hsp hf (by omega) (by omega) (by omega) (by omega) (by omega) (by omega) (by omega) (by omega) (Nat.le_of_ble_eq_true rfl) ?_
    have hp_1 := hp.ne (e := eA 0 4096 (va_cpy sp f 0 0 (M * M))) (a := b + 6) (by omega)
    have hf_1 := hf.self (e := eA 0 4096 (va_cpy sp f 0 0 (M * M)))
    have hY_1 := hY.ne (e := eA 0 4096 (va_cpy sp f 0 0 (M * M))) (a := b + 6) (by omega)
    have hsp_1 := hsp.ne (e := eA 0 4096 (va_cpy sp f 0 0 (M * M))) (a := b + 6) (by omega)
    have hfin : ∀ x y, x < M → y < M → va_cpy sp f 0 0 (M * M) (x * M + y) = P2 x y := fun x1 y1 q1 q2 => by
      have c3 := (cell_lt hM2 q1 q2).1
      show (if 0 ≤ x1 * M + y1 ∧ x1 * M + y1 < 0 + M * M then sp (0 + (x1 * M + y1 - 0)) else f (x1 * M + y1)) = _
      rw [if_pos ⟨Nat.zero_le _, by omega⟩, show 0 + (x1 * M + y1 - 0) = x1 * M + y1 by omega]
      obtain ⟨x0, y0, u1, u2, u3, u4⟩ := hsu x1 y1 q1 q2
      have := hi x0 y0 u1 u2 (by omega)
      rwa [u3, u4] at this
    exact r_void (pc := 159) dX5_moveBy_159 rfl rfl (Nat.le_refl _) ⟨rfl, ⟨_, hf_1.2, hfin⟩, ⟨_, hsp_1⟩, fun a z1 z2 => (va_up_ne _ _ z2).trans (hk a z1)⟩
  | succ g ih =>
    intro x xa xx sp h hg ea ex hsp hi hk
    have hp := hp0.keep (hk _ (by omega))
    have hf := hf0.keep (hk _ (by omega))
    have hY := hY0.keep (hk _ (by omega))
    subst ex
    refine g_iload (pc := 5) (x := (x : Int)) dX5_moveBy_5 rfl ?_
    refine g_aload_n (pc := 7) (r := .inl (some (b + 5))) dX5_moveBy_7 rfl ?_
    refine g_getf (pc := 8) (v := vI (M : Int)) flX5_21 dX5_moveBy_8 hp rfl ?_
    refine g_icmp_geF (pc := 11) (tgt := 140) dX5_moveBy_11 (by decide) (by omega) (by omega) (by omega) ?_
    refine g_aload_n (pc := 14) (r := .inl (some (b + 5))) dX5_moveBy_14 rfl ?_
    refine g_aload_n (pc := 15) (r := .inl (some (b + 90))) dX5_moveBy_15 rfl ?_
    refine g_iconst (pc := 16) dX5_moveBy_16 ?_
    refine g_iload (pc := 17) (x := (x : Int)) dX5_moveBy_17 rfl ?_
    refine g_callV0 (pc := 19) (as := [vR (b + 90), vI 0, vI (x : Int)]) (b := b + 5) (st := []) lvX5_31 dX5_moveBy_19 hp (Nat.le_of_ble_eq_true rfl) (by omega) (Nat.zero_le _) (Nat.zero_le _) (c_startOfX (d := d) hM hM2 (by omega) hs hp hY) ?_
    rintro r h1 ⟨e9, e8⟩
    subst e9
    subst e8
    refine g_istore (pc := 22) (lo2 := [(0, vR (b + 5)), (1, vR (b + 90)), (2, vR 74), (3, vI xa), (4, vI (x : Int)), (5, vI (pX M A x 0 : Int))]) dX5_moveBy_22 (by decide) rfl ?_
    refine g_aload_n (pc := 24) (r := .inl (some (b + 5))) dX5_moveBy_24 rfl ?_
    refine g_aload_n (pc := 25) (r := .inl (some (b + 90))) dX5_moveBy_25 rfl ?_
    refine g_iconst (pc := 26) dX5_moveBy_26 ?_
    refine g_iload (pc := 27) (x := (x : Int)) dX5_moveBy_27 rfl ?_
    refine g_callV0 (pc := 29) (as := [vR (b + 90), vI 5, vI (x : Int)]) (b := b + 5) (st := []) lvX5_31 dX5_moveBy_29 hp (Nat.le_of_ble_eq_true rfl) (by omega) (Nat.zero_le _) (Nat.zero_le _) (c_startOfY (d := d) hM hM2 (by omega) hs hp hY) ?_
    rintro r h2 ⟨e9, e8⟩
    subst e9
    subst e8
    refine g_istore (pc := 32) (lo2 := [(0, vR (b + 5)), (1, vR (b + 90)), (2, vR 74), (3, vI xa), (4, vI (x : Int)), (5, vI (pX M A x 0 : Int)), (6, vI (pY M A x 0 : Int))]) dX5_moveBy_32 (by decide) rfl ?_
    refine g_iconst (pc := 34) dX5_moveBy_34 ?_
    refine g_istore (pc := 35) (lo2 := [(0, vR (b + 5)), (1, vR (b + 90)), (2, vR 74), (3, vI xa), (4, vI (x : Int)), (5, vI (pX M A x 0 : Int)), (6, vI (pY M A x 0 : Int)), (7, vI 0)]) dX5_moveBy_35 (by decide) rfl ?_
    refine mvb_i (h0 := h0) hM hM2 hb hs hP hP2 hp0 hf0 hY0 (by omega) (fun xa2 sp2 h3 ea2 hsp2 hi2 hk2 => ?_) M 0 _ _ _ _ sp h2 (by omega) (by rw [ea]; rfl) rfl rfl rfl hsp hi hk
    refine g_iinc (pc := 134) (x := (x : Int)) (lo2 := [(0, vR (b + 5)), (1, vR (b + 90)), (2, vR 74), (3, vI xa2), (4, vI ((x : Int) + 1))]) dX5_moveBy_134 rfl (by decide) rfl ?_
    refine g_goto (pc := 137) (tgt := 5) dX5_moveBy_137 (by decide) ?_
    exact ih (x + 1) _ _ sp2 h3 (by omega) ea2 (by omega) hsp2 hi2 hk2

theorem c_moveBy {N d b M : Nat} {Y A f sp : Nat → Int} {P P2 : Nat → Nat → Int} {h : MH} (hM : 2 ≤ M) (hM2 : M ≤ 64) (hb : 75 ≤ b) (hs : stp Y A M) (hP : ∀ x y, x < M → y < M → f (x * M + y) = P x y) (hP2 : ∀ x y, x < M → y < M → P2 (pX M A x y) (pY M A x y) = P x y) (hp0 : Hd (0, 0, N) h (b + 5) (eO 5 [vR (b + 6), vI (M : Int)])) (hf0 : Hd (0, 0, N) h (b + 6) (eA 0 4096 f)) (hY0 : Hd (0, 0, N) h (b + 90) (eA 0 20 Y)) (hsu : ∀ x y, x < M → y < M → ∃ x0 y0, x0 < M ∧ y0 < M ∧ pX M A x0 y0 = x ∧ pY M A x0 y0 = y) (hsp : Hd (0, 0, N) h 74 (eA 0 4096 sp)) : Ok mX5_moveBy (d + 3) 0 0 [vR (b + 5), vR (b + 90), vR 74] N h (fun r h2 => r = none ∧ (∃ f2, h2 (b + 6) = eA 0 4096 f2 ∧ ∀ x y, x < M → y < M → f2 (x * M + y) = P2 x y) ∧ (∃ f2, Hd (0, 0, N) h2 74 (eA 0 4096 f2)) ∧ ∀ a, a ≠ 74 → a ≠ b + 6 → h2 a = h a) := by
  refine Ok.of pfX5_moveBy rfl (Nat.le_of_ble_eq_true rfl) (fun Ls sx => ?_)
  show G mX5_moveBy (d + 3, 0, 0, Ls, sx) 0 [(0, vR (b + 5)), (1, vR (b + 90)), (2, vR 74)] [] (0, 0, N) h _
  refine g_iconst (pc := 0) dX5_moveBy_0 ?_
  refine g_istore_n (pc := 1) (lo2 := [(0, vR (b + 5)), (1, vR (b + 90)), (2, vR 74), (3, vI 0)]) dX5_moveBy_1 (by decide) rfl ?_
  refine g_iconst (pc := 2) dX5_moveBy_2 ?_
  refine g_istore (pc := 3) (lo2 := [(0, vR (b + 5)), (1, vR (b + 90)), (2, vR 74), (3, vI 0), (4, vI 0)]) dX5_moveBy_3 (by decide) rfl ?_
  exact mvb_o hM hM2 hb hs hP hP2 hp0 hf0 hY0 hsu M 0 _ _ sp h (by omega) (by rw [Nat.zero_mul]; rfl) rfl hsp (fun x0 y0 q1 q2 q3 => by omega) (fun _ _ => rfl)

theorem lka_i {N d b M x Ls : Nat} {sx Y A f : Nat → Int} {P : Nat → Nat → Int} {h : MH} (hM : 2 ≤ M) (hM2 : M ≤ 64) (hs : stp Y A M) (hP : ∀ x y, x < M → y < M → f (x * M + y) = P x y) (hPb : ∀ x y, 0 ≤ P x y ∧ P x y ≤ 255) (hp : Hd (0, 0, N) h (b + 5) (eO 5 [vR (b + 6), vI (M : Int)])) (hf : Hd (0, 0, N) h (b + 6) (eA 0 4096 f)) (hY : Hd (0, 0, N) h (b + 90) (eA 0 20 Y)) (hx : x < M) (hK : ∀ xa : Int, xa = (((x + 1) * M : Nat) : Int) → (∀ x0 y0, x0 < M → y0 < M → (x0 < (x + 1) ∨ (x0 = (x + 1) ∧ y0 < 0)) → P (pX M A x0 y0) (pY M A x0 y0) = P x0 y0) → G mX5_looksAlike (d + 3, 0, 0, Ls, sx) 138 [(0, vR (b + 5)), (1, vR (b + 90)), (2, vI xa), (3, vI (x : Int))] [] (0, 0, N) h (Pq mX5_looksAlike 0 0 (fun r h2 => h2 = h ∧ ((r = some (vI 1) ∧ (∀ x y, x < M → y < M → P (pX M A x y) (pY M A x y) = P x y)) ∨ (r = some (vI 0) ∧ ¬ (∀ x y, x < M → y < M → P (pX M A x y) (pY M A x y) = P x y)))))) : ∀ (g y : Nat) (xa xy e5 e6 : Int), y + g = M → xa = ((x * M + y : Nat) : Int) → xy = (y : Int) → e5 = (pX M A x y : Int) → e6 = (pY M A x y : Int) → (∀ x0 y0, x0 < M → y0 < M → (x0 < x ∨ (x0 = x ∧ y0 < y)) → P (pX M A x0 y0) (pY M A x0 y0) = P x0 y0) → G mX5_looksAlike (d + 3, 0, 0, Ls, sx) 33 [(0, vR (b + 5)), (1, vR (b + 90)), (2, vI xa), (3, vI (x : Int)), (4, vI e5), (5, vI e6), (6, vI xy)] [] (0, 0, N) h (Pq mX5_looksAlike 0 0 (fun r h2 => h2 = h ∧ ((r = some (vI 1) ∧ (∀ x y, x < M → y < M → P (pX M A x y) (pY M A x y) = P x y)) ∨ (r = some (vI 0) ∧ ¬ (∀ x y, x < M → y < M → P (pX M A x y) (pY M A x y) = P x y))))) := by
  intro g
  induction g with
  | zero =>
    intro y xa xy e5 e6 hg ea ey h5 h6 hi
    refine g_iload (pc := 33) (x := xy) dX5_looksAlike_33 rfl ?_
    refine g_aload_n (pc := 35) (r := .inl (some (b + 5))) dX5_looksAlike_35 rfl ?_
    refine g_getf (pc := 36) (v := vI (M : Int)) flX5_21 dX5_looksAlike_36 hp rfl ?_
    refine g_icmp_geT (pc := 39) (tgt := 138) dX5_looksAlike_39 (by decide) (by omega) (by omega) (by omega) ?_
    refine g_pick [0, 1, 2, 3] (lo2 := [(0, vR (b + 5)), (1, vR (b + 90)), (2, vI xa), (3, vI (x : Int))]) rfl ?_
    refine hK xa ?_ (fun x0 y0 q1 q2 q3 => hi x0 y0 q1 q2 (by omega))
    rw [ea, Nat.add_mul, Nat.one_mul, show y = M by omega]
  | succ g ih =>
    intro y xa xy e5 e6 hg ea ey h5 h6 hi
    obtain ⟨⟨s0, s1, s4, s5, s6, s9⟩, sb⟩ := id hs
    have b1 := sb 1
    have b6 := sb 6
    have lX := pX_lt (A := A) (x := x) (y := y) (show 0 < M by omega)
    have lY := pY_lt (A := A) (x := x) (y := y) (show 0 < M by omega)
    have c1 := cell_lt hM2 lX lY
    have c2 := cell_lt hM2 hx (show y < M by omega)
    have iX := pX_inc (A := A) (show 0 < M by omega) b1 x y
    have iY := pY_inc (A := A) (show 0 < M by omega) b6 x y
    have p1 := hPb (pX M A x y) (pY M A x y)
    have p2 := hPb x y
    subst h5
    subst h6
    refine g_iload (pc := 33) (x := xy) dX5_looksAlike_33 rfl ?_
    refine g_aload_n (pc := 35) (r := .inl (some (b + 5))) dX5_looksAlike_35 rfl ?_
    refine g_getf (pc := 36) (v := vI (M : Int)) flX5_21 dX5_looksAlike_36 hp rfl ?_
    refine g_icmp_geF (pc := 39) (tgt := 138) dX5_looksAlike_39 (by decide) (by omega) (by omega) (by omega) ?_
    refine g_aload_n (pc := 42) (r := .inl (some (b + 5))) dX5_looksAlike_42 rfl ?_
    refine g_getf (pc := 43) (v := vR (b + 6)) flX5_9 dX5_looksAlike_43 hp rfl ?_
    refine g_iload (pc := 46) (x := (pX M A x y : Int)) dX5_looksAlike_46 rfl ?_
    refine g_aload_n (pc := 48) (r := .inl (some (b + 5))) dX5_looksAlike_48 rfl ?_
    refine g_getf (pc := 49) (v := vI (M : Int)) flX5_21 dX5_looksAlike_49 hp rfl ?_
    refine g_imul (pc := 52) dX5_looksAlike_52 ?_
    refine g_iload (pc := 53) (x := (pY M A x y : Int)) dX5_looksAlike_53 rfl ?_
    refine g_iadd (pc := 55) dX5_looksAlike_55 ?_
    refine g_ialdN (pc := 56) (j := ((pX M A x y) * M) + (pY M A x y)) dX5_looksAlike_56 hf (by omega) (by omega) (by omega) ?_
    rw [hP _ _ lX lY]
    refine g_aload_n (pc := 57) (r := .inl (some (b + 5))) dX5_looksAlike_57 rfl ?_
    refine g_getf (pc := 58) (v := vR (b + 6)) flX5_9 dX5_looksAlike_58 hp rfl ?_
    refine g_iload_n (pc := 61) (x := xa) dX5_looksAlike_61 rfl ?_
    refine g_ialdN (pc := 62) (j := x * M + y) dX5_looksAlike_62 hf (by omega) (by omega) (by omega) ?_
    rw [hP x y hx (by omega)]
    refine g_icmp_eq (pc := 63) (tgt := 68) dX5_looksAlike_63 (by decide) (by omega) (by omega) (fun hc => ?_) (fun hc => ?_)
    · have hi2 : (∀ x0 y0, x0 < M → y0 < M → (x0 < x ∨ (x0 = x ∧ y0 < (y + 1))) → P (pX M A x0 y0) (pY M A x0 y0) = P x0 y0) := fun x0 y0 q1 q2 q3 => by
        by_cases e2 : x0 = x ∧ y0 = y
        · rw [e2.1, e2.2]
          exact hc
        · exact hi x0 y0 q1 q2 (by omega)
      refine g_iinc (pc := 68) (x := xa) (lo2 := [(0, vR (b + 5)), (1, vR (b + 90)), (2, vI (xa + 1)), (3, vI (x : Int)), (4, vI (pX M A x y : Int)), (5, vI (pY M A x y : Int)), (6, vI xy)]) dX5_looksAlike_68 rfl (by decide) rfl ?_
      refine g_iload (pc := 71) (x := (pX M A x y : Int)) dX5_looksAlike_71 rfl ?_
      refine g_aload_n (pc := 73) (r := .inl (some (b + 90))) dX5_looksAlike_73 rfl ?_
      refine g_iconst (pc := 74) dX5_looksAlike_74 ?_
      refine g_ialdN (pc := 75) (j := 1) dX5_looksAlike_75 hY (by omega) (by omega) (by omega) ?_
      rw [s1]
      refine g_iadd (pc := 76) dX5_looksAlike_76 ?_
      refine g_istore (pc := 77) (lo2 := [(0, vR (b + 5)), (1, vR (b + 90)), (2, vI (xa + 1)), (3, vI (x : Int)), (4, vI ((pX M A x y : Int) + (A 1))), (5, vI (pY M A x y : Int)), (6, vI xy)]) dX5_looksAlike_77 (by decide) rfl ?_
      refine g_iload (pc := 79) (x := (pX M A x y : Int) + (A 1)) dX5_looksAlike_79 rfl ?_
      refine g_iload (pc := 81) (x := (pX M A x y : Int) + (A 1)) dX5_looksAlike_81 rfl ?_
      refine g_aload_n (pc := 83) (r := .inl (some (b + 5))) dX5_looksAlike_83 rfl ?_
      refine g_getf (pc := 84) (v := vI (M : Int)) flX5_21 dX5_looksAlike_84 hp rfl ?_
      refine g_icmp_ge (pc := 87) (tgt := 94) dX5_looksAlike_87 (by decide) (by omega) (by omega) (fun t5 => ?_) (fun t5 => ?_)
      · refine g_aload_n (pc := 94) (r := .inl (some (b + 5))) dX5_looksAlike_94 rfl ?_
        refine g_getf (pc := 95) (v := vI (M : Int)) flX5_21 dX5_looksAlike_95 hp rfl ?_
        refine g_isub (pc := 98) dX5_looksAlike_98 ?_
        refine g_istore (pc := 99) (lo2 := [(0, vR (b + 5)), (1, vR (b + 90)), (2, vI (xa + 1)), (3, vI (x : Int)), (4, vI (((pX M A x y : Int) + (A 1)) - (M : Int))), (5, vI (pY M A x y : Int)), (6, vI xy)]) dX5_looksAlike_99 (by decide) rfl ?_
        refine g_iload (pc := 101) (x := (pY M A x y : Int)) dX5_looksAlike_101 rfl ?_
        refine g_aload_n (pc := 103) (r := .inl (some (b + 90))) dX5_looksAlike_103 rfl ?_
        refine g_bipush (pc := 104) dX5_looksAlike_104 (by decide +kernel) ?_
        refine g_ialdN (pc := 106) (j := 6) dX5_looksAlike_106 hY (by omega) (by omega) (by omega) ?_
        rw [s6]
        refine g_iadd (pc := 107) dX5_looksAlike_107 ?_
        refine g_istore (pc := 108) (lo2 := [(0, vR (b + 5)), (1, vR (b + 90)), (2, vI (xa + 1)), (3, vI (x : Int)), (4, vI (((pX M A x y : Int) + (A 1)) - (M : Int))), (5, vI ((pY M A x y : Int) + (A 6))), (6, vI xy)]) dX5_looksAlike_108 (by decide) rfl ?_
        refine g_iload (pc := 110) (x := (pY M A x y : Int) + (A 6)) dX5_looksAlike_110 rfl ?_
        refine g_iload (pc := 112) (x := (pY M A x y : Int) + (A 6)) dX5_looksAlike_112 rfl ?_
        refine g_aload_n (pc := 114) (r := .inl (some (b + 5))) dX5_looksAlike_114 rfl ?_
        refine g_getf (pc := 115) (v := vI (M : Int)) flX5_21 dX5_looksAlike_115 hp rfl ?_
        refine g_icmp_ge (pc := 118) (tgt := 125) dX5_looksAlike_118 (by decide) (by omega) (by omega) (fun t6 => ?_) (fun t6 => ?_)
        · refine g_aload_n (pc := 125) (r := .inl (some (b + 5))) dX5_looksAlike_125 rfl ?_
          refine g_getf (pc := 126) (v := vI (M : Int)) flX5_21 dX5_looksAlike_126 hp rfl ?_
          refine g_isub (pc := 129) dX5_looksAlike_129 ?_
          refine g_istore (pc := 130) (lo2 := [(0, vR (b + 5)), (1, vR (b + 90)), (2, vI (xa + 1)), (3, vI (x : Int)), (4, vI (((pX M A x y : Int) + (A 1)) - (M : Int))), (5, vI (((pY M A x y : Int) + (A 6)) - (M : Int))), (6, vI xy)]) dX5_looksAlike_130 (by decide) rfl ?_
          refine g_iinc (pc := 132) (x := xy) (lo2 := [(0, vR (b + 5)), (1, vR (b + 90)), (2, vI (xa + 1)), (3, vI (x : Int)), (4, vI (((pX M A x y : Int) + (A 1)) - (M : Int))), (5, vI (((pY M A x y : Int) + (A 6)) - (M : Int))), (6, vI (xy + 1))]) dX5_looksAlike_132 rfl (by decide) rfl ?_
          refine g_goto (pc := 135) (tgt := 33) dX5_looksAlike_135 (by decide) ?_
          exact ih (y + 1) _ _ _ _ (by omega) (by omega) (by omega) (iX.2 (by omega)) (iY.2 (by omega)) hi2
        · refine g_iconst (pc := 121) dX5_looksAlike_121 ?_
          refine g_goto (pc := 122) (tgt := 129) dX5_looksAlike_122 (by decide) ?_
          refine g_isub (pc := 129) dX5_looksAlike_129 ?_
          refine g_istore (pc := 130) (lo2 := [(0, vR (b + 5)), (1, vR (b + 90)), (2, vI (xa + 1)), (3, vI (x : Int)), (4, vI (((pX M A x y : Int) + (A 1)) - (M : Int))), (5, vI (((pY M A x y : Int) + (A 6)) - 0)), (6, vI xy)]) dX5_looksAlike_130 (by decide) rfl ?_
          refine g_iinc (pc := 132) (x := xy) (lo2 := [(0, vR (b + 5)), (1, vR (b + 90)), (2, vI (xa + 1)), (3, vI (x : Int)), (4, vI (((pX M A x y : Int) + (A 1)) - (M : Int))), (5, vI (((pY M A x y : Int) + (A 6)) - 0)), (6, vI (xy + 1))]) dX5_looksAlike_132 rfl (by decide) rfl ?_
          refine g_goto (pc := 135) (tgt := 33) dX5_looksAlike_135 (by decide) ?_
          exact ih (y + 1) _ _ _ _ (by omega) (by omega) (by omega) (iX.2 (by omega)) ((Int.sub_zero _).trans (iY.1 (by omega))) hi2
      · refine g_iconst (pc := 90) dX5_looksAlike_90 ?_
        refine g_goto (pc := 91) (tgt := 98) dX5_looksAlike_91 (by decide) ?_
        refine g_isub (pc := 98) dX5_looksAlike_98 ?_
        refine g_istore (pc := 99) (lo2 := [(0, vR (b + 5)), (1, vR (b + 90)), (2, vI (xa + 1)), (3, vI (x : Int)), (4, vI (((pX M A x y : Int) + (A 1)) - 0)), (5, vI (pY M A x y : Int)), (6, vI xy)]) dX5_looksAlike_99 (by decide) rfl ?_
        refine g_iload (pc := 101) (x := (pY M A x y : Int)) dX5_looksAlike_101 rfl ?_
        refine g_aload_n (pc := 103) (r := .inl (some (b + 90))) dX5_looksAlike_103 rfl ?_
        refine g_bipush (pc := 104) dX5_looksAlike_104 (by decide +kernel) ?_
        refine g_ialdN (pc := 106) (j := 6) dX5_looksAlike_106 hY (by omega) (by omega) (by omega) ?_
        rw [s6]
        refine g_iadd (pc := 107) dX5_looksAlike_107 ?_
        refine g_istore (pc := 108) (lo2 := [(0, vR (b + 5)), (1, vR (b + 90)), (2, vI (xa + 1)), (3, vI (x : Int)), (4, vI (((pX M A x y : Int) + (A 1)) - 0)), (5, vI ((pY M A x y : Int) + (A 6))), (6, vI xy)]) dX5_looksAlike_108 (by decide) rfl ?_
        refine g_iload (pc := 110) (x := (pY M A x y : Int) + (A 6)) dX5_looksAlike_110 rfl ?_
        refine g_iload (pc := 112) (x := (pY M A x y : Int) + (A 6)) dX5_looksAlike_112 rfl ?_
        refine g_aload_n (pc := 114) (r := .inl (some (b + 5))) dX5_looksAlike_114 rfl ?_
        refine g_getf (pc := 115) (v := vI (M : Int)) flX5_21 dX5_looksAlike_115 hp rfl ?_
        refine g_icmp_ge (pc := 118) (tgt := 125) dX5_looksAlike_118 (by decide) (by omega) (by omega) (fun t6 => ?_) (fun t6 => ?_)
        · refine g_aload_n (pc := 125) (r := .inl (some (b + 5))) dX5_looksAlike_125 rfl ?_
          refine g_getf (pc := 126) (v := vI (M : Int)) flX5_21 dX5_looksAlike_126 hp rfl ?_
          refine g_isub (pc := 129) dX5_looksAlike_129 ?_
          refine g_istore (pc := 130) (lo2 := [(0, vR (b + 5)), (1, vR (b + 90)), (2, vI (xa + 1)), (3, vI (x : Int)), (4, vI (((pX M A x y : Int) + (A 1)) - 0)), (5, vI (((pY M A x y : Int) + (A 6)) - (M : Int))), (6, vI xy)]) dX5_looksAlike_130 (by decide) rfl ?_
          refine g_iinc (pc := 132) (x := xy) (lo2 := [(0, vR (b + 5)), (1, vR (b + 90)), (2, vI (xa + 1)), (3, vI (x : Int)), (4, vI (((pX M A x y : Int) + (A 1)) - 0)), (5, vI (((pY M A x y : Int) + (A 6)) - (M : Int))), (6, vI (xy + 1))]) dX5_looksAlike_132 rfl (by decide) rfl ?_
          refine g_goto (pc := 135) (tgt := 33) dX5_looksAlike_135 (by decide) ?_
          exact ih (y + 1) _ _ _ _ (by omega) (by omega) (by omega) ((Int.sub_zero _).trans (iX.1 (by omega))) (iY.2 (by omega)) hi2
        · refine g_iconst (pc := 121) dX5_looksAlike_121 ?_
          refine g_goto (pc := 122) (tgt := 129) dX5_looksAlike_122 (by decide) ?_
          refine g_isub (pc := 129) dX5_looksAlike_129 ?_
          refine g_istore (pc := 130) (lo2 := [(0, vR (b + 5)), (1, vR (b + 90)), (2, vI (xa + 1)), (3, vI (x : Int)), (4, vI (((pX M A x y : Int) + (A 1)) - 0)), (5, vI (((pY M A x y : Int) + (A 6)) - 0)), (6, vI xy)]) dX5_looksAlike_130 (by decide) rfl ?_
          refine g_iinc (pc := 132) (x := xy) (lo2 := [(0, vR (b + 5)), (1, vR (b + 90)), (2, vI (xa + 1)), (3, vI (x : Int)), (4, vI (((pX M A x y : Int) + (A 1)) - 0)), (5, vI (((pY M A x y : Int) + (A 6)) - 0)), (6, vI (xy + 1))]) dX5_looksAlike_132 rfl (by decide) rfl ?_
          refine g_goto (pc := 135) (tgt := 33) dX5_looksAlike_135 (by decide) ?_
          exact ih (y + 1) _ _ _ _ (by omega) (by omega) (by omega) ((Int.sub_zero _).trans (iX.1 (by omega))) ((Int.sub_zero _).trans (iY.1 (by omega))) hi2
    · refine g_iconst (pc := 66) dX5_looksAlike_66 ?_
      exact r_bool (pc := 67) dX5_looksAlike_67 rfl rfl (Nat.le_refl _) (Or.inl rfl) ⟨rfl, Or.inr ⟨rfl, fun q => hc (q x y hx (by omega))⟩⟩

theorem lka_o {N d b M Ls : Nat} {sx Y A f : Nat → Int} {P : Nat → Nat → Int} {h : MH} (hM : 2 ≤ M) (hM2 : M ≤ 64) (hs : stp Y A M) (hP : ∀ x y, x < M → y < M → f (x * M + y) = P x y) (hPb : ∀ x y, 0 ≤ P x y ∧ P x y ≤ 255) (hp : Hd (0, 0, N) h (b + 5) (eO 5 [vR (b + 6), vI (M : Int)])) (hf : Hd (0, 0, N) h (b + 6) (eA 0 4096 f)) (hY : Hd (0, 0, N) h (b + 90) (eA 0 20 Y)) : ∀ (g x : Nat) (xa xx : Int), x + g = M → xa = ((x * M : Nat) : Int) → xx = (x : Int) → (∀ x0 y0, x0 < M → y0 < M → (x0 < x ∨ (x0 = x ∧ y0 < 0)) → P (pX M A x0 y0) (pY M A x0 y0) = P x0 y0) → G mX5_looksAlike (d + 3, 0, 0, Ls, sx) 4 [(0, vR (b + 5)), (1, vR (b + 90)), (2, vI xa), (3, vI xx)] [] (0, 0, N) h (Pq mX5_looksAlike 0 0 (fun r h2 => h2 = h ∧ ((r = some (vI 1) ∧ (∀ x y, x < M → y < M → P (pX M A x y) (pY M A x y) = P x y)) ∨ (r = some (vI 0) ∧ ¬ (∀ x y, x < M → y < M → P (pX M A x y) (pY M A x y) = P x y))))) := by
  intro g
  induction g with
  | zero =>
    intro x xa xx hg ea ex hi
    refine g_iload_n (pc := 4) (x := xx) dX5_looksAlike_4 rfl ?_
    refine g_aload_n (pc := 5) (r := .inl (some (b + 5))) dX5_looksAlike_5 rfl ?_
    refine g_getf (pc := 6) (v := vI (M : Int)) flX5_21 dX5_looksAlike_6 hp rfl ?_
    refine g_icmp_geT (pc := 9) (tgt := 144) dX5_looksAlike_9 (by decide) (by omega) (by omega) (by omega) ?_
    refine g_iconst (pc := 144) dX5_looksAlike_144 ?_
    exact r_bool (pc := 145) dX5_looksAlike_145 rfl rfl (Nat.le_refl _) (Or.inr rfl) ⟨rfl, Or.inl ⟨rfl, fun x0 y0 q1 q2 => hi x0 y0 q1 q2 (by omega)⟩⟩
  | succ g ih =>
    intro x xa xx hg ea ex hi
    subst ex
    refine g_iload_n (pc := 4) (x := (x : Int)) dX5_looksAlike_4 rfl ?_
    refine g_aload_n (pc := 5) (r := .inl (some (b + 5))) dX5_looksAlike_5 rfl ?_
    refine g_getf (pc := 6) (v := vI (M : Int)) flX5_21 dX5_looksAlike_6 hp rfl ?_
    refine g_icmp_geF (pc := 9) (tgt := 144) dX5_looksAlike_9 (by decide) (by omega) (by omega) (by omega) ?_
    refine g_aload_n (pc := 12) (r := .inl (some (b + 5))) dX5_looksAlike_12 rfl ?_
    refine g_aload_n (pc := 13) (r := .inl (some (b + 90))) dX5_looksAlike_13 rfl ?_
    refine g_iconst (pc := 14) dX5_looksAlike_14 ?_
    refine g_iload_n (pc := 15) (x := (x : Int)) dX5_looksAlike_15 rfl ?_
    refine g_callV0 (pc := 16) (as := [vR (b + 90), vI 0, vI (x : Int)]) (b := b + 5) (st := []) lvX5_31 dX5_looksAlike_16 hp (Nat.le_of_ble_eq_true rfl) (by omega) (Nat.zero_le _) (Nat.zero_le _) (c_startOfX (d := d) hM hM2 (by omega) hs hp hY) ?_
    rintro r h1 ⟨e9, e8⟩
    subst e9
    subst e8
    refine g_istore (pc := 19) (lo2 := [(0, vR (b + 5)), (1, vR (b + 90)), (2, vI xa), (3, vI (x : Int)), (4, vI (pX M A x 0 : Int))]) dX5_looksAlike_19 (by decide) rfl ?_
    refine g_aload_n (pc := 21) (r := .inl (some (b + 5))) dX5_looksAlike_21 rfl ?_
    refine g_aload_n (pc := 22) (r := .inl (some (b + 90))) dX5_looksAlike_22 rfl ?_
    refine g_iconst (pc := 23) dX5_looksAlike_23 ?_
    refine g_iload_n (pc := 24) (x := (x : Int)) dX5_looksAlike_24 rfl ?_
    refine g_callV0 (pc := 25) (as := [vR (b + 90), vI 5, vI (x : Int)]) (b := b + 5) (st := []) lvX5_31 dX5_looksAlike_25 hp (Nat.le_of_ble_eq_true rfl) (by omega) (Nat.zero_le _) (Nat.zero_le _) (c_startOfY (d := d) hM hM2 (by omega) hs hp hY) ?_
    rintro r h2 ⟨e9, e8⟩
    subst e9
    subst e8
    refine g_istore (pc := 28) (lo2 := [(0, vR (b + 5)), (1, vR (b + 90)), (2, vI xa), (3, vI (x : Int)), (4, vI (pX M A x 0 : Int)), (5, vI (pY M A x 0 : Int))]) dX5_looksAlike_28 (by decide) rfl ?_
    refine g_iconst (pc := 30) dX5_looksAlike_30 ?_
    refine g_istore (pc := 31) (lo2 := [(0, vR (b + 5)), (1, vR (b + 90)), (2, vI xa), (3, vI (x : Int)), (4, vI (pX M A x 0 : Int)), (5, vI (pY M A x 0 : Int)), (6, vI 0)]) dX5_looksAlike_31 (by decide) rfl ?_
    refine lka_i hM hM2 hs hP hPb hp hf hY (by omega) (fun xa2 ea2 hi2 => ?_) M 0 _ _ _ _ (by omega) (by rw [ea]; rfl) rfl rfl rfl hi
    refine g_iinc (pc := 138) (x := (x : Int)) (lo2 := [(0, vR (b + 5)), (1, vR (b + 90)), (2, vI xa2), (3, vI ((x : Int) + 1))]) dX5_looksAlike_138 rfl (by decide) rfl ?_
    refine g_goto (pc := 141) (tgt := 4) dX5_looksAlike_141 (by decide) ?_
    exact ih (x + 1) _ _ (by omega) ea2 (by omega) hi2

theorem c_looksAlike {N d b M : Nat} {Y A f : Nat → Int} {P : Nat → Nat → Int} {h : MH} (hM : 2 ≤ M) (hM2 : M ≤ 64) (hs : stp Y A M) (hP : ∀ x y, x < M → y < M → f (x * M + y) = P x y) (hPb : ∀ x y, 0 ≤ P x y ∧ P x y ≤ 255) (hp : Hd (0, 0, N) h (b + 5) (eO 5 [vR (b + 6), vI (M : Int)])) (hf : Hd (0, 0, N) h (b + 6) (eA 0 4096 f)) (hY : Hd (0, 0, N) h (b + 90) (eA 0 20 Y)) : Ok mX5_looksAlike (d + 3) 0 0 [vR (b + 5), vR (b + 90)] N h (fun r h2 => h2 = h ∧ ((r = some (vI 1) ∧ (∀ x y, x < M → y < M → P (pX M A x y) (pY M A x y) = P x y)) ∨ (r = some (vI 0) ∧ ¬ (∀ x y, x < M → y < M → P (pX M A x y) (pY M A x y) = P x y)))) := by
  refine Ok.of pfX5_looksAlike rfl (Nat.le_of_ble_eq_true rfl) (fun Ls sx => ?_)
  show G mX5_looksAlike (d + 3, 0, 0, Ls, sx) 0 [(0, vR (b + 5)), (1, vR (b + 90))] [] (0, 0, N) h _
  refine g_iconst (pc := 0) dX5_looksAlike_0 ?_
  refine g_istore_n (pc := 1) (lo2 := [(0, vR (b + 5)), (1, vR (b + 90)), (2, vI 0)]) dX5_looksAlike_1 (by decide) rfl ?_
  refine g_iconst (pc := 2) dX5_looksAlike_2 ?_
  refine g_istore_n (pc := 3) (lo2 := [(0, vR (b + 5)), (1, vR (b + 90)), (2, vI 0), (3, vI 0)]) dX5_looksAlike_3 (by decide) rfl ?_
  exact lka_o hM hM2 hs hP hPb hp hf hY M 0 _ _ (by omega) (by rw [Nat.zero_mul]; rfl) rfl (fun x0 y0 q1 q2 q3 => by omega)

theorem c_has {N d b : Nat} {x y pm : Int} {h : MH} (hx : i32 x) (hy : i32 y) (hpm : i32 pm) (hp : Hd (0, 0, N) h (b + 5) (eO 5 [vR (b + 6), vI pm])) : Ok mX5_has d 0 0 [vR (b + 5), vI x, vI y] N h (fun r h2 => h2 = h ∧ r = some (vI (if (0 ≤ x ∧ x < pm) ∧ (0 ≤ y ∧ y < pm) then 1 else 0))) := by
  refine Ok.of pfX5_has rfl (Nat.le_of_ble_eq_true rfl) (fun Ls sx => ?_)
  show G mX5_has (d, 0, 0, Ls, sx) 0 [(0, vR (b + 5)), (1, vI x), (2, vI y)] [] (0, 0, N) h _
  refine g_iload_n (pc := 0) (x := x) dX5_has_0 rfl ?_
  refine g_if_lt (pc := 1) (tgt := 28) dX5_has_1 (by decide) (by omega) (fun c0 => ?_) (fun c0 => ?_)
  · refine g_iconst (pc := 28) dX5_has_28 ?_
    exact r_bool (pc := 29) dX5_has_29 rfl rfl (Nat.le_refl _) (Or.inl rfl) ⟨rfl, by rw [if_neg (by omega)]⟩
  · refine g_iload_n (pc := 4) (x := x) dX5_has_4 rfl ?_
    refine g_aload_n (pc := 5) (r := .inl (some (b + 5))) dX5_has_5 rfl ?_
    refine g_getf (pc := 6) (v := vI pm) flX5_21 dX5_has_6 hp rfl ?_
    refine g_icmp_ge (pc := 9) (tgt := 28) dX5_has_9 (by decide) (by omega) (by omega) (fun c1 => ?_) (fun c1 => ?_)
    · refine g_iconst (pc := 28) dX5_has_28 ?_
      exact r_bool (pc := 29) dX5_has_29 rfl rfl (Nat.le_refl _) (Or.inl rfl) ⟨rfl, by rw [if_neg (by omega)]⟩
    · refine g_iload_n (pc := 12) (x := y) dX5_has_12 rfl ?_
      refine g_if_lt (pc := 13) (tgt := 28) dX5_has_13 (by decide) (by omega) (fun c2 => ?_) (fun c2 => ?_)
      · refine g_iconst (pc := 28) dX5_has_28 ?_
        exact r_bool (pc := 29) dX5_has_29 rfl rfl (Nat.le_refl _) (Or.inl rfl) ⟨rfl, by rw [if_neg (by omega)]⟩
      · refine g_iload_n (pc := 16) (x := y) dX5_has_16 rfl ?_
        refine g_aload_n (pc := 17) (r := .inl (some (b + 5))) dX5_has_17 rfl ?_
        refine g_getf (pc := 18) (v := vI pm) flX5_21 dX5_has_18 hp rfl ?_
        refine g_icmp_ge (pc := 21) (tgt := 28) dX5_has_21 (by decide) (by omega) (by omega) (fun c3 => ?_) (fun c3 => ?_)
        · refine g_iconst (pc := 28) dX5_has_28 ?_
          exact r_bool (pc := 29) dX5_has_29 rfl rfl (Nat.le_refl _) (Or.inl rfl) ⟨rfl, by rw [if_neg (by omega)]⟩
        · refine g_iconst (pc := 24) dX5_has_24 ?_
          refine g_goto (pc := 25) (tgt := 29) dX5_has_25 (by decide) ?_
          exact r_bool (pc := 29) dX5_has_29 rfl rfl (Nat.le_refl _) (Or.inr rfl) ⟨rfl, by rw [if_pos (by omega)]⟩

theorem c_place {N d b : Nat} {x y pm : Int} {h : MH} (hp : Hd (0, 0, N) h (b + 5) (eO 5 [vR (b + 6), vI pm])) : Ok mX5_place d 0 0 [vR (b + 5), vI x, vI y] N h (fun r h2 => h2 = h ∧ r = some (vI (x * pm + y))) := by
  refine Ok.of pfX5_place rfl (Nat.le_of_ble_eq_true rfl) (fun Ls sx => ?_)
  show G mX5_place (d, 0, 0, Ls, sx) 0 [(0, vR (b + 5)), (1, vI x), (2, vI y)] [] (0, 0, N) h _
  refine g_iload_n (pc := 0) (x := x) dX5_place_0 rfl ?_
  refine g_aload_n (pc := 1) (r := .inl (some (b + 5))) dX5_place_1 rfl ?_
  refine g_getf (pc := 2) (v := vI pm) flX5_21 dX5_place_2 hp rfl ?_
  refine g_imul (pc := 5) dX5_place_5 ?_
  refine g_iload_n (pc := 6) (x := y) dX5_place_6 rfl ?_
  refine g_iadd (pc := 7) dX5_place_7 ?_
  exact r_int (pc := 8) dX5_place_8 rfl rfl (Nat.le_refl _) ⟨rfl, rfl⟩

theorem c_pcclear {N d b M : Nat} {pm : Int} {f : Nat → Int} {h : MH} (hM : M ≤ 64) (hp : Hd (0, 0, N) h (b + 5) (eO 5 [vR (b + 6), vI pm])) (hf : Hd (0, 0, N) h (b + 6) (eA 0 4096 f)) : Ok mX5_clear (d + 1) 0 0 [vR (b + 5), vI (M : Int)] N h (fun r h2 => r = none ∧ h2 (b + 5) = (eO 5 [vR (b + 6), vI (M : Int)]) ∧ (∃ f2, h2 (b + 6) = eA 0 4096 f2 ∧ ∀ j, j < 4096 → f2 j = 0) ∧ ∀ a, a ≠ b + 5 → a ≠ b + 6 → h2 a = h a) := by
  refine Ok.of pfX5_clear rfl (Nat.le_of_ble_eq_true rfl) (fun Ls sx => ?_)
  show G mX5_clear (d + 1, 0, 0, Ls, sx) 0 [(0, vR (b + 5)), (1, vI (M : Int))] [] (0, 0, N) h _
  refine g_aload_n (pc := 0) (r := .inl (some (b + 5))) dX5_clear_0 rfl ?_
  refine g_iload_n (pc := 1) (x := (M : Int)) dX5_clear_1 rfl ?_
  refine g_bipush (pc := 2) dX5_clear_2 (by decide +kernel) ?_
  refine g_callS0 (pc := 4) (as := [vI (M : Int), vI 64]) (st := [vR (b + 5)]) lsX5_15 dX5_clear_4 (Nat.le_of_ble_eq_true rfl) (by omega) (Nat.zero_le _) (Nat.zero_le _) (c_minI (d := d) (by omega) (by omega)) ?_
  rintro r h1 ⟨e9, e8⟩
  subst e9
  subst e8
  rw [show (if (64 : Int) < (M : Int) then (64 : Int) else (M : Int)) = (M : Int) from if_neg (by omega)]
  refine g_putf (pc := 7) fpX5_21 dX5_clear_7 hp (okv_int _) (Nat.le_of_ble_eq_true rfl) ?_
  have hp_1 := hp.self (e := eO 5 [vR (b + 6), vI (M : Int)])
  have hf_1 := hf.ne (e := eO 5 [vR (b + 6), vI (M : Int)]) (a := b + 5) (by omega)
  refine g_aload_n (pc := 10) (r := .inl (some (b + 5))) dX5_clear_10 rfl ?_
  refine g_getf (pc := 11) (v := vR (b + 6)) flX5_9 dX5_clear_11 hp_1 rfl ?_
  refine g_iconst (pc := 14) dX5_clear_14 ?_
  refine g_callS0 (pc := 15) (as := [vR (b + 6), vI 0]) (st := []) lsX5_25 dX5_clear_15 (Nat.le_of_ble_eq_true rfl) (by omega) (Nat.zero_le _) (Nat.zero_le _) (c_fill (d := d) (v := 0) (by omega) hf_1) ?_
  rintro r h2 ⟨rfl, k1, f2, o1, o2, o3⟩
  exact r_void (pc := 18) dX5_clear_18 rfl rfl (Nat.le_refl _) ⟨rfl, (k1 _ (by omega)).trans hp_1.2, ⟨f2, o1, o2⟩, fun a z1 z2 => (k1 a z2).trans (va_up_ne _ _ z1)⟩
