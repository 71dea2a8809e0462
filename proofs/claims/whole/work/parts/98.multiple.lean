/-! ===== the reference: makesMultiple ===== -/
theorem prm_two {l : List Nat} (h : ∀ y ∈ l, prm y) : ∀ y ∈ l, 2 ≤ y := fun y hy => (h y hy).1
theorem prm_append {a b : List Nat} (ha : ∀ y ∈ a, prm y) (hb : ∀ y ∈ b, prm y) : ∀ y ∈ a ++ b, prm y := fun y hy => (List.mem_append.mp hy).elim (ha y) (hb y)

theorem mul9_l1 {N d x k p o Ls : Nat} {sx : Nat → Int} {th wd pm mu um pr ts : Int} {P O : Nat → Int} {h0 : MH} {Q : Option MV → MR → MH → Prop} (hk : k < 5) (hp : prm p) (p5 : p ≤ 499) (o1 : 1 ≤ o) (o9 : o ≤ 9) (hb : p ^ o ≤ 500) (hOk : O k = (o : Int)) (hP : Hd (0, 0, N) h0 (x + 15) (eA 0 5 P)) (hO0 : Hd (0, 0, N) h0 (x + 17) (eA 0 5 O)) (hK : ∀ (fl : List Nat) (L : Nat → Int) (h2 : MH), Hd (0, 0, N) h2 x (mdl x th wd pm (fl.length : Int) mu um pr ts) → Hd (0, 0, N) h2 (x + 18) (eA 3 70 L) → FLk L fl → (∀ y ∈ fl, prm y) → prodL fl = p ^ (o - 1) → (∀ a, a ≠ x → a ≠ x + 18 → h2 a = h0 a) → G mX11_makesMultiple (d + 1, 0, 0, Ls, sx) 38 [(0, vR x), (1, vI (k : Int)), (2, vJ (p : Int))] [] (0, 0, N) h2 Q) : ∀ (f i : Nat) (xi : Int) (fl : List Nat) (L : Nat → Int) (h : MH), i + f = o → xi = (i : Int) → 1 ≤ i → Hd (0, 0, N) h x (mdl x th wd pm (fl.length : Int) mu um pr ts) → Hd (0, 0, N) h (x + 18) (eA 3 70 L) → FLk L fl → (∀ y ∈ fl, prm y) → prodL fl = p ^ (i - 1) → (∀ a, a ≠ x → a ≠ x + 18 → h a = h0 a) → G mX11_makesMultiple (d + 1, 0, 0, Ls, sx) 16 [(0, vR x), (1, vI (k : Int)), (2, vJ (p : Int)), (4, vI xi)] [] (0, 0, N) h Q := by
  intro f
  induction f with
  | zero =>
    intro i xi fl L h hf ex i1 hx hL hfl hpr hpd hkp
    have hO := hO0.keep (hkp (x + 17) (by omega) (by omega))
    have p2 := hp.1
    have ei : i = o := by omega
    subst ei
    refine g_iload (pc := 16) (x := xi) dX11_makesMultiple_16 rfl ?_
    refine g_aload_n (pc := 18) (r := .inl (some x)) dX11_makesMultiple_18 rfl ?_
    refine g_getf (pc := 19) (v := vR (x + 17)) flX11_60 dX11_makesMultiple_19 hx rfl ?_
    refine g_iload_n (pc := 22) (x := (k : Int)) dX11_makesMultiple_22 rfl ?_
    refine g_ialdN (pc := 23) (j := k) dX11_makesMultiple_23 hO (by omega) (by omega) (by omega) ?_
    rw [hOk]
    refine g_icmp_geT (pc := 24) (tgt := 38) dX11_makesMultiple_24 (by decide) (by omega) (by omega) (by omega) ?_
    refine g_pick [0, 1, 2] (lo2 := [(0, vR x), (1, vI (k : Int)), (2, vJ (p : Int))]) rfl ?_
    exact hK fl L h hx hL hfl hpr hpd hkp
  | succ f ih =>
    intro i xi fl L h hf ex i1 hx hL hfl hpr hpd hkp
    have hO := hO0.keep (hkp (x + 17) (by omega) (by omega))
    have p2 := hp.1
    refine g_iload (pc := 16) (x := xi) dX11_makesMultiple_16 rfl ?_
    refine g_aload_n (pc := 18) (r := .inl (some x)) dX11_makesMultiple_18 rfl ?_
    refine g_getf (pc := 19) (v := vR (x + 17)) flX11_60 dX11_makesMultiple_19 hx rfl ?_
    refine g_iload_n (pc := 22) (x := (k : Int)) dX11_makesMultiple_22 rfl ?_
    refine g_ialdN (pc := 23) (j := k) dX11_makesMultiple_23 hO (by omega) (by omega) (by omega) ?_
    rw [hOk]
    refine g_icmp_geF (pc := 24) (tgt := 38) dX11_makesMultiple_24 (by decide) (by omega) (by omega) (by omega) ?_
    have hpi : prodL fl * p ≤ 8000000000000000000 := by
      rw [hpd, ← Nat.pow_succ]
      have := Nat.pow_le_pow_right (show 0 < p by omega) (show i - 1 + 1 ≤ o by omega)
      show p ^ (i - 1 + 1) ≤ _
      omega
    refine g_aload_n (pc := 27) (r := .inl (some x)) dX11_makesMultiple_27 rfl ?_
    refine g_lload_n (pc := 28) (x := (p : Int)) dX11_makesMultiple_28 rfl ?_
    refine g_callV0 (pc := 29) (as := [vJ (p : Int)]) (b := x) (st := []) lvX11_170 dX11_makesMultiple_29 hx (Nat.le_of_ble_eq_true rfl) (by omega) (Nat.zero_le _) (Nat.zero_le _) (c_factor (d := d) (v := p) (prm_two hpr) (by omega) (by omega) hpi hx hL hfl) ?_
    rintro r h3 ⟨rfl, gl, L2, g1, ⟨g2, g3⟩, g4, g5, g6, g7⟩
    refine g_iinc (pc := 32) (x := xi) (lo2 := [(0, vR x), (1, vI (k : Int)), (2, vJ (p : Int)), (4, vI (xi + 1))]) dX11_makesMultiple_32 rfl (by decide) rfl ?_
    refine g_goto (pc := 35) (tgt := 16) dX11_makesMultiple_35 (by decide) ?_
    refine ih (i + 1) _ (fl ++ gl) L2 h3 (by omega) (by omega) (by omega) ⟨hx.1, g4⟩ ⟨hL.1, g5⟩ g6 (prm_append hpr g2) ?_ (fun a a1 a2 => (g7 a a1 a2).trans (hkp a a1 a2))
    rw [prodL_app, hpd, g1, ← Nat.pow_succ]
    congr 1
    omega

theorem mul9_l3 {κ : KX} {N x k p : Nat} {th wd pm um pr ts : Int} {fl : List Nat} {L : Nat → Int} {h0 : MH} (hfl : FLk L fl) (hlen : fl.length ≤ 62) : ∀ (f i : Nat) (xi m9 : Int) (h : MH), i + f = fl.length → xi = (i : Int) → m9 = (prodL (fl.take i) : Int) → Hd (0, 0, N) h x (mdl x th wd pm (fl.length : Int) m9 um pr ts) → Hd (0, 0, N) h (x + 18) (eA 3 70 L) → (∀ a, a ≠ x → h a = h0 a) → G mX11_makesMultiple κ 106 [(0, vR x), (1, vI (k : Int)), (2, vJ (p : Int)), (4, vI xi)] [] (0, 0, N) h (Pq mX11_makesMultiple 0 0 (fun r h2 => r = none ∧ h2 x = mdl x th wd pm (fl.length : Int) (prodL fl : Int) um pr ts ∧ ∀ a, a ≠ x → h2 a = h0 a)) := by
  intro f
  induction f with
  | zero =>
    intro i xi m9 h hf ex em hx hL hkp
    refine g_iload (pc := 106) (x := xi) dX11_makesMultiple_106 rfl ?_
    refine g_aload_n (pc := 108) (r := .inl (some x)) dX11_makesMultiple_108 rfl ?_
    refine g_getf (pc := 109) (v := vI (fl.length : Int)) flX11_167 dX11_makesMultiple_109 hx rfl ?_
    refine g_icmp_geT (pc := 112) (tgt := 137) dX11_makesMultiple_112 (by decide) (by omega) (by omega) (by omega) ?_
    exact r_void (pc := 137) dX11_makesMultiple_137 rfl rfl (Nat.le_refl _) ⟨rfl, by rw [hx.2, em, show i = fl.length by omega, List.take_length], hkp⟩
  | succ f ih =>
    intro i xi m9 h hf ex em hx hL hkp
    have hi : i < fl.length := by omega
    have hLi := hfl i hi
    refine g_iload (pc := 106) (x := xi) dX11_makesMultiple_106 rfl ?_
    refine g_aload_n (pc := 108) (r := .inl (some x)) dX11_makesMultiple_108 rfl ?_
    refine g_getf (pc := 109) (v := vI (fl.length : Int)) flX11_167 dX11_makesMultiple_109 hx rfl ?_
    refine g_icmp_geF (pc := 112) (tgt := 137) dX11_makesMultiple_112 (by decide) (by omega) (by omega) (by omega) ?_
    refine g_aload_n (pc := 115) (r := .inl (some x)) dX11_makesMultiple_115 rfl ?_
    refine g_dup (pc := 116) dX11_makesMultiple_116 rfl ?_
    refine g_getf (pc := 117) (v := vJ m9) flX11_176 dX11_makesMultiple_117 hx rfl ?_
    refine g_aload_n (pc := 120) (r := .inl (some x)) dX11_makesMultiple_120 rfl ?_
    refine g_getf (pc := 121) (v := vR (x + 18)) flX11_63 dX11_makesMultiple_121 hx rfl ?_
    refine g_iload (pc := 124) (x := xi) dX11_makesMultiple_124 rfl ?_
    refine g_laldN (pc := 126) (j := i) dX11_makesMultiple_126 hL (by omega) (by omega) (by omega) ?_
    rw [hLi]
    refine g_lmul (pc := 127) dX11_makesMultiple_127 ?_
    refine g_putf (pc := 128) fpX11_176 dX11_makesMultiple_128 hx (okv_long _) (Nat.le_of_ble_eq_true rfl) ?_
    have hx_1 := hx.self (e := mdl x th wd pm (fl.length : Int) (m9 * ((fl.getD i 0 : Nat) : Int)) um pr ts)
    have hL_1 := hL.ne (e := mdl x th wd pm (fl.length : Int) (m9 * ((fl.getD i 0 : Nat) : Int)) um pr ts) (a := x) (by omega)
    refine g_iinc (pc := 131) (x := xi) (lo2 := [(0, vR x), (1, vI (k : Int)), (2, vJ (p : Int)), (4, vI (xi + 1))]) dX11_makesMultiple_131 rfl (by decide) rfl ?_
    refine g_goto (pc := 134) (tgt := 106) dX11_makesMultiple_134 (by decide) ?_
    refine ih (i + 1) _ _ _ (by omega) (by omega) ?_ hx_1 hL_1 (fun a a1 => (va_up_ne _ _ a1).trans (hkp a a1))
    rw [em, List.take_add_one, prodL_app, Int.natCast_mul]
    congr 2
    simp [List.getD, hi, prodL]

theorem c_makesMultiple {N d x k p o : Nat} {th wd pm fm mu um pr ts : Int} {P O L0 : Nat → Int} {h : MH} (hk : k < 5) (hp : prm p) (p5 : p ≤ 499) (o1 : 1 ≤ o) (hb : p ^ o ≤ 500) (hPk : P k = (p : Int)) (hOk : O k = (o : Int)) (hx : Hd (0, 0, N) h x (mdl x th wd pm fm mu um pr ts)) (hP : Hd (0, 0, N) h (x + 15) (eA 0 5 P)) (hO : Hd (0, 0, N) h (x + 17) (eA 0 5 O)) (hL : Hd (0, 0, N) h (x + 18) (eA 3 70 L0)) : Ok mX11_makesMultiple (d + 1) 0 0 [vR x, vI (k : Int)] N h (fun r h2 => r = none ∧ ∃ (fl : List Nat) (L : Nat → Int), (∀ y ∈ fl, prm y) ∧ prodL fl = Lf p 4 * Nf p 4 * p ^ (o - 1) ∧ fl.length ≤ 62 ∧ FLk L fl ∧ h2 x = mdl x th wd pm (fl.length : Int) ((Lf p 4 * Nf p 4 * p ^ (o - 1) : Nat) : Int) um pr ts ∧ h2 (x + 18) = eA 3 70 L ∧ ∀ a, a ≠ x → a ≠ x + 18 → h2 a = h a) := by
  refine Ok.of pfX11_makesMultiple rfl (Nat.le_of_ble_eq_true rfl) (fun Ls sx => ?_)
  show G mX11_makesMultiple (d + 1, 0, 0, Ls, sx) 0 [(0, vR x), (1, vI (k : Int))] [] (0, 0, N) h _
  have p2 := hp.1
  have hEb : Lf p 4 * Nf p 4 * p ^ (o - 1) ≤ 8000000000000000000 := E_bd (k := o - 1) p2 (by omega) (by omega) (by rw [show o - 1 + 1 = o by omega]; exact hb)
  have o9 : o ≤ 9 := by
    have := k_le (k := o - 1) p2 (by rw [show o - 1 + 1 = o by omega]; exact hb)
    omega
  have hpo : 0 < p ^ (o - 1) := Nat.pow_pos (by omega)
  refine g_aload_n (pc := 0) (r := .inl (some x)) dX11_makesMultiple_0 rfl ?_
  refine g_getf (pc := 1) (v := vR (x + 15)) flX11_54 dX11_makesMultiple_1 hx rfl ?_
  refine g_iload_n (pc := 4) (x := (k : Int)) dX11_makesMultiple_4 rfl ?_
  refine g_ialdN (pc := 5) (j := k) dX11_makesMultiple_5 hP (by omega) (by omega) (by omega) ?_
  rw [hPk]
  refine g_i2l (pc := 6) dX11_makesMultiple_6 (by omega) ?_
  refine g_lstore_n (pc := 7) (lo2 := [(0, vR x), (1, vI (k : Int)), (2, vJ (p : Int))]) dX11_makesMultiple_7 (by decide) rfl ?_
  refine g_aload_n (pc := 8) (r := .inl (some x)) dX11_makesMultiple_8 rfl ?_
  refine g_iconst (pc := 9) dX11_makesMultiple_9 ?_
  refine g_putf (pc := 10) fpX11_167 dX11_makesMultiple_10 hx (okv_int _) (Nat.le_of_ble_eq_true rfl) ?_
  have hx_1 := hx.self (e := mdl x th wd pm 0 mu um pr ts)
  have hP_1 := hP.ne (e := mdl x th wd pm 0 mu um pr ts) (a := x) (by omega)
  have hO_1 := hO.ne (e := mdl x th wd pm 0 mu um pr ts) (a := x) (by omega)
  have hL_1 := hL.ne (e := mdl x th wd pm 0 mu um pr ts) (a := x) (by omega)
  refine g_iconst (pc := 13) dX11_makesMultiple_13 ?_
  refine g_istore (pc := 14) (lo2 := [(0, vR x), (1, vI (k : Int)), (2, vJ (p : Int)), (4, vI 1)]) dX11_makesMultiple_14 (by decide) rfl ?_
  refine mul9_l1 (h0 := va_up h x (mdl x th wd pm 0 mu um pr ts)) hk hp p5 o1 o9 hb hOk hP_1 hO_1 (fun fl L h2 ax aL afl apr apd akp => ?_) (o - 1) 1 _ [] L0 _ (by omega) rfl (by omega) hx_1 hL_1 (fun i hi => absurd hi (Nat.not_lt_zero i)) (fun y hy => absurd hy List.not_mem_nil) rfl (fun _ _ _ => rfl)
  refine g_lconst1 (pc := 38) dX11_makesMultiple_38 ?_
  refine g_lstore (pc := 39) (lo2 := [(0, vR x), (1, vI (k : Int)), (2, vJ (p : Int)), (4, vJ 1)]) dX11_makesMultiple_39 (by decide) rfl ?_
  have hcs : p = 2 ∨ p = 3 ∨ 5 ≤ p := by
    by_cases h4 : p = 4
    · exact absurd (by rw [h4]; decide) (hp.2 2 (by omega) (by omega))
    · omega
  rcases hcs with hcs | hcs | hcs
  · have eL : Lf p 4 = (p - 1) * (p + 1) * (p * p + p + 1) * (p * p + 1) := by simp [Lf]
    have eN : Nf p 4 = p * p * p := by rw [hcs]; rfl
    rw [eL, eN] at hEb ⊢
    have ppb : p * p ≤ 249001 := by
      have := Nat.mul_le_mul p5 p5
      omega
    have q2 : (p : Int) * (p : Int) = 4 := by rw [hcs]; rfl
    have q3 : (p : Int) * (p : Int) * (p : Int) = 8 := by rw [hcs]; rfl
    refine g_lload (pc := 41) (x := 1) dX11_makesMultiple_41 rfl ?_
    refine g_ldc2 (pc := 43) (n := 5) dX11_makesMultiple_43 kcX11_174 ?_
    refine g_lif_geF (pc := 46) (tgt := 64) dX11_makesMultiple_46 dX11_makesMultiple_47 (by decide) (by omega) (by omega) (by omega) ?_
    refine g_aload_n (pc := 50) (r := .inl (some x)) dX11_makesMultiple_50 rfl ?_
    refine g_lload_n (pc := 51) (x := (p : Int)) dX11_makesMultiple_51 rfl ?_
    have hb0 : prodL fl * p ≤ 8000000000000000000 := by
      rw [apd]
      refine Nat.le_trans ?_ hEb
      refine Nat.le_of_dvd (Nat.pos_of_ne_zero (fun z => by have := Nat.mul_pos (Nat.mul_pos (show 0 < (p - 1) * (p + 1) * (p * p + p + 1) * (p * p + 1) from Nat.mul_pos (Nat.mul_pos (Nat.mul_pos (by omega) (by omega)) (by omega)) (by omega)) (show 0 < p * p * p from Nat.mul_pos (Nat.mul_pos (by omega) (by omega)) (by omega))) hpo; omega)) ⟨p * p * (p - 1) * (p + 1) * (p * p + p + 1) * (p * p + 1), ?_⟩
      generalize p - 1 = a1
      generalize p ^ (o - 1) = a2
      grind
    refine g_callV0 (pc := 52) (as := [vJ (p : Int)]) (b := x) (st := []) lvX11_170 dX11_makesMultiple_52 ax (Nat.le_of_ble_eq_true rfl) (by omega) (Nat.zero_le _) (Nat.zero_le _) (c_factor (d := d) (v := p) (prm_two apr) (by omega) (by omega) hb0 ax aL afl) ?_
    rintro r k0 ⟨rfl, gl0, M0, g1_0, ⟨g2_0, -⟩, g4_0, g5_0, g6_0, g7_0⟩
    have pd0 : prodL (fl ++ gl0) = p ^ (o - 1) * p := by rw [prodL_app, apd, g1_0]
    have pr0 := prm_append apr g2_0
    have x0 : Hd (0, 0, N) k0 x (mdl x th wd pm ((fl ++ gl0).length : Int) mu um pr ts) := ⟨ax.1, g4_0⟩
    have l0 : Hd (0, 0, N) k0 (x + 18) (eA 3 70 M0) := ⟨aL.1, g5_0⟩
    refine g_lload (pc := 55) (x := 1) dX11_makesMultiple_55 rfl ?_
    refine g_lload_n (pc := 57) (x := (p : Int)) dX11_makesMultiple_57 rfl ?_
    refine g_lmul (pc := 58) dX11_makesMultiple_58 ?_
    refine g_lstore (pc := 59) (lo2 := [(0, vR x), (1, vI (k : Int)), (2, vJ (p : Int)), (4, vJ (1 * (p : Int)))]) dX11_makesMultiple_59 (by decide) rfl ?_
    refine g_goto (pc := 61) (tgt := 41) dX11_makesMultiple_61 (by decide) ?_
    rw [Int.one_mul]
    refine g_lload (pc := 41) (x := (p : Int)) dX11_makesMultiple_41 rfl ?_
    refine g_ldc2 (pc := 43) (n := 5) dX11_makesMultiple_43 kcX11_174 ?_
    refine g_lif_geF (pc := 46) (tgt := 64) dX11_makesMultiple_46 dX11_makesMultiple_47 (by decide) (by omega) (by omega) (by omega) ?_
    refine g_aload_n (pc := 50) (r := .inl (some x)) dX11_makesMultiple_50 rfl ?_
    refine g_lload_n (pc := 51) (x := (p : Int)) dX11_makesMultiple_51 rfl ?_
    have hb1 : prodL (fl ++ gl0) * p ≤ 8000000000000000000 := by
      rw [pd0]
      refine Nat.le_trans ?_ hEb
      refine Nat.le_of_dvd (Nat.pos_of_ne_zero (fun z => by have := Nat.mul_pos (Nat.mul_pos (show 0 < (p - 1) * (p + 1) * (p * p + p + 1) * (p * p + 1) from Nat.mul_pos (Nat.mul_pos (Nat.mul_pos (by omega) (by omega)) (by omega)) (by omega)) (show 0 < p * p * p from Nat.mul_pos (Nat.mul_pos (by omega) (by omega)) (by omega))) hpo; omega)) ⟨p * (p - 1) * (p + 1) * (p * p + p + 1) * (p * p + 1), ?_⟩
      generalize p - 1 = a1
      generalize p ^ (o - 1) = a2
      grind
    refine g_callV0 (pc := 52) (as := [vJ (p : Int)]) (b := x) (st := []) lvX11_170 dX11_makesMultiple_52 x0 (Nat.le_of_ble_eq_true rfl) (by omega) (Nat.zero_le _) (Nat.zero_le _) (c_factor (d := d) (v := p) (prm_two pr0) (by omega) (by omega) hb1 x0 l0 g6_0) ?_
    rintro r k1 ⟨rfl, gl1, M1, g1_1, ⟨g2_1, -⟩, g4_1, g5_1, g6_1, g7_1⟩
    have pd1 : prodL ((fl ++ gl0) ++ gl1) = p ^ (o - 1) * p * p := by rw [prodL_app, pd0, g1_1]
    have pr1 := prm_append pr0 g2_1
    have x1 : Hd (0, 0, N) k1 x (mdl x th wd pm (((fl ++ gl0) ++ gl1).length : Int) mu um pr ts) := ⟨x0.1, g4_1⟩
    have l1 : Hd (0, 0, N) k1 (x + 18) (eA 3 70 M1) := ⟨l0.1, g5_1⟩
    refine g_lload (pc := 55) (x := (p : Int)) dX11_makesMultiple_55 rfl ?_
    refine g_lload_n (pc := 57) (x := (p : Int)) dX11_makesMultiple_57 rfl ?_
    refine g_lmul (pc := 58) dX11_makesMultiple_58 ?_
    refine g_lstore (pc := 59) (lo2 := [(0, vR x), (1, vI (k : Int)), (2, vJ (p : Int)), (4, vJ ((p : Int) * (p : Int)))]) dX11_makesMultiple_59 (by decide) rfl ?_
    refine g_goto (pc := 61) (tgt := 41) dX11_makesMultiple_61 (by decide) ?_
    refine g_lload (pc := 41) (x := (p : Int) * (p : Int)) dX11_makesMultiple_41 rfl ?_
    refine g_ldc2 (pc := 43) (n := 5) dX11_makesMultiple_43 kcX11_174 ?_
    refine g_lif_geF (pc := 46) (tgt := 64) dX11_makesMultiple_46 dX11_makesMultiple_47 (by decide) (by omega) (by omega) (by omega) ?_
    refine g_aload_n (pc := 50) (r := .inl (some x)) dX11_makesMultiple_50 rfl ?_
    refine g_lload_n (pc := 51) (x := (p : Int)) dX11_makesMultiple_51 rfl ?_
    have hb2 : prodL ((fl ++ gl0) ++ gl1) * p ≤ 8000000000000000000 := by
      rw [pd1]
      refine Nat.le_trans ?_ hEb
      refine Nat.le_of_dvd (Nat.pos_of_ne_zero (fun z => by have := Nat.mul_pos (Nat.mul_pos (show 0 < (p - 1) * (p + 1) * (p * p + p + 1) * (p * p + 1) from Nat.mul_pos (Nat.mul_pos (Nat.mul_pos (by omega) (by omega)) (by omega)) (by omega)) (show 0 < p * p * p from Nat.mul_pos (Nat.mul_pos (by omega) (by omega)) (by omega))) hpo; omega)) ⟨(p - 1) * (p + 1) * (p * p + p + 1) * (p * p + 1), ?_⟩
      generalize p - 1 = a1
      generalize p ^ (o - 1) = a2
      grind
    refine g_callV0 (pc := 52) (as := [vJ (p : Int)]) (b := x) (st := []) lvX11_170 dX11_makesMultiple_52 x1 (Nat.le_of_ble_eq_true rfl) (by omega) (Nat.zero_le _) (Nat.zero_le _) (c_factor (d := d) (v := p) (prm_two pr1) (by omega) (by omega) hb2 x1 l1 g6_1) ?_
    rintro r k2 ⟨rfl, gl2, M2, g1_2, ⟨g2_2, -⟩, g4_2, g5_2, g6_2, g7_2⟩
    have pd2 : prodL (((fl ++ gl0) ++ gl1) ++ gl2) = p ^ (o - 1) * p * p * p := by rw [prodL_app, pd1, g1_2]
    have pr2 := prm_append pr1 g2_2
    have x2 : Hd (0, 0, N) k2 x (mdl x th wd pm ((((fl ++ gl0) ++ gl1) ++ gl2).length : Int) mu um pr ts) := ⟨x1.1, g4_2⟩
    have l2 : Hd (0, 0, N) k2 (x + 18) (eA 3 70 M2) := ⟨l1.1, g5_2⟩
    refine g_lload (pc := 55) (x := (p : Int) * (p : Int)) dX11_makesMultiple_55 rfl ?_
    refine g_lload_n (pc := 57) (x := (p : Int)) dX11_makesMultiple_57 rfl ?_
    refine g_lmul (pc := 58) dX11_makesMultiple_58 ?_
    refine g_lstore (pc := 59) (lo2 := [(0, vR x), (1, vI (k : Int)), (2, vJ (p : Int)), (4, vJ (((p : Int) * (p : Int)) * (p : Int)))]) dX11_makesMultiple_59 (by decide) rfl ?_
    refine g_goto (pc := 61) (tgt := 41) dX11_makesMultiple_61 (by decide) ?_
    refine g_lload (pc := 41) (x := ((p : Int) * (p : Int)) * (p : Int)) dX11_makesMultiple_41 rfl ?_
    refine g_ldc2 (pc := 43) (n := 5) dX11_makesMultiple_43 kcX11_174 ?_
    refine g_lif_geT (pc := 46) (tgt := 64) dX11_makesMultiple_46 dX11_makesMultiple_47 (by decide) (by omega) (by omega) (by omega) ?_
    refine g_aload_n (pc := 64) (r := .inl (some x)) dX11_makesMultiple_64 rfl ?_
    refine g_lload_n (pc := 65) (x := (p : Int)) dX11_makesMultiple_65 rfl ?_
    refine g_lconst1 (pc := 66) dX11_makesMultiple_66 ?_
    refine g_lsub (pc := 67) dX11_makesMultiple_67 ?_
    rw [show (p : Int) - 1 = ((p - 1 : Nat) : Int) by omega]
    have hb3 : prodL (((fl ++ gl0) ++ gl1) ++ gl2) * (p - 1) ≤ 8000000000000000000 := by
      rw [pd2]
      refine Nat.le_trans ?_ hEb
      refine Nat.le_of_dvd (Nat.pos_of_ne_zero (fun z => by have := Nat.mul_pos (Nat.mul_pos (show 0 < (p - 1) * (p + 1) * (p * p + p + 1) * (p * p + 1) from Nat.mul_pos (Nat.mul_pos (Nat.mul_pos (by omega) (by omega)) (by omega)) (by omega)) (show 0 < p * p * p from Nat.mul_pos (Nat.mul_pos (by omega) (by omega)) (by omega))) hpo; omega)) ⟨(p + 1) * (p * p + p + 1) * (p * p + 1), ?_⟩
      generalize p - 1 = a1
      generalize p ^ (o - 1) = a2
      grind
    refine g_callV0 (pc := 68) (as := [vJ ((p - 1 : Nat) : Int)]) (b := x) (st := []) lvX11_170 dX11_makesMultiple_68 x2 (Nat.le_of_ble_eq_true rfl) (by omega) (Nat.zero_le _) (Nat.zero_le _) (c_factor (d := d) (v := (p - 1)) (prm_two pr2) (by omega) (by omega) hb3 x2 l2 g6_2) ?_
    rintro r k3 ⟨rfl, gl3, M3, g1_3, ⟨g2_3, -⟩, g4_3, g5_3, g6_3, g7_3⟩
    have pd3 : prodL ((((fl ++ gl0) ++ gl1) ++ gl2) ++ gl3) = p ^ (o - 1) * p * p * p * (p - 1) := by rw [prodL_app, pd2, g1_3]
    have pr3 := prm_append pr2 g2_3
    have x3 : Hd (0, 0, N) k3 x (mdl x th wd pm (((((fl ++ gl0) ++ gl1) ++ gl2) ++ gl3).length : Int) mu um pr ts) := ⟨x2.1, g4_3⟩
    have l3 : Hd (0, 0, N) k3 (x + 18) (eA 3 70 M3) := ⟨l2.1, g5_3⟩
    refine g_aload_n (pc := 71) (r := .inl (some x)) dX11_makesMultiple_71 rfl ?_
    refine g_lload_n (pc := 72) (x := (p : Int)) dX11_makesMultiple_72 rfl ?_
    refine g_lconst1 (pc := 73) dX11_makesMultiple_73 ?_
    refine g_ladd (pc := 74) dX11_makesMultiple_74 ?_
    rw [show (p : Int) + 1 = ((p + 1 : Nat) : Int) from rfl]
    have hb4 : prodL ((((fl ++ gl0) ++ gl1) ++ gl2) ++ gl3) * (p + 1) ≤ 8000000000000000000 := by
      rw [pd3]
      refine Nat.le_trans ?_ hEb
      refine Nat.le_of_dvd (Nat.pos_of_ne_zero (fun z => by have := Nat.mul_pos (Nat.mul_pos (show 0 < (p - 1) * (p + 1) * (p * p + p + 1) * (p * p + 1) from Nat.mul_pos (Nat.mul_pos (Nat.mul_pos (by omega) (by omega)) (by omega)) (by omega)) (show 0 < p * p * p from Nat.mul_pos (Nat.mul_pos (by omega) (by omega)) (by omega))) hpo; omega)) ⟨(p * p + p + 1) * (p * p + 1), ?_⟩
      generalize p - 1 = a1
      generalize p ^ (o - 1) = a2
      grind
    refine g_callV0 (pc := 75) (as := [vJ ((p + 1 : Nat) : Int)]) (b := x) (st := []) lvX11_170 dX11_makesMultiple_75 x3 (Nat.le_of_ble_eq_true rfl) (by omega) (Nat.zero_le _) (Nat.zero_le _) (c_factor (d := d) (v := (p + 1)) (prm_two pr3) (by omega) (by omega) hb4 x3 l3 g6_3) ?_
    rintro r k4 ⟨rfl, gl4, M4, g1_4, ⟨g2_4, -⟩, g4_4, g5_4, g6_4, g7_4⟩
    have pd4 : prodL (((((fl ++ gl0) ++ gl1) ++ gl2) ++ gl3) ++ gl4) = p ^ (o - 1) * p * p * p * (p - 1) * (p + 1) := by rw [prodL_app, pd3, g1_4]
    have pr4 := prm_append pr3 g2_4
    have x4 : Hd (0, 0, N) k4 x (mdl x th wd pm ((((((fl ++ gl0) ++ gl1) ++ gl2) ++ gl3) ++ gl4).length : Int) mu um pr ts) := ⟨x3.1, g4_4⟩
    have l4 : Hd (0, 0, N) k4 (x + 18) (eA 3 70 M4) := ⟨l3.1, g5_4⟩
    refine g_aload_n (pc := 78) (r := .inl (some x)) dX11_makesMultiple_78 rfl ?_
    refine g_lload_n (pc := 79) (x := (p : Int)) dX11_makesMultiple_79 rfl ?_
    refine g_lload_n (pc := 80) (x := (p : Int)) dX11_makesMultiple_80 rfl ?_
    refine g_lmul (pc := 81) dX11_makesMultiple_81 ?_
    refine g_lload_n (pc := 82) (x := (p : Int)) dX11_makesMultiple_82 rfl ?_
    refine g_ladd (pc := 83) dX11_makesMultiple_83 ?_
    refine g_lconst1 (pc := 84) dX11_makesMultiple_84 ?_
    refine g_ladd (pc := 85) dX11_makesMultiple_85 ?_
    rw [show (((p : Int) * (p : Int)) + (p : Int)) + 1 = ((p * p + p + 1 : Nat) : Int) by rw [Int.natCast_add, Int.natCast_add, Int.natCast_mul]; rfl]
    have hb5 : prodL (((((fl ++ gl0) ++ gl1) ++ gl2) ++ gl3) ++ gl4) * (p * p + p + 1) ≤ 8000000000000000000 := by
      rw [pd4]
      refine Nat.le_trans ?_ hEb
      refine Nat.le_of_dvd (Nat.pos_of_ne_zero (fun z => by have := Nat.mul_pos (Nat.mul_pos (show 0 < (p - 1) * (p + 1) * (p * p + p + 1) * (p * p + 1) from Nat.mul_pos (Nat.mul_pos (Nat.mul_pos (by omega) (by omega)) (by omega)) (by omega)) (show 0 < p * p * p from Nat.mul_pos (Nat.mul_pos (by omega) (by omega)) (by omega))) hpo; omega)) ⟨(p * p + 1), ?_⟩
      generalize p - 1 = a1
      generalize p ^ (o - 1) = a2
      grind
    refine g_callV0 (pc := 86) (as := [vJ ((p * p + p + 1 : Nat) : Int)]) (b := x) (st := []) lvX11_170 dX11_makesMultiple_86 x4 (Nat.le_of_ble_eq_true rfl) (by omega) (Nat.zero_le _) (Nat.zero_le _) (c_factor (d := d) (v := (p * p + p + 1)) (prm_two pr4) (by omega) (by omega) hb5 x4 l4 g6_4) ?_
    rintro r k5 ⟨rfl, gl5, M5, g1_5, ⟨g2_5, -⟩, g4_5, g5_5, g6_5, g7_5⟩
    have pd5 : prodL ((((((fl ++ gl0) ++ gl1) ++ gl2) ++ gl3) ++ gl4) ++ gl5) = p ^ (o - 1) * p * p * p * (p - 1) * (p + 1) * (p * p + p + 1) := by rw [prodL_app, pd4, g1_5]
    have pr5 := prm_append pr4 g2_5
    have x5 : Hd (0, 0, N) k5 x (mdl x th wd pm (((((((fl ++ gl0) ++ gl1) ++ gl2) ++ gl3) ++ gl4) ++ gl5).length : Int) mu um pr ts) := ⟨x4.1, g4_5⟩
    have l5 : Hd (0, 0, N) k5 (x + 18) (eA 3 70 M5) := ⟨l4.1, g5_5⟩
    refine g_aload_n (pc := 89) (r := .inl (some x)) dX11_makesMultiple_89 rfl ?_
    refine g_lload_n (pc := 90) (x := (p : Int)) dX11_makesMultiple_90 rfl ?_
    refine g_lload_n (pc := 91) (x := (p : Int)) dX11_makesMultiple_91 rfl ?_
    refine g_lmul (pc := 92) dX11_makesMultiple_92 ?_
    refine g_lconst1 (pc := 93) dX11_makesMultiple_93 ?_
    refine g_ladd (pc := 94) dX11_makesMultiple_94 ?_
    rw [show ((p : Int) * (p : Int)) + 1 = ((p * p + 1 : Nat) : Int) by rw [Int.natCast_add, Int.natCast_mul]; rfl]
    have hb6 : prodL ((((((fl ++ gl0) ++ gl1) ++ gl2) ++ gl3) ++ gl4) ++ gl5) * (p * p + 1) ≤ 8000000000000000000 := by
      rw [pd5]
      refine Nat.le_trans ?_ hEb
      refine Nat.le_of_dvd (Nat.pos_of_ne_zero (fun z => by have := Nat.mul_pos (Nat.mul_pos (show 0 < (p - 1) * (p + 1) * (p * p + p + 1) * (p * p + 1) from Nat.mul_pos (Nat.mul_pos (Nat.mul_pos (by omega) (by omega)) (by omega)) (by omega)) (show 0 < p * p * p from Nat.mul_pos (Nat.mul_pos (by omega) (by omega)) (by omega))) hpo; omega)) ⟨1, ?_⟩
      generalize p - 1 = a1
      generalize p ^ (o - 1) = a2
      grind
    refine g_callV0 (pc := 95) (as := [vJ ((p * p + 1 : Nat) : Int)]) (b := x) (st := []) lvX11_170 dX11_makesMultiple_95 x5 (Nat.le_of_ble_eq_true rfl) (by omega) (Nat.zero_le _) (Nat.zero_le _) (c_factor (d := d) (v := (p * p + 1)) (prm_two pr5) (by omega) (by omega) hb6 x5 l5 g6_5) ?_
    rintro r k6 ⟨rfl, gl6, M6, g1_6, ⟨g2_6, -⟩, g4_6, g5_6, g6_6, g7_6⟩
    have pd6 : prodL (((((((fl ++ gl0) ++ gl1) ++ gl2) ++ gl3) ++ gl4) ++ gl5) ++ gl6) = p ^ (o - 1) * p * p * p * (p - 1) * (p + 1) * (p * p + p + 1) * (p * p + 1) := by rw [prodL_app, pd5, g1_6]
    have pr6 := prm_append pr5 g2_6
    have x6 : Hd (0, 0, N) k6 x (mdl x th wd pm ((((((((fl ++ gl0) ++ gl1) ++ gl2) ++ gl3) ++ gl4) ++ gl5) ++ gl6).length : Int) mu um pr ts) := ⟨x5.1, g4_6⟩
    have l6 : Hd (0, 0, N) k6 (x + 18) (eA 3 70 M6) := ⟨l5.1, g5_6⟩
    refine g_pick [0, 1, 2] (lo2 := [(0, vR x), (1, vI (k : Int)), (2, vJ (p : Int))]) rfl ?_
    refine g_aload_n (pc := 98) (r := .inl (some x)) dX11_makesMultiple_98 rfl ?_
    refine g_lconst1 (pc := 99) dX11_makesMultiple_99 ?_
    refine g_putf (pc := 100) fpX11_176 dX11_makesMultiple_100 x6 (okv_long _) (Nat.le_of_ble_eq_true rfl) ?_
    have hx_2 := x6.self (e := mdl x th wd pm ((((((((fl ++ gl0) ++ gl1) ++ gl2) ++ gl3) ++ gl4) ++ gl5) ++ gl6).length : Int) 1 um pr ts)
    have l6_2 := l6.ne (e := mdl x th wd pm ((((((((fl ++ gl0) ++ gl1) ++ gl2) ++ gl3) ++ gl4) ++ gl5) ++ gl6).length : Int) 1 um pr ts) (a := x) (by omega)
    refine g_iconst (pc := 103) dX11_makesMultiple_103 ?_
    refine g_istore (pc := 104) (lo2 := [(0, vR x), (1, vI (k : Int)), (2, vJ (p : Int)), (4, vI 0)]) dX11_makesMultiple_104 (by decide) rfl ?_
    have hE9 : prodL (((((((fl ++ gl0) ++ gl1) ++ gl2) ++ gl3) ++ gl4) ++ gl5) ++ gl6) = (p - 1) * (p + 1) * (p * p + p + 1) * (p * p + 1) * (p * p * p) * p ^ (o - 1) := by
      rw [pd6]
      generalize p - 1 = a1
      generalize p ^ (o - 1) = a2
      grind
    have hlen := len_62 (prm_two pr6) (by rw [hE9]; exact hEb)
    refine Q_mono (mul9_l3 (h0 := va_up k6 x (mdl x th wd pm ((((((((fl ++ gl0) ++ gl1) ++ gl2) ++ gl3) ++ gl4) ++ gl5) ++ gl6).length : Int) 1 um pr ts)) g6_6 hlen (((((((fl ++ gl0) ++ gl1) ++ gl2) ++ gl3) ++ gl4) ++ gl5) ++ gl6).length 0 _ _ _ (by omega) rfl rfl hx_2 l6_2 (fun _ _ => rfl)) ?_
    rintro r h9 ⟨rfl, f1, f2⟩
    exact ⟨rfl, (((((((fl ++ gl0) ++ gl1) ++ gl2) ++ gl3) ++ gl4) ++ gl5) ++ gl6), M6, pr6, hE9, hlen, g6_6, by rw [f1, hE9], (f2 _ (by omega)).trans ((va_up_ne _ _ (by omega)).trans l6.2), fun a a1 a2 => (f2 a a1).trans ((va_up_ne _ _ a1).trans (((g7_6 a a1 a2).trans ((g7_5 a a1 a2).trans ((g7_4 a a1 a2).trans ((g7_3 a a1 a2).trans ((g7_2 a a1 a2).trans ((g7_1 a a1 a2).trans ((g7_0 a a1 a2).trans (akp a a1 a2)))))))).trans (va_up_ne _ _ a1)))⟩
  · have eL : Lf p 4 = (p - 1) * (p + 1) * (p * p + p + 1) * (p * p + 1) := by simp [Lf]
    have eN : Nf p 4 = p * p := by rw [hcs]; rfl
    rw [eL, eN] at hEb ⊢
    have ppb : p * p ≤ 249001 := by
      have := Nat.mul_le_mul p5 p5
      omega
    have q2 : (p : Int) * (p : Int) = 9 := by rw [hcs]; rfl
    refine g_lload (pc := 41) (x := 1) dX11_makesMultiple_41 rfl ?_
    refine g_ldc2 (pc := 43) (n := 5) dX11_makesMultiple_43 kcX11_174 ?_
    refine g_lif_geF (pc := 46) (tgt := 64) dX11_makesMultiple_46 dX11_makesMultiple_47 (by decide) (by omega) (by omega) (by omega) ?_
    refine g_aload_n (pc := 50) (r := .inl (some x)) dX11_makesMultiple_50 rfl ?_
    refine g_lload_n (pc := 51) (x := (p : Int)) dX11_makesMultiple_51 rfl ?_
    have hb0 : prodL fl * p ≤ 8000000000000000000 := by
      rw [apd]
      refine Nat.le_trans ?_ hEb
      refine Nat.le_of_dvd (Nat.pos_of_ne_zero (fun z => by have := Nat.mul_pos (Nat.mul_pos (show 0 < (p - 1) * (p + 1) * (p * p + p + 1) * (p * p + 1) from Nat.mul_pos (Nat.mul_pos (Nat.mul_pos (by omega) (by omega)) (by omega)) (by omega)) (show 0 < p * p from Nat.mul_pos (by omega) (by omega))) hpo; omega)) ⟨p * (p - 1) * (p + 1) * (p * p + p + 1) * (p * p + 1), ?_⟩
      generalize p - 1 = a1
      generalize p ^ (o - 1) = a2
      grind
    refine g_callV0 (pc := 52) (as := [vJ (p : Int)]) (b := x) (st := []) lvX11_170 dX11_makesMultiple_52 ax (Nat.le_of_ble_eq_true rfl) (by omega) (Nat.zero_le _) (Nat.zero_le _) (c_factor (d := d) (v := p) (prm_two apr) (by omega) (by omega) hb0 ax aL afl) ?_
    rintro r k0 ⟨rfl, gl0, M0, g1_0, ⟨g2_0, -⟩, g4_0, g5_0, g6_0, g7_0⟩
    have pd0 : prodL (fl ++ gl0) = p ^ (o - 1) * p := by rw [prodL_app, apd, g1_0]
    have pr0 := prm_append apr g2_0
    have x0 : Hd (0, 0, N) k0 x (mdl x th wd pm ((fl ++ gl0).length : Int) mu um pr ts) := ⟨ax.1, g4_0⟩
    have l0 : Hd (0, 0, N) k0 (x + 18) (eA 3 70 M0) := ⟨aL.1, g5_0⟩
    refine g_lload (pc := 55) (x := 1) dX11_makesMultiple_55 rfl ?_
    refine g_lload_n (pc := 57) (x := (p : Int)) dX11_makesMultiple_57 rfl ?_
    refine g_lmul (pc := 58) dX11_makesMultiple_58 ?_
    refine g_lstore (pc := 59) (lo2 := [(0, vR x), (1, vI (k : Int)), (2, vJ (p : Int)), (4, vJ (1 * (p : Int)))]) dX11_makesMultiple_59 (by decide) rfl ?_
    refine g_goto (pc := 61) (tgt := 41) dX11_makesMultiple_61 (by decide) ?_
    rw [Int.one_mul]
    refine g_lload (pc := 41) (x := (p : Int)) dX11_makesMultiple_41 rfl ?_
    refine g_ldc2 (pc := 43) (n := 5) dX11_makesMultiple_43 kcX11_174 ?_
    refine g_lif_geF (pc := 46) (tgt := 64) dX11_makesMultiple_46 dX11_makesMultiple_47 (by decide) (by omega) (by omega) (by omega) ?_
    refine g_aload_n (pc := 50) (r := .inl (some x)) dX11_makesMultiple_50 rfl ?_
    refine g_lload_n (pc := 51) (x := (p : Int)) dX11_makesMultiple_51 rfl ?_
    have hb1 : prodL (fl ++ gl0) * p ≤ 8000000000000000000 := by
      rw [pd0]
      refine Nat.le_trans ?_ hEb
      refine Nat.le_of_dvd (Nat.pos_of_ne_zero (fun z => by have := Nat.mul_pos (Nat.mul_pos (show 0 < (p - 1) * (p + 1) * (p * p + p + 1) * (p * p + 1) from Nat.mul_pos (Nat.mul_pos (Nat.mul_pos (by omega) (by omega)) (by omega)) (by omega)) (show 0 < p * p from Nat.mul_pos (by omega) (by omega))) hpo; omega)) ⟨(p - 1) * (p + 1) * (p * p + p + 1) * (p * p + 1), ?_⟩
      generalize p - 1 = a1
      generalize p ^ (o - 1) = a2
      grind
    refine g_callV0 (pc := 52) (as := [vJ (p : Int)]) (b := x) (st := []) lvX11_170 dX11_makesMultiple_52 x0 (Nat.le_of_ble_eq_true rfl) (by omega) (Nat.zero_le _) (Nat.zero_le _) (c_factor (d := d) (v := p) (prm_two pr0) (by omega) (by omega) hb1 x0 l0 g6_0) ?_
    rintro r k1 ⟨rfl, gl1, M1, g1_1, ⟨g2_1, -⟩, g4_1, g5_1, g6_1, g7_1⟩
    have pd1 : prodL ((fl ++ gl0) ++ gl1) = p ^ (o - 1) * p * p := by rw [prodL_app, pd0, g1_1]
    have pr1 := prm_append pr0 g2_1
    have x1 : Hd (0, 0, N) k1 x (mdl x th wd pm (((fl ++ gl0) ++ gl1).length : Int) mu um pr ts) := ⟨x0.1, g4_1⟩
    have l1 : Hd (0, 0, N) k1 (x + 18) (eA 3 70 M1) := ⟨l0.1, g5_1⟩
    refine g_lload (pc := 55) (x := (p : Int)) dX11_makesMultiple_55 rfl ?_
    refine g_lload_n (pc := 57) (x := (p : Int)) dX11_makesMultiple_57 rfl ?_
    refine g_lmul (pc := 58) dX11_makesMultiple_58 ?_
    refine g_lstore (pc := 59) (lo2 := [(0, vR x), (1, vI (k : Int)), (2, vJ (p : Int)), (4, vJ ((p : Int) * (p : Int)))]) dX11_makesMultiple_59 (by decide) rfl ?_
    refine g_goto (pc := 61) (tgt := 41) dX11_makesMultiple_61 (by decide) ?_
    refine g_lload (pc := 41) (x := (p : Int) * (p : Int)) dX11_makesMultiple_41 rfl ?_
    refine g_ldc2 (pc := 43) (n := 5) dX11_makesMultiple_43 kcX11_174 ?_
    refine g_lif_geT (pc := 46) (tgt := 64) dX11_makesMultiple_46 dX11_makesMultiple_47 (by decide) (by omega) (by omega) (by omega) ?_
    refine g_aload_n (pc := 64) (r := .inl (some x)) dX11_makesMultiple_64 rfl ?_
    refine g_lload_n (pc := 65) (x := (p : Int)) dX11_makesMultiple_65 rfl ?_
    refine g_lconst1 (pc := 66) dX11_makesMultiple_66 ?_
    refine g_lsub (pc := 67) dX11_makesMultiple_67 ?_
    rw [show (p : Int) - 1 = ((p - 1 : Nat) : Int) by omega]
    have hb2 : prodL ((fl ++ gl0) ++ gl1) * (p - 1) ≤ 8000000000000000000 := by
      rw [pd1]
      refine Nat.le_trans ?_ hEb
      refine Nat.le_of_dvd (Nat.pos_of_ne_zero (fun z => by have := Nat.mul_pos (Nat.mul_pos (show 0 < (p - 1) * (p + 1) * (p * p + p + 1) * (p * p + 1) from Nat.mul_pos (Nat.mul_pos (Nat.mul_pos (by omega) (by omega)) (by omega)) (by omega)) (show 0 < p * p from Nat.mul_pos (by omega) (by omega))) hpo; omega)) ⟨(p + 1) * (p * p + p + 1) * (p * p + 1), ?_⟩
      generalize p - 1 = a1
      generalize p ^ (o - 1) = a2
      grind
    refine g_callV0 (pc := 68) (as := [vJ ((p - 1 : Nat) : Int)]) (b := x) (st := []) lvX11_170 dX11_makesMultiple_68 x1 (Nat.le_of_ble_eq_true rfl) (by omega) (Nat.zero_le _) (Nat.zero_le _) (c_factor (d := d) (v := (p - 1)) (prm_two pr1) (by omega) (by omega) hb2 x1 l1 g6_1) ?_
    rintro r k2 ⟨rfl, gl2, M2, g1_2, ⟨g2_2, -⟩, g4_2, g5_2, g6_2, g7_2⟩
    have pd2 : prodL (((fl ++ gl0) ++ gl1) ++ gl2) = p ^ (o - 1) * p * p * (p - 1) := by rw [prodL_app, pd1, g1_2]
    have pr2 := prm_append pr1 g2_2
    have x2 : Hd (0, 0, N) k2 x (mdl x th wd pm ((((fl ++ gl0) ++ gl1) ++ gl2).length : Int) mu um pr ts) := ⟨x1.1, g4_2⟩
    have l2 : Hd (0, 0, N) k2 (x + 18) (eA 3 70 M2) := ⟨l1.1, g5_2⟩
    refine g_aload_n (pc := 71) (r := .inl (some x)) dX11_makesMultiple_71 rfl ?_
    refine g_lload_n (pc := 72) (x := (p : Int)) dX11_makesMultiple_72 rfl ?_
    refine g_lconst1 (pc := 73) dX11_makesMultiple_73 ?_
    refine g_ladd (pc := 74) dX11_makesMultiple_74 ?_
    rw [show (p : Int) + 1 = ((p + 1 : Nat) : Int) from rfl]
    have hb3 : prodL (((fl ++ gl0) ++ gl1) ++ gl2) * (p + 1) ≤ 8000000000000000000 := by
      rw [pd2]
      refine Nat.le_trans ?_ hEb
      refine Nat.le_of_dvd (Nat.pos_of_ne_zero (fun z => by have := Nat.mul_pos (Nat.mul_pos (show 0 < (p - 1) * (p + 1) * (p * p + p + 1) * (p * p + 1) from Nat.mul_pos (Nat.mul_pos (Nat.mul_pos (by omega) (by omega)) (by omega)) (by omega)) (show 0 < p * p from Nat.mul_pos (by omega) (by omega))) hpo; omega)) ⟨(p * p + p + 1) * (p * p + 1), ?_⟩
      generalize p - 1 = a1
      generalize p ^ (o - 1) = a2
      grind
    refine g_callV0 (pc := 75) (as := [vJ ((p + 1 : Nat) : Int)]) (b := x) (st := []) lvX11_170 dX11_makesMultiple_75 x2 (Nat.le_of_ble_eq_true rfl) (by omega) (Nat.zero_le _) (Nat.zero_le _) (c_factor (d := d) (v := (p + 1)) (prm_two pr2) (by omega) (by omega) hb3 x2 l2 g6_2) ?_
    rintro r k3 ⟨rfl, gl3, M3, g1_3, ⟨g2_3, -⟩, g4_3, g5_3, g6_3, g7_3⟩
    have pd3 : prodL ((((fl ++ gl0) ++ gl1) ++ gl2) ++ gl3) = p ^ (o - 1) * p * p * (p - 1) * (p + 1) := by rw [prodL_app, pd2, g1_3]
    have pr3 := prm_append pr2 g2_3
    have x3 : Hd (0, 0, N) k3 x (mdl x th wd pm (((((fl ++ gl0) ++ gl1) ++ gl2) ++ gl3).length : Int) mu um pr ts) := ⟨x2.1, g4_3⟩
    have l3 : Hd (0, 0, N) k3 (x + 18) (eA 3 70 M3) := ⟨l2.1, g5_3⟩
    refine g_aload_n (pc := 78) (r := .inl (some x)) dX11_makesMultiple_78 rfl ?_
    refine g_lload_n (pc := 79) (x := (p : Int)) dX11_makesMultiple_79 rfl ?_
    refine g_lload_n (pc := 80) (x := (p : Int)) dX11_makesMultiple_80 rfl ?_
    refine g_lmul (pc := 81) dX11_makesMultiple_81 ?_
    refine g_lload_n (pc := 82) (x := (p : Int)) dX11_makesMultiple_82 rfl ?_
    refine g_ladd (pc := 83) dX11_makesMultiple_83 ?_
    refine g_lconst1 (pc := 84) dX11_makesMultiple_84 ?_
    refine g_ladd (pc := 85) dX11_makesMultiple_85 ?_
    rw [show (((p : Int) * (p : Int)) + (p : Int)) + 1 = ((p * p + p + 1 : Nat) : Int) by rw [Int.natCast_add, Int.natCast_add, Int.natCast_mul]; rfl]
    have hb4 : prodL ((((fl ++ gl0) ++ gl1) ++ gl2) ++ gl3) * (p * p + p + 1) ≤ 8000000000000000000 := by
      rw [pd3]
      refine Nat.le_trans ?_ hEb
      refine Nat.le_of_dvd (Nat.pos_of_ne_zero (fun z => by have := Nat.mul_pos (Nat.mul_pos (show 0 < (p - 1) * (p + 1) * (p * p + p + 1) * (p * p + 1) from Nat.mul_pos (Nat.mul_pos (Nat.mul_pos (by omega) (by omega)) (by omega)) (by omega)) (show 0 < p * p from Nat.mul_pos (by omega) (by omega))) hpo; omega)) ⟨(p * p + 1), ?_⟩
      generalize p - 1 = a1
      generalize p ^ (o - 1) = a2
      grind
    refine g_callV0 (pc := 86) (as := [vJ ((p * p + p + 1 : Nat) : Int)]) (b := x) (st := []) lvX11_170 dX11_makesMultiple_86 x3 (Nat.le_of_ble_eq_true rfl) (by omega) (Nat.zero_le _) (Nat.zero_le _) (c_factor (d := d) (v := (p * p + p + 1)) (prm_two pr3) (by omega) (by omega) hb4 x3 l3 g6_3) ?_
    rintro r k4 ⟨rfl, gl4, M4, g1_4, ⟨g2_4, -⟩, g4_4, g5_4, g6_4, g7_4⟩
    have pd4 : prodL (((((fl ++ gl0) ++ gl1) ++ gl2) ++ gl3) ++ gl4) = p ^ (o - 1) * p * p * (p - 1) * (p + 1) * (p * p + p + 1) := by rw [prodL_app, pd3, g1_4]
    have pr4 := prm_append pr3 g2_4
    have x4 : Hd (0, 0, N) k4 x (mdl x th wd pm ((((((fl ++ gl0) ++ gl1) ++ gl2) ++ gl3) ++ gl4).length : Int) mu um pr ts) := ⟨x3.1, g4_4⟩
    have l4 : Hd (0, 0, N) k4 (x + 18) (eA 3 70 M4) := ⟨l3.1, g5_4⟩
    refine g_aload_n (pc := 89) (r := .inl (some x)) dX11_makesMultiple_89 rfl ?_
    refine g_lload_n (pc := 90) (x := (p : Int)) dX11_makesMultiple_90 rfl ?_
    refine g_lload_n (pc := 91) (x := (p : Int)) dX11_makesMultiple_91 rfl ?_
    refine g_lmul (pc := 92) dX11_makesMultiple_92 ?_
    refine g_lconst1 (pc := 93) dX11_makesMultiple_93 ?_
    refine g_ladd (pc := 94) dX11_makesMultiple_94 ?_
    rw [show ((p : Int) * (p : Int)) + 1 = ((p * p + 1 : Nat) : Int) by rw [Int.natCast_add, Int.natCast_mul]; rfl]
    have hb5 : prodL (((((fl ++ gl0) ++ gl1) ++ gl2) ++ gl3) ++ gl4) * (p * p + 1) ≤ 8000000000000000000 := by
      rw [pd4]
      refine Nat.le_trans ?_ hEb
      refine Nat.le_of_dvd (Nat.pos_of_ne_zero (fun z => by have := Nat.mul_pos (Nat.mul_pos (show 0 < (p - 1) * (p + 1) * (p * p + p + 1) * (p * p + 1) from Nat.mul_pos (Nat.mul_pos (Nat.mul_pos (by omega) (by omega)) (by omega)) (by omega)) (show 0 < p * p from Nat.mul_pos (by omega) (by omega))) hpo; omega)) ⟨1, ?_⟩
      generalize p - 1 = a1
      generalize p ^ (o - 1) = a2
      grind
    refine g_callV0 (pc := 95) (as := [vJ ((p * p + 1 : Nat) : Int)]) (b := x) (st := []) lvX11_170 dX11_makesMultiple_95 x4 (Nat.le_of_ble_eq_true rfl) (by omega) (Nat.zero_le _) (Nat.zero_le _) (c_factor (d := d) (v := (p * p + 1)) (prm_two pr4) (by omega) (by omega) hb5 x4 l4 g6_4) ?_
    rintro r k5 ⟨rfl, gl5, M5, g1_5, ⟨g2_5, -⟩, g4_5, g5_5, g6_5, g7_5⟩
    have pd5 : prodL ((((((fl ++ gl0) ++ gl1) ++ gl2) ++ gl3) ++ gl4) ++ gl5) = p ^ (o - 1) * p * p * (p - 1) * (p + 1) * (p * p + p + 1) * (p * p + 1) := by rw [prodL_app, pd4, g1_5]
    have pr5 := prm_append pr4 g2_5
    have x5 : Hd (0, 0, N) k5 x (mdl x th wd pm (((((((fl ++ gl0) ++ gl1) ++ gl2) ++ gl3) ++ gl4) ++ gl5).length : Int) mu um pr ts) := ⟨x4.1, g4_5⟩
    have l5 : Hd (0, 0, N) k5 (x + 18) (eA 3 70 M5) := ⟨l4.1, g5_5⟩
    refine g_pick [0, 1, 2] (lo2 := [(0, vR x), (1, vI (k : Int)), (2, vJ (p : Int))]) rfl ?_
    refine g_aload_n (pc := 98) (r := .inl (some x)) dX11_makesMultiple_98 rfl ?_
    refine g_lconst1 (pc := 99) dX11_makesMultiple_99 ?_
    refine g_putf (pc := 100) fpX11_176 dX11_makesMultiple_100 x5 (okv_long _) (Nat.le_of_ble_eq_true rfl) ?_
    have hx_2 := x5.self (e := mdl x th wd pm (((((((fl ++ gl0) ++ gl1) ++ gl2) ++ gl3) ++ gl4) ++ gl5).length : Int) 1 um pr ts)
    have l5_2 := l5.ne (e := mdl x th wd pm (((((((fl ++ gl0) ++ gl1) ++ gl2) ++ gl3) ++ gl4) ++ gl5).length : Int) 1 um pr ts) (a := x) (by omega)
    refine g_iconst (pc := 103) dX11_makesMultiple_103 ?_
    refine g_istore (pc := 104) (lo2 := [(0, vR x), (1, vI (k : Int)), (2, vJ (p : Int)), (4, vI 0)]) dX11_makesMultiple_104 (by decide) rfl ?_
    have hE9 : prodL ((((((fl ++ gl0) ++ gl1) ++ gl2) ++ gl3) ++ gl4) ++ gl5) = (p - 1) * (p + 1) * (p * p + p + 1) * (p * p + 1) * (p * p) * p ^ (o - 1) := by
      rw [pd5]
      generalize p - 1 = a1
      generalize p ^ (o - 1) = a2
      grind
    have hlen := len_62 (prm_two pr5) (by rw [hE9]; exact hEb)
    refine Q_mono (mul9_l3 (h0 := va_up k5 x (mdl x th wd pm (((((((fl ++ gl0) ++ gl1) ++ gl2) ++ gl3) ++ gl4) ++ gl5).length : Int) 1 um pr ts)) g6_5 hlen ((((((fl ++ gl0) ++ gl1) ++ gl2) ++ gl3) ++ gl4) ++ gl5).length 0 _ _ _ (by omega) rfl rfl hx_2 l5_2 (fun _ _ => rfl)) ?_
    rintro r h9 ⟨rfl, f1, f2⟩
    exact ⟨rfl, ((((((fl ++ gl0) ++ gl1) ++ gl2) ++ gl3) ++ gl4) ++ gl5), M5, pr5, hE9, hlen, g6_5, by rw [f1, hE9], (f2 _ (by omega)).trans ((va_up_ne _ _ (by omega)).trans l5.2), fun a a1 a2 => (f2 a a1).trans ((va_up_ne _ _ a1).trans (((g7_5 a a1 a2).trans ((g7_4 a a1 a2).trans ((g7_3 a a1 a2).trans ((g7_2 a a1 a2).trans ((g7_1 a a1 a2).trans ((g7_0 a a1 a2).trans (akp a a1 a2))))))).trans (va_up_ne _ _ a1)))⟩
  · have eL : Lf p 4 = (p - 1) * (p + 1) * (p * p + p + 1) * (p * p + 1) := by simp [Lf]
    have eN : Nf p 4 = p := by unfold Nf; rw [if_neg (by omega)]
    rw [eL, eN] at hEb ⊢
    have ppb : p * p ≤ 249001 := by
      have := Nat.mul_le_mul p5 p5
      omega
    refine g_lload (pc := 41) (x := 1) dX11_makesMultiple_41 rfl ?_
    refine g_ldc2 (pc := 43) (n := 5) dX11_makesMultiple_43 kcX11_174 ?_
    refine g_lif_geF (pc := 46) (tgt := 64) dX11_makesMultiple_46 dX11_makesMultiple_47 (by decide) (by omega) (by omega) (by omega) ?_
    refine g_aload_n (pc := 50) (r := .inl (some x)) dX11_makesMultiple_50 rfl ?_
    refine g_lload_n (pc := 51) (x := (p : Int)) dX11_makesMultiple_51 rfl ?_
    have hb0 : prodL fl * p ≤ 8000000000000000000 := by
      rw [apd]
      refine Nat.le_trans ?_ hEb
      refine Nat.le_of_dvd (Nat.pos_of_ne_zero (fun z => by have := Nat.mul_pos (Nat.mul_pos (show 0 < (p - 1) * (p + 1) * (p * p + p + 1) * (p * p + 1) from Nat.mul_pos (Nat.mul_pos (Nat.mul_pos (by omega) (by omega)) (by omega)) (by omega)) (show 0 < p from by omega)) hpo; omega)) ⟨(p - 1) * (p + 1) * (p * p + p + 1) * (p * p + 1), ?_⟩
      generalize p - 1 = a1
      generalize p ^ (o - 1) = a2
      grind
    refine g_callV0 (pc := 52) (as := [vJ (p : Int)]) (b := x) (st := []) lvX11_170 dX11_makesMultiple_52 ax (Nat.le_of_ble_eq_true rfl) (by omega) (Nat.zero_le _) (Nat.zero_le _) (c_factor (d := d) (v := p) (prm_two apr) (by omega) (by omega) hb0 ax aL afl) ?_
    rintro r k0 ⟨rfl, gl0, M0, g1_0, ⟨g2_0, -⟩, g4_0, g5_0, g6_0, g7_0⟩
    have pd0 : prodL (fl ++ gl0) = p ^ (o - 1) * p := by rw [prodL_app, apd, g1_0]
    have pr0 := prm_append apr g2_0
    have x0 : Hd (0, 0, N) k0 x (mdl x th wd pm ((fl ++ gl0).length : Int) mu um pr ts) := ⟨ax.1, g4_0⟩
    have l0 : Hd (0, 0, N) k0 (x + 18) (eA 3 70 M0) := ⟨aL.1, g5_0⟩
    refine g_lload (pc := 55) (x := 1) dX11_makesMultiple_55 rfl ?_
    refine g_lload_n (pc := 57) (x := (p : Int)) dX11_makesMultiple_57 rfl ?_
    refine g_lmul (pc := 58) dX11_makesMultiple_58 ?_
    refine g_lstore (pc := 59) (lo2 := [(0, vR x), (1, vI (k : Int)), (2, vJ (p : Int)), (4, vJ (1 * (p : Int)))]) dX11_makesMultiple_59 (by decide) rfl ?_
    refine g_goto (pc := 61) (tgt := 41) dX11_makesMultiple_61 (by decide) ?_
    rw [Int.one_mul]
    refine g_lload (pc := 41) (x := (p : Int)) dX11_makesMultiple_41 rfl ?_
    refine g_ldc2 (pc := 43) (n := 5) dX11_makesMultiple_43 kcX11_174 ?_
    refine g_lif_geT (pc := 46) (tgt := 64) dX11_makesMultiple_46 dX11_makesMultiple_47 (by decide) (by omega) (by omega) (by omega) ?_
    refine g_aload_n (pc := 64) (r := .inl (some x)) dX11_makesMultiple_64 rfl ?_
    refine g_lload_n (pc := 65) (x := (p : Int)) dX11_makesMultiple_65 rfl ?_
    refine g_lconst1 (pc := 66) dX11_makesMultiple_66 ?_
    refine g_lsub (pc := 67) dX11_makesMultiple_67 ?_
    rw [show (p : Int) - 1 = ((p - 1 : Nat) : Int) by omega]
    have hb1 : prodL (fl ++ gl0) * (p - 1) ≤ 8000000000000000000 := by
      rw [pd0]
      refine Nat.le_trans ?_ hEb
      refine Nat.le_of_dvd (Nat.pos_of_ne_zero (fun z => by have := Nat.mul_pos (Nat.mul_pos (show 0 < (p - 1) * (p + 1) * (p * p + p + 1) * (p * p + 1) from Nat.mul_pos (Nat.mul_pos (Nat.mul_pos (by omega) (by omega)) (by omega)) (by omega)) (show 0 < p from by omega)) hpo; omega)) ⟨(p + 1) * (p * p + p + 1) * (p * p + 1), ?_⟩
      generalize p - 1 = a1
      generalize p ^ (o - 1) = a2
      grind
    refine g_callV0 (pc := 68) (as := [vJ ((p - 1 : Nat) : Int)]) (b := x) (st := []) lvX11_170 dX11_makesMultiple_68 x0 (Nat.le_of_ble_eq_true rfl) (by omega) (Nat.zero_le _) (Nat.zero_le _) (c_factor (d := d) (v := (p - 1)) (prm_two pr0) (by omega) (by omega) hb1 x0 l0 g6_0) ?_
    rintro r k1 ⟨rfl, gl1, M1, g1_1, ⟨g2_1, -⟩, g4_1, g5_1, g6_1, g7_1⟩
    have pd1 : prodL ((fl ++ gl0) ++ gl1) = p ^ (o - 1) * p * (p - 1) := by rw [prodL_app, pd0, g1_1]
    have pr1 := prm_append pr0 g2_1
    have x1 : Hd (0, 0, N) k1 x (mdl x th wd pm (((fl ++ gl0) ++ gl1).length : Int) mu um pr ts) := ⟨x0.1, g4_1⟩
    have l1 : Hd (0, 0, N) k1 (x + 18) (eA 3 70 M1) := ⟨l0.1, g5_1⟩
    refine g_aload_n (pc := 71) (r := .inl (some x)) dX11_makesMultiple_71 rfl ?_
    refine g_lload_n (pc := 72) (x := (p : Int)) dX11_makesMultiple_72 rfl ?_
    refine g_lconst1 (pc := 73) dX11_makesMultiple_73 ?_
    refine g_ladd (pc := 74) dX11_makesMultiple_74 ?_
    rw [show (p : Int) + 1 = ((p + 1 : Nat) : Int) from rfl]
    have hb2 : prodL ((fl ++ gl0) ++ gl1) * (p + 1) ≤ 8000000000000000000 := by
      rw [pd1]
      refine Nat.le_trans ?_ hEb
      refine Nat.le_of_dvd (Nat.pos_of_ne_zero (fun z => by have := Nat.mul_pos (Nat.mul_pos (show 0 < (p - 1) * (p + 1) * (p * p + p + 1) * (p * p + 1) from Nat.mul_pos (Nat.mul_pos (Nat.mul_pos (by omega) (by omega)) (by omega)) (by omega)) (show 0 < p from by omega)) hpo; omega)) ⟨(p * p + p + 1) * (p * p + 1), ?_⟩
      generalize p - 1 = a1
      generalize p ^ (o - 1) = a2
      grind
    refine g_callV0 (pc := 75) (as := [vJ ((p + 1 : Nat) : Int)]) (b := x) (st := []) lvX11_170 dX11_makesMultiple_75 x1 (Nat.le_of_ble_eq_true rfl) (by omega) (Nat.zero_le _) (Nat.zero_le _) (c_factor (d := d) (v := (p + 1)) (prm_two pr1) (by omega) (by omega) hb2 x1 l1 g6_1) ?_
    rintro r k2 ⟨rfl, gl2, M2, g1_2, ⟨g2_2, -⟩, g4_2, g5_2, g6_2, g7_2⟩
    have pd2 : prodL (((fl ++ gl0) ++ gl1) ++ gl2) = p ^ (o - 1) * p * (p - 1) * (p + 1) := by rw [prodL_app, pd1, g1_2]
    have pr2 := prm_append pr1 g2_2
    have x2 : Hd (0, 0, N) k2 x (mdl x th wd pm ((((fl ++ gl0) ++ gl1) ++ gl2).length : Int) mu um pr ts) := ⟨x1.1, g4_2⟩
    have l2 : Hd (0, 0, N) k2 (x + 18) (eA 3 70 M2) := ⟨l1.1, g5_2⟩
    refine g_aload_n (pc := 78) (r := .inl (some x)) dX11_makesMultiple_78 rfl ?_
    refine g_lload_n (pc := 79) (x := (p : Int)) dX11_makesMultiple_79 rfl ?_
    refine g_lload_n (pc := 80) (x := (p : Int)) dX11_makesMultiple_80 rfl ?_
    refine g_lmul (pc := 81) dX11_makesMultiple_81 ?_
    refine g_lload_n (pc := 82) (x := (p : Int)) dX11_makesMultiple_82 rfl ?_
    refine g_ladd (pc := 83) dX11_makesMultiple_83 ?_
    refine g_lconst1 (pc := 84) dX11_makesMultiple_84 ?_
    refine g_ladd (pc := 85) dX11_makesMultiple_85 ?_
    rw [show (((p : Int) * (p : Int)) + (p : Int)) + 1 = ((p * p + p + 1 : Nat) : Int) by rw [Int.natCast_add, Int.natCast_add, Int.natCast_mul]; rfl]
    have hb3 : prodL (((fl ++ gl0) ++ gl1) ++ gl2) * (p * p + p + 1) ≤ 8000000000000000000 := by
      rw [pd2]
      refine Nat.le_trans ?_ hEb
      refine Nat.le_of_dvd (Nat.pos_of_ne_zero (fun z => by have := Nat.mul_pos (Nat.mul_pos (show 0 < (p - 1) * (p + 1) * (p * p + p + 1) * (p * p + 1) from Nat.mul_pos (Nat.mul_pos (Nat.mul_pos (by omega) (by omega)) (by omega)) (by omega)) (show 0 < p from by omega)) hpo; omega)) ⟨(p * p + 1), ?_⟩
      generalize p - 1 = a1
      generalize p ^ (o - 1) = a2
      grind
    refine g_callV0 (pc := 86) (as := [vJ ((p * p + p + 1 : Nat) : Int)]) (b := x) (st := []) lvX11_170 dX11_makesMultiple_86 x2 (Nat.le_of_ble_eq_true rfl) (by omega) (Nat.zero_le _) (Nat.zero_le _) (c_factor (d := d) (v := (p * p + p + 1)) (prm_two pr2) (by omega) (by omega) hb3 x2 l2 g6_2) ?_
    rintro r k3 ⟨rfl, gl3, M3, g1_3, ⟨g2_3, -⟩, g4_3, g5_3, g6_3, g7_3⟩
    have pd3 : prodL ((((fl ++ gl0) ++ gl1) ++ gl2) ++ gl3) = p ^ (o - 1) * p * (p - 1) * (p + 1) * (p * p + p + 1) := by rw [prodL_app, pd2, g1_3]
    have pr3 := prm_append pr2 g2_3
    have x3 : Hd (0, 0, N) k3 x (mdl x th wd pm (((((fl ++ gl0) ++ gl1) ++ gl2) ++ gl3).length : Int) mu um pr ts) := ⟨x2.1, g4_3⟩
    have l3 : Hd (0, 0, N) k3 (x + 18) (eA 3 70 M3) := ⟨l2.1, g5_3⟩
    refine g_aload_n (pc := 89) (r := .inl (some x)) dX11_makesMultiple_89 rfl ?_
    refine g_lload_n (pc := 90) (x := (p : Int)) dX11_makesMultiple_90 rfl ?_
    refine g_lload_n (pc := 91) (x := (p : Int)) dX11_makesMultiple_91 rfl ?_
    refine g_lmul (pc := 92) dX11_makesMultiple_92 ?_
    refine g_lconst1 (pc := 93) dX11_makesMultiple_93 ?_
    refine g_ladd (pc := 94) dX11_makesMultiple_94 ?_
    rw [show ((p : Int) * (p : Int)) + 1 = ((p * p + 1 : Nat) : Int) by rw [Int.natCast_add, Int.natCast_mul]; rfl]
    have hb4 : prodL ((((fl ++ gl0) ++ gl1) ++ gl2) ++ gl3) * (p * p + 1) ≤ 8000000000000000000 := by
      rw [pd3]
      refine Nat.le_trans ?_ hEb
      refine Nat.le_of_dvd (Nat.pos_of_ne_zero (fun z => by have := Nat.mul_pos (Nat.mul_pos (show 0 < (p - 1) * (p + 1) * (p * p + p + 1) * (p * p + 1) from Nat.mul_pos (Nat.mul_pos (Nat.mul_pos (by omega) (by omega)) (by omega)) (by omega)) (show 0 < p from by omega)) hpo; omega)) ⟨1, ?_⟩
      generalize p - 1 = a1
      generalize p ^ (o - 1) = a2
      grind
    refine g_callV0 (pc := 95) (as := [vJ ((p * p + 1 : Nat) : Int)]) (b := x) (st := []) lvX11_170 dX11_makesMultiple_95 x3 (Nat.le_of_ble_eq_true rfl) (by omega) (Nat.zero_le _) (Nat.zero_le _) (c_factor (d := d) (v := (p * p + 1)) (prm_two pr3) (by omega) (by omega) hb4 x3 l3 g6_3) ?_
    rintro r k4 ⟨rfl, gl4, M4, g1_4, ⟨g2_4, -⟩, g4_4, g5_4, g6_4, g7_4⟩
    have pd4 : prodL (((((fl ++ gl0) ++ gl1) ++ gl2) ++ gl3) ++ gl4) = p ^ (o - 1) * p * (p - 1) * (p + 1) * (p * p + p + 1) * (p * p + 1) := by rw [prodL_app, pd3, g1_4]
    have pr4 := prm_append pr3 g2_4
    have x4 : Hd (0, 0, N) k4 x (mdl x th wd pm ((((((fl ++ gl0) ++ gl1) ++ gl2) ++ gl3) ++ gl4).length : Int) mu um pr ts) := ⟨x3.1, g4_4⟩
    have l4 : Hd (0, 0, N) k4 (x + 18) (eA 3 70 M4) := ⟨l3.1, g5_4⟩
    refine g_pick [0, 1, 2] (lo2 := [(0, vR x), (1, vI (k : Int)), (2, vJ (p : Int))]) rfl ?_
    refine g_aload_n (pc := 98) (r := .inl (some x)) dX11_makesMultiple_98 rfl ?_
    refine g_lconst1 (pc := 99) dX11_makesMultiple_99 ?_
    refine g_putf (pc := 100) fpX11_176 dX11_makesMultiple_100 x4 (okv_long _) (Nat.le_of_ble_eq_true rfl) ?_
    have hx_2 := x4.self (e := mdl x th wd pm ((((((fl ++ gl0) ++ gl1) ++ gl2) ++ gl3) ++ gl4).length : Int) 1 um pr ts)
    have l4_2 := l4.ne (e := mdl x th wd pm ((((((fl ++ gl0) ++ gl1) ++ gl2) ++ gl3) ++ gl4).length : Int) 1 um pr ts) (a := x) (by omega)
    refine g_iconst (pc := 103) dX11_makesMultiple_103 ?_
    refine g_istore (pc := 104) (lo2 := [(0, vR x), (1, vI (k : Int)), (2, vJ (p : Int)), (4, vI 0)]) dX11_makesMultiple_104 (by decide) rfl ?_
    have hE9 : prodL (((((fl ++ gl0) ++ gl1) ++ gl2) ++ gl3) ++ gl4) = (p - 1) * (p + 1) * (p * p + p + 1) * (p * p + 1) * (p) * p ^ (o - 1) := by
      rw [pd4]
      generalize p - 1 = a1
      generalize p ^ (o - 1) = a2
      grind
    have hlen := len_62 (prm_two pr4) (by rw [hE9]; exact hEb)
    refine Q_mono (mul9_l3 (h0 := va_up k4 x (mdl x th wd pm ((((((fl ++ gl0) ++ gl1) ++ gl2) ++ gl3) ++ gl4).length : Int) 1 um pr ts)) g6_4 hlen (((((fl ++ gl0) ++ gl1) ++ gl2) ++ gl3) ++ gl4).length 0 _ _ _ (by omega) rfl rfl hx_2 l4_2 (fun _ _ => rfl)) ?_
    rintro r h9 ⟨rfl, f1, f2⟩
    exact ⟨rfl, (((((fl ++ gl0) ++ gl1) ++ gl2) ++ gl3) ++ gl4), M4, pr4, hE9, hlen, g6_4, by rw [f1, hE9], (f2 _ (by omega)).trans ((va_up_ne _ _ (by omega)).trans l4.2), fun a a1 a2 => (f2 a a1).trans ((va_up_ne _ _ a1).trans (((g7_4 a a1 a2).trans ((g7_3 a a1 a2).trans ((g7_2 a a1 a2).trans ((g7_1 a a1 a2).trans ((g7_0 a a1 a2).trans (akp a a1 a2)))))).trans (va_up_ne _ _ a1)))⟩
