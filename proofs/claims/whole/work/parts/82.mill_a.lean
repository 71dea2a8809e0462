/-! ===== Mill: canBe, put, worth, goesBack ===== -/
/-- kinds, measures and sizes that a mill can have -/
def okMill (k m s : Int) : Prop := (0 ≤ k ∧ k ≤ 3) ∧ (2 ≤ m ∧ m ≤ 500) ∧ (1 ≤ s ∧ s ≤ 4) ∧ (k = 1 → s = 1) ∧ (k = 3 → s = 2 ∧ m ≤ 64)

theorem c_canBe {N d : Nat} {k m s : Int} {h : MH} (hk : i32 k) (hm : i32 m) (hs : i32 s) : Ok mX1_canBe d 0 0 [vI k, vI m, vI s] N h (fun r h2 => h2 = h ∧ ((r = some (vI 1) ∧ okMill k m s) ∨ (r = some (vI 0) ∧ ¬ okMill k m s))) := by
  refine Ok.of pfX1_canBe rfl (Nat.le_of_ble_eq_true rfl) (fun Ls sx => ?_)
  show G mX1_canBe (d, 0, 0, Ls, sx) 0 [(0, vI k), (1, vI m), (2, vI s)] [] (0, 0, N) h _
  refine g_iload_n (pc := 0) (x := m) dX1_canBe_0 rfl ?_
  refine g_iconst (pc := 1) dX1_canBe_1 ?_
  refine g_icmp_lt (pc := 2) (tgt := 22) dX1_canBe_2 (by decide) (by omega) (by omega) (fun h0 => ?_) (fun h0 => ?_)
  · refine g_iconst (pc := 22) dX1_canBe_22 ?_
    exact r_bool (pc := 23) dX1_canBe_23 rfl rfl (Nat.le_refl _) (Or.inl rfl) ⟨rfl, Or.inr ⟨rfl, by unfold okMill; omega⟩⟩
  · refine g_iload_n (pc := 5) (x := m) dX1_canBe_5 rfl ?_
    refine g_sipush (pc := 6) dX1_canBe_6 (by decide +kernel) ?_
    refine g_icmp_gt (pc := 9) (tgt := 22) dX1_canBe_9 (by decide) (by omega) (by omega) (fun h1 => ?_) (fun h1 => ?_)
    · refine g_iconst (pc := 22) dX1_canBe_22 ?_
      exact r_bool (pc := 23) dX1_canBe_23 rfl rfl (Nat.le_refl _) (Or.inl rfl) ⟨rfl, Or.inr ⟨rfl, by unfold okMill; omega⟩⟩
    · refine g_iload_n (pc := 12) (x := s) dX1_canBe_12 rfl ?_
      refine g_iconst (pc := 13) dX1_canBe_13 ?_
      refine g_icmp_lt (pc := 14) (tgt := 22) dX1_canBe_14 (by decide) (by omega) (by omega) (fun h2 => ?_) (fun h2 => ?_)
      · refine g_iconst (pc := 22) dX1_canBe_22 ?_
        exact r_bool (pc := 23) dX1_canBe_23 rfl rfl (Nat.le_refl _) (Or.inl rfl) ⟨rfl, Or.inr ⟨rfl, by unfold okMill; omega⟩⟩
      · refine g_iload_n (pc := 17) (x := s) dX1_canBe_17 rfl ?_
        refine g_iconst (pc := 18) dX1_canBe_18 ?_
        refine g_icmp_le (pc := 19) (tgt := 24) dX1_canBe_19 (by decide) (by omega) (by omega) (fun h3 => ?_) (fun h3 => ?_)
        · refine g_iload_n (pc := 24) (x := k) dX1_canBe_24 rfl ?_
          by_cases hs0 : k = 0
          · refine g_tabIn (pc := 25) (tgt := 56) dX1_canBe_25 (by omega) (by omega) (by omega) (by rw [hs0]; rfl) (by decide) ?_
            refine g_iconst (pc := 56) dX1_canBe_56 ?_
            exact r_bool (pc := 57) dX1_canBe_57 rfl rfl (Nat.le_refl _) (Or.inr rfl) ⟨rfl, Or.inl ⟨rfl, by unfold okMill; omega⟩⟩
          by_cases hs1 : k = 1
          · refine g_tabIn (pc := 25) (tgt := 58) dX1_canBe_25 (by omega) (by omega) (by omega) (by rw [hs1]; rfl) (by decide) ?_
            refine g_iload_n (pc := 58) (x := s) dX1_canBe_58 rfl ?_
            refine g_iconst (pc := 59) dX1_canBe_59 ?_
            refine g_icmp_ne (pc := 60) (tgt := 67) dX1_canBe_60 (by decide) (by omega) (by omega) (fun h4 => ?_) (fun h4 => ?_)
            · refine g_iconst (pc := 67) dX1_canBe_67 ?_
              exact r_bool (pc := 68) dX1_canBe_68 rfl rfl (Nat.le_refl _) (Or.inl rfl) ⟨rfl, Or.inr ⟨rfl, by unfold okMill; omega⟩⟩
            · refine g_iconst (pc := 63) dX1_canBe_63 ?_
              refine g_goto (pc := 64) (tgt := 68) dX1_canBe_64 (by decide) ?_
              exact r_bool (pc := 68) dX1_canBe_68 rfl rfl (Nat.le_refl _) (Or.inr rfl) ⟨rfl, Or.inl ⟨rfl, by unfold okMill; omega⟩⟩
          by_cases hs2 : k = 2
          · refine g_tabIn (pc := 25) (tgt := 69) dX1_canBe_25 (by omega) (by omega) (by omega) (by rw [hs2]; rfl) (by decide) ?_
            refine g_iconst (pc := 69) dX1_canBe_69 ?_
            exact r_bool (pc := 70) dX1_canBe_70 rfl rfl (Nat.le_refl _) (Or.inr rfl) ⟨rfl, Or.inl ⟨rfl, by unfold okMill; omega⟩⟩
          by_cases hs3 : k = 3
          · refine g_tabIn (pc := 25) (tgt := 71) dX1_canBe_25 (by omega) (by omega) (by omega) (by rw [hs3]; rfl) (by decide) ?_
            refine g_iload_n (pc := 71) (x := s) dX1_canBe_71 rfl ?_
            refine g_iconst (pc := 72) dX1_canBe_72 ?_
            refine g_icmp_ne (pc := 73) (tgt := 86) dX1_canBe_73 (by decide) (by omega) (by omega) (fun h4 => ?_) (fun h4 => ?_)
            · refine g_iconst (pc := 86) dX1_canBe_86 ?_
              exact r_bool (pc := 87) dX1_canBe_87 rfl rfl (Nat.le_refl _) (Or.inl rfl) ⟨rfl, Or.inr ⟨rfl, by unfold okMill; omega⟩⟩
            · refine g_iload_n (pc := 76) (x := m) dX1_canBe_76 rfl ?_
              refine g_bipush (pc := 77) dX1_canBe_77 (by decide +kernel) ?_
              refine g_icmp_gt (pc := 79) (tgt := 86) dX1_canBe_79 (by decide) (by omega) (by omega) (fun h5 => ?_) (fun h5 => ?_)
              · refine g_iconst (pc := 86) dX1_canBe_86 ?_
                exact r_bool (pc := 87) dX1_canBe_87 rfl rfl (Nat.le_refl _) (Or.inl rfl) ⟨rfl, Or.inr ⟨rfl, by unfold okMill; omega⟩⟩
              · refine g_iconst (pc := 82) dX1_canBe_82 ?_
                refine g_goto (pc := 83) (tgt := 87) dX1_canBe_83 (by decide) ?_
                exact r_bool (pc := 87) dX1_canBe_87 rfl rfl (Nat.le_refl _) (Or.inr rfl) ⟨rfl, Or.inl ⟨rfl, by unfold okMill; omega⟩⟩
          refine g_tabOut (pc := 25) (tgt := 88) dX1_canBe_25 (by omega) (by omega) (by decide) ?_
          refine g_iconst (pc := 88) dX1_canBe_88 ?_
          exact r_bool (pc := 89) dX1_canBe_89 rfl rfl (Nat.le_refl _) (Or.inl rfl) ⟨rfl, Or.inr ⟨rfl, by unfold okMill; omega⟩⟩
        · refine g_iconst (pc := 22) dX1_canBe_22 ?_
          exact r_bool (pc := 23) dX1_canBe_23 rfl rfl (Nat.le_refl _) (Or.inl rfl) ⟨rfl, Or.inr ⟨rfl, by unfold okMill; omega⟩⟩

theorem c_rforget {N d q : Nat} {a0 a1 a2 a3 a4 a5 a6 a7 : Nat} {wh : Int} {h : MH} (hq : Hd (0, 0, N) h q (eO 8 [vR a0, vR a1, vR a2, vR a3, vR a4, vR a5, vR a6, vR a7, vJ wh])) : Ok mX8_forget d 0 0 [vR q] N h (fun r h2 => r = none ∧ h2 = va_up h q (eO 8 [vR a0, vR a1, vR a2, vR a3, vR a4, vR a5, vR a6, vR a7, vJ 0])) := by
  refine Ok.of pfX8_forget rfl (Nat.le_of_ble_eq_true rfl) (fun Ls sx => ?_)
  show G mX8_forget (d, 0, 0, Ls, sx) 0 [(0, vR q)] [] (0, 0, N) h _
  refine g_aload_n (pc := 0) (r := .inl (some q)) dX8_forget_0 rfl ?_
  refine g_lconst0 (pc := 1) dX8_forget_1 ?_
  refine g_putf (pc := 2) fpX8_48 dX8_forget_2 hq (okv_long _) (Nat.le_of_ble_eq_true rfl) ?_
  have hq_1 := hq.self (e := eO 8 [vR a0, vR a1, vR a2, vR a3, vR a4, vR a5, vR a6, vR a7, vJ 0])
  exact r_void (pc := 5) dX8_forget_5 rfl rfl (Nat.le_refl _) ⟨rfl, rfl⟩

theorem c_nforget {N d q a0 a1 : Nat} {sq ff : Int} {h : MH} (hq : Hd (0, 0, N) h q (eO 2 [vR a0, vI sq, vR a1, vI ff])) : Ok mX2_forget d 0 0 [vR q] N h (fun r h2 => r = none ∧ h2 = va_up h q (eO 2 [vR a0, vI sq, vR a1, vI 0])) := by
  refine Ok.of pfX2_forget rfl (Nat.le_of_ble_eq_true rfl) (fun Ls sx => ?_)
  show G mX2_forget (d, 0, 0, Ls, sx) 0 [(0, vR q)] [] (0, 0, N) h _
  refine g_aload_n (pc := 0) (r := .inl (some q)) dX2_forget_0 rfl ?_
  refine g_iconst (pc := 1) dX2_forget_1 ?_
  refine g_putf (pc := 2) fpX2_18 dX2_forget_2 hq (okv_int _) (Nat.le_of_ble_eq_true rfl) ?_
  have hq_1 := hq.self (e := eO 2 [vR a0, vI sq, vR a1, vI 0])
  exact r_void (pc := 5) dX2_forget_5 rfl rfl (Nat.le_refl _) ⟨rfl, rfl⟩

theorem PW_keep {N : Nat} {h h2 : MH} {p kn M n : Nat} {F : Nat → Nat → Int} (hw : PW N h p kn M n F) (k : ∀ a, p ≤ a → a < p + 65 → h2 a = h a) : PW N h2 p kn M n F := by
  obtain ⟨a1, a2, a3, a4⟩ := hw
  exact ⟨a1.keep (k _ (by omega) (by omega)), a2.keep (k _ (by omega) (by omega)), fun i hi => (a3 i hi).keep (k _ (by omega) (by omega)), a4⟩

theorem c_mput {N d b kd M n kn PM Pn r c : Nat} {th v wh sq ff : Int} {h : MH} {F : Nat → Nat → Int} (hr4 : r < 4) (hc5 : c < 5) (hv : i32 v) (hM : 2 ≤ M) (hM2 : M ≤ 500) (hm : Hd (0, 0, N) h b (eO 1 [vI th, vI (kd : Int), vI (M : Int), vI (n : Int), vR (b + 1), vR (b + 12), vR (b + 79), vR (b + 2), vR (b + 5), vR (b + 7)])) (hw : PW N h (b + 12) kn PM Pn F) (hr : Hd (0, 0, N) h (b + 79) (eO 8 [vR (b + 12), vR (b + 7), vR (b + 80), vR (b + 82), vR (b + 84), vR (b + 90), vR (b + 91), vR (b + 92), vJ wh])) (hn2 : Hd (0, 0, N) h (b + 2) (eO 2 [vR (b + 3), vI sq, vR (b + 4), vI ff])) : Ok mX1_put (d + 2) 0 0 [vR b, vI (r : Int), vI (c : Int), vI v] N h (fun q h2 => q = none ∧ PW N h2 (b + 12) 1 PM Pn (va_up F 0 (va_up (F 0) (5 * r + c) (v % (M : Int)))) ∧ h2 (b + 79) = (eO 8 [vR (b + 12), vR (b + 7), vR (b + 80), vR (b + 82), vR (b + 84), vR (b + 90), vR (b + 91), vR (b + 92), vJ 0]) ∧ h2 (b + 2) = eO 2 [vR (b + 3), vI sq, vR (b + 4), vI 0] ∧ ∀ a, a ≠ b + 12 → a ≠ b + 14 → a ≠ b + 79 → a ≠ b + 2 → h2 a = h a) := by
  refine Ok.of pfX1_put rfl (Nat.le_of_ble_eq_true rfl) (fun Ls sx => ?_)
  show G mX1_put (d + 2, 0, 0, Ls, sx) 0 [(0, vR b), (1, vI (r : Int)), (2, vI (c : Int)), (3, vI v)] [] (0, 0, N) h _
  have hwp := hw.1
  refine g_aload_n (pc := 0) (r := .inl (some b)) dX1_put_0 rfl ?_
  refine g_getf (pc := 1) (v := vR (b + 12)) flX1_39 dX1_put_1 hm rfl ?_
  refine g_iload_n (pc := 4) (x := (r : Int)) dX1_put_4 rfl ?_
  refine g_iload_n (pc := 5) (x := (c : Int)) dX1_put_5 rfl ?_
  refine g_iload_n (pc := 6) (x := v) dX1_put_6 rfl ?_
  refine g_i2l (pc := 7) dX1_put_7 (by omega) ?_
  refine g_aload_n (pc := 8) (r := .inl (some b)) dX1_put_8 rfl ?_
  refine g_getf (pc := 9) (v := vI (M : Int)) flX1_60 dX1_put_9 hm rfl ?_
  refine g_callS0 (pc := 12) (as := [vJ v, vI (M : Int)]) (st := [vI (c : Int), vI (r : Int), vR (b + 12)]) lsX1_94 dX1_put_12 (Nat.le_of_ble_eq_true rfl) (by omega) (Nat.zero_le _) (Nat.zero_le _) (c_restOf (d := d) (by omega) (by omega) (by omega)) ?_
  rintro q h2 ⟨e9, rfl⟩
  subst e9
  have n0 := Int.emod_nonneg v (show (M : Int) ≠ 0 by omega)
  have n1 := Int.emod_lt_of_pos v (show (0 : Int) < M by omega)
  refine g_callV0 (pc := 15) (as := [vI (r : Int), vI (c : Int), vI (v % (M : Int))]) (b := b + 12) (st := []) lvX1_79 dX1_put_15 hwp (Nat.le_of_ble_eq_true rfl) (by omega) (Nat.zero_le _) (Nat.zero_le _) (c_pput (d := d + 1) hr4 hc5 (by omega) hw) ?_
  rintro q h3 ⟨rfl, w3, k3⟩
  have hm_1 := hm.keep (k3 _ (by omega) (by omega))
  have hr_1 := hr.keep (k3 _ (by omega) (by omega))
  have hn2_1 := hn2.keep (k3 _ (by omega) (by omega))
  refine g_aload_n (pc := 18) (r := .inl (some b)) dX1_put_18 rfl ?_
  refine g_getf (pc := 19) (v := vR (b + 79)) flX1_48 dX1_put_19 hm_1 rfl ?_
  refine g_callV0 (pc := 22) (as := []) (b := b + 79) (st := []) lvX1_86 dX1_put_22 hr_1 (Nat.le_of_ble_eq_true rfl) (by omega) (Nat.zero_le _) (Nat.zero_le _) (c_rforget (d := d + 1) hr_1) ?_
  rintro q h4 ⟨rfl, rfl⟩
  have hm_x := hm_1.ne (e := (eO 8 [vR (b + 12), vR (b + 7), vR (b + 80), vR (b + 82), vR (b + 84), vR (b + 90), vR (b + 91), vR (b + 92), vJ 0])) (a := b + 79) (by omega)
  have hr_x := hr_1.self (e := (eO 8 [vR (b + 12), vR (b + 7), vR (b + 80), vR (b + 82), vR (b + 84), vR (b + 90), vR (b + 91), vR (b + 92), vJ 0]))
  have hn2_x := hn2_1.ne (e := (eO 8 [vR (b + 12), vR (b + 7), vR (b + 80), vR (b + 82), vR (b + 84), vR (b + 90), vR (b + 91), vR (b + 92), vJ 0])) (a := b + 79) (by omega)
  refine g_aload_n (pc := 25) (r := .inl (some b)) dX1_put_25 rfl ?_
  refine g_getf (pc := 26) (v := vR (b + 2)) flX1_18 dX1_put_26 hm_x rfl ?_
  refine g_callV0 (pc := 29) (as := []) (b := b + 2) (st := []) lvX1_89 dX1_put_29 hn2_x (Nat.le_of_ble_eq_true rfl) (by omega) (Nat.zero_le _) (Nat.zero_le _) (c_nforget (d := d + 1) hn2_x) ?_
  rintro q h5 ⟨rfl, rfl⟩
  exact r_void (pc := 32) dX1_put_32 rfl rfl (Nat.le_refl _) ⟨rfl, PW_keep w3 (fun a a1 a2 => (va_up_ne _ _ (by omega)).trans (va_up_ne _ _ (by omega))), (va_up_ne _ _ (by omega)).trans (va_up_self _ _ _), va_up_self _ _ _, fun a a1 a2 a3 a4 => (va_up_ne _ _ a4).trans ((va_up_ne _ _ a3).trans (k3 a a1 (by omega)))⟩

/-- the table filled up to four rows -/
def sqF (n : Nat) (T : Nat → Int) (r c : Nat) : Int := if r < n ∧ c < n then T (5 * r + c) else if r = c then 1 else 0
def prF (n : Nat) (T : Nat → Int) (r a b : Nat) : Int := sqF n T r a * sqF n T (r + 1) b - sqF n T r b * sqF n T (r + 1) a
def detF (n : Nat) (T : Nat → Int) : Int := prF n T 0 0 1 * prF n T 2 2 3 - prF n T 0 0 2 * prF n T 2 1 3 + prF n T 0 0 3 * prF n T 2 1 2 + prF n T 0 1 2 * prF n T 2 0 3 - prF n T 0 1 3 * prF n T 2 0 2 + prF n T 0 2 3 * prF n T 2 0 1
theorem mul_bd {x y A B : Int} (h1 : -A ≤ x ∧ x ≤ A) (h2 : -B ≤ y ∧ y ≤ B) : -(A * B) ≤ x * y ∧ x * y ≤ A * B := by
  have a1 := Int.mul_nonneg (show 0 ≤ A - x by omega) (show 0 ≤ B + y by omega)
  have a2 := Int.mul_nonneg (show 0 ≤ A + x by omega) (show 0 ≤ B - y by omega)
  have a3 := Int.mul_nonneg (show 0 ≤ A - x by omega) (show 0 ≤ B - y by omega)
  have a4 := Int.mul_nonneg (show 0 ≤ A + x by omega) (show 0 ≤ B + y by omega)
  grind
theorem sqF_bd {n : Nat} {T : Nat → Int} (hT : rng T) (r c : Nat) : -500 ≤ sqF n T r c ∧ sqF n T r c ≤ 500 := by
  unfold sqF
  have := hT (5 * r + c)
  split
  · omega
  · split <;> omega
theorem prF_bd {n : Nat} {T : Nat → Int} (hT : rng T) (r a b : Nat) : -500000 ≤ prF n T r a b ∧ prF n T r a b ≤ 500000 := by
  unfold prF
  have h1 := mul_bd (sqF_bd (n := n) hT r a) (sqF_bd (n := n) hT (r + 1) b)
  have h2 := mul_bd (sqF_bd (n := n) hT r b) (sqF_bd (n := n) hT (r + 1) a)
  omega

theorem c_square {N d b kd M n kn PM Pn : Nat} {th : Int} {h : MH} {F : Nat → Nat → Int} {r c : Nat} (hr : r < 4) (hc : c < 4) (hn : n ≤ 4) (hm : Hd (0, 0, N) h b (eO 1 [vI th, vI (kd : Int), vI (M : Int), vI (n : Int), vR (b + 1), vR (b + 12), vR (b + 79), vR (b + 2), vR (b + 5), vR (b + 7)])) (hw : PW N h (b + 12) kn PM Pn F) : Ok mX1_square (d + 1) 0 0 [vR b, vI (r : Int), vI (c : Int)] N h (fun q h2 => h2 = h ∧ q = some (vJ (sqF n (F 0) r c))) := by
  refine Ok.of pfX1_square rfl (Nat.le_of_ble_eq_true rfl) (fun Ls sx => ?_)
  show G mX1_square (d + 1, 0, 0, Ls, sx) 0 [(0, vR b), (1, vI (r : Int)), (2, vI (c : Int))] [] (0, 0, N) h _
  refine g_iload_n (pc := 0) (x := (r : Int)) dX1_square_0 rfl ?_
  refine g_aload_n (pc := 1) (r := .inl (some b)) dX1_square_1 rfl ?_
  refine g_getf (pc := 2) (v := vI (n : Int)) flX1_63 dX1_square_2 hm rfl ?_
  refine g_icmp_ge (pc := 5) (tgt := 27) dX1_square_5 (by decide) (by omega) (by omega) (fun h0 => ?_) (fun h0 => ?_)
  · refine g_iload_n (pc := 27) (x := (r : Int)) dX1_square_27 rfl ?_
    refine g_iload_n (pc := 28) (x := (c : Int)) dX1_square_28 rfl ?_
    refine g_icmp_ne (pc := 29) (tgt := 36) dX1_square_29 (by decide) (by omega) (by omega) (fun h8 => ?_) (fun h8 => ?_)
    · refine g_lconst0 (pc := 36) dX1_square_36 ?_
      exact r_long (pc := 37) dX1_square_37 rfl rfl (Nat.le_refl _) ⟨rfl, by unfold sqF; rw [if_neg (by omega), if_neg (by omega)]⟩
    · refine g_lconst1 (pc := 32) dX1_square_32 ?_
      refine g_goto (pc := 33) (tgt := 37) dX1_square_33 (by decide) ?_
      exact r_long (pc := 37) dX1_square_37 rfl rfl (Nat.le_refl _) ⟨rfl, by unfold sqF; rw [if_neg (by omega), if_pos (by omega)]⟩
  · refine g_iload_n (pc := 8) (x := (c : Int)) dX1_square_8 rfl ?_
    refine g_aload_n (pc := 9) (r := .inl (some b)) dX1_square_9 rfl ?_
    refine g_getf (pc := 10) (v := vI (n : Int)) flX1_63 dX1_square_10 hm rfl ?_
    refine g_icmp_ge (pc := 13) (tgt := 27) dX1_square_13 (by decide) (by omega) (by omega) (fun h1 => ?_) (fun h1 => ?_)
    · refine g_iload_n (pc := 27) (x := (r : Int)) dX1_square_27 rfl ?_
      refine g_iload_n (pc := 28) (x := (c : Int)) dX1_square_28 rfl ?_
      refine g_icmp_ne (pc := 29) (tgt := 36) dX1_square_29 (by decide) (by omega) (by omega) (fun h8 => ?_) (fun h8 => ?_)
      · refine g_lconst0 (pc := 36) dX1_square_36 ?_
        exact r_long (pc := 37) dX1_square_37 rfl rfl (Nat.le_refl _) ⟨rfl, by unfold sqF; rw [if_neg (by omega), if_neg (by omega)]⟩
      · refine g_lconst1 (pc := 32) dX1_square_32 ?_
        refine g_goto (pc := 33) (tgt := 37) dX1_square_33 (by decide) ?_
        exact r_long (pc := 37) dX1_square_37 rfl rfl (Nat.le_refl _) ⟨rfl, by unfold sqF; rw [if_neg (by omega), if_pos (by omega)]⟩
    · have hrg := hw.2.2.2 0 (by omega) (5 * r + c)
      refine g_aload_n (pc := 16) (r := .inl (some b)) dX1_square_16 rfl ?_
      refine g_getf (pc := 17) (v := vR (b + 12)) flX1_39 dX1_square_17 hm rfl ?_
      refine g_iload_n (pc := 20) (x := (r : Int)) dX1_square_20 rfl ?_
      refine g_iload_n (pc := 21) (x := (c : Int)) dX1_square_21 rfl ?_
      refine g_callV0 (pc := 22) (as := [vI (r : Int), vI (c : Int)]) (b := b + 12) (st := []) lvX1_121 dX1_square_22 hw.1 (Nat.le_of_ble_eq_true rfl) (by omega) (Nat.zero_le _) (Nat.zero_le _) (c_told (d := d) hr (by omega) hw) ?_
      rintro q h2 ⟨e9, rfl⟩
      subst e9
      refine g_i2l (pc := 25) dX1_square_25 (by omega) ?_
      exact r_long (pc := 26) dX1_square_26 rfl rfl (Nat.le_refl _) ⟨rfl, by unfold sqF; rw [if_pos (by omega)]⟩

theorem c_pairs {N d b kd M n kn PM Pn : Nat} {th : Int} {h : MH} {F : Nat → Nat → Int} {a e : Nat} (ha : a < 4) (he : e < 4) (hn : n ≤ 4) (hm : Hd (0, 0, N) h b (eO 1 [vI th, vI (kd : Int), vI (M : Int), vI (n : Int), vR (b + 1), vR (b + 12), vR (b + 79), vR (b + 2), vR (b + 5), vR (b + 7)])) (hw : PW N h (b + 12) kn PM Pn F) : Ok mX1_pairs (d + 2) 0 0 [vR b, vI (a : Int), vI (e : Int)] N h (fun q h2 => h2 = h ∧ q = some (vJ (prF n (F 0) 0 a e))) := by
  refine Ok.of pfX1_pairs rfl (Nat.le_of_ble_eq_true rfl) (fun Ls sx => ?_)
  show G mX1_pairs (d + 2, 0, 0, Ls, sx) 0 [(0, vR b), (1, vI (a : Int)), (2, vI (e : Int))] [] (0, 0, N) h _
  refine g_aload_n (pc := 0) (r := .inl (some b)) dX1_pairs_0 rfl ?_
  refine g_iconst (pc := 1) dX1_pairs_1 ?_
  refine g_iload_n (pc := 2) (x := (a : Int)) dX1_pairs_2 rfl ?_
  refine g_callV0 (pc := 3) (as := [vI 0, vI (a : Int)]) (b := b) (st := []) lvX1_134 dX1_pairs_3 hm (Nat.le_of_ble_eq_true rfl) (by omega) (Nat.zero_le _) (Nat.zero_le _) (c_square (d := d) (r := 0) (c := a) (by omega) (by omega) hn hm hw) ?_
  rintro q h2 ⟨e9, e8⟩
  subst e9
  subst e8
  refine g_aload_n (pc := 6) (r := .inl (some b)) dX1_pairs_6 rfl ?_
  refine g_iconst (pc := 7) dX1_pairs_7 ?_
  refine g_iload_n (pc := 8) (x := (e : Int)) dX1_pairs_8 rfl ?_
  refine g_callV0 (pc := 9) (as := [vI 1, vI (e : Int)]) (b := b) (st := [vJ (sqF n (F 0) 0 a)]) lvX1_134 dX1_pairs_9 hm (Nat.le_of_ble_eq_true rfl) (by omega) (Nat.zero_le _) (Nat.zero_le _) (c_square (d := d) (r := 1) (c := e) (by omega) (by omega) hn hm hw) ?_
  rintro q h2 ⟨e9, e8⟩
  subst e9
  subst e8
  refine g_lmul (pc := 12) dX1_pairs_12 ?_
  refine g_aload_n (pc := 13) (r := .inl (some b)) dX1_pairs_13 rfl ?_
  refine g_iconst (pc := 14) dX1_pairs_14 ?_
  refine g_iload_n (pc := 15) (x := (e : Int)) dX1_pairs_15 rfl ?_
  refine g_callV0 (pc := 16) (as := [vI 0, vI (e : Int)]) (b := b) (st := [vJ ((sqF n (F 0) 0 a) * (sqF n (F 0) 1 e))]) lvX1_134 dX1_pairs_16 hm (Nat.le_of_ble_eq_true rfl) (by omega) (Nat.zero_le _) (Nat.zero_le _) (c_square (d := d) (r := 0) (c := e) (by omega) (by omega) hn hm hw) ?_
  rintro q h2 ⟨e9, e8⟩
  subst e9
  subst e8
  refine g_aload_n (pc := 19) (r := .inl (some b)) dX1_pairs_19 rfl ?_
  refine g_iconst (pc := 20) dX1_pairs_20 ?_
  refine g_iload_n (pc := 21) (x := (a : Int)) dX1_pairs_21 rfl ?_
  refine g_callV0 (pc := 22) (as := [vI 1, vI (a : Int)]) (b := b) (st := [vJ (sqF n (F 0) 0 e), vJ ((sqF n (F 0) 0 a) * (sqF n (F 0) 1 e))]) lvX1_134 dX1_pairs_22 hm (Nat.le_of_ble_eq_true rfl) (by omega) (Nat.zero_le _) (Nat.zero_le _) (c_square (d := d) (r := 1) (c := a) (by omega) (by omega) hn hm hw) ?_
  rintro q h2 ⟨e9, e8⟩
  subst e9
  subst e8
  refine g_lmul (pc := 25) dX1_pairs_25 ?_
  refine g_lsub (pc := 26) dX1_pairs_26 ?_
  exact r_long (pc := 27) dX1_pairs_27 rfl rfl (Nat.le_refl _) ⟨rfl, rfl⟩

theorem c_lowPairs {N d b kd M n kn PM Pn : Nat} {th : Int} {h : MH} {F : Nat → Nat → Int} {a e : Nat} (ha : a < 4) (he : e < 4) (hn : n ≤ 4) (hm : Hd (0, 0, N) h b (eO 1 [vI th, vI (kd : Int), vI (M : Int), vI (n : Int), vR (b + 1), vR (b + 12), vR (b + 79), vR (b + 2), vR (b + 5), vR (b + 7)])) (hw : PW N h (b + 12) kn PM Pn F) : Ok mX1_lowPairs (d + 2) 0 0 [vR b, vI (a : Int), vI (e : Int)] N h (fun q h2 => h2 = h ∧ q = some (vJ (prF n (F 0) 2 a e))) := by
  refine Ok.of pfX1_lowPairs rfl (Nat.le_of_ble_eq_true rfl) (fun Ls sx => ?_)
  show G mX1_lowPairs (d + 2, 0, 0, Ls, sx) 0 [(0, vR b), (1, vI (a : Int)), (2, vI (e : Int))] [] (0, 0, N) h _
  refine g_aload_n (pc := 0) (r := .inl (some b)) dX1_lowPairs_0 rfl ?_
  refine g_iconst (pc := 1) dX1_lowPairs_1 ?_
  refine g_iload_n (pc := 2) (x := (a : Int)) dX1_lowPairs_2 rfl ?_
  refine g_callV0 (pc := 3) (as := [vI 2, vI (a : Int)]) (b := b) (st := []) lvX1_134 dX1_lowPairs_3 hm (Nat.le_of_ble_eq_true rfl) (by omega) (Nat.zero_le _) (Nat.zero_le _) (c_square (d := d) (r := 2) (c := a) (by omega) (by omega) hn hm hw) ?_
  rintro q h2 ⟨e9, e8⟩
  subst e9
  subst e8
  refine g_aload_n (pc := 6) (r := .inl (some b)) dX1_lowPairs_6 rfl ?_
  refine g_iconst (pc := 7) dX1_lowPairs_7 ?_
  refine g_iload_n (pc := 8) (x := (e : Int)) dX1_lowPairs_8 rfl ?_
  refine g_callV0 (pc := 9) (as := [vI 3, vI (e : Int)]) (b := b) (st := [vJ (sqF n (F 0) 2 a)]) lvX1_134 dX1_lowPairs_9 hm (Nat.le_of_ble_eq_true rfl) (by omega) (Nat.zero_le _) (Nat.zero_le _) (c_square (d := d) (r := 3) (c := e) (by omega) (by omega) hn hm hw) ?_
  rintro q h2 ⟨e9, e8⟩
  subst e9
  subst e8
  refine g_lmul (pc := 12) dX1_lowPairs_12 ?_
  refine g_aload_n (pc := 13) (r := .inl (some b)) dX1_lowPairs_13 rfl ?_
  refine g_iconst (pc := 14) dX1_lowPairs_14 ?_
  refine g_iload_n (pc := 15) (x := (e : Int)) dX1_lowPairs_15 rfl ?_
  refine g_callV0 (pc := 16) (as := [vI 2, vI (e : Int)]) (b := b) (st := [vJ ((sqF n (F 0) 2 a) * (sqF n (F 0) 3 e))]) lvX1_134 dX1_lowPairs_16 hm (Nat.le_of_ble_eq_true rfl) (by omega) (Nat.zero_le _) (Nat.zero_le _) (c_square (d := d) (r := 2) (c := e) (by omega) (by omega) hn hm hw) ?_
  rintro q h2 ⟨e9, e8⟩
  subst e9
  subst e8
  refine g_aload_n (pc := 19) (r := .inl (some b)) dX1_lowPairs_19 rfl ?_
  refine g_iconst (pc := 20) dX1_lowPairs_20 ?_
  refine g_iload_n (pc := 21) (x := (a : Int)) dX1_lowPairs_21 rfl ?_
  refine g_callV0 (pc := 22) (as := [vI 3, vI (a : Int)]) (b := b) (st := [vJ (sqF n (F 0) 2 e), vJ ((sqF n (F 0) 2 a) * (sqF n (F 0) 3 e))]) lvX1_134 dX1_lowPairs_22 hm (Nat.le_of_ble_eq_true rfl) (by omega) (Nat.zero_le _) (Nat.zero_le _) (c_square (d := d) (r := 3) (c := a) (by omega) (by omega) hn hm hw) ?_
  rintro q h2 ⟨e9, e8⟩
  subst e9
  subst e8
  refine g_lmul (pc := 25) dX1_lowPairs_25 ?_
  refine g_lsub (pc := 26) dX1_lowPairs_26 ?_
  exact r_long (pc := 27) dX1_lowPairs_27 rfl rfl (Nat.le_refl _) ⟨rfl, rfl⟩

theorem c_worth {N d b kd M n kn PM Pn : Nat} {th : Int} {h : MH} {F : Nat → Nat → Int} (hn : n ≤ 4) (hM : 2 ≤ M) (hM2 : M ≤ 500) (hm : Hd (0, 0, N) h b (eO 1 [vI th, vI (kd : Int), vI (M : Int), vI (n : Int), vR (b + 1), vR (b + 12), vR (b + 79), vR (b + 2), vR (b + 5), vR (b + 7)])) (hw : PW N h (b + 12) kn PM Pn F) : Ok mX1_worth (d + 3) 0 0 [vR b] N h (fun q h2 => h2 = h ∧ q = some (vI (detF n (F 0) % (M : Int)))) := by
  refine Ok.of pfX1_worth rfl (Nat.le_of_ble_eq_true rfl) (fun Ls sx => ?_)
  show G mX1_worth (d + 3, 0, 0, Ls, sx) 0 [(0, vR b)] [] (0, 0, N) h _
  have hrg := hw.2.2.2 0 (by omega)
  refine g_aload_n (pc := 0) (r := .inl (some b)) dX1_worth_0 rfl ?_
  refine g_iconst (pc := 1) dX1_worth_1 ?_
  refine g_iconst (pc := 2) dX1_worth_2 ?_
  refine g_callV0 (pc := 3) (as := [vI 0, vI 1]) (b := b) (st := []) lvX1_100 dX1_worth_3 hm (Nat.le_of_ble_eq_true rfl) (by omega) (Nat.zero_le _) (Nat.zero_le _) (c_pairs (d := d) (a := 0) (e := 1) (by omega) (by omega) hn hm hw) ?_
  rintro q h2 ⟨e9, e8⟩
  subst e9
  subst e8
  refine g_aload_n (pc := 6) (r := .inl (some b)) dX1_worth_6 rfl ?_
  refine g_iconst (pc := 7) dX1_worth_7 ?_
  refine g_iconst (pc := 8) dX1_worth_8 ?_
  refine g_callV0 (pc := 9) (as := [vI 2, vI 3]) (b := b) (st := [vJ (prF n (F 0) 0 0 1)]) lvX1_104 dX1_worth_9 hm (Nat.le_of_ble_eq_true rfl) (by omega) (Nat.zero_le _) (Nat.zero_le _) (c_lowPairs (d := d) (a := 2) (e := 3) (by omega) (by omega) hn hm hw) ?_
  rintro q h2 ⟨e9, e8⟩
  subst e9
  subst e8
  refine g_lmul (pc := 12) dX1_worth_12 ?_
  refine g_aload_n (pc := 13) (r := .inl (some b)) dX1_worth_13 rfl ?_
  refine g_iconst (pc := 14) dX1_worth_14 ?_
  refine g_iconst (pc := 15) dX1_worth_15 ?_
  refine g_callV0 (pc := 16) (as := [vI 0, vI 2]) (b := b) (st := [vJ ((prF n (F 0) 0 0 1) * (prF n (F 0) 2 2 3))]) lvX1_100 dX1_worth_16 hm (Nat.le_of_ble_eq_true rfl) (by omega) (Nat.zero_le _) (Nat.zero_le _) (c_pairs (d := d) (a := 0) (e := 2) (by omega) (by omega) hn hm hw) ?_
  rintro q h2 ⟨e9, e8⟩
  subst e9
  subst e8
  refine g_aload_n (pc := 19) (r := .inl (some b)) dX1_worth_19 rfl ?_
  refine g_iconst (pc := 20) dX1_worth_20 ?_
  refine g_iconst (pc := 21) dX1_worth_21 ?_
  refine g_callV0 (pc := 22) (as := [vI 1, vI 3]) (b := b) (st := [vJ (prF n (F 0) 0 0 2), vJ ((prF n (F 0) 0 0 1) * (prF n (F 0) 2 2 3))]) lvX1_104 dX1_worth_22 hm (Nat.le_of_ble_eq_true rfl) (by omega) (Nat.zero_le _) (Nat.zero_le _) (c_lowPairs (d := d) (a := 1) (e := 3) (by omega) (by omega) hn hm hw) ?_
  rintro q h2 ⟨e9, e8⟩
  subst e9
  subst e8
  refine g_lmul (pc := 25) dX1_worth_25 ?_
  refine g_lsub (pc := 26) dX1_worth_26 ?_
  refine g_aload_n (pc := 27) (r := .inl (some b)) dX1_worth_27 rfl ?_
  refine g_iconst (pc := 28) dX1_worth_28 ?_
  refine g_iconst (pc := 29) dX1_worth_29 ?_
  refine g_callV0 (pc := 30) (as := [vI 0, vI 3]) (b := b) (st := [vJ (((prF n (F 0) 0 0 1) * (prF n (F 0) 2 2 3)) - ((prF n (F 0) 0 0 2) * (prF n (F 0) 2 1 3)))]) lvX1_100 dX1_worth_30 hm (Nat.le_of_ble_eq_true rfl) (by omega) (Nat.zero_le _) (Nat.zero_le _) (c_pairs (d := d) (a := 0) (e := 3) (by omega) (by omega) hn hm hw) ?_
  rintro q h2 ⟨e9, e8⟩
  subst e9
  subst e8
  refine g_aload_n (pc := 33) (r := .inl (some b)) dX1_worth_33 rfl ?_
  refine g_iconst (pc := 34) dX1_worth_34 ?_
  refine g_iconst (pc := 35) dX1_worth_35 ?_
  refine g_callV0 (pc := 36) (as := [vI 1, vI 2]) (b := b) (st := [vJ (prF n (F 0) 0 0 3), vJ (((prF n (F 0) 0 0 1) * (prF n (F 0) 2 2 3)) - ((prF n (F 0) 0 0 2) * (prF n (F 0) 2 1 3)))]) lvX1_104 dX1_worth_36 hm (Nat.le_of_ble_eq_true rfl) (by omega) (Nat.zero_le _) (Nat.zero_le _) (c_lowPairs (d := d) (a := 1) (e := 2) (by omega) (by omega) hn hm hw) ?_
  rintro q h2 ⟨e9, e8⟩
  subst e9
  subst e8
  refine g_lmul (pc := 39) dX1_worth_39 ?_
  refine g_ladd (pc := 40) dX1_worth_40 ?_
  refine g_aload_n (pc := 41) (r := .inl (some b)) dX1_worth_41 rfl ?_
  refine g_iconst (pc := 42) dX1_worth_42 ?_
  refine g_iconst (pc := 43) dX1_worth_43 ?_
  refine g_callV0 (pc := 44) (as := [vI 1, vI 2]) (b := b) (st := [vJ ((((prF n (F 0) 0 0 1) * (prF n (F 0) 2 2 3)) - ((prF n (F 0) 0 0 2) * (prF n (F 0) 2 1 3))) + ((prF n (F 0) 0 0 3) * (prF n (F 0) 2 1 2)))]) lvX1_100 dX1_worth_44 hm (Nat.le_of_ble_eq_true rfl) (by omega) (Nat.zero_le _) (Nat.zero_le _) (c_pairs (d := d) (a := 1) (e := 2) (by omega) (by omega) hn hm hw) ?_
  rintro q h2 ⟨e9, e8⟩
  subst e9
  subst e8
  refine g_aload_n (pc := 47) (r := .inl (some b)) dX1_worth_47 rfl ?_
  refine g_iconst (pc := 48) dX1_worth_48 ?_
  refine g_iconst (pc := 49) dX1_worth_49 ?_
  refine g_callV0 (pc := 50) (as := [vI 0, vI 3]) (b := b) (st := [vJ (prF n (F 0) 0 1 2), vJ ((((prF n (F 0) 0 0 1) * (prF n (F 0) 2 2 3)) - ((prF n (F 0) 0 0 2) * (prF n (F 0) 2 1 3))) + ((prF n (F 0) 0 0 3) * (prF n (F 0) 2 1 2)))]) lvX1_104 dX1_worth_50 hm (Nat.le_of_ble_eq_true rfl) (by omega) (Nat.zero_le _) (Nat.zero_le _) (c_lowPairs (d := d) (a := 0) (e := 3) (by omega) (by omega) hn hm hw) ?_
  rintro q h2 ⟨e9, e8⟩
  subst e9
  subst e8
  refine g_lmul (pc := 53) dX1_worth_53 ?_
  refine g_ladd (pc := 54) dX1_worth_54 ?_
  refine g_aload_n (pc := 55) (r := .inl (some b)) dX1_worth_55 rfl ?_
  refine g_iconst (pc := 56) dX1_worth_56 ?_
  refine g_iconst (pc := 57) dX1_worth_57 ?_
  refine g_callV0 (pc := 58) (as := [vI 1, vI 3]) (b := b) (st := [vJ (((((prF n (F 0) 0 0 1) * (prF n (F 0) 2 2 3)) - ((prF n (F 0) 0 0 2) * (prF n (F 0) 2 1 3))) + ((prF n (F 0) 0 0 3) * (prF n (F 0) 2 1 2))) + ((prF n (F 0) 0 1 2) * (prF n (F 0) 2 0 3)))]) lvX1_100 dX1_worth_58 hm (Nat.le_of_ble_eq_true rfl) (by omega) (Nat.zero_le _) (Nat.zero_le _) (c_pairs (d := d) (a := 1) (e := 3) (by omega) (by omega) hn hm hw) ?_
  rintro q h2 ⟨e9, e8⟩
  subst e9
  subst e8
  refine g_aload_n (pc := 61) (r := .inl (some b)) dX1_worth_61 rfl ?_
  refine g_iconst (pc := 62) dX1_worth_62 ?_
  refine g_iconst (pc := 63) dX1_worth_63 ?_
  refine g_callV0 (pc := 64) (as := [vI 0, vI 2]) (b := b) (st := [vJ (prF n (F 0) 0 1 3), vJ (((((prF n (F 0) 0 0 1) * (prF n (F 0) 2 2 3)) - ((prF n (F 0) 0 0 2) * (prF n (F 0) 2 1 3))) + ((prF n (F 0) 0 0 3) * (prF n (F 0) 2 1 2))) + ((prF n (F 0) 0 1 2) * (prF n (F 0) 2 0 3)))]) lvX1_104 dX1_worth_64 hm (Nat.le_of_ble_eq_true rfl) (by omega) (Nat.zero_le _) (Nat.zero_le _) (c_lowPairs (d := d) (a := 0) (e := 2) (by omega) (by omega) hn hm hw) ?_
  rintro q h2 ⟨e9, e8⟩
  subst e9
  subst e8
  refine g_lmul (pc := 67) dX1_worth_67 ?_
  refine g_lsub (pc := 68) dX1_worth_68 ?_
  refine g_aload_n (pc := 69) (r := .inl (some b)) dX1_worth_69 rfl ?_
  refine g_iconst (pc := 70) dX1_worth_70 ?_
  refine g_iconst (pc := 71) dX1_worth_71 ?_
  refine g_callV0 (pc := 72) (as := [vI 2, vI 3]) (b := b) (st := [vJ ((((((prF n (F 0) 0 0 1) * (prF n (F 0) 2 2 3)) - ((prF n (F 0) 0 0 2) * (prF n (F 0) 2 1 3))) + ((prF n (F 0) 0 0 3) * (prF n (F 0) 2 1 2))) + ((prF n (F 0) 0 1 2) * (prF n (F 0) 2 0 3))) - ((prF n (F 0) 0 1 3) * (prF n (F 0) 2 0 2)))]) lvX1_100 dX1_worth_72 hm (Nat.le_of_ble_eq_true rfl) (by omega) (Nat.zero_le _) (Nat.zero_le _) (c_pairs (d := d) (a := 2) (e := 3) (by omega) (by omega) hn hm hw) ?_
  rintro q h2 ⟨e9, e8⟩
  subst e9
  subst e8
  refine g_aload_n (pc := 75) (r := .inl (some b)) dX1_worth_75 rfl ?_
  refine g_iconst (pc := 76) dX1_worth_76 ?_
  refine g_iconst (pc := 77) dX1_worth_77 ?_
  refine g_callV0 (pc := 78) (as := [vI 0, vI 1]) (b := b) (st := [vJ (prF n (F 0) 0 2 3), vJ ((((((prF n (F 0) 0 0 1) * (prF n (F 0) 2 2 3)) - ((prF n (F 0) 0 0 2) * (prF n (F 0) 2 1 3))) + ((prF n (F 0) 0 0 3) * (prF n (F 0) 2 1 2))) + ((prF n (F 0) 0 1 2) * (prF n (F 0) 2 0 3))) - ((prF n (F 0) 0 1 3) * (prF n (F 0) 2 0 2)))]) lvX1_104 dX1_worth_78 hm (Nat.le_of_ble_eq_true rfl) (by omega) (Nat.zero_le _) (Nat.zero_le _) (c_lowPairs (d := d) (a := 0) (e := 1) (by omega) (by omega) hn hm hw) ?_
  rintro q h2 ⟨e9, e8⟩
  subst e9
  subst e8
  have z0 := mul_bd (prF_bd (n := n) hrg 0 0 1) (prF_bd (n := n) hrg 2 2 3)
  have z1 := mul_bd (prF_bd (n := n) hrg 0 0 2) (prF_bd (n := n) hrg 2 1 3)
  have z2 := mul_bd (prF_bd (n := n) hrg 0 0 3) (prF_bd (n := n) hrg 2 1 2)
  have z3 := mul_bd (prF_bd (n := n) hrg 0 1 2) (prF_bd (n := n) hrg 2 0 3)
  have z4 := mul_bd (prF_bd (n := n) hrg 0 1 3) (prF_bd (n := n) hrg 2 0 2)
  have z5 := mul_bd (prF_bd (n := n) hrg 0 2 3) (prF_bd (n := n) hrg 2 0 1)
  refine g_lmul (pc := 81) dX1_worth_81 ?_
  refine g_ladd (pc := 82) dX1_worth_82 ?_
  refine g_lstore_n (pc := 83) (lo2 := [(0, vR b), (1, vJ (((((((prF n (F 0) 0 0 1) * (prF n (F 0) 2 2 3)) - ((prF n (F 0) 0 0 2) * (prF n (F 0) 2 1 3))) + ((prF n (F 0) 0 0 3) * (prF n (F 0) 2 1 2))) + ((prF n (F 0) 0 1 2) * (prF n (F 0) 2 0 3))) - ((prF n (F 0) 0 1 3) * (prF n (F 0) 2 0 2))) + ((prF n (F 0) 0 2 3) * (prF n (F 0) 2 0 1))))]) dX1_worth_83 (by decide) rfl ?_
  refine g_lload_n (pc := 84) (x := ((((((prF n (F 0) 0 0 1) * (prF n (F 0) 2 2 3)) - ((prF n (F 0) 0 0 2) * (prF n (F 0) 2 1 3))) + ((prF n (F 0) 0 0 3) * (prF n (F 0) 2 1 2))) + ((prF n (F 0) 0 1 2) * (prF n (F 0) 2 0 3))) - ((prF n (F 0) 0 1 3) * (prF n (F 0) 2 0 2))) + ((prF n (F 0) 0 2 3) * (prF n (F 0) 2 0 1))) dX1_worth_84 rfl ?_
  refine g_aload_n (pc := 85) (r := .inl (some b)) dX1_worth_85 rfl ?_
  refine g_getf (pc := 86) (v := vI (M : Int)) flX1_60 dX1_worth_86 hm rfl ?_
  refine g_callS0 (pc := 89) (as := [vJ (((((((prF n (F 0) 0 0 1) * (prF n (F 0) 2 2 3)) - ((prF n (F 0) 0 0 2) * (prF n (F 0) 2 1 3))) + ((prF n (F 0) 0 0 3) * (prF n (F 0) 2 1 2))) + ((prF n (F 0) 0 1 2) * (prF n (F 0) 2 0 3))) - ((prF n (F 0) 0 1 3) * (prF n (F 0) 2 0 2))) + ((prF n (F 0) 0 2 3) * (prF n (F 0) 2 0 1))), vI (M : Int)]) (st := []) lsX1_94 dX1_worth_89 (Nat.le_of_ble_eq_true rfl) (by omega) (Nat.zero_le _) (Nat.zero_le _) (c_restOf (d := d + 1) (by omega) (by omega) (by omega)) ?_
  rintro q h2 ⟨e9, rfl⟩
  subst e9
  exact r_int (pc := 92) dX1_worth_92 rfl rfl (Nat.le_refl _) ⟨rfl, rfl⟩

theorem c_goesBack {N d b kd M n kn PM Pn : Nat} {th : Int} {h : MH} {F : Nat → Nat → Int} (hn : n ≤ 4) (hM : 2 ≤ M) (hM2 : M ≤ 500) (hm : Hd (0, 0, N) h b (eO 1 [vI th, vI (kd : Int), vI (M : Int), vI (n : Int), vR (b + 1), vR (b + 12), vR (b + 79), vR (b + 2), vR (b + 5), vR (b + 7)])) (hw : PW N h (b + 12) kn PM Pn F) : Ok mX1_goesBack (d + 4) 0 0 [vR b] N h (fun q h2 => h2 = h ∧ q = some (vI (if Nat.gcd M (detF n (F 0) % (M : Int)).toNat = 1 then 1 else 0))) := by
  refine Ok.of pfX1_goesBack rfl (Nat.le_of_ble_eq_true rfl) (fun Ls sx => ?_)
  show G mX1_goesBack (d + 4, 0, 0, Ls, sx) 0 [(0, vR b)] [] (0, 0, N) h _
  refine g_aload_n (pc := 0) (r := .inl (some b)) dX1_goesBack_0 rfl ?_
  refine g_getf (pc := 1) (v := vI (M : Int)) flX1_60 dX1_goesBack_1 hm rfl ?_
  refine g_i2l (pc := 4) dX1_goesBack_4 (by omega) ?_
  refine g_aload_n (pc := 5) (r := .inl (some b)) dX1_goesBack_5 rfl ?_
  refine g_callV0 (pc := 6) (as := []) (b := b) (st := [vJ (M : Int)]) lvX1_107 dX1_goesBack_6 hm (Nat.le_of_ble_eq_true rfl) (by omega) (Nat.zero_le _) (Nat.zero_le _) (c_worth (d := d) hn hM hM2 hm hw) ?_
  rintro q h2 ⟨e9, e8⟩
  subst e9
  subst e8
  have n0 := Int.emod_nonneg (detF n (F 0)) (show (M : Int) ≠ 0 by omega)
  have n1 := Int.emod_lt_of_pos (detF n (F 0)) (show (0 : Int) < M by omega)
  obtain ⟨y, ey⟩ : ∃ y : Nat, (detF n (F 0) % (M : Int)) = (y : Int) := ⟨(detF n (F 0) % (M : Int)).toNat, by omega⟩
  rw [ey] at n0 n1 ⊢
  rw [Int.toNat_natCast]
  refine g_i2l (pc := 9) dX1_goesBack_9 (by omega) ?_
  refine g_callS0 (pc := 10) (as := [vJ (M : Int), vJ (y : Int)]) (st := []) lsX1_111 dX1_goesBack_10 (Nat.le_of_ble_eq_true rfl) (by omega) (Nat.zero_le _) (Nat.zero_le _) (c_commonDivisor (d := d + 3) (by omega) (by omega)) ?_
  rintro q h2 ⟨e9, e8⟩
  subst e9
  subst e8
  have g1 := Nat.gcd_le_left y (show 0 < M by omega)
  refine g_lconst1 (pc := 13) dX1_goesBack_13 ?_
  refine g_lif_ne (pc := 14) (tgt := 22) dX1_goesBack_14 dX1_goesBack_15 (by decide) (by omega) (by omega) (fun h0 => ?_) (fun h0 => ?_)
  · refine g_iconst (pc := 22) dX1_goesBack_22 ?_
    exact r_bool (pc := 23) dX1_goesBack_23 rfl rfl (Nat.le_refl _) (Or.inl rfl) ⟨rfl, by rw [if_neg (by omega)]⟩
  · refine g_iconst (pc := 18) dX1_goesBack_18 ?_
    refine g_goto (pc := 19) (tgt := 23) dX1_goesBack_19 (by decide) ?_
    exact r_bool (pc := 23) dX1_goesBack_23 rfl rfl (Nat.le_refl _) (Or.inr rfl) ⟨rfl, by rw [if_pos (by omega)]⟩
