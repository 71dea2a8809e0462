/-! ===== constructors: Primes, Part, Net, Picture ===== -/
theorem Hd.grow {ρ ρ2 : MR} {h : MH} {b : Nat} {e e2 : ME} (hb : Hd ρ h b e) (hle : ρ.2.2 ≤ ρ2.2.2) : Hd ρ2 (va_up h ρ.2.2 e2) b e := ⟨Nat.lt_of_lt_of_le hb.1 hle, (va_up_ne h e2 (Nat.ne_of_lt hb.1)).trans hb.2⟩
theorem Hd.fresh {ρ2 : MR} {h : MH} {N : Nat} {e : ME} (hN : N < ρ2.2.2) : Hd ρ2 (va_up h N e) N e := ⟨hN, va_up_self h N e⟩

theorem c_newPrimes {N d q : Nat} {h : MH} (hq : Hd (0, 0, N) h q (eO 7 [vN, vI 0])) : Ok mX7_init (d + 1) 1 16 [vR q] N h (fun r h2 => r = none ∧ h2 q = eO 7 [vR N, vI 0] ∧ h2 N = eA 0 16 (fun _ => 0) ∧ ∀ b, b ≠ q → b ≠ N → h2 b = h b) := by
  refine Ok.of pfX7_init rfl (Nat.le_of_ble_eq_true rfl) (fun Ls sx => ?_)
  show G mX7_init (d + 1, 1, 16, Ls, sx) 0 [(0, vR q)] [] (0, 0, N) h _
  have q1 := hq.1
  dsimp only at q1
  refine g_aload_n (pc := 0) (r := .inl (some q)) dX7_init_0 rfl ?_
  refine g_oinit (pc := 1) oiX7_3 dX7_init_1 (by omega) (Nat.le_of_ble_eq_true rfl) ?_
  refine g_aload_n (pc := 4) (r := .inl (some q)) dX7_init_4 rfl ?_
  refine g_bipush (pc := 5) dX7_init_5 (by decide +kernel) ?_
  refine g_newI (pc := 7) (n := 16) rfl (by omega) ac_int dX7_init_7 (by show (0 : Nat) + 1 ≤ 1; decide) (by show (0 : Nat) + 16 ≤ 16; decide) ?_
  have hq_1 := hq.grow (ρ2 := (1, 16, N + 1)) (e2 := eA 0 16 (fun _ => 0)) (Nat.le_succ _)
  have hL_1 : Hd (1, 16, N + 1) (va_up h N (eA 0 16 (fun _ => 0))) N (eA 0 16 (fun _ => 0)) := Hd.fresh (Nat.lt_succ_self _)
  show G mX7_init _ 9 [(0, vR q)] [vR N, vR q] (1, 16, N + 1) (va_up h N (eA 0 16 (fun _ => 0))) _
  refine g_putF (pc := 9) fpX7_9 dX7_init_9 rfl hq_1 (okv_arr _ _) (Nat.le_of_ble_eq_true rfl) ?_
  have hq_2 := hq_1.self (e := eO 7 [vR N, vI 0])
  have hL_2 := hL_1.ne (e := eO 7 [vR N, vI 0]) (a := q) (by omega)
  exact r_void (pc := 12) dX7_init_12 rfl rfl (Nat.le_refl _) ⟨rfl, va_up_self _ _ _, (va_up_ne _ _ (by omega)).trans (va_up_self _ _ _), fun b b1 b2 => (va_up_ne _ _ b1).trans (va_up_ne _ _ b2)⟩

theorem c_newPart {N d q : Nat} {h : MH} (hq : Hd (0, 0, N) h q (eO 4 [vI 0, vI 0, vI 0])) : Ok mX4_init (d + 1) 0 0 [vR q] N h (fun r h2 => r = none ∧ h2 q = eO 4 [vI 0, vI 1, vI 0] ∧ ∀ b, b ≠ q → h2 b = h b) := by
  refine Ok.of pfX4_init rfl (Nat.le_of_ble_eq_true rfl) (fun Ls sx => ?_)
  show G mX4_init (d + 1, 0, 0, Ls, sx) 0 [(0, vR q)] [] (0, 0, N) h _
  refine g_aload_n (pc := 0) (r := .inl (some q)) dX4_init_0 rfl ?_
  refine g_oinit (pc := 1) oiX4_1 dX4_init_1 (by omega) (Nat.le_of_ble_eq_true rfl) ?_
  refine g_aload_n (pc := 4) (r := .inl (some q)) dX4_init_4 rfl ?_
  refine g_iconst (pc := 5) dX4_init_5 ?_
  refine g_putf (pc := 6) fpX4_7 dX4_init_6 hq (okv_int _) (Nat.le_of_ble_eq_true rfl) ?_
  have hq_1 := hq.self (e := eO 4 [vI 0, vI 1, vI 0])
  exact r_void (pc := 9) dX4_init_9 rfl rfl (Nat.le_refl _) ⟨rfl, va_up_self _ _ _, fun b b1 => va_up_ne _ _ b1⟩

theorem c_newPicture {N d q : Nat} {h : MH} (hq : Hd (0, 0, N) h q (eO 5 [vN, vI 0])) : Ok mX5_init (d + 1) 1 4096 [vR q] N h (fun r h2 => r = none ∧ h2 q = eO 5 [vR N, vI 0] ∧ h2 N = eA 0 4096 (fun _ => 0) ∧ ∀ b, b ≠ q → b ≠ N → h2 b = h b) := by
  refine Ok.of pfX5_init rfl (Nat.le_of_ble_eq_true rfl) (fun Ls sx => ?_)
  show G mX5_init (d + 1, 1, 4096, Ls, sx) 0 [(0, vR q)] [] (0, 0, N) h _
  have q1 := hq.1
  dsimp only at q1
  refine g_aload_n (pc := 0) (r := .inl (some q)) dX5_init_0 rfl ?_
  refine g_oinit (pc := 1) oiX5_3 dX5_init_1 (by omega) (Nat.le_of_ble_eq_true rfl) ?_
  refine g_aload_n (pc := 4) (r := .inl (some q)) dX5_init_4 rfl ?_
  refine g_sipush (pc := 5) dX5_init_5 (by decide +kernel) ?_
  refine g_newI (pc := 8) (n := 4096) rfl (by omega) ac_int dX5_init_8 (by show (0 : Nat) + 1 ≤ 1; decide) (by show (0 : Nat) + 4096 ≤ 4096; decide) ?_
  have hq_1 := hq.grow (ρ2 := (1, 4096, N + 1)) (e2 := eA 0 4096 (fun _ => 0)) (Nat.le_succ _)
  have hL_1 : Hd (1, 4096, N + 1) (va_up h N (eA 0 4096 (fun _ => 0))) N (eA 0 4096 (fun _ => 0)) := Hd.fresh (Nat.lt_succ_self _)
  show G mX5_init _ 10 [(0, vR q)] [vR N, vR q] (1, 4096, N + 1) (va_up h N (eA 0 4096 (fun _ => 0))) _
  refine g_putF (pc := 10) fpX5_9 dX5_init_10 rfl hq_1 (okv_arr _ _) (Nat.le_of_ble_eq_true rfl) ?_
  have hq_2 := hq_1.self (e := eO 5 [vR N, vI 0])
  have hL_2 := hL_1.ne (e := eO 5 [vR N, vI 0]) (a := q) (by omega)
  exact r_void (pc := 13) dX5_init_13 rfl rfl (Nat.le_refl _) ⟨rfl, va_up_self _ _ _, (va_up_ne _ _ (by omega)).trans (va_up_self _ _ _), fun b b1 b2 => (va_up_ne _ _ b1).trans (va_up_ne _ _ b2)⟩

theorem c_newNet {N d q : Nat} {h : MH} (hq : Hd (0, 0, N) h q (eO 2 [vN, vI 0, vN, vI 0])) : Ok mX2_init (d + 1) 2 8 [vR q] N h (fun r h2 => r = none ∧ h2 q = eO 2 [vR N, vI 0, vR (N + 1), vI 0] ∧ h2 N = eA 0 4 (fun _ => 0) ∧ h2 (N + 1) = eA 0 4 (fun _ => 0) ∧ ∀ b, b ≠ q → b ≠ N → b ≠ N + 1 → h2 b = h b) := by
  refine Ok.of pfX2_init rfl (Nat.le_of_ble_eq_true rfl) (fun Ls sx => ?_)
  show G mX2_init (d + 1, 2, 8, Ls, sx) 0 [(0, vR q)] [] (0, 0, N) h _
  have q1 := hq.1
  dsimp only at q1
  refine g_aload_n (pc := 0) (r := .inl (some q)) dX2_init_0 rfl ?_
  refine g_oinit (pc := 1) oiX2_3 dX2_init_1 (by omega) (Nat.le_of_ble_eq_true rfl) ?_
  refine g_aload_n (pc := 4) (r := .inl (some q)) dX2_init_4 rfl ?_
  refine g_iconst (pc := 5) dX2_init_5 ?_
  refine g_newI (pc := 6) (n := 4) rfl (by omega) ac_int dX2_init_6 (by show (0 : Nat) + 1 ≤ 2; decide) (by show (0 : Nat) + 4 ≤ 8; decide) ?_
  have hq_1 := hq.grow (ρ2 := (1, 4, N + 1)) (e2 := eA 0 4 (fun _ => 0)) (Nat.le_succ _)
  have hL_1 : Hd (1, 4, N + 1) (va_up h N (eA 0 4 (fun _ => 0))) N (eA 0 4 (fun _ => 0)) := Hd.fresh (Nat.lt_succ_self _)
  show G mX2_init _ 8 [(0, vR q)] [vR N, vR q] (1, 4, N + 1) (va_up h N (eA 0 4 (fun _ => 0))) _
  refine g_putF (pc := 8) fpX2_9 dX2_init_8 rfl hq_1 (okv_arr _ _) (Nat.le_of_ble_eq_true rfl) ?_
  have hq_2 := hq_1.self (e := eO 2 [vR N, vI 0, vN, vI 0])
  have hL_2 := hL_1.ne (e := eO 2 [vR N, vI 0, vN, vI 0]) (a := q) (by omega)
  refine g_aload_n (pc := 11) (r := .inl (some q)) dX2_init_11 rfl ?_
  refine g_iconst (pc := 12) dX2_init_12 ?_
  refine g_newI (pc := 13) (n := 4) rfl (by omega) ac_int dX2_init_13 (by show (1 : Nat) + 1 ≤ 2; decide) (by show (4 : Nat) + 4 ≤ 8; decide) ?_
  have hq_3 := hq_2.grow (ρ2 := (2, 8, N + 2)) (e2 := eA 0 4 (fun _ => 0)) (Nat.le_succ _)
  have hL_3 := hL_2.grow (ρ2 := (2, 8, N + 2)) (e2 := eA 0 4 (fun _ => 0)) (Nat.le_succ _)
  have hM_3 : Hd (2, 8, N + 2) (va_up (va_up (va_up h N (eA 0 4 (fun _ => 0))) q (eO 2 [vR N, vI 0, vN, vI 0])) (N + 1) (eA 0 4 (fun _ => 0))) (N + 1) (eA 0 4 (fun _ => 0)) := Hd.fresh (Nat.lt_succ_self _)
  show G mX2_init _ 15 [(0, vR q)] [vR (N + 1), vR q] (2, 8, N + 2) (va_up (va_up (va_up h N (eA 0 4 (fun _ => 0))) q (eO 2 [vR N, vI 0, vN, vI 0])) (N + 1) (eA 0 4 (fun _ => 0))) _
  refine g_putF (pc := 15) fpX2_15 dX2_init_15 rfl hq_3 (okv_arr _ _) (Nat.le_of_ble_eq_true rfl) ?_
  have hq_4 := hq_3.self (e := eO 2 [vR N, vI 0, vR (N + 1), vI 0])
  have hL_4 := hL_3.ne (e := eO 2 [vR N, vI 0, vR (N + 1), vI 0]) (a := q) (by omega)
  have hM_4 := hM_3.ne (e := eO 2 [vR N, vI 0, vR (N + 1), vI 0]) (a := q) (by omega)
  exact r_void (pc := 18) dX2_init_18 rfl rfl (Nat.le_refl _) ⟨rfl, va_up_self _ _ _, (va_up_ne _ _ (by omega)).trans ((va_up_ne _ _ (by omega)).trans ((va_up_ne _ _ (by omega)).trans (va_up_self _ _ _))), (va_up_ne _ _ (by omega)).trans (va_up_self _ _ _), fun b b1 b2 b3 => (va_up_ne _ _ b1).trans ((va_up_ne _ _ b3).trans ((va_up_ne _ _ b1).trans (va_up_ne _ _ b2)))⟩
