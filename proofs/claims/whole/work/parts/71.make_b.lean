/-! ===== constructors: Equations, Powers ===== -/
theorem Hd.grid {ρ ρ2 : MR} {h : MH} {b n k : Nat} {e : ME} (hb : Hd ρ h b e) (hle : ρ.2.2 ≤ ρ2.2.2) : Hd ρ2 (gridH h ρ.2.2 n k) b e := by
  have h1 := hb.1
  refine ⟨Nat.lt_of_lt_of_le h1 hle, ?_⟩
  unfold gridH
  rw [if_neg (by omega), if_neg (by omega)]
  exact hb.2
theorem grid_0 {h : MH} {N n k : Nat} : gridH h N n k N = eQ 6 n (rwF (N + 1) n) := if_pos rfl
theorem grid_i {h : MH} {N n k i : Nat} (hi : i < n) : gridH h N n k (N + 1 + i) = eA 0 k (fun _ => 0) := by
  unfold gridH
  rw [if_neg (by omega), if_pos (by omega)]
theorem grid_b {h : MH} {N n k b : Nat} (hb : b < N ∨ N + n < b) : gridH h N n k b = h b := by
  unfold gridH
  rw [if_neg (by omega), if_neg (by omega)]

theorem c_newEquations {N d q : Nat} {h : MH} (hq : Hd (0, 0, N) h q (eO 0 [vN, vI 0, vI 0, vI 0, vI 0])) : Ok mX0_init (d + 1) 5 24 [vR q] N h (fun r h2 => r = none ∧ h2 q = eO 0 [vR N, vI 0, vI 0, vI 0, vI 0] ∧ h2 N = eQ 6 4 (rwF (N + 1) 4) ∧ (∀ i, i < 4 → h2 (N + 1 + i) = eA 0 5 (fun _ => 0)) ∧ ∀ b, b ≠ q → (b < N ∨ N + 4 < b) → h2 b = h b) := by
  refine Ok.of pfX0_init rfl (Nat.le_of_ble_eq_true rfl) (fun Ls sx => ?_)
  show G mX0_init (d + 1, 5, 24, Ls, sx) 0 [(0, vR q)] [] (0, 0, N) h _
  have q1 := hq.1
  dsimp only at q1
  refine g_aload_n (pc := 0) (r := .inl (some q)) dX0_init_0 rfl ?_
  refine g_oinit (pc := 1) oiX0_3 dX0_init_1 (by omega) (Nat.le_of_ble_eq_true rfl) ?_
  refine g_aload_n (pc := 4) (r := .inl (some q)) dX0_init_4 rfl ?_
  refine g_iconst (pc := 5) dX0_init_5 ?_
  refine g_iconst (pc := 6) dX0_init_6 ?_
  refine g_grid (pc := 7) (n := 4) (k := 5) rfl rfl (by omega) (by omega) kaX0_9 ac_int dX0_init_7 (by show (0 : Nat) + (1 + 4) ≤ 5; decide) (by show (0 : Nat) + (4 + 4 * 5) ≤ 24; decide) ?_
  show G mX0_init _ 11 [(0, vR q)] [vR N, vR q] (5, 24, N + 5) (gridH h N 4 5) _
  have hq_1 := hq.grid (ρ2 := (5, 24, N + 5)) (n := 4) (k := 5) (by show _ ≤ N + 5; dsimp only; omega)
  refine g_putF (pc := 11) fpX0_11 dX0_init_11 rfl hq_1 (okv_arr _ _) (Nat.le_of_ble_eq_true rfl) ?_
  have hq_2 := hq_1.self (e := eO 0 [vR N, vI 0, vI 0, vI 0, vI 0])
  exact r_void (pc := 14) dX0_init_14 rfl rfl (Nat.le_refl _) ⟨rfl, va_up_self _ _ _, (va_up_ne _ _ (by omega)).trans grid_0, fun i hi => (va_up_ne _ _ (by omega)).trans (grid_i hi), fun b b1 b2 => (va_up_ne _ _ b1).trans (grid_b b2)⟩

theorem c_newPowers {N d q : Nat} {h : MH} (hq : Hd (0, 0, N) h q (eO 6 [vN, vN, vN, vI 0, vI 0, vI 0])) : Ok mX6_init (d + 1) 66 1347 [vR q] N h (fun r h2 => r = none ∧ h2 q = eO 6 [vR N, vR (N + 64), vR (N + 65), vI 1, vI 1, vI 1] ∧ h2 N = eQ 6 63 (rwF (N + 1) 63) ∧ (∀ i, i < 63 → h2 (N + 1 + i) = eA 0 20 (fun _ => 0)) ∧ h2 (N + 64) = eA 0 20 (fun _ => 0) ∧ h2 (N + 65) = eA 0 4 (fun _ => 0) ∧ ∀ b, b ≠ q → (b < N ∨ N + 65 < b) → h2 b = h b) := by
  refine Ok.of pfX6_init rfl (Nat.le_of_ble_eq_true rfl) (fun Ls sx => ?_)
  show G mX6_init (d + 1, 66, 1347, Ls, sx) 0 [(0, vR q)] [] (0, 0, N) h _
  have q1 := hq.1
  dsimp only at q1
  refine g_aload_n (pc := 0) (r := .inl (some q)) dX6_init_0 rfl ?_
  refine g_oinit (pc := 1) oiX6_5 dX6_init_1 (by omega) (Nat.le_of_ble_eq_true rfl) ?_
  refine g_aload_n (pc := 4) (r := .inl (some q)) dX6_init_4 rfl ?_
  refine g_bipush (pc := 5) dX6_init_5 (by decide +kernel) ?_
  refine g_bipush (pc := 7) dX6_init_7 (by decide +kernel) ?_
  refine g_grid (pc := 9) (n := 63) (k := 20) rfl rfl (by omega) (by omega) kaX6_11 ac_int dX6_init_9 (by show (0 : Nat) + (1 + 63) ≤ 66; decide) (by show (0 : Nat) + (63 + 63 * 20) ≤ 1347; decide) ?_
  show G mX6_init _ 13 [(0, vR q)] [vR N, vR q] (64, 1323, N + 64) (gridH h N 63 20) _
  have hq_1 := hq.grid (ρ2 := (64, 1323, N + 64)) (n := 63) (k := 20) (by show _ ≤ N + 64; dsimp only; omega)
  refine g_putF (pc := 13) fpX6_13 dX6_init_13 rfl hq_1 (okv_arr _ _) (Nat.le_of_ble_eq_true rfl) ?_
  have hq_2 := hq_1.self (e := eO 6 [vR N, vN, vN, vI 0, vI 0, vI 0])
  refine g_aload_n (pc := 16) (r := .inl (some q)) dX6_init_16 rfl ?_
  refine g_bipush (pc := 17) dX6_init_17 (by decide +kernel) ?_
  refine g_newI (pc := 19) (n := 20) rfl (by omega) ac_int dX6_init_19 (by show (64 : Nat) + 1 ≤ 66; decide) (by show (1323 : Nat) + 20 ≤ 1347; decide) ?_
  have hq_3 := hq_2.grow (ρ2 := (65, 1343, N + 65)) (e2 := eA 0 20 (fun _ => 0)) (Nat.le_succ _)
  have hS_3 : Hd (65, 1343, N + 65) (va_up (va_up (gridH h N 63 20) q (eO 6 [vR N, vN, vN, vI 0, vI 0, vI 0])) (N + 64) (eA 0 20 (fun _ => 0))) (N + 64) (eA 0 20 (fun _ => 0)) := Hd.fresh (Nat.lt_succ_self _)
  show G mX6_init _ 21 [(0, vR q)] [vR (N + 64), vR q] (65, 1343, N + 65) (va_up (va_up (gridH h N 63 20) q (eO 6 [vR N, vN, vN, vI 0, vI 0, vI 0])) (N + 64) (eA 0 20 (fun _ => 0))) _
  refine g_putF (pc := 21) fpX6_16 dX6_init_21 rfl hq_3 (okv_arr _ _) (Nat.le_of_ble_eq_true rfl) ?_
  have hq_4 := hq_3.self (e := eO 6 [vR N, vR (N + 64), vN, vI 0, vI 0, vI 0])
  have hS_4 := hS_3.ne (e := eO 6 [vR N, vR (N + 64), vN, vI 0, vI 0, vI 0]) (a := q) (by omega)
  refine g_aload_n (pc := 24) (r := .inl (some q)) dX6_init_24 rfl ?_
  refine g_iconst (pc := 25) dX6_init_25 ?_
  refine g_newI (pc := 26) (n := 4) rfl (by omega) ac_int dX6_init_26 (by show (65 : Nat) + 1 ≤ 66; decide) (by show (1343 : Nat) + 4 ≤ 1347; decide) ?_
  have hq_5 := hq_4.grow (ρ2 := (66, 1347, N + 66)) (e2 := eA 0 4 (fun _ => 0)) (Nat.le_succ _)
  have hS_5 := hS_4.grow (ρ2 := (66, 1347, N + 66)) (e2 := eA 0 4 (fun _ => 0)) (Nat.le_succ _)
  have hR_5 : Hd (66, 1347, N + 66) (va_up (va_up (va_up (va_up (gridH h N 63 20) q (eO 6 [vR N, vN, vN, vI 0, vI 0, vI 0])) (N + 64) (eA 0 20 (fun _ => 0))) q (eO 6 [vR N, vR (N + 64), vN, vI 0, vI 0, vI 0])) (N + 65) (eA 0 4 (fun _ => 0))) (N + 65) (eA 0 4 (fun _ => 0)) := Hd.fresh (Nat.lt_succ_self _)
  show G mX6_init _ 28 [(0, vR q)] [vR (N + 65), vR q] (66, 1347, N + 66) (va_up (va_up (va_up (va_up (gridH h N 63 20) q (eO 6 [vR N, vN, vN, vI 0, vI 0, vI 0])) (N + 64) (eA 0 20 (fun _ => 0))) q (eO 6 [vR N, vR (N + 64), vN, vI 0, vI 0, vI 0])) (N + 65) (eA 0 4 (fun _ => 0))) _
  refine g_putF (pc := 28) fpX6_20 dX6_init_28 rfl hq_5 (okv_arr _ _) (Nat.le_of_ble_eq_true rfl) ?_
  have hq_6 := hq_5.self (e := eO 6 [vR N, vR (N + 64), vR (N + 65), vI 0, vI 0, vI 0])
  have hS_6 := hS_5.ne (e := eO 6 [vR N, vR (N + 64), vR (N + 65), vI 0, vI 0, vI 0]) (a := q) (by omega)
  have hR_6 := hR_5.ne (e := eO 6 [vR N, vR (N + 64), vR (N + 65), vI 0, vI 0, vI 0]) (a := q) (by omega)
  refine g_aload_n (pc := 31) (r := .inl (some q)) dX6_init_31 rfl ?_
  refine g_iconst (pc := 32) dX6_init_32 ?_
  refine g_putf (pc := 33) fpX6_23 dX6_init_33 hq_6 (okv_int _) (Nat.le_of_ble_eq_true rfl) ?_
  have hq_7 := hq_6.self (e := eO 6 [vR N, vR (N + 64), vR (N + 65), vI 1, vI 0, vI 0])
  have hS_7 := hS_6.ne (e := eO 6 [vR N, vR (N + 64), vR (N + 65), vI 1, vI 0, vI 0]) (a := q) (by omega)
  have hR_7 := hR_6.ne (e := eO 6 [vR N, vR (N + 64), vR (N + 65), vI 1, vI 0, vI 0]) (a := q) (by omega)
  refine g_aload_n (pc := 36) (r := .inl (some q)) dX6_init_36 rfl ?_
  refine g_iconst (pc := 37) dX6_init_37 ?_
  refine g_putf (pc := 38) fpX6_27 dX6_init_38 hq_7 (okv_int _) (Nat.le_of_ble_eq_true rfl) ?_
  have hq_8 := hq_7.self (e := eO 6 [vR N, vR (N + 64), vR (N + 65), vI 1, vI 1, vI 0])
  have hS_8 := hS_7.ne (e := eO 6 [vR N, vR (N + 64), vR (N + 65), vI 1, vI 1, vI 0]) (a := q) (by omega)
  have hR_8 := hR_7.ne (e := eO 6 [vR N, vR (N + 64), vR (N + 65), vI 1, vI 1, vI 0]) (a := q) (by omega)
  refine g_aload_n (pc := 41) (r := .inl (some q)) dX6_init_41 rfl ?_
  refine g_iconst (pc := 42) dX6_init_42 ?_
  refine g_putf (pc := 43) fpX6_30 dX6_init_43 hq_8 (okv_int _) (Nat.le_of_ble_eq_true rfl) ?_
  have hq_9 := hq_8.self (e := eO 6 [vR N, vR (N + 64), vR (N + 65), vI 1, vI 1, vI 1])
  have hS_9 := hS_8.ne (e := eO 6 [vR N, vR (N + 64), vR (N + 65), vI 1, vI 1, vI 1]) (a := q) (by omega)
  have hR_9 := hR_8.ne (e := eO 6 [vR N, vR (N + 64), vR (N + 65), vI 1, vI 1, vI 1]) (a := q) (by omega)
  exact r_void (pc := 46) dX6_init_46 rfl rfl (Nat.le_refl _) ⟨rfl, va_up_self _ _ _, (va_up_ne _ _ (by omega)).trans ((va_up_ne _ _ (by omega)).trans ((va_up_ne _ _ (by omega)).trans ((va_up_ne _ _ (by omega)).trans ((va_up_ne _ _ (by omega)).trans ((va_up_ne _ _ (by omega)).trans ((va_up_ne _ _ (by omega)).trans ((va_up_ne _ _ (by omega)).trans (grid_0)))))))), fun i hi => (va_up_ne _ _ (by omega)).trans ((va_up_ne _ _ (by omega)).trans ((va_up_ne _ _ (by omega)).trans ((va_up_ne _ _ (by omega)).trans ((va_up_ne _ _ (by omega)).trans ((va_up_ne _ _ (by omega)).trans ((va_up_ne _ _ (by omega)).trans ((va_up_ne _ _ (by omega)).trans (grid_i hi)))))))), (va_up_ne _ _ (by omega)).trans ((va_up_ne _ _ (by omega)).trans ((va_up_ne _ _ (by omega)).trans ((va_up_ne _ _ (by omega)).trans ((va_up_ne _ _ (by omega)).trans ((va_up_ne _ _ (by omega)).trans (va_up_self _ _ _)))))), (va_up_ne _ _ (by omega)).trans ((va_up_ne _ _ (by omega)).trans ((va_up_ne _ _ (by omega)).trans ((va_up_ne _ _ (by omega)).trans (va_up_self _ _ _)))), fun b b1 b2 => (va_up_ne _ _ (by omega)).trans ((va_up_ne _ _ (by omega)).trans ((va_up_ne _ _ (by omega)).trans ((va_up_ne _ _ (by omega)).trans ((va_up_ne _ _ (by omega)).trans ((va_up_ne _ _ (by omega)).trans ((va_up_ne _ _ (by omega)).trans ((va_up_ne _ _ (by omega)).trans (grid_b (by omega)))))))))⟩
