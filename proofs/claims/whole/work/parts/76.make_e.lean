/-! ===== constructor: Told ===== -/
theorem c_newTold {N d q : Nat} {h : MH} (eN : N = q + 1) (hq : Hd (0, 0, N) h q (eO 9 [vI 0, vI 0, vN, vN, vN, vN, vN, vN, vN, vI 0, vI 0, vI 0, vI 0])) : Ok mX9_init (d + 2) 71 4612 [vR q] N h (fun r h2 => r = none ∧ h2 q = eO 9 [vI 0, vI 0, vR N, vR (N + 1), vR (N + 2), vR (N + 3), vR (N + 4), vR (N + 5), vR (N + 6), vI 2, vI 1, vI 1, vI 0] ∧ h2 N = eA 0 65 (fun _ => 0) ∧ h2 (N + 1) = eA 0 64 (fun _ => 0) ∧ (∃ S2, h2 (N + 2) = eA 0 65 S2 ∧ ∀ i, i < 65 → S2 i = if i = 0 then 1 else 0) ∧ (∃ P2, h2 (N + 3) = eA 0 65 P2 ∧ ∀ i, i < 65 → P2 i = if i = 0 then 1 else 0) ∧ h2 (N + 4) = eA 0 65 (fun _ => 0) ∧ h2 (N + 5) = eA 0 64 (fun _ => 0) ∧ h2 (N + 6) = eQ 6 64 (rwF (N + 6 + 1) 64) ∧ (∀ i, i < 64 → h2 (N + 6 + 1 + i) = eA 0 65 (fun _ => 0)) ∧ ∀ b, b ≠ q → (b < N ∨ N + 70 < b) → h2 b = h b) := by
  refine Ok.of pfX9_init rfl (Nat.le_of_ble_eq_true rfl) (fun Ls sx => ?_)
  show G mX9_init (d + 2, 71, 4612, Ls, sx) 0 [(0, vR q)] [] (0, 0, N) h _
  have q1 := hq.1
  dsimp only at q1
  refine g_aload_n (pc := 0) (r := .inl (some q)) dX9_init_0 rfl ?_
  refine g_oinit (pc := 1) oiX9_3 dX9_init_1 (by omega) (Nat.le_of_ble_eq_true rfl) ?_
  refine g_aload_n (pc := 4) (r := .inl (some q)) dX9_init_4 rfl ?_
  refine g_bipush (pc := 5) dX9_init_5 (by decide +kernel) ?_
  refine g_newI (pc := 7) (n := 65) rfl (by omega) ac_int dX9_init_7 (by show (0 : Nat) + 1 ≤ 71; decide) (by show (0 : Nat) + 65 ≤ 4612; decide) ?_
  have hq_1 := hq.grow (ρ2 := (1, 65, N + 1)) (e2 := eA 0 65 (fun _ => 0)) (Nat.le_succ _)
  have hA_1 : Hd (1, 65, N + 1) (va_up h N (eA 0 65 (fun _ => 0))) N (eA 0 65 (fun _ => 0)) := Hd.fresh (Nat.lt_succ_self _)
  show G mX9_init _ 9 [(0, vR q)] [vR N, vR q] (1, 65, N + 1) (va_up h N (eA 0 65 (fun _ => 0))) _
  refine g_putF (pc := 9) fpX9_9 dX9_init_9 rfl hq_1 (okv_arr _ _) (Nat.le_of_ble_eq_true rfl) ?_
  have hq_2 := hq_1.self (e := eO 9 [vI 0, vI 0, vR N, vN, vN, vN, vN, vN, vN, vI 0, vI 0, vI 0, vI 0])
  have hA_2 := hA_1.ne (e := eO 9 [vI 0, vI 0, vR N, vN, vN, vN, vN, vN, vN, vI 0, vI 0, vI 0, vI 0]) (a := q) (by omega)
  refine g_aload_n (pc := 12) (r := .inl (some q)) dX9_init_12 rfl ?_
  refine g_bipush (pc := 13) dX9_init_13 (by decide +kernel) ?_
  refine g_newI (pc := 15) (n := 64) rfl (by omega) ac_int dX9_init_15 (by show (1 : Nat) + 1 ≤ 71; decide) (by show (65 : Nat) + 64 ≤ 4612; decide) ?_
  have hq_3 := hq_2.grow (ρ2 := (2, 129, N + 2)) (e2 := eA 0 64 (fun _ => 0)) (Nat.le_succ _)
  have hA_3 := hA_2.grow (ρ2 := (2, 129, N + 2)) (e2 := eA 0 64 (fun _ => 0)) (Nat.le_succ _)
  have hB_3 : Hd (2, 129, N + 2) (va_up (va_up (va_up h N (eA 0 65 (fun _ => 0))) q (eO 9 [vI 0, vI 0, vR N, vN, vN, vN, vN, vN, vN, vI 0, vI 0, vI 0, vI 0])) (N + 1) (eA 0 64 (fun _ => 0))) (N + 1) (eA 0 64 (fun _ => 0)) := Hd.fresh (Nat.lt_succ_self _)
  show G mX9_init _ 17 [(0, vR q)] [vR (N + 1), vR q] (2, 129, N + 2) (va_up (va_up (va_up h N (eA 0 65 (fun _ => 0))) q (eO 9 [vI 0, vI 0, vR N, vN, vN, vN, vN, vN, vN, vI 0, vI 0, vI 0, vI 0])) (N + 1) (eA 0 64 (fun _ => 0))) _
  refine g_putF (pc := 17) fpX9_15 dX9_init_17 rfl hq_3 (okv_arr _ _) (Nat.le_of_ble_eq_true rfl) ?_
  have hq_4 := hq_3.self (e := eO 9 [vI 0, vI 0, vR N, vR (N + 1), vN, vN, vN, vN, vN, vI 0, vI 0, vI 0, vI 0])
  have hA_4 := hA_3.ne (e := eO 9 [vI 0, vI 0, vR N, vR (N + 1), vN, vN, vN, vN, vN, vI 0, vI 0, vI 0, vI 0]) (a := q) (by omega)
  have hB_4 := hB_3.ne (e := eO 9 [vI 0, vI 0, vR N, vR (N + 1), vN, vN, vN, vN, vN, vI 0, vI 0, vI 0, vI 0]) (a := q) (by omega)
  refine g_aload_n (pc := 20) (r := .inl (some q)) dX9_init_20 rfl ?_
  refine g_bipush (pc := 21) dX9_init_21 (by decide +kernel) ?_
  refine g_newI (pc := 23) (n := 65) rfl (by omega) ac_int dX9_init_23 (by show (2 : Nat) + 1 ≤ 71; decide) (by show (129 : Nat) + 65 ≤ 4612; decide) ?_
  have hq_5 := hq_4.grow (ρ2 := (3, 194, N + 3)) (e2 := eA 0 65 (fun _ => 0)) (Nat.le_succ _)
  have hA_5 := hA_4.grow (ρ2 := (3, 194, N + 3)) (e2 := eA 0 65 (fun _ => 0)) (Nat.le_succ _)
  have hB_5 := hB_4.grow (ρ2 := (3, 194, N + 3)) (e2 := eA 0 65 (fun _ => 0)) (Nat.le_succ _)
  have hC_5 : Hd (3, 194, N + 3) (va_up (va_up (va_up (va_up (va_up h N (eA 0 65 (fun _ => 0))) q (eO 9 [vI 0, vI 0, vR N, vN, vN, vN, vN, vN, vN, vI 0, vI 0, vI 0, vI 0])) (N + 1) (eA 0 64 (fun _ => 0))) q (eO 9 [vI 0, vI 0, vR N, vR (N + 1), vN, vN, vN, vN, vN, vI 0, vI 0, vI 0, vI 0])) (N + 2) (eA 0 65 (fun _ => 0))) (N + 2) (eA 0 65 (fun _ => 0)) := Hd.fresh (Nat.lt_succ_self _)
  show G mX9_init _ 25 [(0, vR q)] [vR (N + 2), vR q] (3, 194, N + 3) (va_up (va_up (va_up (va_up (va_up h N (eA 0 65 (fun _ => 0))) q (eO 9 [vI 0, vI 0, vR N, vN, vN, vN, vN, vN, vN, vI 0, vI 0, vI 0, vI 0])) (N + 1) (eA 0 64 (fun _ => 0))) q (eO 9 [vI 0, vI 0, vR N, vR (N + 1), vN, vN, vN, vN, vN, vI 0, vI 0, vI 0, vI 0])) (N + 2) (eA 0 65 (fun _ => 0))) _
  refine g_putF (pc := 25) fpX9_18 dX9_init_25 rfl hq_5 (okv_arr _ _) (Nat.le_of_ble_eq_true rfl) ?_
  have hq_6 := hq_5.self (e := eO 9 [vI 0, vI 0, vR N, vR (N + 1), vR (N + 2), vN, vN, vN, vN, vI 0, vI 0, vI 0, vI 0])
  have hA_6 := hA_5.ne (e := eO 9 [vI 0, vI 0, vR N, vR (N + 1), vR (N + 2), vN, vN, vN, vN, vI 0, vI 0, vI 0, vI 0]) (a := q) (by omega)
  have hB_6 := hB_5.ne (e := eO 9 [vI 0, vI 0, vR N, vR (N + 1), vR (N + 2), vN, vN, vN, vN, vI 0, vI 0, vI 0, vI 0]) (a := q) (by omega)
  have hC_6 := hC_5.ne (e := eO 9 [vI 0, vI 0, vR N, vR (N + 1), vR (N + 2), vN, vN, vN, vN, vI 0, vI 0, vI 0, vI 0]) (a := q) (by omega)
  refine g_aload_n (pc := 28) (r := .inl (some q)) dX9_init_28 rfl ?_
  refine g_bipush (pc := 29) dX9_init_29 (by decide +kernel) ?_
  refine g_newI (pc := 31) (n := 65) rfl (by omega) ac_int dX9_init_31 (by show (3 : Nat) + 1 ≤ 71; decide) (by show (194 : Nat) + 65 ≤ 4612; decide) ?_
  have hq_7 := hq_6.grow (ρ2 := (4, 259, N + 4)) (e2 := eA 0 65 (fun _ => 0)) (Nat.le_succ _)
  have hA_7 := hA_6.grow (ρ2 := (4, 259, N + 4)) (e2 := eA 0 65 (fun _ => 0)) (Nat.le_succ _)
  have hB_7 := hB_6.grow (ρ2 := (4, 259, N + 4)) (e2 := eA 0 65 (fun _ => 0)) (Nat.le_succ _)
  have hC_7 := hC_6.grow (ρ2 := (4, 259, N + 4)) (e2 := eA 0 65 (fun _ => 0)) (Nat.le_succ _)
  have hD_7 : Hd (4, 259, N + 4) (va_up (va_up (va_up (va_up (va_up (va_up (va_up h N (eA 0 65 (fun _ => 0))) q (eO 9 [vI 0, vI 0, vR N, vN, vN, vN, vN, vN, vN, vI 0, vI 0, vI 0, vI 0])) (N + 1) (eA 0 64 (fun _ => 0))) q (eO 9 [vI 0, vI 0, vR N, vR (N + 1), vN, vN, vN, vN, vN, vI 0, vI 0, vI 0, vI 0])) (N + 2) (eA 0 65 (fun _ => 0))) q (eO 9 [vI 0, vI 0, vR N, vR (N + 1), vR (N + 2), vN, vN, vN, vN, vI 0, vI 0, vI 0, vI 0])) (N + 3) (eA 0 65 (fun _ => 0))) (N + 3) (eA 0 65 (fun _ => 0)) := Hd.fresh (Nat.lt_succ_self _)
  show G mX9_init _ 33 [(0, vR q)] [vR (N + 3), vR q] (4, 259, N + 4) (va_up (va_up (va_up (va_up (va_up (va_up (va_up h N (eA 0 65 (fun _ => 0))) q (eO 9 [vI 0, vI 0, vR N, vN, vN, vN, vN, vN, vN, vI 0, vI 0, vI 0, vI 0])) (N + 1) (eA 0 64 (fun _ => 0))) q (eO 9 [vI 0, vI 0, vR N, vR (N + 1), vN, vN, vN, vN, vN, vI 0, vI 0, vI 0, vI 0])) (N + 2) (eA 0 65 (fun _ => 0))) q (eO 9 [vI 0, vI 0, vR N, vR (N + 1), vR (N + 2), vN, vN, vN, vN, vI 0, vI 0, vI 0, vI 0])) (N + 3) (eA 0 65 (fun _ => 0))) _
  refine g_putF (pc := 33) fpX9_21 dX9_init_33 rfl hq_7 (okv_arr _ _) (Nat.le_of_ble_eq_true rfl) ?_
  have hq_8 := hq_7.self (e := eO 9 [vI 0, vI 0, vR N, vR (N + 1), vR (N + 2), vR (N + 3), vN, vN, vN, vI 0, vI 0, vI 0, vI 0])
  have hA_8 := hA_7.ne (e := eO 9 [vI 0, vI 0, vR N, vR (N + 1), vR (N + 2), vR (N + 3), vN, vN, vN, vI 0, vI 0, vI 0, vI 0]) (a := q) (by omega)
  have hB_8 := hB_7.ne (e := eO 9 [vI 0, vI 0, vR N, vR (N + 1), vR (N + 2), vR (N + 3), vN, vN, vN, vI 0, vI 0, vI 0, vI 0]) (a := q) (by omega)
  have hC_8 := hC_7.ne (e := eO 9 [vI 0, vI 0, vR N, vR (N + 1), vR (N + 2), vR (N + 3), vN, vN, vN, vI 0, vI 0, vI 0, vI 0]) (a := q) (by omega)
  have hD_8 := hD_7.ne (e := eO 9 [vI 0, vI 0, vR N, vR (N + 1), vR (N + 2), vR (N + 3), vN, vN, vN, vI 0, vI 0, vI 0, vI 0]) (a := q) (by omega)
  refine g_aload_n (pc := 36) (r := .inl (some q)) dX9_init_36 rfl ?_
  refine g_bipush (pc := 37) dX9_init_37 (by decide +kernel) ?_
  refine g_newI (pc := 39) (n := 65) rfl (by omega) ac_int dX9_init_39 (by show (4 : Nat) + 1 ≤ 71; decide) (by show (259 : Nat) + 65 ≤ 4612; decide) ?_
  have hq_9 := hq_8.grow (ρ2 := (5, 324, N + 5)) (e2 := eA 0 65 (fun _ => 0)) (Nat.le_succ _)
  have hA_9 := hA_8.grow (ρ2 := (5, 324, N + 5)) (e2 := eA 0 65 (fun _ => 0)) (Nat.le_succ _)
  have hB_9 := hB_8.grow (ρ2 := (5, 324, N + 5)) (e2 := eA 0 65 (fun _ => 0)) (Nat.le_succ _)
  have hC_9 := hC_8.grow (ρ2 := (5, 324, N + 5)) (e2 := eA 0 65 (fun _ => 0)) (Nat.le_succ _)
  have hD_9 := hD_8.grow (ρ2 := (5, 324, N + 5)) (e2 := eA 0 65 (fun _ => 0)) (Nat.le_succ _)
  have hE_9 : Hd (5, 324, N + 5) (va_up (va_up (va_up (va_up (va_up (va_up (va_up (va_up (va_up h N (eA 0 65 (fun _ => 0))) q (eO 9 [vI 0, vI 0, vR N, vN, vN, vN, vN, vN, vN, vI 0, vI 0, vI 0, vI 0])) (N + 1) (eA 0 64 (fun _ => 0))) q (eO 9 [vI 0, vI 0, vR N, vR (N + 1), vN, vN, vN, vN, vN, vI 0, vI 0, vI 0, vI 0])) (N + 2) (eA 0 65 (fun _ => 0))) q (eO 9 [vI 0, vI 0, vR N, vR (N + 1), vR (N + 2), vN, vN, vN, vN, vI 0, vI 0, vI 0, vI 0])) (N + 3) (eA 0 65 (fun _ => 0))) q (eO 9 [vI 0, vI 0, vR N, vR (N + 1), vR (N + 2), vR (N + 3), vN, vN, vN, vI 0, vI 0, vI 0, vI 0])) (N + 4) (eA 0 65 (fun _ => 0))) (N + 4) (eA 0 65 (fun _ => 0)) := Hd.fresh (Nat.lt_succ_self _)
  show G mX9_init _ 41 [(0, vR q)] [vR (N + 4), vR q] (5, 324, N + 5) (va_up (va_up (va_up (va_up (va_up (va_up (va_up (va_up (va_up h N (eA 0 65 (fun _ => 0))) q (eO 9 [vI 0, vI 0, vR N, vN, vN, vN, vN, vN, vN, vI 0, vI 0, vI 0, vI 0])) (N + 1) (eA 0 64 (fun _ => 0))) q (eO 9 [vI 0, vI 0, vR N, vR (N + 1), vN, vN, vN, vN, vN, vI 0, vI 0, vI 0, vI 0])) (N + 2) (eA 0 65 (fun _ => 0))) q (eO 9 [vI 0, vI 0, vR N, vR (N + 1), vR (N + 2), vN, vN, vN, vN, vI 0, vI 0, vI 0, vI 0])) (N + 3) (eA 0 65 (fun _ => 0))) q (eO 9 [vI 0, vI 0, vR N, vR (N + 1), vR (N + 2), vR (N + 3), vN, vN, vN, vI 0, vI 0, vI 0, vI 0])) (N + 4) (eA 0 65 (fun _ => 0))) _
  refine g_putF (pc := 41) fpX9_24 dX9_init_41 rfl hq_9 (okv_arr _ _) (Nat.le_of_ble_eq_true rfl) ?_
  have hq_10 := hq_9.self (e := eO 9 [vI 0, vI 0, vR N, vR (N + 1), vR (N + 2), vR (N + 3), vR (N + 4), vN, vN, vI 0, vI 0, vI 0, vI 0])
  have hA_10 := hA_9.ne (e := eO 9 [vI 0, vI 0, vR N, vR (N + 1), vR (N + 2), vR (N + 3), vR (N + 4), vN, vN, vI 0, vI 0, vI 0, vI 0]) (a := q) (by omega)
  have hB_10 := hB_9.ne (e := eO 9 [vI 0, vI 0, vR N, vR (N + 1), vR (N + 2), vR (N + 3), vR (N + 4), vN, vN, vI 0, vI 0, vI 0, vI 0]) (a := q) (by omega)
  have hC_10 := hC_9.ne (e := eO 9 [vI 0, vI 0, vR N, vR (N + 1), vR (N + 2), vR (N + 3), vR (N + 4), vN, vN, vI 0, vI 0, vI 0, vI 0]) (a := q) (by omega)
  have hD_10 := hD_9.ne (e := eO 9 [vI 0, vI 0, vR N, vR (N + 1), vR (N + 2), vR (N + 3), vR (N + 4), vN, vN, vI 0, vI 0, vI 0, vI 0]) (a := q) (by omega)
  have hE_10 := hE_9.ne (e := eO 9 [vI 0, vI 0, vR N, vR (N + 1), vR (N + 2), vR (N + 3), vR (N + 4), vN, vN, vI 0, vI 0, vI 0, vI 0]) (a := q) (by omega)
  refine g_aload_n (pc := 44) (r := .inl (some q)) dX9_init_44 rfl ?_
  refine g_bipush (pc := 45) dX9_init_45 (by decide +kernel) ?_
  refine g_newI (pc := 47) (n := 64) rfl (by omega) ac_int dX9_init_47 (by show (5 : Nat) + 1 ≤ 71; decide) (by show (324 : Nat) + 64 ≤ 4612; decide) ?_
  have hq_11 := hq_10.grow (ρ2 := (6, 388, N + 6)) (e2 := eA 0 64 (fun _ => 0)) (Nat.le_succ _)
  have hA_11 := hA_10.grow (ρ2 := (6, 388, N + 6)) (e2 := eA 0 64 (fun _ => 0)) (Nat.le_succ _)
  have hB_11 := hB_10.grow (ρ2 := (6, 388, N + 6)) (e2 := eA 0 64 (fun _ => 0)) (Nat.le_succ _)
  have hC_11 := hC_10.grow (ρ2 := (6, 388, N + 6)) (e2 := eA 0 64 (fun _ => 0)) (Nat.le_succ _)
  have hD_11 := hD_10.grow (ρ2 := (6, 388, N + 6)) (e2 := eA 0 64 (fun _ => 0)) (Nat.le_succ _)
  have hE_11 := hE_10.grow (ρ2 := (6, 388, N + 6)) (e2 := eA 0 64 (fun _ => 0)) (Nat.le_succ _)
  have hF_11 : Hd (6, 388, N + 6) (va_up (va_up (va_up (va_up (va_up (va_up (va_up (va_up (va_up (va_up (va_up h N (eA 0 65 (fun _ => 0))) q (eO 9 [vI 0, vI 0, vR N, vN, vN, vN, vN, vN, vN, vI 0, vI 0, vI 0, vI 0])) (N + 1) (eA 0 64 (fun _ => 0))) q (eO 9 [vI 0, vI 0, vR N, vR (N + 1), vN, vN, vN, vN, vN, vI 0, vI 0, vI 0, vI 0])) (N + 2) (eA 0 65 (fun _ => 0))) q (eO 9 [vI 0, vI 0, vR N, vR (N + 1), vR (N + 2), vN, vN, vN, vN, vI 0, vI 0, vI 0, vI 0])) (N + 3) (eA 0 65 (fun _ => 0))) q (eO 9 [vI 0, vI 0, vR N, vR (N + 1), vR (N + 2), vR (N + 3), vN, vN, vN, vI 0, vI 0, vI 0, vI 0])) (N + 4) (eA 0 65 (fun _ => 0))) q (eO 9 [vI 0, vI 0, vR N, vR (N + 1), vR (N + 2), vR (N + 3), vR (N + 4), vN, vN, vI 0, vI 0, vI 0, vI 0])) (N + 5) (eA 0 64 (fun _ => 0))) (N + 5) (eA 0 64 (fun _ => 0)) := Hd.fresh (Nat.lt_succ_self _)
  show G mX9_init _ 49 [(0, vR q)] [vR (N + 5), vR q] (6, 388, N + 6) (va_up (va_up (va_up (va_up (va_up (va_up (va_up (va_up (va_up (va_up (va_up h N (eA 0 65 (fun _ => 0))) q (eO 9 [vI 0, vI 0, vR N, vN, vN, vN, vN, vN, vN, vI 0, vI 0, vI 0, vI 0])) (N + 1) (eA 0 64 (fun _ => 0))) q (eO 9 [vI 0, vI 0, vR N, vR (N + 1), vN, vN, vN, vN, vN, vI 0, vI 0, vI 0, vI 0])) (N + 2) (eA 0 65 (fun _ => 0))) q (eO 9 [vI 0, vI 0, vR N, vR (N + 1), vR (N + 2), vN, vN, vN, vN, vI 0, vI 0, vI 0, vI 0])) (N + 3) (eA 0 65 (fun _ => 0))) q (eO 9 [vI 0, vI 0, vR N, vR (N + 1), vR (N + 2), vR (N + 3), vN, vN, vN, vI 0, vI 0, vI 0, vI 0])) (N + 4) (eA 0 65 (fun _ => 0))) q (eO 9 [vI 0, vI 0, vR N, vR (N + 1), vR (N + 2), vR (N + 3), vR (N + 4), vN, vN, vI 0, vI 0, vI 0, vI 0])) (N + 5) (eA 0 64 (fun _ => 0))) _
  refine g_putF (pc := 49) fpX9_27 dX9_init_49 rfl hq_11 (okv_arr _ _) (Nat.le_of_ble_eq_true rfl) ?_
  have hq_12 := hq_11.self (e := eO 9 [vI 0, vI 0, vR N, vR (N + 1), vR (N + 2), vR (N + 3), vR (N + 4), vR (N + 5), vN, vI 0, vI 0, vI 0, vI 0])
  have hA_12 := hA_11.ne (e := eO 9 [vI 0, vI 0, vR N, vR (N + 1), vR (N + 2), vR (N + 3), vR (N + 4), vR (N + 5), vN, vI 0, vI 0, vI 0, vI 0]) (a := q) (by omega)
  have hB_12 := hB_11.ne (e := eO 9 [vI 0, vI 0, vR N, vR (N + 1), vR (N + 2), vR (N + 3), vR (N + 4), vR (N + 5), vN, vI 0, vI 0, vI 0, vI 0]) (a := q) (by omega)
  have hC_12 := hC_11.ne (e := eO 9 [vI 0, vI 0, vR N, vR (N + 1), vR (N + 2), vR (N + 3), vR (N + 4), vR (N + 5), vN, vI 0, vI 0, vI 0, vI 0]) (a := q) (by omega)
  have hD_12 := hD_11.ne (e := eO 9 [vI 0, vI 0, vR N, vR (N + 1), vR (N + 2), vR (N + 3), vR (N + 4), vR (N + 5), vN, vI 0, vI 0, vI 0, vI 0]) (a := q) (by omega)
  have hE_12 := hE_11.ne (e := eO 9 [vI 0, vI 0, vR N, vR (N + 1), vR (N + 2), vR (N + 3), vR (N + 4), vR (N + 5), vN, vI 0, vI 0, vI 0, vI 0]) (a := q) (by omega)
  have hF_12 := hF_11.ne (e := eO 9 [vI 0, vI 0, vR N, vR (N + 1), vR (N + 2), vR (N + 3), vR (N + 4), vR (N + 5), vN, vI 0, vI 0, vI 0, vI 0]) (a := q) (by omega)
  refine g_aload_n (pc := 52) (r := .inl (some q)) dX9_init_52 rfl ?_
  refine g_bipush (pc := 53) dX9_init_53 (by decide +kernel) ?_
  refine g_bipush (pc := 55) dX9_init_55 (by decide +kernel) ?_
  refine g_grid (pc := 57) (n := 64) (k := 65) rfl rfl (by omega) (by omega) kaX9_30 ac_int dX9_init_57 (by show (6 : Nat) + (1 + 64) ≤ 71; decide) (by show (388 : Nat) + (64 + 64 * 65) ≤ 4612; decide) ?_
  show G mX9_init _ 61 [(0, vR q)] [vR (N + 6), vR q] (71, 4612, N + 71) (gridH (va_up (va_up (va_up (va_up (va_up (va_up (va_up (va_up (va_up (va_up (va_up (va_up h N (eA 0 65 (fun _ => 0))) q (eO 9 [vI 0, vI 0, vR N, vN, vN, vN, vN, vN, vN, vI 0, vI 0, vI 0, vI 0])) (N + 1) (eA 0 64 (fun _ => 0))) q (eO 9 [vI 0, vI 0, vR N, vR (N + 1), vN, vN, vN, vN, vN, vI 0, vI 0, vI 0, vI 0])) (N + 2) (eA 0 65 (fun _ => 0))) q (eO 9 [vI 0, vI 0, vR N, vR (N + 1), vR (N + 2), vN, vN, vN, vN, vI 0, vI 0, vI 0, vI 0])) (N + 3) (eA 0 65 (fun _ => 0))) q (eO 9 [vI 0, vI 0, vR N, vR (N + 1), vR (N + 2), vR (N + 3), vN, vN, vN, vI 0, vI 0, vI 0, vI 0])) (N + 4) (eA 0 65 (fun _ => 0))) q (eO 9 [vI 0, vI 0, vR N, vR (N + 1), vR (N + 2), vR (N + 3), vR (N + 4), vN, vN, vI 0, vI 0, vI 0, vI 0])) (N + 5) (eA 0 64 (fun _ => 0))) q (eO 9 [vI 0, vI 0, vR N, vR (N + 1), vR (N + 2), vR (N + 3), vR (N + 4), vR (N + 5), vN, vI 0, vI 0, vI 0, vI 0])) (N + 6) 64 65) _
  have hq_13 := hq_12.grid (ρ2 := (71, 4612, N + 71)) (n := 64) (k := 65) (by show _ ≤ N + 71; dsimp only; omega)
  have hA_13 := hA_12.grid (ρ2 := (71, 4612, N + 71)) (n := 64) (k := 65) (by show _ ≤ N + 71; dsimp only; omega)
  have hB_13 := hB_12.grid (ρ2 := (71, 4612, N + 71)) (n := 64) (k := 65) (by show _ ≤ N + 71; dsimp only; omega)
  have hC_13 := hC_12.grid (ρ2 := (71, 4612, N + 71)) (n := 64) (k := 65) (by show _ ≤ N + 71; dsimp only; omega)
  have hD_13 := hD_12.grid (ρ2 := (71, 4612, N + 71)) (n := 64) (k := 65) (by show _ ≤ N + 71; dsimp only; omega)
  have hE_13 := hE_12.grid (ρ2 := (71, 4612, N + 71)) (n := 64) (k := 65) (by show _ ≤ N + 71; dsimp only; omega)
  have hF_13 := hF_12.grid (ρ2 := (71, 4612, N + 71)) (n := 64) (k := 65) (by show _ ≤ N + 71; dsimp only; omega)
  refine g_putF (pc := 61) fpX9_32 dX9_init_61 rfl hq_13 (okv_arr _ _) (Nat.le_of_ble_eq_true rfl) ?_
  have hq_14 := hq_13.self (e := eO 9 [vI 0, vI 0, vR N, vR (N + 1), vR (N + 2), vR (N + 3), vR (N + 4), vR (N + 5), vR (N + 6), vI 0, vI 0, vI 0, vI 0])
  have hA_14 := hA_13.ne (e := eO 9 [vI 0, vI 0, vR N, vR (N + 1), vR (N + 2), vR (N + 3), vR (N + 4), vR (N + 5), vR (N + 6), vI 0, vI 0, vI 0, vI 0]) (a := q) (by omega)
  have hB_14 := hB_13.ne (e := eO 9 [vI 0, vI 0, vR N, vR (N + 1), vR (N + 2), vR (N + 3), vR (N + 4), vR (N + 5), vR (N + 6), vI 0, vI 0, vI 0, vI 0]) (a := q) (by omega)
  have hC_14 := hC_13.ne (e := eO 9 [vI 0, vI 0, vR N, vR (N + 1), vR (N + 2), vR (N + 3), vR (N + 4), vR (N + 5), vR (N + 6), vI 0, vI 0, vI 0, vI 0]) (a := q) (by omega)
  have hD_14 := hD_13.ne (e := eO 9 [vI 0, vI 0, vR N, vR (N + 1), vR (N + 2), vR (N + 3), vR (N + 4), vR (N + 5), vR (N + 6), vI 0, vI 0, vI 0, vI 0]) (a := q) (by omega)
  have hE_14 := hE_13.ne (e := eO 9 [vI 0, vI 0, vR N, vR (N + 1), vR (N + 2), vR (N + 3), vR (N + 4), vR (N + 5), vR (N + 6), vI 0, vI 0, vI 0, vI 0]) (a := q) (by omega)
  have hF_14 := hF_13.ne (e := eO 9 [vI 0, vI 0, vR N, vR (N + 1), vR (N + 2), vR (N + 3), vR (N + 4), vR (N + 5), vR (N + 6), vI 0, vI 0, vI 0, vI 0]) (a := q) (by omega)
  refine g_aload_n (pc := 64) (r := .inl (some q)) dX9_init_64 rfl ?_
  refine g_iconst (pc := 65) dX9_init_65 ?_
  subst eN
  refine g_callV (pc := 66) (as := [vI 2]) (b := q) (st := []) (mc := 0) (ms := 0) lvX9_35 dX9_init_66 hq_14 (Nat.le_of_ble_eq_true rfl) (show d + 1 + 1 ≤ d + 2 by omega) (by show (71 : Nat) + 0 ≤ 71; decide) (by show (4612 : Nat) + 0 ≤ 4612; decide) (c_toldClear (d := d) (q := q) hq_14 hC_14 hD_14) ?_
  rintro r h2 ⟨rfl, a1, a2, a3, a4⟩
  exact r_void (pc := 69) dX9_init_69 rfl rfl (Nat.le_refl _) ⟨rfl, a1, (a4 _ (by omega) (by omega) (by omega)).trans hA_14.2, (a4 _ (by omega) (by omega) (by omega)).trans hB_14.2, a2, a3, (a4 _ (by omega) (by omega) (by omega)).trans hE_14.2, (a4 _ (by omega) (by omega) (by omega)).trans hF_14.2, (a4 _ (by omega) (by omega) (by omega)).trans ((va_up_ne _ _ (by omega)).trans (grid_0)), fun i hi => (a4 _ (by omega) (by omega) (by omega)).trans ((va_up_ne _ _ (by omega)).trans (grid_i hi)), fun b z1 z2 => (a4 _ (by omega) (by omega) (by omega)).trans ((va_up_ne _ _ (by omega)).trans ((grid_b (by omega)).trans ((va_up_ne _ _ (by omega)).trans ((va_up_ne _ _ (by omega)).trans ((va_up_ne _ _ (by omega)).trans ((va_up_ne _ _ (by omega)).trans ((va_up_ne _ _ (by omega)).trans ((va_up_ne _ _ (by omega)).trans ((va_up_ne _ _ (by omega)).trans ((va_up_ne _ _ (by omega)).trans ((va_up_ne _ _ (by omega)).trans ((va_up_ne _ _ (by omega)).trans ((va_up_ne _ _ (by omega)).trans ((va_up_ne _ _ (by omega)).trans (rfl)))))))))))))))⟩
