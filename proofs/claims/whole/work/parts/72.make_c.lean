/-! ===== constructor: Rounds ===== -/
theorem Hd.mv {ρ ρ2 : MR} {h h2 : MH} {b : Nat} {e : ME} (hb : Hd ρ h b e) (hle : ρ.2.2 ≤ ρ2.2.2) (q : h2 b = h b) : Hd ρ2 h2 b e := ⟨Nat.lt_of_lt_of_le hb.1 hle, q.trans hb.2⟩
theorem Hd.mvto {ρ ρ2 : MR} {h h2 : MH} {b : Nat} {e e2 : ME} (hb : Hd ρ h b e) (hle : ρ.2.2 ≤ ρ2.2.2) (q : h2 b = e2) : Hd ρ2 h2 b e2 := ⟨Nat.lt_of_lt_of_le hb.1 hle, q⟩

theorem c_newRounds {N d q pw ps : Nat} {h : MH} (hq : Hd (0, 0, N) h q (eO 8 [vN, vN, vN, vN, vN, vN, vN, vN, vJ 0])) : Ok mX8_init (d + 2) 13 93 [vR q, vR pw, vR ps] N h (fun r h2 => r = none ∧ h2 q = eO 8 [vR pw, vR ps, vR N, vR (N + 2), vR (N + 4), vR (N + 10), vR (N + 11), vR (N + 12), vJ 0] ∧ h2 N = eO 7 [vR (N + 1), vI 0] ∧ h2 (N + 1) = eA 0 16 (fun _ => 0) ∧ h2 (N + 2) = eO 7 [vR (N + 3), vI 0] ∧ h2 (N + 3) = eA 0 16 (fun _ => 0) ∧ h2 (N + 4) = eO 0 [vR (N + 5), vI 0, vI 0, vI 0, vI 0] ∧ h2 (N + 5) = eQ 6 4 (rwF (N + 5 + 1) 4) ∧ (∀ i, i < 4 → h2 (N + 5 + 1 + i) = eA 0 5 (fun _ => 0)) ∧ h2 (N + 10) = eA 0 20 (fun _ => 0) ∧ h2 (N + 11) = eA 0 4 (fun _ => 0) ∧ h2 (N + 12) = eA 0 4 (fun _ => 0) ∧ ∀ b, b ≠ q → (b < N ∨ N + 12 < b) → h2 b = h b) := by
  refine Ok.of pfX8_init rfl (Nat.le_of_ble_eq_true rfl) (fun Ls sx => ?_)
  show G mX8_init (d + 2, 13, 93, Ls, sx) 0 [(0, vR q), (1, vR pw), (2, vR ps)] [] (0, 0, N) h _
  have q1 := hq.1
  dsimp only at q1
  refine g_aload_n (pc := 0) (r := .inl (some q)) dX8_init_0 rfl ?_
  refine g_oinit (pc := 1) oiX8_3 dX8_init_1 (by omega) (Nat.le_of_ble_eq_true rfl) ?_
  refine g_aload_n (pc := 4) (r := .inl (some q)) dX8_init_4 rfl ?_
  refine g_new (pc := 5) nwX8_9 dX8_init_5 (by show (0 : Nat) + 1 ≤ 13; decide) (by show (0 : Nat) + 2 ≤ 93; decide) ?_
  have hq_1 := hq.grow (ρ2 := (1, 2, N + 1)) (e2 := eO 7 [vN, vI 0]) (Nat.le_succ _)
  have hA_1 : Hd (1, 2, N + 1) (va_up h N (eO 7 [vN, vI 0])) N (eO 7 [vN, vI 0]) := Hd.fresh (Nat.lt_succ_self _)
  show G mX8_init _ 8 [(0, vR q), (1, vR pw), (2, vR ps)] [vR N, vR q] (1, 2, N + 1) (va_up h N (eO 7 [vN, vI 0])) _
  refine g_dup (pc := 8) dX8_init_8 rfl ?_
  refine g_callI (pc := 9) (as := []) (b := N) (st := [vR N, vR q]) (mc := 1) (ms := 16) liX8_11 dX8_init_9 (Nat.le_of_ble_eq_true rfl) (by omega) (by show (1 : Nat) + 1 ≤ 13; decide) (by show (2 : Nat) + 16 ≤ 93; decide) (c_newPrimes (d := d) hA_1) ?_
  rintro r h1 ⟨rfl, a1, a2, a3⟩
  dsimp only at a1 a2 a3
  have hq_2 := hq_1.mv (ρ2 := (2, 18, N + 2)) (by show _ ≤ N + 2; dsimp only; omega) (a3 _ (by omega) (by omega))
  have hA_2 := hA_1.mvto (ρ2 := (2, 18, N + 2)) (by show _ ≤ N + 2; dsimp only; omega) a1
  show G mX8_init _ 12 [(0, vR q), (1, vR pw), (2, vR ps)] [vR N, vR q] (2, 18, N + 2) h1 _
  refine g_putF (pc := 12) fpX8_12 dX8_init_12 rfl hq_2 (okv_obj _ _) (Nat.le_of_ble_eq_true rfl) ?_
  have hq_3 := hq_2.self (e := eO 8 [vN, vN, vR N, vN, vN, vN, vN, vN, vJ 0])
  have hA_3 := hA_2.ne (e := eO 8 [vN, vN, vR N, vN, vN, vN, vN, vN, vJ 0]) (a := q) (by omega)
  refine g_aload_n (pc := 15) (r := .inl (some q)) dX8_init_15 rfl ?_
  refine g_new (pc := 16) nwX8_9 dX8_init_16 (by show (2 : Nat) + 1 ≤ 13; decide) (by show (18 : Nat) + 2 ≤ 93; decide) ?_
  have hq_4 := hq_3.grow (ρ2 := (3, 20, N + 3)) (e2 := eO 7 [vN, vI 0]) (Nat.le_succ _)
  have hA_4 := hA_3.grow (ρ2 := (3, 20, N + 3)) (e2 := eO 7 [vN, vI 0]) (Nat.le_succ _)
  have hB_4 : Hd (3, 20, N + 3) (va_up (va_up h1 q (eO 8 [vN, vN, vR N, vN, vN, vN, vN, vN, vJ 0])) (N + 2) (eO 7 [vN, vI 0])) (N + 2) (eO 7 [vN, vI 0]) := Hd.fresh (Nat.lt_succ_self _)
  show G mX8_init _ 19 [(0, vR q), (1, vR pw), (2, vR ps)] [vR (N + 2), vR q] (3, 20, N + 3) (va_up (va_up h1 q (eO 8 [vN, vN, vR N, vN, vN, vN, vN, vN, vJ 0])) (N + 2) (eO 7 [vN, vI 0])) _
  refine g_dup (pc := 19) dX8_init_19 rfl ?_
  refine g_callI (pc := 20) (as := []) (b := N + 2) (st := [vR (N + 2), vR q]) (mc := 1) (ms := 16) liX8_11 dX8_init_20 (Nat.le_of_ble_eq_true rfl) (by omega) (by show (3 : Nat) + 1 ≤ 13; decide) (by show (20 : Nat) + 16 ≤ 93; decide) (c_newPrimes (d := d) hB_4) ?_
  rintro r h2 ⟨rfl, b1, b2, b3⟩
  dsimp only at b1 b2 b3
  have hq_5 := hq_4.mv (ρ2 := (4, 36, N + 4)) (by show _ ≤ N + 4; dsimp only; omega) (b3 _ (by omega) (by omega))
  have hA_5 := hA_4.mv (ρ2 := (4, 36, N + 4)) (by show _ ≤ N + 4; dsimp only; omega) (b3 _ (by omega) (by omega))
  have hB_5 := hB_4.mvto (ρ2 := (4, 36, N + 4)) (by show _ ≤ N + 4; dsimp only; omega) b1
  show G mX8_init _ 23 [(0, vR q), (1, vR pw), (2, vR ps)] [vR (N + 2), vR q] (4, 36, N + 4) h2 _
  refine g_putF (pc := 23) fpX8_18 dX8_init_23 rfl hq_5 (okv_obj _ _) (Nat.le_of_ble_eq_true rfl) ?_
  have hq_6 := hq_5.self (e := eO 8 [vN, vN, vR N, vR (N + 2), vN, vN, vN, vN, vJ 0])
  have hA_6 := hA_5.ne (e := eO 8 [vN, vN, vR N, vR (N + 2), vN, vN, vN, vN, vJ 0]) (a := q) (by omega)
  have hB_6 := hB_5.ne (e := eO 8 [vN, vN, vR N, vR (N + 2), vN, vN, vN, vN, vJ 0]) (a := q) (by omega)
  refine g_aload_n (pc := 26) (r := .inl (some q)) dX8_init_26 rfl ?_
  refine g_new (pc := 27) nwX8_21 dX8_init_27 (by show (4 : Nat) + 1 ≤ 13; decide) (by show (36 : Nat) + 5 ≤ 93; decide) ?_
  have hq_7 := hq_6.grow (ρ2 := (5, 41, N + 5)) (e2 := eO 0 [vN, vI 0, vI 0, vI 0, vI 0]) (Nat.le_succ _)
  have hA_7 := hA_6.grow (ρ2 := (5, 41, N + 5)) (e2 := eO 0 [vN, vI 0, vI 0, vI 0, vI 0]) (Nat.le_succ _)
  have hB_7 := hB_6.grow (ρ2 := (5, 41, N + 5)) (e2 := eO 0 [vN, vI 0, vI 0, vI 0, vI 0]) (Nat.le_succ _)
  have hC_7 : Hd (5, 41, N + 5) (va_up (va_up h2 q (eO 8 [vN, vN, vR N, vR (N + 2), vN, vN, vN, vN, vJ 0])) (N + 4) (eO 0 [vN, vI 0, vI 0, vI 0, vI 0])) (N + 4) (eO 0 [vN, vI 0, vI 0, vI 0, vI 0]) := Hd.fresh (Nat.lt_succ_self _)
  show G mX8_init _ 30 [(0, vR q), (1, vR pw), (2, vR ps)] [vR (N + 4), vR q] (5, 41, N + 5) (va_up (va_up h2 q (eO 8 [vN, vN, vR N, vR (N + 2), vN, vN, vN, vN, vJ 0])) (N + 4) (eO 0 [vN, vI 0, vI 0, vI 0, vI 0])) _
  refine g_dup (pc := 30) dX8_init_30 rfl ?_
  refine g_callI (pc := 31) (as := []) (b := N + 4) (st := [vR (N + 4), vR q]) (mc := 5) (ms := 24) liX8_23 dX8_init_31 (Nat.le_of_ble_eq_true rfl) (by omega) (by show (5 : Nat) + 5 ≤ 13; decide) (by show (41 : Nat) + 24 ≤ 93; decide) (c_newEquations (d := d) hC_7) ?_
  rintro r h3 ⟨rfl, c1, c2, c3, c4⟩
  dsimp only at c1 c2 c3 c4
  have hq_8 := hq_7.mv (ρ2 := (10, 65, N + 10)) (by show _ ≤ N + 10; dsimp only; omega) (c4 _ (by omega) (by omega))
  have hA_8 := hA_7.mv (ρ2 := (10, 65, N + 10)) (by show _ ≤ N + 10; dsimp only; omega) (c4 _ (by omega) (by omega))
  have hB_8 := hB_7.mv (ρ2 := (10, 65, N + 10)) (by show _ ≤ N + 10; dsimp only; omega) (c4 _ (by omega) (by omega))
  have hC_8 := hC_7.mvto (ρ2 := (10, 65, N + 10)) (by show _ ≤ N + 10; dsimp only; omega) c1
  show G mX8_init _ 34 [(0, vR q), (1, vR pw), (2, vR ps)] [vR (N + 4), vR q] (10, 65, N + 10) h3 _
  refine g_putF (pc := 34) fpX8_24 dX8_init_34 rfl hq_8 (okv_obj _ _) (Nat.le_of_ble_eq_true rfl) ?_
  have hq_9 := hq_8.self (e := eO 8 [vN, vN, vR N, vR (N + 2), vR (N + 4), vN, vN, vN, vJ 0])
  have hA_9 := hA_8.ne (e := eO 8 [vN, vN, vR N, vR (N + 2), vR (N + 4), vN, vN, vN, vJ 0]) (a := q) (by omega)
  have hB_9 := hB_8.ne (e := eO 8 [vN, vN, vR N, vR (N + 2), vR (N + 4), vN, vN, vN, vJ 0]) (a := q) (by omega)
  have hC_9 := hC_8.ne (e := eO 8 [vN, vN, vR N, vR (N + 2), vR (N + 4), vN, vN, vN, vJ 0]) (a := q) (by omega)
  refine g_aload_n (pc := 37) (r := .inl (some q)) dX8_init_37 rfl ?_
  refine g_bipush (pc := 38) dX8_init_38 (by decide +kernel) ?_
  refine g_newI (pc := 40) (n := 20) rfl (by omega) ac_int dX8_init_40 (by show (10 : Nat) + 1 ≤ 13; decide) (by show (65 : Nat) + 20 ≤ 93; decide) ?_
  have hq_10 := hq_9.grow (ρ2 := (11, 85, N + 11)) (e2 := eA 0 20 (fun _ => 0)) (Nat.le_succ _)
  have hA_10 := hA_9.grow (ρ2 := (11, 85, N + 11)) (e2 := eA 0 20 (fun _ => 0)) (Nat.le_succ _)
  have hB_10 := hB_9.grow (ρ2 := (11, 85, N + 11)) (e2 := eA 0 20 (fun _ => 0)) (Nat.le_succ _)
  have hC_10 := hC_9.grow (ρ2 := (11, 85, N + 11)) (e2 := eA 0 20 (fun _ => 0)) (Nat.le_succ _)
  have hD_10 : Hd (11, 85, N + 11) (va_up (va_up h3 q (eO 8 [vN, vN, vR N, vR (N + 2), vR (N + 4), vN, vN, vN, vJ 0])) (N + 10) (eA 0 20 (fun _ => 0))) (N + 10) (eA 0 20 (fun _ => 0)) := Hd.fresh (Nat.lt_succ_self _)
  show G mX8_init _ 42 [(0, vR q), (1, vR pw), (2, vR ps)] [vR (N + 10), vR q] (11, 85, N + 11) (va_up (va_up h3 q (eO 8 [vN, vN, vR N, vR (N + 2), vR (N + 4), vN, vN, vN, vJ 0])) (N + 10) (eA 0 20 (fun _ => 0))) _
  refine g_putF (pc := 42) fpX8_30 dX8_init_42 rfl hq_10 (okv_arr _ _) (Nat.le_of_ble_eq_true rfl) ?_
  have hq_11 := hq_10.self (e := eO 8 [vN, vN, vR N, vR (N + 2), vR (N + 4), vR (N + 10), vN, vN, vJ 0])
  have hA_11 := hA_10.ne (e := eO 8 [vN, vN, vR N, vR (N + 2), vR (N + 4), vR (N + 10), vN, vN, vJ 0]) (a := q) (by omega)
  have hB_11 := hB_10.ne (e := eO 8 [vN, vN, vR N, vR (N + 2), vR (N + 4), vR (N + 10), vN, vN, vJ 0]) (a := q) (by omega)
  have hC_11 := hC_10.ne (e := eO 8 [vN, vN, vR N, vR (N + 2), vR (N + 4), vR (N + 10), vN, vN, vJ 0]) (a := q) (by omega)
  have hD_11 := hD_10.ne (e := eO 8 [vN, vN, vR N, vR (N + 2), vR (N + 4), vR (N + 10), vN, vN, vJ 0]) (a := q) (by omega)
  refine g_aload_n (pc := 45) (r := .inl (some q)) dX8_init_45 rfl ?_
  refine g_iconst (pc := 46) dX8_init_46 ?_
  refine g_newI (pc := 47) (n := 4) rfl (by omega) ac_int dX8_init_47 (by show (11 : Nat) + 1 ≤ 13; decide) (by show (85 : Nat) + 4 ≤ 93; decide) ?_
  have hq_12 := hq_11.grow (ρ2 := (12, 89, N + 12)) (e2 := eA 0 4 (fun _ => 0)) (Nat.le_succ _)
  have hA_12 := hA_11.grow (ρ2 := (12, 89, N + 12)) (e2 := eA 0 4 (fun _ => 0)) (Nat.le_succ _)
  have hB_12 := hB_11.grow (ρ2 := (12, 89, N + 12)) (e2 := eA 0 4 (fun _ => 0)) (Nat.le_succ _)
  have hC_12 := hC_11.grow (ρ2 := (12, 89, N + 12)) (e2 := eA 0 4 (fun _ => 0)) (Nat.le_succ _)
  have hD_12 := hD_11.grow (ρ2 := (12, 89, N + 12)) (e2 := eA 0 4 (fun _ => 0)) (Nat.le_succ _)
  have hE_12 : Hd (12, 89, N + 12) (va_up (va_up (va_up (va_up h3 q (eO 8 [vN, vN, vR N, vR (N + 2), vR (N + 4), vN, vN, vN, vJ 0])) (N + 10) (eA 0 20 (fun _ => 0))) q (eO 8 [vN, vN, vR N, vR (N + 2), vR (N + 4), vR (N + 10), vN, vN, vJ 0])) (N + 11) (eA 0 4 (fun _ => 0))) (N + 11) (eA 0 4 (fun _ => 0)) := Hd.fresh (Nat.lt_succ_self _)
  show G mX8_init _ 49 [(0, vR q), (1, vR pw), (2, vR ps)] [vR (N + 11), vR q] (12, 89, N + 12) (va_up (va_up (va_up (va_up h3 q (eO 8 [vN, vN, vR N, vR (N + 2), vR (N + 4), vN, vN, vN, vJ 0])) (N + 10) (eA 0 20 (fun _ => 0))) q (eO 8 [vN, vN, vR N, vR (N + 2), vR (N + 4), vR (N + 10), vN, vN, vJ 0])) (N + 11) (eA 0 4 (fun _ => 0))) _
  refine g_putF (pc := 49) fpX8_34 dX8_init_49 rfl hq_12 (okv_arr _ _) (Nat.le_of_ble_eq_true rfl) ?_
  have hq_13 := hq_12.self (e := eO 8 [vN, vN, vR N, vR (N + 2), vR (N + 4), vR (N + 10), vR (N + 11), vN, vJ 0])
  have hA_13 := hA_12.ne (e := eO 8 [vN, vN, vR N, vR (N + 2), vR (N + 4), vR (N + 10), vR (N + 11), vN, vJ 0]) (a := q) (by omega)
  have hB_13 := hB_12.ne (e := eO 8 [vN, vN, vR N, vR (N + 2), vR (N + 4), vR (N + 10), vR (N + 11), vN, vJ 0]) (a := q) (by omega)
  have hC_13 := hC_12.ne (e := eO 8 [vN, vN, vR N, vR (N + 2), vR (N + 4), vR (N + 10), vR (N + 11), vN, vJ 0]) (a := q) (by omega)
  have hD_13 := hD_12.ne (e := eO 8 [vN, vN, vR N, vR (N + 2), vR (N + 4), vR (N + 10), vR (N + 11), vN, vJ 0]) (a := q) (by omega)
  have hE_13 := hE_12.ne (e := eO 8 [vN, vN, vR N, vR (N + 2), vR (N + 4), vR (N + 10), vR (N + 11), vN, vJ 0]) (a := q) (by omega)
  refine g_aload_n (pc := 52) (r := .inl (some q)) dX8_init_52 rfl ?_
  refine g_iconst (pc := 53) dX8_init_53 ?_
  refine g_newI (pc := 54) (n := 4) rfl (by omega) ac_int dX8_init_54 (by show (12 : Nat) + 1 ≤ 13; decide) (by show (89 : Nat) + 4 ≤ 93; decide) ?_
  have hq_14 := hq_13.grow (ρ2 := (13, 93, N + 13)) (e2 := eA 0 4 (fun _ => 0)) (Nat.le_succ _)
  have hA_14 := hA_13.grow (ρ2 := (13, 93, N + 13)) (e2 := eA 0 4 (fun _ => 0)) (Nat.le_succ _)
  have hB_14 := hB_13.grow (ρ2 := (13, 93, N + 13)) (e2 := eA 0 4 (fun _ => 0)) (Nat.le_succ _)
  have hC_14 := hC_13.grow (ρ2 := (13, 93, N + 13)) (e2 := eA 0 4 (fun _ => 0)) (Nat.le_succ _)
  have hD_14 := hD_13.grow (ρ2 := (13, 93, N + 13)) (e2 := eA 0 4 (fun _ => 0)) (Nat.le_succ _)
  have hE_14 := hE_13.grow (ρ2 := (13, 93, N + 13)) (e2 := eA 0 4 (fun _ => 0)) (Nat.le_succ _)
  have hF_14 : Hd (13, 93, N + 13) (va_up (va_up (va_up (va_up (va_up (va_up h3 q (eO 8 [vN, vN, vR N, vR (N + 2), vR (N + 4), vN, vN, vN, vJ 0])) (N + 10) (eA 0 20 (fun _ => 0))) q (eO 8 [vN, vN, vR N, vR (N + 2), vR (N + 4), vR (N + 10), vN, vN, vJ 0])) (N + 11) (eA 0 4 (fun _ => 0))) q (eO 8 [vN, vN, vR N, vR (N + 2), vR (N + 4), vR (N + 10), vR (N + 11), vN, vJ 0])) (N + 12) (eA 0 4 (fun _ => 0))) (N + 12) (eA 0 4 (fun _ => 0)) := Hd.fresh (Nat.lt_succ_self _)
  show G mX8_init _ 56 [(0, vR q), (1, vR pw), (2, vR ps)] [vR (N + 12), vR q] (13, 93, N + 13) (va_up (va_up (va_up (va_up (va_up (va_up h3 q (eO 8 [vN, vN, vR N, vR (N + 2), vR (N + 4), vN, vN, vN, vJ 0])) (N + 10) (eA 0 20 (fun _ => 0))) q (eO 8 [vN, vN, vR N, vR (N + 2), vR (N + 4), vR (N + 10), vN, vN, vJ 0])) (N + 11) (eA 0 4 (fun _ => 0))) q (eO 8 [vN, vN, vR N, vR (N + 2), vR (N + 4), vR (N + 10), vR (N + 11), vN, vJ 0])) (N + 12) (eA 0 4 (fun _ => 0))) _
  refine g_putF (pc := 56) fpX8_37 dX8_init_56 rfl hq_14 (okv_arr _ _) (Nat.le_of_ble_eq_true rfl) ?_
  have hq_15 := hq_14.self (e := eO 8 [vN, vN, vR N, vR (N + 2), vR (N + 4), vR (N + 10), vR (N + 11), vR (N + 12), vJ 0])
  have hA_15 := hA_14.ne (e := eO 8 [vN, vN, vR N, vR (N + 2), vR (N + 4), vR (N + 10), vR (N + 11), vR (N + 12), vJ 0]) (a := q) (by omega)
  have hB_15 := hB_14.ne (e := eO 8 [vN, vN, vR N, vR (N + 2), vR (N + 4), vR (N + 10), vR (N + 11), vR (N + 12), vJ 0]) (a := q) (by omega)
  have hC_15 := hC_14.ne (e := eO 8 [vN, vN, vR N, vR (N + 2), vR (N + 4), vR (N + 10), vR (N + 11), vR (N + 12), vJ 0]) (a := q) (by omega)
  have hD_15 := hD_14.ne (e := eO 8 [vN, vN, vR N, vR (N + 2), vR (N + 4), vR (N + 10), vR (N + 11), vR (N + 12), vJ 0]) (a := q) (by omega)
  have hE_15 := hE_14.ne (e := eO 8 [vN, vN, vR N, vR (N + 2), vR (N + 4), vR (N + 10), vR (N + 11), vR (N + 12), vJ 0]) (a := q) (by omega)
  have hF_15 := hF_14.ne (e := eO 8 [vN, vN, vR N, vR (N + 2), vR (N + 4), vR (N + 10), vR (N + 11), vR (N + 12), vJ 0]) (a := q) (by omega)
  refine g_aload_n (pc := 59) (r := .inl (some q)) dX8_init_59 rfl ?_
  refine g_aload_n (pc := 60) (r := .inl (some pw)) dX8_init_60 rfl ?_
  refine g_putF (pc := 61) fpX8_40 dX8_init_61 rfl hq_15 (okv_obj _ _) (Nat.le_of_ble_eq_true rfl) ?_
  have hq_16 := hq_15.self (e := eO 8 [vR pw, vN, vR N, vR (N + 2), vR (N + 4), vR (N + 10), vR (N + 11), vR (N + 12), vJ 0])
  have hA_16 := hA_15.ne (e := eO 8 [vR pw, vN, vR N, vR (N + 2), vR (N + 4), vR (N + 10), vR (N + 11), vR (N + 12), vJ 0]) (a := q) (by omega)
  have hB_16 := hB_15.ne (e := eO 8 [vR pw, vN, vR N, vR (N + 2), vR (N + 4), vR (N + 10), vR (N + 11), vR (N + 12), vJ 0]) (a := q) (by omega)
  have hC_16 := hC_15.ne (e := eO 8 [vR pw, vN, vR N, vR (N + 2), vR (N + 4), vR (N + 10), vR (N + 11), vR (N + 12), vJ 0]) (a := q) (by omega)
  have hD_16 := hD_15.ne (e := eO 8 [vR pw, vN, vR N, vR (N + 2), vR (N + 4), vR (N + 10), vR (N + 11), vR (N + 12), vJ 0]) (a := q) (by omega)
  have hE_16 := hE_15.ne (e := eO 8 [vR pw, vN, vR N, vR (N + 2), vR (N + 4), vR (N + 10), vR (N + 11), vR (N + 12), vJ 0]) (a := q) (by omega)
  have hF_16 := hF_15.ne (e := eO 8 [vR pw, vN, vR N, vR (N + 2), vR (N + 4), vR (N + 10), vR (N + 11), vR (N + 12), vJ 0]) (a := q) (by omega)
  refine g_aload_n (pc := 64) (r := .inl (some q)) dX8_init_64 rfl ?_
  refine g_aload_n (pc := 65) (r := .inl (some ps)) dX8_init_65 rfl ?_
  refine g_putF (pc := 66) fpX8_44 dX8_init_66 rfl hq_16 (okv_arr _ _) (Nat.le_of_ble_eq_true rfl) ?_
  have hq_17 := hq_16.self (e := eO 8 [vR pw, vR ps, vR N, vR (N + 2), vR (N + 4), vR (N + 10), vR (N + 11), vR (N + 12), vJ 0])
  have hA_17 := hA_16.ne (e := eO 8 [vR pw, vR ps, vR N, vR (N + 2), vR (N + 4), vR (N + 10), vR (N + 11), vR (N + 12), vJ 0]) (a := q) (by omega)
  have hB_17 := hB_16.ne (e := eO 8 [vR pw, vR ps, vR N, vR (N + 2), vR (N + 4), vR (N + 10), vR (N + 11), vR (N + 12), vJ 0]) (a := q) (by omega)
  have hC_17 := hC_16.ne (e := eO 8 [vR pw, vR ps, vR N, vR (N + 2), vR (N + 4), vR (N + 10), vR (N + 11), vR (N + 12), vJ 0]) (a := q) (by omega)
  have hD_17 := hD_16.ne (e := eO 8 [vR pw, vR ps, vR N, vR (N + 2), vR (N + 4), vR (N + 10), vR (N + 11), vR (N + 12), vJ 0]) (a := q) (by omega)
  have hE_17 := hE_16.ne (e := eO 8 [vR pw, vR ps, vR N, vR (N + 2), vR (N + 4), vR (N + 10), vR (N + 11), vR (N + 12), vJ 0]) (a := q) (by omega)
  have hF_17 := hF_16.ne (e := eO 8 [vR pw, vR ps, vR N, vR (N + 2), vR (N + 4), vR (N + 10), vR (N + 11), vR (N + 12), vJ 0]) (a := q) (by omega)
  exact r_void (pc := 69) dX8_init_69 rfl rfl (Nat.le_refl _) ⟨rfl, va_up_self _ _ _, hA_17.2, (va_up_ne _ _ (by omega)).trans ((va_up_ne _ _ (by omega)).trans ((va_up_ne _ _ (by omega)).trans ((va_up_ne _ _ (by omega)).trans ((va_up_ne _ _ (by omega)).trans ((va_up_ne _ _ (by omega)).trans ((va_up_ne _ _ (by omega)).trans ((va_up_ne _ _ (by omega)).trans ((va_up_ne _ _ (by omega)).trans ((c4 _ (by omega) (by omega)).trans ((va_up_ne _ _ (by omega)).trans ((va_up_ne _ _ (by omega)).trans ((b3 _ (by omega) (by omega)).trans ((va_up_ne _ _ (by omega)).trans ((va_up_ne _ _ (by omega)).trans (a2))))))))))))))), hB_17.2, (va_up_ne _ _ (by omega)).trans ((va_up_ne _ _ (by omega)).trans ((va_up_ne _ _ (by omega)).trans ((va_up_ne _ _ (by omega)).trans ((va_up_ne _ _ (by omega)).trans ((va_up_ne _ _ (by omega)).trans ((va_up_ne _ _ (by omega)).trans ((va_up_ne _ _ (by omega)).trans ((va_up_ne _ _ (by omega)).trans ((c4 _ (by omega) (by omega)).trans ((va_up_ne _ _ (by omega)).trans ((va_up_ne _ _ (by omega)).trans (b2)))))))))))), hC_17.2, (va_up_ne _ _ (by omega)).trans ((va_up_ne _ _ (by omega)).trans ((va_up_ne _ _ (by omega)).trans ((va_up_ne _ _ (by omega)).trans ((va_up_ne _ _ (by omega)).trans ((va_up_ne _ _ (by omega)).trans ((va_up_ne _ _ (by omega)).trans ((va_up_ne _ _ (by omega)).trans ((va_up_ne _ _ (by omega)).trans (c2))))))))), fun i hi => (va_up_ne _ _ (by omega)).trans ((va_up_ne _ _ (by omega)).trans ((va_up_ne _ _ (by omega)).trans ((va_up_ne _ _ (by omega)).trans ((va_up_ne _ _ (by omega)).trans ((va_up_ne _ _ (by omega)).trans ((va_up_ne _ _ (by omega)).trans ((va_up_ne _ _ (by omega)).trans ((va_up_ne _ _ (by omega)).trans (c3 i hi))))))))), hD_17.2, hE_17.2, hF_17.2, fun b z1 z2 => (va_up_ne _ _ (by omega)).trans ((va_up_ne _ _ (by omega)).trans ((va_up_ne _ _ (by omega)).trans ((va_up_ne _ _ (by omega)).trans ((va_up_ne _ _ (by omega)).trans ((va_up_ne _ _ (by omega)).trans ((va_up_ne _ _ (by omega)).trans ((va_up_ne _ _ (by omega)).trans ((va_up_ne _ _ (by omega)).trans ((c4 _ (by omega) (by omega)).trans ((va_up_ne _ _ (by omega)).trans ((va_up_ne _ _ (by omega)).trans ((b3 _ (by omega) (by omega)).trans ((va_up_ne _ _ (by omega)).trans ((va_up_ne _ _ (by omega)).trans ((a3 _ (by omega) (by omega)).trans (va_up_ne _ _ (by omega)))))))))))))))))⟩
