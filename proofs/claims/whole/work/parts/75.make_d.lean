/-! ===== constructor: Mill ===== -/
theorem c_newMill {N d q : Nat} {h : MH} (hq : Hd (0, 0, N) h q (eO 1 [vI 0, vI 0, vI 0, vI 0, vN, vN, vN, vN, vN, vN])) : Ok mX1_init (d + 3) 92 5585 [vR q] N h (fun r h2 => r = none ∧ h2 q = eO 1 [vI 0, vI 0, vI 0, vI 0, vR N, vR (N + 11), vR (N + 78), vR (N + 1), vR (N + 4), vR (N + 6)] ∧ h2 N = eA 0 4 (fun _ => 0) ∧ h2 (N + 1) = eO 2 [vR (N + 2), vI 0, vR (N + 3), vI 0] ∧ h2 (N + 2) = eA 0 4 (fun _ => 0) ∧ h2 (N + 3) = eA 0 4 (fun _ => 0) ∧ h2 (N + 4) = eO 5 [vR (N + 5), vI 0] ∧ h2 (N + 5) = eA 0 4096 (fun _ => 0) ∧ h2 (N + 6) = eQ 5 4 (rwF (N + 7) 4) ∧ (∀ i, i < 4 → h2 (N + 7 + i) = eO 4 [vI 0, vI 1, vI 0]) ∧ h2 (N + 11) = eO 6 [vR (N + 12), vR (N + 76), vR (N + 77), vI 1, vI 1, vI 1] ∧ h2 (N + 12) = eQ 6 63 (rwF (N + 12 + 1) 63) ∧ (∀ i, i < 63 → h2 (N + 12 + 1 + i) = eA 0 20 (fun _ => 0)) ∧ h2 (N + 76) = eA 0 20 (fun _ => 0) ∧ h2 (N + 77) = eA 0 4 (fun _ => 0) ∧ h2 (N + 78) = eO 8 [vR (N + 11), vR (N + 6), vR (N + 79), vR (N + 81), vR (N + 83), vR (N + 89), vR (N + 90), vR (N + 91), vJ 0] ∧ h2 (N + 79) = eO 7 [vR (N + 80), vI 0] ∧ h2 (N + 80) = eA 0 16 (fun _ => 0) ∧ h2 (N + 81) = eO 7 [vR (N + 82), vI 0] ∧ h2 (N + 82) = eA 0 16 (fun _ => 0) ∧ h2 (N + 83) = eO 0 [vR (N + 84), vI 0, vI 0, vI 0, vI 0] ∧ h2 (N + 84) = eQ 6 4 (rwF (N + 84 + 1) 4) ∧ (∀ i, i < 4 → h2 (N + 84 + 1 + i) = eA 0 5 (fun _ => 0)) ∧ h2 (N + 89) = eA 0 20 (fun _ => 0) ∧ h2 (N + 90) = eA 0 4 (fun _ => 0) ∧ h2 (N + 91) = eA 0 4 (fun _ => 0) ∧ ∀ b, b ≠ q → (b < N ∨ N + 91 < b) → h2 b = h b) := by
  refine Ok.of pfX1_init rfl (Nat.le_of_ble_eq_true rfl) (fun Ls sx => ?_)
  show G mX1_init (d + 3, 92, 5585, Ls, sx) 0 [(0, vR q)] [] (0, 0, N) h _
  have q1 := hq.1
  dsimp only at q1
  refine g_aload_n (pc := 0) (r := .inl (some q)) dX1_init_0 rfl ?_
  refine g_oinit (pc := 1) oiX1_3 dX1_init_1 (by omega) (Nat.le_of_ble_eq_true rfl) ?_
  refine g_aload_n (pc := 4) (r := .inl (some q)) dX1_init_4 rfl ?_
  refine g_iconst (pc := 5) dX1_init_5 ?_
  refine g_newI (pc := 6) (n := 4) rfl (by omega) ac_int dX1_init_6 (by show (0 : Nat) + 1 ≤ 92; decide) (by show (0 : Nat) + 4 ≤ 5585; decide) ?_
  have hq_1 := hq.grow (ρ2 := (1, 4, N + 1)) (e2 := eA 0 4 (fun _ => 0)) (Nat.le_succ _)
  have hA_1 : Hd (1, 4, N + 1) (va_up h N (eA 0 4 (fun _ => 0))) N (eA 0 4 (fun _ => 0)) := Hd.fresh (Nat.lt_succ_self _)
  show G mX1_init _ 8 [(0, vR q)] [vR N, vR q] (1, 4, N + 1) (va_up h N (eA 0 4 (fun _ => 0))) _
  refine g_putF (pc := 8) fpX1_9 dX1_init_8 rfl hq_1 (okv_arr _ _) (Nat.le_of_ble_eq_true rfl) ?_
  have hq_2 := hq_1.self (e := eO 1 [vI 0, vI 0, vI 0, vI 0, vR N, vN, vN, vN, vN, vN])
  have hA_2 := hA_1.ne (e := eO 1 [vI 0, vI 0, vI 0, vI 0, vR N, vN, vN, vN, vN, vN]) (a := q) (by omega)
  refine g_aload_n (pc := 11) (r := .inl (some q)) dX1_init_11 rfl ?_
  refine g_new (pc := 12) nwX1_15 dX1_init_12 (by show (1 : Nat) + 1 ≤ 92; decide) (by show (4 : Nat) + 4 ≤ 5585; decide) ?_
  have hq_3 := hq_2.grow (ρ2 := (2, 8, N + 2)) (e2 := eO 2 [vN, vI 0, vN, vI 0]) (Nat.le_succ _)
  have hA_3 := hA_2.grow (ρ2 := (2, 8, N + 2)) (e2 := eO 2 [vN, vI 0, vN, vI 0]) (Nat.le_succ _)
  have hB_3 : Hd (2, 8, N + 2) (va_up (va_up (va_up h N (eA 0 4 (fun _ => 0))) q (eO 1 [vI 0, vI 0, vI 0, vI 0, vR N, vN, vN, vN, vN, vN])) (N + 1) (eO 2 [vN, vI 0, vN, vI 0])) (N + 1) (eO 2 [vN, vI 0, vN, vI 0]) := Hd.fresh (Nat.lt_succ_self _)
  show G mX1_init _ 15 [(0, vR q)] [vR (N + 1), vR q] (2, 8, N + 2) (va_up (va_up (va_up h N (eA 0 4 (fun _ => 0))) q (eO 1 [vI 0, vI 0, vI 0, vI 0, vR N, vN, vN, vN, vN, vN])) (N + 1) (eO 2 [vN, vI 0, vN, vI 0])) _
  refine g_dup (pc := 15) dX1_init_15 rfl ?_
  refine g_callI (pc := 16) (as := []) (b := N + 1) (st := [vR (N + 1), vR q]) (mc := 2) (ms := 8) liX1_17 dX1_init_16 (Nat.le_of_ble_eq_true rfl) (by omega) (by show (2 : Nat) + 2 ≤ 92; decide) (by show (8 : Nat) + 8 ≤ 5585; decide) (c_newNet (d := d + 1) hB_3) ?_
  rintro r h1 ⟨rfl, a1, a2, a3, a4⟩
  try dsimp only at a1 a2 a3 a4
  have hq_4 := hq_3.mv (ρ2 := (4, 16, N + 4)) (by show _ ≤ N + 4; dsimp only; omega) (a4 _ (by omega) (by omega) (by omega))
  have hA_4 := hA_3.mv (ρ2 := (4, 16, N + 4)) (by show _ ≤ N + 4; dsimp only; omega) (a4 _ (by omega) (by omega) (by omega))
  have hB_4 := hB_3.mvto (ρ2 := (4, 16, N + 4)) (by show _ ≤ N + 4; dsimp only; omega) a1
  show G mX1_init _ 19 [(0, vR q)] [vR (N + 1), vR q] (4, 16, N + 4) h1 _
  have hC_0 : Hd (4, 16, N + 4) h1 (N + 2) (eA 0 4 (fun _ => 0)) := ⟨(by show _ < N + 4; omega), a2⟩
  have hD_0 : Hd (4, 16, N + 4) h1 (N + 3) (eA 0 4 (fun _ => 0)) := ⟨(by show _ < N + 4; omega), a3⟩
  refine g_putF (pc := 19) fpX1_18 dX1_init_19 rfl hq_4 (okv_obj _ _) (Nat.le_of_ble_eq_true rfl) ?_
  have hq_5 := hq_4.self (e := eO 1 [vI 0, vI 0, vI 0, vI 0, vR N, vN, vN, vR (N + 1), vN, vN])
  have hA_5 := hA_4.ne (e := eO 1 [vI 0, vI 0, vI 0, vI 0, vR N, vN, vN, vR (N + 1), vN, vN]) (a := q) (by omega)
  have hB_5 := hB_4.ne (e := eO 1 [vI 0, vI 0, vI 0, vI 0, vR N, vN, vN, vR (N + 1), vN, vN]) (a := q) (by omega)
  have hC_5 := hC_0.ne (e := eO 1 [vI 0, vI 0, vI 0, vI 0, vR N, vN, vN, vR (N + 1), vN, vN]) (a := q) (by omega)
  have hD_5 := hD_0.ne (e := eO 1 [vI 0, vI 0, vI 0, vI 0, vR N, vN, vN, vR (N + 1), vN, vN]) (a := q) (by omega)
  refine g_aload_n (pc := 22) (r := .inl (some q)) dX1_init_22 rfl ?_
  refine g_new (pc := 23) nwX1_22 dX1_init_23 (by show (4 : Nat) + 1 ≤ 92; decide) (by show (16 : Nat) + 2 ≤ 5585; decide) ?_
  have hq_6 := hq_5.grow (ρ2 := (5, 18, N + 5)) (e2 := eO 5 [vN, vI 0]) (Nat.le_succ _)
  have hA_6 := hA_5.grow (ρ2 := (5, 18, N + 5)) (e2 := eO 5 [vN, vI 0]) (Nat.le_succ _)
  have hB_6 := hB_5.grow (ρ2 := (5, 18, N + 5)) (e2 := eO 5 [vN, vI 0]) (Nat.le_succ _)
  have hC_6 := hC_5.grow (ρ2 := (5, 18, N + 5)) (e2 := eO 5 [vN, vI 0]) (Nat.le_succ _)
  have hD_6 := hD_5.grow (ρ2 := (5, 18, N + 5)) (e2 := eO 5 [vN, vI 0]) (Nat.le_succ _)
  have hE_6 : Hd (5, 18, N + 5) (va_up (va_up h1 q (eO 1 [vI 0, vI 0, vI 0, vI 0, vR N, vN, vN, vR (N + 1), vN, vN])) (N + 4) (eO 5 [vN, vI 0])) (N + 4) (eO 5 [vN, vI 0]) := Hd.fresh (Nat.lt_succ_self _)
  show G mX1_init _ 26 [(0, vR q)] [vR (N + 4), vR q] (5, 18, N + 5) (va_up (va_up h1 q (eO 1 [vI 0, vI 0, vI 0, vI 0, vR N, vN, vN, vR (N + 1), vN, vN])) (N + 4) (eO 5 [vN, vI 0])) _
  refine g_dup (pc := 26) dX1_init_26 rfl ?_
  refine g_callI (pc := 27) (as := []) (b := N + 4) (st := [vR (N + 4), vR q]) (mc := 1) (ms := 4096) liX1_24 dX1_init_27 (Nat.le_of_ble_eq_true rfl) (by omega) (by show (5 : Nat) + 1 ≤ 92; decide) (by show (18 : Nat) + 4096 ≤ 5585; decide) (c_newPicture (d := d + 1) hE_6) ?_
  rintro r h3 ⟨rfl, b1, b2, b3⟩
  try dsimp only at b1 b2 b3
  have hq_7 := hq_6.mv (ρ2 := (6, 4114, N + 6)) (by show _ ≤ N + 6; dsimp only; omega) (b3 _ (by omega) (by omega))
  have hA_7 := hA_6.mv (ρ2 := (6, 4114, N + 6)) (by show _ ≤ N + 6; dsimp only; omega) (b3 _ (by omega) (by omega))
  have hB_7 := hB_6.mv (ρ2 := (6, 4114, N + 6)) (by show _ ≤ N + 6; dsimp only; omega) (b3 _ (by omega) (by omega))
  have hC_7 := hC_6.mv (ρ2 := (6, 4114, N + 6)) (by show _ ≤ N + 6; dsimp only; omega) (b3 _ (by omega) (by omega))
  have hD_7 := hD_6.mv (ρ2 := (6, 4114, N + 6)) (by show _ ≤ N + 6; dsimp only; omega) (b3 _ (by omega) (by omega))
  have hE_7 := hE_6.mvto (ρ2 := (6, 4114, N + 6)) (by show _ ≤ N + 6; dsimp only; omega) b1
  show G mX1_init _ 30 [(0, vR q)] [vR (N + 4), vR q] (6, 4114, N + 6) h3 _
  have hF_0 : Hd (6, 4114, N + 6) h3 (N + 5) (eA 0 4096 (fun _ => 0)) := ⟨(by show _ < N + 6; omega), b2⟩
  refine g_putF (pc := 30) fpX1_25 dX1_init_30 rfl hq_7 (okv_obj _ _) (Nat.le_of_ble_eq_true rfl) ?_
  have hq_8 := hq_7.self (e := eO 1 [vI 0, vI 0, vI 0, vI 0, vR N, vN, vN, vR (N + 1), vR (N + 4), vN])
  have hA_8 := hA_7.ne (e := eO 1 [vI 0, vI 0, vI 0, vI 0, vR N, vN, vN, vR (N + 1), vR (N + 4), vN]) (a := q) (by omega)
  have hB_8 := hB_7.ne (e := eO 1 [vI 0, vI 0, vI 0, vI 0, vR N, vN, vN, vR (N + 1), vR (N + 4), vN]) (a := q) (by omega)
  have hC_8 := hC_7.ne (e := eO 1 [vI 0, vI 0, vI 0, vI 0, vR N, vN, vN, vR (N + 1), vR (N + 4), vN]) (a := q) (by omega)
  have hD_8 := hD_7.ne (e := eO 1 [vI 0, vI 0, vI 0, vI 0, vR N, vN, vN, vR (N + 1), vR (N + 4), vN]) (a := q) (by omega)
  have hE_8 := hE_7.ne (e := eO 1 [vI 0, vI 0, vI 0, vI 0, vR N, vN, vN, vR (N + 1), vR (N + 4), vN]) (a := q) (by omega)
  have hF_8 := hF_0.ne (e := eO 1 [vI 0, vI 0, vI 0, vI 0, vR N, vN, vN, vR (N + 1), vR (N + 4), vN]) (a := q) (by omega)
  refine g_aload_n (pc := 33) (r := .inl (some q)) dX1_init_33 rfl ?_
  refine g_iconst (pc := 34) dX1_init_34 ?_
  refine g_newq (pc := 35) (kq := 5) (C := "RoundMill$Part") (n := 4) rfl (by omega) (Or.inr ⟨rfl, rfl⟩) kaX1_29 dX1_init_35 (by show (6 : Nat) + 1 ≤ 92; decide) (by show (4114 : Nat) + 4 ≤ 5585; decide) ?_
  have hq_9 := hq_8.grow (ρ2 := (7, 4118, N + 7)) (e2 := eQ 5 4 (fun _ => none)) (Nat.le_succ _)
  have hA_9 := hA_8.grow (ρ2 := (7, 4118, N + 7)) (e2 := eQ 5 4 (fun _ => none)) (Nat.le_succ _)
  have hB_9 := hB_8.grow (ρ2 := (7, 4118, N + 7)) (e2 := eQ 5 4 (fun _ => none)) (Nat.le_succ _)
  have hC_9 := hC_8.grow (ρ2 := (7, 4118, N + 7)) (e2 := eQ 5 4 (fun _ => none)) (Nat.le_succ _)
  have hD_9 := hD_8.grow (ρ2 := (7, 4118, N + 7)) (e2 := eQ 5 4 (fun _ => none)) (Nat.le_succ _)
  have hE_9 := hE_8.grow (ρ2 := (7, 4118, N + 7)) (e2 := eQ 5 4 (fun _ => none)) (Nat.le_succ _)
  have hF_9 := hF_8.grow (ρ2 := (7, 4118, N + 7)) (e2 := eQ 5 4 (fun _ => none)) (Nat.le_succ _)
  have hG_9 : Hd (7, 4118, N + 7) (va_up (va_up h3 q (eO 1 [vI 0, vI 0, vI 0, vI 0, vR N, vN, vN, vR (N + 1), vR (N + 4), vN])) (N + 6) (eQ 5 4 (fun _ => none))) (N + 6) (eQ 5 4 (fun _ => none)) := Hd.fresh (Nat.lt_succ_self _)
  show G mX1_init _ 38 [(0, vR q)] [vR (N + 6), vR q] (7, 4118, N + 7) (va_up (va_up h3 q (eO 1 [vI 0, vI 0, vI 0, vI 0, vR N, vN, vN, vR (N + 1), vR (N + 4), vN])) (N + 6) (eQ 5 4 (fun _ => none))) _
  refine g_putF (pc := 38) fpX1_31 dX1_init_38 rfl hq_9 (okv_arr _ _) (Nat.le_of_ble_eq_true rfl) ?_
  have hq_10 := hq_9.self (e := eO 1 [vI 0, vI 0, vI 0, vI 0, vR N, vN, vN, vR (N + 1), vR (N + 4), vR (N + 6)])
  have hA_10 := hA_9.ne (e := eO 1 [vI 0, vI 0, vI 0, vI 0, vR N, vN, vN, vR (N + 1), vR (N + 4), vR (N + 6)]) (a := q) (by omega)
  have hB_10 := hB_9.ne (e := eO 1 [vI 0, vI 0, vI 0, vI 0, vR N, vN, vN, vR (N + 1), vR (N + 4), vR (N + 6)]) (a := q) (by omega)
  have hC_10 := hC_9.ne (e := eO 1 [vI 0, vI 0, vI 0, vI 0, vR N, vN, vN, vR (N + 1), vR (N + 4), vR (N + 6)]) (a := q) (by omega)
  have hD_10 := hD_9.ne (e := eO 1 [vI 0, vI 0, vI 0, vI 0, vR N, vN, vN, vR (N + 1), vR (N + 4), vR (N + 6)]) (a := q) (by omega)
  have hE_10 := hE_9.ne (e := eO 1 [vI 0, vI 0, vI 0, vI 0, vR N, vN, vN, vR (N + 1), vR (N + 4), vR (N + 6)]) (a := q) (by omega)
  have hF_10 := hF_9.ne (e := eO 1 [vI 0, vI 0, vI 0, vI 0, vR N, vN, vN, vR (N + 1), vR (N + 4), vR (N + 6)]) (a := q) (by omega)
  have hG_10 := hG_9.ne (e := eO 1 [vI 0, vI 0, vI 0, vI 0, vR N, vN, vN, vR (N + 1), vR (N + 4), vR (N + 6)]) (a := q) (by omega)
  refine g_iconst (pc := 41) dX1_init_41 ?_
  refine g_istore_n (pc := 42) (lo2 := [(0, vR q), (1, vI 0)]) dX1_init_42 (by decide) rfl ?_
  refine g_iload_n (pc := 43) (x := 0) dX1_init_43 rfl ?_
  refine g_aload_n (pc := 44) (r := .inl (some q)) dX1_init_44 rfl ?_
  refine g_getf (pc := 45) (v := vR (N + 6)) flX1_31 dX1_init_45 hq_10 rfl ?_
  refine g_qlen (pc := 48) dX1_init_48 hG_10 (by decide) ?_
  refine g_icmp_geF (pc := 49) (tgt := 71) dX1_init_49 (by decide) (by omega) (by omega) (by omega) ?_
  refine g_aload_n (pc := 52) (r := .inl (some q)) dX1_init_52 rfl ?_
  refine g_getf (pc := 53) (v := vR (N + 6)) flX1_31 dX1_init_53 hq_10 rfl ?_
  refine g_iload_n (pc := 56) (x := 0) dX1_init_56 rfl ?_
  refine g_new (pc := 57) nwX1_29 dX1_init_57 (by show (7 : Nat) + 1 ≤ 92; decide) (by show (4118 : Nat) + 3 ≤ 5585; decide) ?_
  have hq_11 := hq_10.grow (ρ2 := (8, 4121, N + 8)) (e2 := eO 4 [vI 0, vI 0, vI 0]) (Nat.le_succ _)
  have hA_11 := hA_10.grow (ρ2 := (8, 4121, N + 8)) (e2 := eO 4 [vI 0, vI 0, vI 0]) (Nat.le_succ _)
  have hB_11 := hB_10.grow (ρ2 := (8, 4121, N + 8)) (e2 := eO 4 [vI 0, vI 0, vI 0]) (Nat.le_succ _)
  have hC_11 := hC_10.grow (ρ2 := (8, 4121, N + 8)) (e2 := eO 4 [vI 0, vI 0, vI 0]) (Nat.le_succ _)
  have hD_11 := hD_10.grow (ρ2 := (8, 4121, N + 8)) (e2 := eO 4 [vI 0, vI 0, vI 0]) (Nat.le_succ _)
  have hE_11 := hE_10.grow (ρ2 := (8, 4121, N + 8)) (e2 := eO 4 [vI 0, vI 0, vI 0]) (Nat.le_succ _)
  have hF_11 := hF_10.grow (ρ2 := (8, 4121, N + 8)) (e2 := eO 4 [vI 0, vI 0, vI 0]) (Nat.le_succ _)
  have hG_11 := hG_10.grow (ρ2 := (8, 4121, N + 8)) (e2 := eO 4 [vI 0, vI 0, vI 0]) (Nat.le_succ _)
  have hP0_11 : Hd (8, 4121, N + 8) (va_up (va_up (va_up (va_up h3 q (eO 1 [vI 0, vI 0, vI 0, vI 0, vR N, vN, vN, vR (N + 1), vR (N + 4), vN])) (N + 6) (eQ 5 4 (fun _ => none))) q (eO 1 [vI 0, vI 0, vI 0, vI 0, vR N, vN, vN, vR (N + 1), vR (N + 4), vR (N + 6)])) (N + 7) (eO 4 [vI 0, vI 0, vI 0])) (N + 7) (eO 4 [vI 0, vI 0, vI 0]) := Hd.fresh (Nat.lt_succ_self _)
  show G mX1_init _ 60 [(0, vR q), (1, vI 0)] [vR (N + 7), vI 0, vR (N + 6)] (8, 4121, N + 8) (va_up (va_up (va_up (va_up h3 q (eO 1 [vI 0, vI 0, vI 0, vI 0, vR N, vN, vN, vR (N + 1), vR (N + 4), vN])) (N + 6) (eQ 5 4 (fun _ => none))) q (eO 1 [vI 0, vI 0, vI 0, vI 0, vR N, vN, vN, vR (N + 1), vR (N + 4), vR (N + 6)])) (N + 7) (eO 4 [vI 0, vI 0, vI 0])) _
  refine g_dup (pc := 60) dX1_init_60 rfl ?_
  refine g_callI (pc := 61) (as := []) (b := N + 7) (st := [vR (N + 7), vI 0, vR (N + 6)]) (mc := 0) (ms := 0) liX1_35 dX1_init_61 (Nat.le_of_ble_eq_true rfl) (by omega) (by show (8 : Nat) + 0 ≤ 92; decide) (by show (4121 : Nat) + 0 ≤ 5585; decide) (c_newPart (d := d + 1) hP0_11) ?_
  rintro r hh0 ⟨rfl, x0, y0⟩
  try dsimp only at x0 y0
  have hq_12 := hq_11.mv (ρ2 := (8, 4121, N + 8)) (by show _ ≤ N + 8; dsimp only; omega) (y0 _ (by omega))
  have hA_12 := hA_11.mv (ρ2 := (8, 4121, N + 8)) (by show _ ≤ N + 8; dsimp only; omega) (y0 _ (by omega))
  have hB_12 := hB_11.mv (ρ2 := (8, 4121, N + 8)) (by show _ ≤ N + 8; dsimp only; omega) (y0 _ (by omega))
  have hC_12 := hC_11.mv (ρ2 := (8, 4121, N + 8)) (by show _ ≤ N + 8; dsimp only; omega) (y0 _ (by omega))
  have hD_12 := hD_11.mv (ρ2 := (8, 4121, N + 8)) (by show _ ≤ N + 8; dsimp only; omega) (y0 _ (by omega))
  have hE_12 := hE_11.mv (ρ2 := (8, 4121, N + 8)) (by show _ ≤ N + 8; dsimp only; omega) (y0 _ (by omega))
  have hF_12 := hF_11.mv (ρ2 := (8, 4121, N + 8)) (by show _ ≤ N + 8; dsimp only; omega) (y0 _ (by omega))
  have hG_12 := hG_11.mv (ρ2 := (8, 4121, N + 8)) (by show _ ≤ N + 8; dsimp only; omega) (y0 _ (by omega))
  have hP0_12 := hP0_11.mvto (ρ2 := (8, 4121, N + 8)) (by show _ ≤ N + 8; dsimp only; omega) x0
  show G mX1_init _ 64 [(0, vR q), (1, vI 0)] [vR (N + 7), vI 0, vR (N + 6)] (8, 4121, N + 8) hh0 _
  refine g_aastN (pc := 64) (j := 0) dX1_init_64 hG_12 (Or.inr (Or.inl ⟨rfl, _, hP0_12⟩)) (by omega) (by omega) (by omega) ?_
  have hq_13 := hq_12.ne (e := eQ 5 4 (va_up (fun _ => none) 0 (some (N + 7)))) (a := N + 6) (by omega)
  have hA_13 := hA_12.ne (e := eQ 5 4 (va_up (fun _ => none) 0 (some (N + 7)))) (a := N + 6) (by omega)
  have hB_13 := hB_12.ne (e := eQ 5 4 (va_up (fun _ => none) 0 (some (N + 7)))) (a := N + 6) (by omega)
  have hC_13 := hC_12.ne (e := eQ 5 4 (va_up (fun _ => none) 0 (some (N + 7)))) (a := N + 6) (by omega)
  have hD_13 := hD_12.ne (e := eQ 5 4 (va_up (fun _ => none) 0 (some (N + 7)))) (a := N + 6) (by omega)
  have hE_13 := hE_12.ne (e := eQ 5 4 (va_up (fun _ => none) 0 (some (N + 7)))) (a := N + 6) (by omega)
  have hF_13 := hF_12.ne (e := eQ 5 4 (va_up (fun _ => none) 0 (some (N + 7)))) (a := N + 6) (by omega)
  have hG_13 := hG_12.self (e := eQ 5 4 (va_up (fun _ => none) 0 (some (N + 7))))
  have hP0_13 := hP0_12.ne (e := eQ 5 4 (va_up (fun _ => none) 0 (some (N + 7)))) (a := N + 6) (by omega)
  refine g_iinc (pc := 65) (x := 0) (lo2 := [(0, vR q), (1, vI (0 + 1))]) dX1_init_65 rfl (by decide) rfl ?_
  refine g_goto (pc := 68) (tgt := 43) dX1_init_68 (by decide) ?_
  refine g_iload_n (pc := 43) (x := 0 + 1) dX1_init_43 rfl ?_
  refine g_aload_n (pc := 44) (r := .inl (some q)) dX1_init_44 rfl ?_
  refine g_getf (pc := 45) (v := vR (N + 6)) flX1_31 dX1_init_45 hq_13 rfl ?_
  refine g_qlen (pc := 48) dX1_init_48 hG_13 (by decide) ?_
  refine g_icmp_geF (pc := 49) (tgt := 71) dX1_init_49 (by decide) (by omega) (by omega) (by omega) ?_
  refine g_aload_n (pc := 52) (r := .inl (some q)) dX1_init_52 rfl ?_
  refine g_getf (pc := 53) (v := vR (N + 6)) flX1_31 dX1_init_53 hq_13 rfl ?_
  refine g_iload_n (pc := 56) (x := 0 + 1) dX1_init_56 rfl ?_
  refine g_new (pc := 57) nwX1_29 dX1_init_57 (by show (8 : Nat) + 1 ≤ 92; decide) (by show (4121 : Nat) + 3 ≤ 5585; decide) ?_
  have hq_14 := hq_13.grow (ρ2 := (9, 4124, N + 9)) (e2 := eO 4 [vI 0, vI 0, vI 0]) (Nat.le_succ _)
  have hA_14 := hA_13.grow (ρ2 := (9, 4124, N + 9)) (e2 := eO 4 [vI 0, vI 0, vI 0]) (Nat.le_succ _)
  have hB_14 := hB_13.grow (ρ2 := (9, 4124, N + 9)) (e2 := eO 4 [vI 0, vI 0, vI 0]) (Nat.le_succ _)
  have hC_14 := hC_13.grow (ρ2 := (9, 4124, N + 9)) (e2 := eO 4 [vI 0, vI 0, vI 0]) (Nat.le_succ _)
  have hD_14 := hD_13.grow (ρ2 := (9, 4124, N + 9)) (e2 := eO 4 [vI 0, vI 0, vI 0]) (Nat.le_succ _)
  have hE_14 := hE_13.grow (ρ2 := (9, 4124, N + 9)) (e2 := eO 4 [vI 0, vI 0, vI 0]) (Nat.le_succ _)
  have hF_14 := hF_13.grow (ρ2 := (9, 4124, N + 9)) (e2 := eO 4 [vI 0, vI 0, vI 0]) (Nat.le_succ _)
  have hG_14 := hG_13.grow (ρ2 := (9, 4124, N + 9)) (e2 := eO 4 [vI 0, vI 0, vI 0]) (Nat.le_succ _)
  have hP0_14 := hP0_13.grow (ρ2 := (9, 4124, N + 9)) (e2 := eO 4 [vI 0, vI 0, vI 0]) (Nat.le_succ _)
  have hP1_14 : Hd (9, 4124, N + 9) (va_up (va_up hh0 (N + 6) (eQ 5 4 (va_up (fun _ => none) 0 (some (N + 7))))) (N + 8) (eO 4 [vI 0, vI 0, vI 0])) (N + 8) (eO 4 [vI 0, vI 0, vI 0]) := Hd.fresh (Nat.lt_succ_self _)
  show G mX1_init _ 60 [(0, vR q), (1, vI (0 + 1))] [vR (N + 8), vI (0 + 1), vR (N + 6)] (9, 4124, N + 9) (va_up (va_up hh0 (N + 6) (eQ 5 4 (va_up (fun _ => none) 0 (some (N + 7))))) (N + 8) (eO 4 [vI 0, vI 0, vI 0])) _
  refine g_dup (pc := 60) dX1_init_60 rfl ?_
  refine g_callI (pc := 61) (as := []) (b := N + 8) (st := [vR (N + 8), vI (0 + 1), vR (N + 6)]) (mc := 0) (ms := 0) liX1_35 dX1_init_61 (Nat.le_of_ble_eq_true rfl) (by omega) (by show (9 : Nat) + 0 ≤ 92; decide) (by show (4124 : Nat) + 0 ≤ 5585; decide) (c_newPart (d := d + 1) hP1_14) ?_
  rintro r hh1 ⟨rfl, x1, y1⟩
  try dsimp only at x1 y1
  have hq_15 := hq_14.mv (ρ2 := (9, 4124, N + 9)) (by show _ ≤ N + 9; dsimp only; omega) (y1 _ (by omega))
  have hA_15 := hA_14.mv (ρ2 := (9, 4124, N + 9)) (by show _ ≤ N + 9; dsimp only; omega) (y1 _ (by omega))
  have hB_15 := hB_14.mv (ρ2 := (9, 4124, N + 9)) (by show _ ≤ N + 9; dsimp only; omega) (y1 _ (by omega))
  have hC_15 := hC_14.mv (ρ2 := (9, 4124, N + 9)) (by show _ ≤ N + 9; dsimp only; omega) (y1 _ (by omega))
  have hD_15 := hD_14.mv (ρ2 := (9, 4124, N + 9)) (by show _ ≤ N + 9; dsimp only; omega) (y1 _ (by omega))
  have hE_15 := hE_14.mv (ρ2 := (9, 4124, N + 9)) (by show _ ≤ N + 9; dsimp only; omega) (y1 _ (by omega))
  have hF_15 := hF_14.mv (ρ2 := (9, 4124, N + 9)) (by show _ ≤ N + 9; dsimp only; omega) (y1 _ (by omega))
  have hG_15 := hG_14.mv (ρ2 := (9, 4124, N + 9)) (by show _ ≤ N + 9; dsimp only; omega) (y1 _ (by omega))
  have hP0_15 := hP0_14.mv (ρ2 := (9, 4124, N + 9)) (by show _ ≤ N + 9; dsimp only; omega) (y1 _ (by omega))
  have hP1_15 := hP1_14.mvto (ρ2 := (9, 4124, N + 9)) (by show _ ≤ N + 9; dsimp only; omega) x1
  show G mX1_init _ 64 [(0, vR q), (1, vI (0 + 1))] [vR (N + 8), vI (0 + 1), vR (N + 6)] (9, 4124, N + 9) hh1 _
  refine g_aastN (pc := 64) (j := 0 + 1) dX1_init_64 hG_15 (Or.inr (Or.inl ⟨rfl, _, hP1_15⟩)) (by omega) (by omega) (by omega) ?_
  have hq_16 := hq_15.ne (e := eQ 5 4 (va_up (va_up (fun _ => none) 0 (some (N + 7))) (0 + 1) (some (N + 8)))) (a := N + 6) (by omega)
  have hA_16 := hA_15.ne (e := eQ 5 4 (va_up (va_up (fun _ => none) 0 (some (N + 7))) (0 + 1) (some (N + 8)))) (a := N + 6) (by omega)
  have hB_16 := hB_15.ne (e := eQ 5 4 (va_up (va_up (fun _ => none) 0 (some (N + 7))) (0 + 1) (some (N + 8)))) (a := N + 6) (by omega)
  have hC_16 := hC_15.ne (e := eQ 5 4 (va_up (va_up (fun _ => none) 0 (some (N + 7))) (0 + 1) (some (N + 8)))) (a := N + 6) (by omega)
  have hD_16 := hD_15.ne (e := eQ 5 4 (va_up (va_up (fun _ => none) 0 (some (N + 7))) (0 + 1) (some (N + 8)))) (a := N + 6) (by omega)
  have hE_16 := hE_15.ne (e := eQ 5 4 (va_up (va_up (fun _ => none) 0 (some (N + 7))) (0 + 1) (some (N + 8)))) (a := N + 6) (by omega)
  have hF_16 := hF_15.ne (e := eQ 5 4 (va_up (va_up (fun _ => none) 0 (some (N + 7))) (0 + 1) (some (N + 8)))) (a := N + 6) (by omega)
  have hG_16 := hG_15.self (e := eQ 5 4 (va_up (va_up (fun _ => none) 0 (some (N + 7))) (0 + 1) (some (N + 8))))
  have hP0_16 := hP0_15.ne (e := eQ 5 4 (va_up (va_up (fun _ => none) 0 (some (N + 7))) (0 + 1) (some (N + 8)))) (a := N + 6) (by omega)
  have hP1_16 := hP1_15.ne (e := eQ 5 4 (va_up (va_up (fun _ => none) 0 (some (N + 7))) (0 + 1) (some (N + 8)))) (a := N + 6) (by omega)
  refine g_iinc (pc := 65) (x := 0 + 1) (lo2 := [(0, vR q), (1, vI (0 + 1 + 1))]) dX1_init_65 rfl (by decide) rfl ?_
  refine g_goto (pc := 68) (tgt := 43) dX1_init_68 (by decide) ?_
  refine g_iload_n (pc := 43) (x := 0 + 1 + 1) dX1_init_43 rfl ?_
  refine g_aload_n (pc := 44) (r := .inl (some q)) dX1_init_44 rfl ?_
  refine g_getf (pc := 45) (v := vR (N + 6)) flX1_31 dX1_init_45 hq_16 rfl ?_
  refine g_qlen (pc := 48) dX1_init_48 hG_16 (by decide) ?_
  refine g_icmp_geF (pc := 49) (tgt := 71) dX1_init_49 (by decide) (by omega) (by omega) (by omega) ?_
  refine g_aload_n (pc := 52) (r := .inl (some q)) dX1_init_52 rfl ?_
  refine g_getf (pc := 53) (v := vR (N + 6)) flX1_31 dX1_init_53 hq_16 rfl ?_
  refine g_iload_n (pc := 56) (x := 0 + 1 + 1) dX1_init_56 rfl ?_
  refine g_new (pc := 57) nwX1_29 dX1_init_57 (by show (9 : Nat) + 1 ≤ 92; decide) (by show (4124 : Nat) + 3 ≤ 5585; decide) ?_
  have hq_17 := hq_16.grow (ρ2 := (10, 4127, N + 10)) (e2 := eO 4 [vI 0, vI 0, vI 0]) (Nat.le_succ _)
  have hA_17 := hA_16.grow (ρ2 := (10, 4127, N + 10)) (e2 := eO 4 [vI 0, vI 0, vI 0]) (Nat.le_succ _)
  have hB_17 := hB_16.grow (ρ2 := (10, 4127, N + 10)) (e2 := eO 4 [vI 0, vI 0, vI 0]) (Nat.le_succ _)
  have hC_17 := hC_16.grow (ρ2 := (10, 4127, N + 10)) (e2 := eO 4 [vI 0, vI 0, vI 0]) (Nat.le_succ _)
  have hD_17 := hD_16.grow (ρ2 := (10, 4127, N + 10)) (e2 := eO 4 [vI 0, vI 0, vI 0]) (Nat.le_succ _)
  have hE_17 := hE_16.grow (ρ2 := (10, 4127, N + 10)) (e2 := eO 4 [vI 0, vI 0, vI 0]) (Nat.le_succ _)
  have hF_17 := hF_16.grow (ρ2 := (10, 4127, N + 10)) (e2 := eO 4 [vI 0, vI 0, vI 0]) (Nat.le_succ _)
  have hG_17 := hG_16.grow (ρ2 := (10, 4127, N + 10)) (e2 := eO 4 [vI 0, vI 0, vI 0]) (Nat.le_succ _)
  have hP0_17 := hP0_16.grow (ρ2 := (10, 4127, N + 10)) (e2 := eO 4 [vI 0, vI 0, vI 0]) (Nat.le_succ _)
  have hP1_17 := hP1_16.grow (ρ2 := (10, 4127, N + 10)) (e2 := eO 4 [vI 0, vI 0, vI 0]) (Nat.le_succ _)
  have hP2_17 : Hd (10, 4127, N + 10) (va_up (va_up hh1 (N + 6) (eQ 5 4 (va_up (va_up (fun _ => none) 0 (some (N + 7))) (0 + 1) (some (N + 8))))) (N + 9) (eO 4 [vI 0, vI 0, vI 0])) (N + 9) (eO 4 [vI 0, vI 0, vI 0]) := Hd.fresh (Nat.lt_succ_self _)
  show G mX1_init _ 60 [(0, vR q), (1, vI (0 + 1 + 1))] [vR (N + 9), vI (0 + 1 + 1), vR (N + 6)] (10, 4127, N + 10) (va_up (va_up hh1 (N + 6) (eQ 5 4 (va_up (va_up (fun _ => none) 0 (some (N + 7))) (0 + 1) (some (N + 8))))) (N + 9) (eO 4 [vI 0, vI 0, vI 0])) _
  refine g_dup (pc := 60) dX1_init_60 rfl ?_
  refine g_callI (pc := 61) (as := []) (b := N + 9) (st := [vR (N + 9), vI (0 + 1 + 1), vR (N + 6)]) (mc := 0) (ms := 0) liX1_35 dX1_init_61 (Nat.le_of_ble_eq_true rfl) (by omega) (by show (10 : Nat) + 0 ≤ 92; decide) (by show (4127 : Nat) + 0 ≤ 5585; decide) (c_newPart (d := d + 1) hP2_17) ?_
  rintro r hh2 ⟨rfl, x2, y2⟩
  try dsimp only at x2 y2
  have hq_18 := hq_17.mv (ρ2 := (10, 4127, N + 10)) (by show _ ≤ N + 10; dsimp only; omega) (y2 _ (by omega))
  have hA_18 := hA_17.mv (ρ2 := (10, 4127, N + 10)) (by show _ ≤ N + 10; dsimp only; omega) (y2 _ (by omega))
  have hB_18 := hB_17.mv (ρ2 := (10, 4127, N + 10)) (by show _ ≤ N + 10; dsimp only; omega) (y2 _ (by omega))
  have hC_18 := hC_17.mv (ρ2 := (10, 4127, N + 10)) (by show _ ≤ N + 10; dsimp only; omega) (y2 _ (by omega))
  have hD_18 := hD_17.mv (ρ2 := (10, 4127, N + 10)) (by show _ ≤ N + 10; dsimp only; omega) (y2 _ (by omega))
  have hE_18 := hE_17.mv (ρ2 := (10, 4127, N + 10)) (by show _ ≤ N + 10; dsimp only; omega) (y2 _ (by omega))
  have hF_18 := hF_17.mv (ρ2 := (10, 4127, N + 10)) (by show _ ≤ N + 10; dsimp only; omega) (y2 _ (by omega))
  have hG_18 := hG_17.mv (ρ2 := (10, 4127, N + 10)) (by show _ ≤ N + 10; dsimp only; omega) (y2 _ (by omega))
  have hP0_18 := hP0_17.mv (ρ2 := (10, 4127, N + 10)) (by show _ ≤ N + 10; dsimp only; omega) (y2 _ (by omega))
  have hP1_18 := hP1_17.mv (ρ2 := (10, 4127, N + 10)) (by show _ ≤ N + 10; dsimp only; omega) (y2 _ (by omega))
  have hP2_18 := hP2_17.mvto (ρ2 := (10, 4127, N + 10)) (by show _ ≤ N + 10; dsimp only; omega) x2
  show G mX1_init _ 64 [(0, vR q), (1, vI (0 + 1 + 1))] [vR (N + 9), vI (0 + 1 + 1), vR (N + 6)] (10, 4127, N + 10) hh2 _
  refine g_aastN (pc := 64) (j := 0 + 1 + 1) dX1_init_64 hG_18 (Or.inr (Or.inl ⟨rfl, _, hP2_18⟩)) (by omega) (by omega) (by omega) ?_
  have hq_19 := hq_18.ne (e := eQ 5 4 (va_up (va_up (va_up (fun _ => none) 0 (some (N + 7))) (0 + 1) (some (N + 8))) (0 + 1 + 1) (some (N + 9)))) (a := N + 6) (by omega)
  have hA_19 := hA_18.ne (e := eQ 5 4 (va_up (va_up (va_up (fun _ => none) 0 (some (N + 7))) (0 + 1) (some (N + 8))) (0 + 1 + 1) (some (N + 9)))) (a := N + 6) (by omega)
  have hB_19 := hB_18.ne (e := eQ 5 4 (va_up (va_up (va_up (fun _ => none) 0 (some (N + 7))) (0 + 1) (some (N + 8))) (0 + 1 + 1) (some (N + 9)))) (a := N + 6) (by omega)
  have hC_19 := hC_18.ne (e := eQ 5 4 (va_up (va_up (va_up (fun _ => none) 0 (some (N + 7))) (0 + 1) (some (N + 8))) (0 + 1 + 1) (some (N + 9)))) (a := N + 6) (by omega)
  have hD_19 := hD_18.ne (e := eQ 5 4 (va_up (va_up (va_up (fun _ => none) 0 (some (N + 7))) (0 + 1) (some (N + 8))) (0 + 1 + 1) (some (N + 9)))) (a := N + 6) (by omega)
  have hE_19 := hE_18.ne (e := eQ 5 4 (va_up (va_up (va_up (fun _ => none) 0 (some (N + 7))) (0 + 1) (some (N + 8))) (0 + 1 + 1) (some (N + 9)))) (a := N + 6) (by omega)
  have hF_19 := hF_18.ne (e := eQ 5 4 (va_up (va_up (va_up (fun _ => none) 0 (some (N + 7))) (0 + 1) (some (N + 8))) (0 + 1 + 1) (some (N + 9)))) (a := N + 6) (by omega)
  have hG_19 := hG_18.self (e := eQ 5 4 (va_up (va_up (va_up (fun _ => none) 0 (some (N + 7))) (0 + 1) (some (N + 8))) (0 + 1 + 1) (some (N + 9))))
  have hP0_19 := hP0_18.ne (e := eQ 5 4 (va_up (va_up (va_up (fun _ => none) 0 (some (N + 7))) (0 + 1) (some (N + 8))) (0 + 1 + 1) (some (N + 9)))) (a := N + 6) (by omega)
  have hP1_19 := hP1_18.ne (e := eQ 5 4 (va_up (va_up (va_up (fun _ => none) 0 (some (N + 7))) (0 + 1) (some (N + 8))) (0 + 1 + 1) (some (N + 9)))) (a := N + 6) (by omega)
  have hP2_19 := hP2_18.ne (e := eQ 5 4 (va_up (va_up (va_up (fun _ => none) 0 (some (N + 7))) (0 + 1) (some (N + 8))) (0 + 1 + 1) (some (N + 9)))) (a := N + 6) (by omega)
  refine g_iinc (pc := 65) (x := 0 + 1 + 1) (lo2 := [(0, vR q), (1, vI (0 + 1 + 1 + 1))]) dX1_init_65 rfl (by decide) rfl ?_
  refine g_goto (pc := 68) (tgt := 43) dX1_init_68 (by decide) ?_
  refine g_iload_n (pc := 43) (x := 0 + 1 + 1 + 1) dX1_init_43 rfl ?_
  refine g_aload_n (pc := 44) (r := .inl (some q)) dX1_init_44 rfl ?_
  refine g_getf (pc := 45) (v := vR (N + 6)) flX1_31 dX1_init_45 hq_19 rfl ?_
  refine g_qlen (pc := 48) dX1_init_48 hG_19 (by decide) ?_
  refine g_icmp_geF (pc := 49) (tgt := 71) dX1_init_49 (by decide) (by omega) (by omega) (by omega) ?_
  refine g_aload_n (pc := 52) (r := .inl (some q)) dX1_init_52 rfl ?_
  refine g_getf (pc := 53) (v := vR (N + 6)) flX1_31 dX1_init_53 hq_19 rfl ?_
  refine g_iload_n (pc := 56) (x := 0 + 1 + 1 + 1) dX1_init_56 rfl ?_
  refine g_new (pc := 57) nwX1_29 dX1_init_57 (by show (10 : Nat) + 1 ≤ 92; decide) (by show (4127 : Nat) + 3 ≤ 5585; decide) ?_
  have hq_20 := hq_19.grow (ρ2 := (11, 4130, N + 11)) (e2 := eO 4 [vI 0, vI 0, vI 0]) (Nat.le_succ _)
  have hA_20 := hA_19.grow (ρ2 := (11, 4130, N + 11)) (e2 := eO 4 [vI 0, vI 0, vI 0]) (Nat.le_succ _)
  have hB_20 := hB_19.grow (ρ2 := (11, 4130, N + 11)) (e2 := eO 4 [vI 0, vI 0, vI 0]) (Nat.le_succ _)
  have hC_20 := hC_19.grow (ρ2 := (11, 4130, N + 11)) (e2 := eO 4 [vI 0, vI 0, vI 0]) (Nat.le_succ _)
  have hD_20 := hD_19.grow (ρ2 := (11, 4130, N + 11)) (e2 := eO 4 [vI 0, vI 0, vI 0]) (Nat.le_succ _)
  have hE_20 := hE_19.grow (ρ2 := (11, 4130, N + 11)) (e2 := eO 4 [vI 0, vI 0, vI 0]) (Nat.le_succ _)
  have hF_20 := hF_19.grow (ρ2 := (11, 4130, N + 11)) (e2 := eO 4 [vI 0, vI 0, vI 0]) (Nat.le_succ _)
  have hG_20 := hG_19.grow (ρ2 := (11, 4130, N + 11)) (e2 := eO 4 [vI 0, vI 0, vI 0]) (Nat.le_succ _)
  have hP0_20 := hP0_19.grow (ρ2 := (11, 4130, N + 11)) (e2 := eO 4 [vI 0, vI 0, vI 0]) (Nat.le_succ _)
  have hP1_20 := hP1_19.grow (ρ2 := (11, 4130, N + 11)) (e2 := eO 4 [vI 0, vI 0, vI 0]) (Nat.le_succ _)
  have hP2_20 := hP2_19.grow (ρ2 := (11, 4130, N + 11)) (e2 := eO 4 [vI 0, vI 0, vI 0]) (Nat.le_succ _)
  have hP3_20 : Hd (11, 4130, N + 11) (va_up (va_up hh2 (N + 6) (eQ 5 4 (va_up (va_up (va_up (fun _ => none) 0 (some (N + 7))) (0 + 1) (some (N + 8))) (0 + 1 + 1) (some (N + 9))))) (N + 10) (eO 4 [vI 0, vI 0, vI 0])) (N + 10) (eO 4 [vI 0, vI 0, vI 0]) := Hd.fresh (Nat.lt_succ_self _)
  show G mX1_init _ 60 [(0, vR q), (1, vI (0 + 1 + 1 + 1))] [vR (N + 10), vI (0 + 1 + 1 + 1), vR (N + 6)] (11, 4130, N + 11) (va_up (va_up hh2 (N + 6) (eQ 5 4 (va_up (va_up (va_up (fun _ => none) 0 (some (N + 7))) (0 + 1) (some (N + 8))) (0 + 1 + 1) (some (N + 9))))) (N + 10) (eO 4 [vI 0, vI 0, vI 0])) _
  refine g_dup (pc := 60) dX1_init_60 rfl ?_
  refine g_callI (pc := 61) (as := []) (b := N + 10) (st := [vR (N + 10), vI (0 + 1 + 1 + 1), vR (N + 6)]) (mc := 0) (ms := 0) liX1_35 dX1_init_61 (Nat.le_of_ble_eq_true rfl) (by omega) (by show (11 : Nat) + 0 ≤ 92; decide) (by show (4130 : Nat) + 0 ≤ 5585; decide) (c_newPart (d := d + 1) hP3_20) ?_
  rintro r hh3 ⟨rfl, x3, y3⟩
  try dsimp only at x3 y3
  have hq_21 := hq_20.mv (ρ2 := (11, 4130, N + 11)) (by show _ ≤ N + 11; dsimp only; omega) (y3 _ (by omega))
  have hA_21 := hA_20.mv (ρ2 := (11, 4130, N + 11)) (by show _ ≤ N + 11; dsimp only; omega) (y3 _ (by omega))
  have hB_21 := hB_20.mv (ρ2 := (11, 4130, N + 11)) (by show _ ≤ N + 11; dsimp only; omega) (y3 _ (by omega))
  have hC_21 := hC_20.mv (ρ2 := (11, 4130, N + 11)) (by show _ ≤ N + 11; dsimp only; omega) (y3 _ (by omega))
  have hD_21 := hD_20.mv (ρ2 := (11, 4130, N + 11)) (by show _ ≤ N + 11; dsimp only; omega) (y3 _ (by omega))
  have hE_21 := hE_20.mv (ρ2 := (11, 4130, N + 11)) (by show _ ≤ N + 11; dsimp only; omega) (y3 _ (by omega))
  have hF_21 := hF_20.mv (ρ2 := (11, 4130, N + 11)) (by show _ ≤ N + 11; dsimp only; omega) (y3 _ (by omega))
  have hG_21 := hG_20.mv (ρ2 := (11, 4130, N + 11)) (by show _ ≤ N + 11; dsimp only; omega) (y3 _ (by omega))
  have hP0_21 := hP0_20.mv (ρ2 := (11, 4130, N + 11)) (by show _ ≤ N + 11; dsimp only; omega) (y3 _ (by omega))
  have hP1_21 := hP1_20.mv (ρ2 := (11, 4130, N + 11)) (by show _ ≤ N + 11; dsimp only; omega) (y3 _ (by omega))
  have hP2_21 := hP2_20.mv (ρ2 := (11, 4130, N + 11)) (by show _ ≤ N + 11; dsimp only; omega) (y3 _ (by omega))
  have hP3_21 := hP3_20.mvto (ρ2 := (11, 4130, N + 11)) (by show _ ≤ N + 11; dsimp only; omega) x3
  show G mX1_init _ 64 [(0, vR q), (1, vI (0 + 1 + 1 + 1))] [vR (N + 10), vI (0 + 1 + 1 + 1), vR (N + 6)] (11, 4130, N + 11) hh3 _
  refine g_aastN (pc := 64) (j := 0 + 1 + 1 + 1) dX1_init_64 hG_21 (Or.inr (Or.inl ⟨rfl, _, hP3_21⟩)) (by omega) (by omega) (by omega) ?_
  have hq_22 := hq_21.ne (e := eQ 5 4 (va_up (va_up (va_up (va_up (fun _ => none) 0 (some (N + 7))) (0 + 1) (some (N + 8))) (0 + 1 + 1) (some (N + 9))) (0 + 1 + 1 + 1) (some (N + 10)))) (a := N + 6) (by omega)
  have hA_22 := hA_21.ne (e := eQ 5 4 (va_up (va_up (va_up (va_up (fun _ => none) 0 (some (N + 7))) (0 + 1) (some (N + 8))) (0 + 1 + 1) (some (N + 9))) (0 + 1 + 1 + 1) (some (N + 10)))) (a := N + 6) (by omega)
  have hB_22 := hB_21.ne (e := eQ 5 4 (va_up (va_up (va_up (va_up (fun _ => none) 0 (some (N + 7))) (0 + 1) (some (N + 8))) (0 + 1 + 1) (some (N + 9))) (0 + 1 + 1 + 1) (some (N + 10)))) (a := N + 6) (by omega)
  have hC_22 := hC_21.ne (e := eQ 5 4 (va_up (va_up (va_up (va_up (fun _ => none) 0 (some (N + 7))) (0 + 1) (some (N + 8))) (0 + 1 + 1) (some (N + 9))) (0 + 1 + 1 + 1) (some (N + 10)))) (a := N + 6) (by omega)
  have hD_22 := hD_21.ne (e := eQ 5 4 (va_up (va_up (va_up (va_up (fun _ => none) 0 (some (N + 7))) (0 + 1) (some (N + 8))) (0 + 1 + 1) (some (N + 9))) (0 + 1 + 1 + 1) (some (N + 10)))) (a := N + 6) (by omega)
  have hE_22 := hE_21.ne (e := eQ 5 4 (va_up (va_up (va_up (va_up (fun _ => none) 0 (some (N + 7))) (0 + 1) (some (N + 8))) (0 + 1 + 1) (some (N + 9))) (0 + 1 + 1 + 1) (some (N + 10)))) (a := N + 6) (by omega)
  have hF_22 := hF_21.ne (e := eQ 5 4 (va_up (va_up (va_up (va_up (fun _ => none) 0 (some (N + 7))) (0 + 1) (some (N + 8))) (0 + 1 + 1) (some (N + 9))) (0 + 1 + 1 + 1) (some (N + 10)))) (a := N + 6) (by omega)
  have hG_22 := hG_21.self (e := eQ 5 4 (va_up (va_up (va_up (va_up (fun _ => none) 0 (some (N + 7))) (0 + 1) (some (N + 8))) (0 + 1 + 1) (some (N + 9))) (0 + 1 + 1 + 1) (some (N + 10))))
  have hP0_22 := hP0_21.ne (e := eQ 5 4 (va_up (va_up (va_up (va_up (fun _ => none) 0 (some (N + 7))) (0 + 1) (some (N + 8))) (0 + 1 + 1) (some (N + 9))) (0 + 1 + 1 + 1) (some (N + 10)))) (a := N + 6) (by omega)
  have hP1_22 := hP1_21.ne (e := eQ 5 4 (va_up (va_up (va_up (va_up (fun _ => none) 0 (some (N + 7))) (0 + 1) (some (N + 8))) (0 + 1 + 1) (some (N + 9))) (0 + 1 + 1 + 1) (some (N + 10)))) (a := N + 6) (by omega)
  have hP2_22 := hP2_21.ne (e := eQ 5 4 (va_up (va_up (va_up (va_up (fun _ => none) 0 (some (N + 7))) (0 + 1) (some (N + 8))) (0 + 1 + 1) (some (N + 9))) (0 + 1 + 1 + 1) (some (N + 10)))) (a := N + 6) (by omega)
  have hP3_22 := hP3_21.ne (e := eQ 5 4 (va_up (va_up (va_up (va_up (fun _ => none) 0 (some (N + 7))) (0 + 1) (some (N + 8))) (0 + 1 + 1) (some (N + 9))) (0 + 1 + 1 + 1) (some (N + 10)))) (a := N + 6) (by omega)
  refine g_iinc (pc := 65) (x := 0 + 1 + 1 + 1) (lo2 := [(0, vR q), (1, vI (0 + 1 + 1 + 1 + 1))]) dX1_init_65 rfl (by decide) rfl ?_
  refine g_goto (pc := 68) (tgt := 43) dX1_init_68 (by decide) ?_
  refine g_iload_n (pc := 43) (x := 0 + 1 + 1 + 1 + 1) dX1_init_43 rfl ?_
  refine g_aload_n (pc := 44) (r := .inl (some q)) dX1_init_44 rfl ?_
  refine g_getf (pc := 45) (v := vR (N + 6)) flX1_31 dX1_init_45 hq_22 rfl ?_
  refine g_qlen (pc := 48) dX1_init_48 hG_22 (by decide) ?_
  refine g_icmp_geT (pc := 49) (tgt := 71) dX1_init_49 (by decide) (by omega) (by omega) (by omega) ?_
  refine g_pick [0] (lo2 := [(0, vR q)]) rfl ?_
  refine g_aload_n (pc := 71) (r := .inl (some q)) dX1_init_71 rfl ?_
  refine g_new (pc := 72) nwX1_36 dX1_init_72 (by show (11 : Nat) + 1 ≤ 92; decide) (by show (4130 : Nat) + 6 ≤ 5585; decide) ?_
  have hq_23 := hq_22.grow (ρ2 := (12, 4136, N + 12)) (e2 := eO 6 [vN, vN, vN, vI 0, vI 0, vI 0]) (Nat.le_succ _)
  have hA_23 := hA_22.grow (ρ2 := (12, 4136, N + 12)) (e2 := eO 6 [vN, vN, vN, vI 0, vI 0, vI 0]) (Nat.le_succ _)
  have hB_23 := hB_22.grow (ρ2 := (12, 4136, N + 12)) (e2 := eO 6 [vN, vN, vN, vI 0, vI 0, vI 0]) (Nat.le_succ _)
  have hC_23 := hC_22.grow (ρ2 := (12, 4136, N + 12)) (e2 := eO 6 [vN, vN, vN, vI 0, vI 0, vI 0]) (Nat.le_succ _)
  have hD_23 := hD_22.grow (ρ2 := (12, 4136, N + 12)) (e2 := eO 6 [vN, vN, vN, vI 0, vI 0, vI 0]) (Nat.le_succ _)
  have hE_23 := hE_22.grow (ρ2 := (12, 4136, N + 12)) (e2 := eO 6 [vN, vN, vN, vI 0, vI 0, vI 0]) (Nat.le_succ _)
  have hF_23 := hF_22.grow (ρ2 := (12, 4136, N + 12)) (e2 := eO 6 [vN, vN, vN, vI 0, vI 0, vI 0]) (Nat.le_succ _)
  have hG_23 := hG_22.grow (ρ2 := (12, 4136, N + 12)) (e2 := eO 6 [vN, vN, vN, vI 0, vI 0, vI 0]) (Nat.le_succ _)
  have hP0_23 := hP0_22.grow (ρ2 := (12, 4136, N + 12)) (e2 := eO 6 [vN, vN, vN, vI 0, vI 0, vI 0]) (Nat.le_succ _)
  have hP1_23 := hP1_22.grow (ρ2 := (12, 4136, N + 12)) (e2 := eO 6 [vN, vN, vN, vI 0, vI 0, vI 0]) (Nat.le_succ _)
  have hP2_23 := hP2_22.grow (ρ2 := (12, 4136, N + 12)) (e2 := eO 6 [vN, vN, vN, vI 0, vI 0, vI 0]) (Nat.le_succ _)
  have hP3_23 := hP3_22.grow (ρ2 := (12, 4136, N + 12)) (e2 := eO 6 [vN, vN, vN, vI 0, vI 0, vI 0]) (Nat.le_succ _)
  have hW_23 : Hd (12, 4136, N + 12) (va_up (va_up hh3 (N + 6) (eQ 5 4 (va_up (va_up (va_up (va_up (fun _ => none) 0 (some (N + 7))) (0 + 1) (some (N + 8))) (0 + 1 + 1) (some (N + 9))) (0 + 1 + 1 + 1) (some (N + 10))))) (N + 11) (eO 6 [vN, vN, vN, vI 0, vI 0, vI 0])) (N + 11) (eO 6 [vN, vN, vN, vI 0, vI 0, vI 0]) := Hd.fresh (Nat.lt_succ_self _)
  show G mX1_init _ 75 [(0, vR q)] [vR (N + 11), vR q] (12, 4136, N + 12) (va_up (va_up hh3 (N + 6) (eQ 5 4 (va_up (va_up (va_up (va_up (fun _ => none) 0 (some (N + 7))) (0 + 1) (some (N + 8))) (0 + 1 + 1) (some (N + 9))) (0 + 1 + 1 + 1) (some (N + 10))))) (N + 11) (eO 6 [vN, vN, vN, vI 0, vI 0, vI 0])) _
  refine g_dup (pc := 75) dX1_init_75 rfl ?_
  refine g_callI (pc := 76) (as := []) (b := N + 11) (st := [vR (N + 11), vR q]) (mc := 66) (ms := 1347) liX1_38 dX1_init_76 (Nat.le_of_ble_eq_true rfl) (by omega) (by show (12 : Nat) + 66 ≤ 92; decide) (by show (4136 : Nat) + 1347 ≤ 5585; decide) (c_newPowers (d := d + 1) hW_23) ?_
  rintro r h5 ⟨rfl, w1, w2, w3, w4, w5, w6⟩
  try dsimp only at w1 w2 w3 w4 w5 w6
  have hq_24 := hq_23.mv (ρ2 := (78, 5483, N + 78)) (by show _ ≤ N + 78; dsimp only; omega) (w6 _ (by omega) (by omega))
  have hA_24 := hA_23.mv (ρ2 := (78, 5483, N + 78)) (by show _ ≤ N + 78; dsimp only; omega) (w6 _ (by omega) (by omega))
  have hB_24 := hB_23.mv (ρ2 := (78, 5483, N + 78)) (by show _ ≤ N + 78; dsimp only; omega) (w6 _ (by omega) (by omega))
  have hC_24 := hC_23.mv (ρ2 := (78, 5483, N + 78)) (by show _ ≤ N + 78; dsimp only; omega) (w6 _ (by omega) (by omega))
  have hD_24 := hD_23.mv (ρ2 := (78, 5483, N + 78)) (by show _ ≤ N + 78; dsimp only; omega) (w6 _ (by omega) (by omega))
  have hE_24 := hE_23.mv (ρ2 := (78, 5483, N + 78)) (by show _ ≤ N + 78; dsimp only; omega) (w6 _ (by omega) (by omega))
  have hF_24 := hF_23.mv (ρ2 := (78, 5483, N + 78)) (by show _ ≤ N + 78; dsimp only; omega) (w6 _ (by omega) (by omega))
  have hG_24 := hG_23.mv (ρ2 := (78, 5483, N + 78)) (by show _ ≤ N + 78; dsimp only; omega) (w6 _ (by omega) (by omega))
  have hP0_24 := hP0_23.mv (ρ2 := (78, 5483, N + 78)) (by show _ ≤ N + 78; dsimp only; omega) (w6 _ (by omega) (by omega))
  have hP1_24 := hP1_23.mv (ρ2 := (78, 5483, N + 78)) (by show _ ≤ N + 78; dsimp only; omega) (w6 _ (by omega) (by omega))
  have hP2_24 := hP2_23.mv (ρ2 := (78, 5483, N + 78)) (by show _ ≤ N + 78; dsimp only; omega) (w6 _ (by omega) (by omega))
  have hP3_24 := hP3_23.mv (ρ2 := (78, 5483, N + 78)) (by show _ ≤ N + 78; dsimp only; omega) (w6 _ (by omega) (by omega))
  have hW_24 := hW_23.mvto (ρ2 := (78, 5483, N + 78)) (by show _ ≤ N + 78; dsimp only; omega) w1
  show G mX1_init _ 79 [(0, vR q)] [vR (N + 11), vR q] (78, 5483, N + 78) h5 _
  refine g_putF (pc := 79) fpX1_39 dX1_init_79 rfl hq_24 (okv_obj _ _) (Nat.le_of_ble_eq_true rfl) ?_
  have hq_25 := hq_24.self (e := eO 1 [vI 0, vI 0, vI 0, vI 0, vR N, vR (N + 11), vN, vR (N + 1), vR (N + 4), vR (N + 6)])
  have hA_25 := hA_24.ne (e := eO 1 [vI 0, vI 0, vI 0, vI 0, vR N, vR (N + 11), vN, vR (N + 1), vR (N + 4), vR (N + 6)]) (a := q) (by omega)
  have hB_25 := hB_24.ne (e := eO 1 [vI 0, vI 0, vI 0, vI 0, vR N, vR (N + 11), vN, vR (N + 1), vR (N + 4), vR (N + 6)]) (a := q) (by omega)
  have hC_25 := hC_24.ne (e := eO 1 [vI 0, vI 0, vI 0, vI 0, vR N, vR (N + 11), vN, vR (N + 1), vR (N + 4), vR (N + 6)]) (a := q) (by omega)
  have hD_25 := hD_24.ne (e := eO 1 [vI 0, vI 0, vI 0, vI 0, vR N, vR (N + 11), vN, vR (N + 1), vR (N + 4), vR (N + 6)]) (a := q) (by omega)
  have hE_25 := hE_24.ne (e := eO 1 [vI 0, vI 0, vI 0, vI 0, vR N, vR (N + 11), vN, vR (N + 1), vR (N + 4), vR (N + 6)]) (a := q) (by omega)
  have hF_25 := hF_24.ne (e := eO 1 [vI 0, vI 0, vI 0, vI 0, vR N, vR (N + 11), vN, vR (N + 1), vR (N + 4), vR (N + 6)]) (a := q) (by omega)
  have hG_25 := hG_24.ne (e := eO 1 [vI 0, vI 0, vI 0, vI 0, vR N, vR (N + 11), vN, vR (N + 1), vR (N + 4), vR (N + 6)]) (a := q) (by omega)
  have hP0_25 := hP0_24.ne (e := eO 1 [vI 0, vI 0, vI 0, vI 0, vR N, vR (N + 11), vN, vR (N + 1), vR (N + 4), vR (N + 6)]) (a := q) (by omega)
  have hP1_25 := hP1_24.ne (e := eO 1 [vI 0, vI 0, vI 0, vI 0, vR N, vR (N + 11), vN, vR (N + 1), vR (N + 4), vR (N + 6)]) (a := q) (by omega)
  have hP2_25 := hP2_24.ne (e := eO 1 [vI 0, vI 0, vI 0, vI 0, vR N, vR (N + 11), vN, vR (N + 1), vR (N + 4), vR (N + 6)]) (a := q) (by omega)
  have hP3_25 := hP3_24.ne (e := eO 1 [vI 0, vI 0, vI 0, vI 0, vR N, vR (N + 11), vN, vR (N + 1), vR (N + 4), vR (N + 6)]) (a := q) (by omega)
  have hW_25 := hW_24.ne (e := eO 1 [vI 0, vI 0, vI 0, vI 0, vR N, vR (N + 11), vN, vR (N + 1), vR (N + 4), vR (N + 6)]) (a := q) (by omega)
  refine g_aload_n (pc := 82) (r := .inl (some q)) dX1_init_82 rfl ?_
  refine g_new (pc := 83) nwX1_43 dX1_init_83 (by show (78 : Nat) + 1 ≤ 92; decide) (by show (5483 : Nat) + 9 ≤ 5585; decide) ?_
  have hq_26 := hq_25.grow (ρ2 := (79, 5492, N + 79)) (e2 := eO 8 [vN, vN, vN, vN, vN, vN, vN, vN, vJ 0]) (Nat.le_succ _)
  have hA_26 := hA_25.grow (ρ2 := (79, 5492, N + 79)) (e2 := eO 8 [vN, vN, vN, vN, vN, vN, vN, vN, vJ 0]) (Nat.le_succ _)
  have hB_26 := hB_25.grow (ρ2 := (79, 5492, N + 79)) (e2 := eO 8 [vN, vN, vN, vN, vN, vN, vN, vN, vJ 0]) (Nat.le_succ _)
  have hC_26 := hC_25.grow (ρ2 := (79, 5492, N + 79)) (e2 := eO 8 [vN, vN, vN, vN, vN, vN, vN, vN, vJ 0]) (Nat.le_succ _)
  have hD_26 := hD_25.grow (ρ2 := (79, 5492, N + 79)) (e2 := eO 8 [vN, vN, vN, vN, vN, vN, vN, vN, vJ 0]) (Nat.le_succ _)
  have hE_26 := hE_25.grow (ρ2 := (79, 5492, N + 79)) (e2 := eO 8 [vN, vN, vN, vN, vN, vN, vN, vN, vJ 0]) (Nat.le_succ _)
  have hF_26 := hF_25.grow (ρ2 := (79, 5492, N + 79)) (e2 := eO 8 [vN, vN, vN, vN, vN, vN, vN, vN, vJ 0]) (Nat.le_succ _)
  have hG_26 := hG_25.grow (ρ2 := (79, 5492, N + 79)) (e2 := eO 8 [vN, vN, vN, vN, vN, vN, vN, vN, vJ 0]) (Nat.le_succ _)
  have hP0_26 := hP0_25.grow (ρ2 := (79, 5492, N + 79)) (e2 := eO 8 [vN, vN, vN, vN, vN, vN, vN, vN, vJ 0]) (Nat.le_succ _)
  have hP1_26 := hP1_25.grow (ρ2 := (79, 5492, N + 79)) (e2 := eO 8 [vN, vN, vN, vN, vN, vN, vN, vN, vJ 0]) (Nat.le_succ _)
  have hP2_26 := hP2_25.grow (ρ2 := (79, 5492, N + 79)) (e2 := eO 8 [vN, vN, vN, vN, vN, vN, vN, vN, vJ 0]) (Nat.le_succ _)
  have hP3_26 := hP3_25.grow (ρ2 := (79, 5492, N + 79)) (e2 := eO 8 [vN, vN, vN, vN, vN, vN, vN, vN, vJ 0]) (Nat.le_succ _)
  have hW_26 := hW_25.grow (ρ2 := (79, 5492, N + 79)) (e2 := eO 8 [vN, vN, vN, vN, vN, vN, vN, vN, vJ 0]) (Nat.le_succ _)
  have hR_26 : Hd (79, 5492, N + 79) (va_up (va_up h5 q (eO 1 [vI 0, vI 0, vI 0, vI 0, vR N, vR (N + 11), vN, vR (N + 1), vR (N + 4), vR (N + 6)])) (N + 78) (eO 8 [vN, vN, vN, vN, vN, vN, vN, vN, vJ 0])) (N + 78) (eO 8 [vN, vN, vN, vN, vN, vN, vN, vN, vJ 0]) := Hd.fresh (Nat.lt_succ_self _)
  show G mX1_init _ 86 [(0, vR q)] [vR (N + 78), vR q] (79, 5492, N + 79) (va_up (va_up h5 q (eO 1 [vI 0, vI 0, vI 0, vI 0, vR N, vR (N + 11), vN, vR (N + 1), vR (N + 4), vR (N + 6)])) (N + 78) (eO 8 [vN, vN, vN, vN, vN, vN, vN, vN, vJ 0])) _
  refine g_dup (pc := 86) dX1_init_86 rfl ?_
  refine g_aload_n (pc := 87) (r := .inl (some q)) dX1_init_87 rfl ?_
  refine g_getf (pc := 88) (v := vR (N + 11)) flX1_39 dX1_init_88 hq_26 rfl ?_
  refine g_aload_n (pc := 91) (r := .inl (some q)) dX1_init_91 rfl ?_
  refine g_getf (pc := 92) (v := vR (N + 6)) flX1_31 dX1_init_92 hq_26 rfl ?_
  refine g_callI (pc := 95) (as := [vR (N + 11), vR (N + 6)]) (b := N + 78) (st := [vR (N + 78), vR q]) (mc := 13) (ms := 93) liX1_45 dX1_init_95 (Nat.le_of_ble_eq_true rfl) (by omega) (by show (79 : Nat) + 13 ≤ 92; decide) (by show (5492 : Nat) + 93 ≤ 5585; decide) (c_newRounds (d := d) hR_26) ?_
  rintro r h6 ⟨rfl, r1, r2, r3, r4, r5, r6, r7, r8, r9, r10, r11, r12⟩
  try dsimp only at r1 r2 r3 r4 r5 r6 r7 r8 r9 r10 r11 r12
  have hq_27 := hq_26.mv (ρ2 := (92, 5585, N + 92)) (by show _ ≤ N + 92; dsimp only; omega) (r12 _ (by omega) (by omega))
  have hA_27 := hA_26.mv (ρ2 := (92, 5585, N + 92)) (by show _ ≤ N + 92; dsimp only; omega) (r12 _ (by omega) (by omega))
  have hB_27 := hB_26.mv (ρ2 := (92, 5585, N + 92)) (by show _ ≤ N + 92; dsimp only; omega) (r12 _ (by omega) (by omega))
  have hC_27 := hC_26.mv (ρ2 := (92, 5585, N + 92)) (by show _ ≤ N + 92; dsimp only; omega) (r12 _ (by omega) (by omega))
  have hD_27 := hD_26.mv (ρ2 := (92, 5585, N + 92)) (by show _ ≤ N + 92; dsimp only; omega) (r12 _ (by omega) (by omega))
  have hE_27 := hE_26.mv (ρ2 := (92, 5585, N + 92)) (by show _ ≤ N + 92; dsimp only; omega) (r12 _ (by omega) (by omega))
  have hF_27 := hF_26.mv (ρ2 := (92, 5585, N + 92)) (by show _ ≤ N + 92; dsimp only; omega) (r12 _ (by omega) (by omega))
  have hG_27 := hG_26.mv (ρ2 := (92, 5585, N + 92)) (by show _ ≤ N + 92; dsimp only; omega) (r12 _ (by omega) (by omega))
  have hP0_27 := hP0_26.mv (ρ2 := (92, 5585, N + 92)) (by show _ ≤ N + 92; dsimp only; omega) (r12 _ (by omega) (by omega))
  have hP1_27 := hP1_26.mv (ρ2 := (92, 5585, N + 92)) (by show _ ≤ N + 92; dsimp only; omega) (r12 _ (by omega) (by omega))
  have hP2_27 := hP2_26.mv (ρ2 := (92, 5585, N + 92)) (by show _ ≤ N + 92; dsimp only; omega) (r12 _ (by omega) (by omega))
  have hP3_27 := hP3_26.mv (ρ2 := (92, 5585, N + 92)) (by show _ ≤ N + 92; dsimp only; omega) (r12 _ (by omega) (by omega))
  have hW_27 := hW_26.mv (ρ2 := (92, 5585, N + 92)) (by show _ ≤ N + 92; dsimp only; omega) (r12 _ (by omega) (by omega))
  have hR_27 := hR_26.mvto (ρ2 := (92, 5585, N + 92)) (by show _ ≤ N + 92; dsimp only; omega) r1
  show G mX1_init _ 98 [(0, vR q)] [vR (N + 78), vR q] (92, 5585, N + 92) h6 _
  refine g_putF (pc := 98) fpX1_48 dX1_init_98 rfl hq_27 (okv_obj _ _) (Nat.le_of_ble_eq_true rfl) ?_
  have hq_28 := hq_27.self (e := eO 1 [vI 0, vI 0, vI 0, vI 0, vR N, vR (N + 11), vR (N + 78), vR (N + 1), vR (N + 4), vR (N + 6)])
  have hA_28 := hA_27.ne (e := eO 1 [vI 0, vI 0, vI 0, vI 0, vR N, vR (N + 11), vR (N + 78), vR (N + 1), vR (N + 4), vR (N + 6)]) (a := q) (by omega)
  have hB_28 := hB_27.ne (e := eO 1 [vI 0, vI 0, vI 0, vI 0, vR N, vR (N + 11), vR (N + 78), vR (N + 1), vR (N + 4), vR (N + 6)]) (a := q) (by omega)
  have hC_28 := hC_27.ne (e := eO 1 [vI 0, vI 0, vI 0, vI 0, vR N, vR (N + 11), vR (N + 78), vR (N + 1), vR (N + 4), vR (N + 6)]) (a := q) (by omega)
  have hD_28 := hD_27.ne (e := eO 1 [vI 0, vI 0, vI 0, vI 0, vR N, vR (N + 11), vR (N + 78), vR (N + 1), vR (N + 4), vR (N + 6)]) (a := q) (by omega)
  have hE_28 := hE_27.ne (e := eO 1 [vI 0, vI 0, vI 0, vI 0, vR N, vR (N + 11), vR (N + 78), vR (N + 1), vR (N + 4), vR (N + 6)]) (a := q) (by omega)
  have hF_28 := hF_27.ne (e := eO 1 [vI 0, vI 0, vI 0, vI 0, vR N, vR (N + 11), vR (N + 78), vR (N + 1), vR (N + 4), vR (N + 6)]) (a := q) (by omega)
  have hG_28 := hG_27.ne (e := eO 1 [vI 0, vI 0, vI 0, vI 0, vR N, vR (N + 11), vR (N + 78), vR (N + 1), vR (N + 4), vR (N + 6)]) (a := q) (by omega)
  have hP0_28 := hP0_27.ne (e := eO 1 [vI 0, vI 0, vI 0, vI 0, vR N, vR (N + 11), vR (N + 78), vR (N + 1), vR (N + 4), vR (N + 6)]) (a := q) (by omega)
  have hP1_28 := hP1_27.ne (e := eO 1 [vI 0, vI 0, vI 0, vI 0, vR N, vR (N + 11), vR (N + 78), vR (N + 1), vR (N + 4), vR (N + 6)]) (a := q) (by omega)
  have hP2_28 := hP2_27.ne (e := eO 1 [vI 0, vI 0, vI 0, vI 0, vR N, vR (N + 11), vR (N + 78), vR (N + 1), vR (N + 4), vR (N + 6)]) (a := q) (by omega)
  have hP3_28 := hP3_27.ne (e := eO 1 [vI 0, vI 0, vI 0, vI 0, vR N, vR (N + 11), vR (N + 78), vR (N + 1), vR (N + 4), vR (N + 6)]) (a := q) (by omega)
  have hW_28 := hW_27.ne (e := eO 1 [vI 0, vI 0, vI 0, vI 0, vR N, vR (N + 11), vR (N + 78), vR (N + 1), vR (N + 4), vR (N + 6)]) (a := q) (by omega)
  have hR_28 := hR_27.ne (e := eO 1 [vI 0, vI 0, vI 0, vI 0, vR N, vR (N + 11), vR (N + 78), vR (N + 1), vR (N + 4), vR (N + 6)]) (a := q) (by omega)
  refine r_void (pc := 101) dX1_init_101 rfl rfl (Nat.le_refl _) ⟨rfl, hq_28.2, hA_28.2, hB_28.2, hC_28.2, hD_28.2, hE_28.2, hF_28.2, ?_, ?_, hW_28.2, (va_up_ne _ _ (by omega)).trans ((r12 _ (by omega) (by omega)).trans ((va_up_ne _ _ (by omega)).trans ((va_up_ne _ _ (by omega)).trans (w2)))), fun i hi => (va_up_ne _ _ (by omega)).trans ((r12 _ (by omega) (by omega)).trans ((va_up_ne _ _ (by omega)).trans ((va_up_ne _ _ (by omega)).trans (w3 i hi)))), (va_up_ne _ _ (by omega)).trans ((r12 _ (by omega) (by omega)).trans ((va_up_ne _ _ (by omega)).trans ((va_up_ne _ _ (by omega)).trans (w4)))), (va_up_ne _ _ (by omega)).trans ((r12 _ (by omega) (by omega)).trans ((va_up_ne _ _ (by omega)).trans ((va_up_ne _ _ (by omega)).trans (w5)))), hR_28.2, (va_up_ne _ _ (by omega)).trans (r2), (va_up_ne _ _ (by omega)).trans (r3), (va_up_ne _ _ (by omega)).trans (r4), (va_up_ne _ _ (by omega)).trans (r5), (va_up_ne _ _ (by omega)).trans (r6), (va_up_ne _ _ (by omega)).trans (r7), fun i hi => (va_up_ne _ _ (by omega)).trans (r8 i hi), (va_up_ne _ _ (by omega)).trans (r9), (va_up_ne _ _ (by omega)).trans (r10), (va_up_ne _ _ (by omega)).trans (r11), fun b z1 z2 => ?_⟩
  · refine hG_28.2.trans (congrArg (eQ 5 4) (funext fun j => ?_))
    unfold rwF va_up
    repeat' split
    all_goals first | rfl | (exfalso; omega) | (congr 1; omega)
  · intro i hi
    have hcs : i = 0 ∨ i = 1 ∨ i = 2 ∨ i = 3 := by omega
    rcases hcs with rfl | rfl | rfl | rfl
    · exact hP0_28.2
    · exact hP1_28.2
    · exact hP2_28.2
    · exact hP3_28.2
  · exact (va_up_ne _ _ (by omega)).trans ((r12 _ (by omega) (by omega)).trans ((va_up_ne _ _ (by omega)).trans ((va_up_ne _ _ (by omega)).trans ((w6 _ (by omega) (by omega)).trans ((va_up_ne _ _ (by omega)).trans ((va_up_ne _ _ (by omega)).trans ((y3 _ (by omega)).trans ((va_up_ne _ _ (by omega)).trans ((va_up_ne _ _ (by omega)).trans ((y2 _ (by omega)).trans ((va_up_ne _ _ (by omega)).trans ((va_up_ne _ _ (by omega)).trans ((y1 _ (by omega)).trans ((va_up_ne _ _ (by omega)).trans ((va_up_ne _ _ (by omega)).trans ((y0 _ (by omega)).trans ((va_up_ne _ _ (by omega)).trans ((va_up_ne _ _ (by omega)).trans ((va_up_ne _ _ (by omega)).trans ((va_up_ne _ _ (by omega)).trans ((b3 _ (by omega) (by omega)).trans ((va_up_ne _ _ (by omega)).trans ((va_up_ne _ _ (by omega)).trans ((a4 _ (by omega) (by omega) (by omega)).trans ((va_up_ne _ _ (by omega)).trans ((va_up_ne _ _ (by omega)).trans ((va_up_ne _ _ (by omega)).trans (rfl))))))))))))))))))))))))))))
