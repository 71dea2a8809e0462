/-! ===== constructor: RoundMill ===== -/
/-- a mill as its constructor leaves it -/
def NM (h : MH) (b : Nat) : Prop := h b = eO 1 [vI 0, vI 0, vI 0, vI 0, vR (b + 1), vR (b + 12), vR (b + 79), vR (b + 2), vR (b + 5), vR (b + 7)] ∧ h (b + 1) = eA 0 4 (fun _ => 0) ∧ h (b + 2) = eO 2 [vR (b + 3), vI 0, vR (b + 4), vI 0] ∧ h (b + 3) = eA 0 4 (fun _ => 0) ∧ h (b + 4) = eA 0 4 (fun _ => 0) ∧ h (b + 5) = eO 5 [vR (b + 6), vI 0] ∧ h (b + 6) = eA 0 4096 (fun _ => 0) ∧ h (b + 7) = eQ 5 4 (rwF (b + 8) 4) ∧ (∀ i, i < 4 → h (b + 8 + i) = eO 4 [vI 0, vI 1, vI 0]) ∧ h (b + 12) = eO 6 [vR (b + 13), vR (b + 77), vR (b + 78), vI 1, vI 1, vI 1] ∧ h (b + 13) = eQ 6 63 (rwF (b + 13 + 1) 63) ∧ (∀ i, i < 63 → h (b + 13 + 1 + i) = eA 0 20 (fun _ => 0)) ∧ h (b + 77) = eA 0 20 (fun _ => 0) ∧ h (b + 78) = eA 0 4 (fun _ => 0) ∧ h (b + 79) = eO 8 [vR (b + 12), vR (b + 7), vR (b + 80), vR (b + 82), vR (b + 84), vR (b + 90), vR (b + 91), vR (b + 92), vJ 0] ∧ h (b + 80) = eO 7 [vR (b + 81), vI 0] ∧ h (b + 81) = eA 0 16 (fun _ => 0) ∧ h (b + 82) = eO 7 [vR (b + 83), vI 0] ∧ h (b + 83) = eA 0 16 (fun _ => 0) ∧ h (b + 84) = eO 0 [vR (b + 85), vI 0, vI 0, vI 0, vI 0] ∧ h (b + 85) = eQ 6 4 (rwF (b + 85 + 1) 4) ∧ (∀ i, i < 4 → h (b + 85 + 1 + i) = eA 0 5 (fun _ => 0)) ∧ h (b + 90) = eA 0 20 (fun _ => 0) ∧ h (b + 91) = eA 0 4 (fun _ => 0) ∧ h (b + 92) = eA 0 4 (fun _ => 0)
theorem NM.keep {h h2 : MH} {b : Nat} (m : NM h b) (k : ∀ a, b ≤ a → a < b + 93 → h2 a = h a) : NM h2 b := by
  obtain ⟨a0, a1, a2, a3, a4, a5, a6, a7, a8, a9, a10, a11, a12, a13, a14, a15, a16, a17, a18, a19, a20, a21, a22, a23, a24⟩ := m
  exact ⟨(k _ (by omega) (by omega)).trans a0, (k _ (by omega) (by omega)).trans a1, (k _ (by omega) (by omega)).trans a2, (k _ (by omega) (by omega)).trans a3, (k _ (by omega) (by omega)).trans a4, (k _ (by omega) (by omega)).trans a5, (k _ (by omega) (by omega)).trans a6, (k _ (by omega) (by omega)).trans a7, fun i hi => (k _ (by omega) (by omega)).trans (a8 i hi), (k _ (by omega) (by omega)).trans a9, (k _ (by omega) (by omega)).trans a10, fun i hi => (k _ (by omega) (by omega)).trans (a11 i hi), (k _ (by omega) (by omega)).trans a12, (k _ (by omega) (by omega)).trans a13, (k _ (by omega) (by omega)).trans a14, (k _ (by omega) (by omega)).trans a15, (k _ (by omega) (by omega)).trans a16, (k _ (by omega) (by omega)).trans a17, (k _ (by omega) (by omega)).trans a18, (k _ (by omega) (by omega)).trans a19, (k _ (by omega) (by omega)).trans a20, fun i hi => (k _ (by omega) (by omega)).trans (a21 i hi), (k _ (by omega) (by omega)).trans a22, (k _ (by omega) (by omega)).trans a23, (k _ (by omega) (by omega)).trans a24⟩

theorem c_newMillN {d q : Nat} {h : MH} (hq : Hd (0, 0, q + 1) h q (eO 1 [vI 0, vI 0, vI 0, vI 0, vN, vN, vN, vN, vN, vN])) : Ok mX1_init (d + 3) 92 5585 [vR q] (q + 1) h (fun r h2 => r = none ∧ NM h2 q ∧ ∀ b, (b < q ∨ q + 93 ≤ b) → h2 b = h b) := by
  refine Ok.mono (c_newMill (d := d) hq) ?_
  rintro r h2 ⟨e, a0, a1, a2, a3, a4, a5, a6, a7, a8, a9, a10, a11, a12, a13, a14, a15, a16, a17, a18, a19, a20, a21, a22, a23, a24, k⟩
  exact ⟨e, ⟨a0, a1, a2, a3, a4, a5, a6, a7, a8, a9, a10, a11, a12, a13, a14, a15, a16, a17, a18, a19, a20, a21, a22, a23, a24⟩, fun b hb => k b (by omega) (by omega)⟩

/-- the cells of the mills -/
def mlF (b i j : Nat) : Option Nat := if j < i then some (b + 93 * j) else none
theorem c_newRoundMill {N d q : Nat} {h : MH} (eN : N = q + 1) (hq : Hd (0, 0, N) h q (eO 10 [vN, vN, vN])) : Ok mX10_init (d + 4) 632 42297 [vR q] N h (fun r h2 => r = none ∧ h2 q = eO 10 [vR N, vR (N + 1), vR (N + 73)] ∧ h2 N = eQ 4 6 (mlF (N + 74) 6) ∧ h2 (N + 1) = told9 (N + 1) 0 0 2 1 1 0 ∧ h2 (N + 2) = eA 0 65 (fun _ => 0) ∧ h2 (N + 3) = eA 0 64 (fun _ => 0) ∧ (∃ S2, h2 (N + 4) = eA 0 65 S2 ∧ ∀ i, i < 65 → S2 i = if i = 0 then 1 else 0) ∧ (∃ P2, h2 (N + 5) = eA 0 65 P2 ∧ ∀ i, i < 65 → P2 i = if i = 0 then 1 else 0) ∧ h2 (N + 6) = eA 0 65 (fun _ => 0) ∧ h2 (N + 7) = eA 0 64 (fun _ => 0) ∧ h2 (N + 8) = eQ 6 64 (rwF (N + 9) 64) ∧ (∀ i, i < 64 → h2 (N + 9 + i) = eA 0 65 (fun _ => 0)) ∧ h2 (N + 73) = eA 0 4096 (fun _ => 0) ∧ (∀ i, i < 6 → NM h2 (N + 74 + 93 * i)) ∧ ∀ b, b < q → h2 b = h b) := by
  refine Ok.of pfX10_init rfl (Nat.le_of_ble_eq_true rfl) (fun Ls sx => ?_)
  show G mX10_init (d + 4, 632, 42297, Ls, sx) 0 [(0, vR q)] [] (0, 0, N) h _
  have q1 := hq.1
  dsimp only at q1
  refine g_aload_n (pc := 0) (r := .inl (some q)) dX10_init_0 rfl ?_
  refine g_oinit (pc := 1) oiX10_1 dX10_init_1 (by omega) (Nat.le_of_ble_eq_true rfl) ?_
  refine g_aload_n (pc := 4) (r := .inl (some q)) dX10_init_4 rfl ?_
  refine g_bipush (pc := 5) dX10_init_5 (by decide +kernel) ?_
  refine g_newq (pc := 7) (kq := 4) (C := "RoundMill$Mill") (n := 6) rfl (by omega) (Or.inl ⟨rfl, rfl⟩) kaX10_9 dX10_init_7 (by show (0 : Nat) + 1 ≤ 632; decide) (by show (0 : Nat) + 6 ≤ 42297; decide) ?_
  have hq_1 := hq.grow (ρ2 := (1, 6, N + 1)) (e2 := eQ 4 6 (fun _ => none)) (Nat.le_succ _)
  have hG_1 : Hd (1, 6, N + 1) (va_up h N (eQ 4 6 (fun _ => none))) N (eQ 4 6 (fun _ => none)) := Hd.fresh (Nat.lt_succ_self _)
  show G mX10_init _ 10 [(0, vR q)] [vR N, vR q] (1, 6, N + 1) (va_up h N (eQ 4 6 (fun _ => none))) _
  refine g_putF (pc := 10) fpX10_11 dX10_init_10 rfl hq_1 (okv_arr _ _) (Nat.le_of_ble_eq_true rfl) ?_
  have hq_2 := hq_1.self (e := eO 10 [vR N, vN, vN])
  have hG_2 := hG_1.ne (e := eO 10 [vR N, vN, vN]) (a := q) (by omega)
  refine g_aload_n (pc := 13) (r := .inl (some q)) dX10_init_13 rfl ?_
  refine g_new (pc := 14) nwX10_15 dX10_init_14 (by show (1 : Nat) + 1 ≤ 632; decide) (by show (6 : Nat) + 13 ≤ 42297; decide) ?_
  have hq_3 := hq_2.grow (ρ2 := (2, 19, N + 2)) (e2 := eO 9 [vI 0, vI 0, vN, vN, vN, vN, vN, vN, vN, vI 0, vI 0, vI 0, vI 0]) (Nat.le_succ _)
  have hG_3 := hG_2.grow (ρ2 := (2, 19, N + 2)) (e2 := eO 9 [vI 0, vI 0, vN, vN, vN, vN, vN, vN, vN, vI 0, vI 0, vI 0, vI 0]) (Nat.le_succ _)
  have hT_3 : Hd (2, 19, N + 2) (va_up (va_up (va_up h N (eQ 4 6 (fun _ => none))) q (eO 10 [vR N, vN, vN])) (N + 1) (eO 9 [vI 0, vI 0, vN, vN, vN, vN, vN, vN, vN, vI 0, vI 0, vI 0, vI 0])) (N + 1) (eO 9 [vI 0, vI 0, vN, vN, vN, vN, vN, vN, vN, vI 0, vI 0, vI 0, vI 0]) := Hd.fresh (Nat.lt_succ_self _)
  show G mX10_init _ 17 [(0, vR q)] [vR (N + 1), vR q] (2, 19, N + 2) (va_up (va_up (va_up h N (eQ 4 6 (fun _ => none))) q (eO 10 [vR N, vN, vN])) (N + 1) (eO 9 [vI 0, vI 0, vN, vN, vN, vN, vN, vN, vN, vI 0, vI 0, vI 0, vI 0])) _
  refine g_dup (pc := 17) dX10_init_17 rfl ?_
  refine g_callI (pc := 18) (as := []) (b := N + 1) (st := [vR (N + 1), vR q]) (mc := 71) (ms := 4612) liX10_17 dX10_init_18 (Nat.le_of_ble_eq_true rfl) (by omega) (by show (2 : Nat) + 71 ≤ 632; decide) (by show (19 : Nat) + 4612 ≤ 42297; decide) (c_newTold (d := d + 1) rfl hT_3) ?_
  rintro r h1 ⟨rfl, t0, t1, t2, t3, t4, t5, t6, t7, t8, t9⟩
  try dsimp only at t0 t1 t2 t3 t4 t5 t6 t7 t8 t9
  have hq_4 := hq_3.mv (ρ2 := (73, 4631, N + 73)) (by show _ ≤ N + 73; dsimp only; omega) (t9 _ (by omega) (by omega))
  have hG_4 := hG_3.mv (ρ2 := (73, 4631, N + 73)) (by show _ ≤ N + 73; dsimp only; omega) (t9 _ (by omega) (by omega))
  have hT_4 := hT_3.mvto (ρ2 := (73, 4631, N + 73)) (by show _ ≤ N + 73; dsimp only; omega) t0
  show G mX10_init _ 21 [(0, vR q)] [vR (N + 1), vR q] (73, 4631, N + 73) h1 _
  refine g_putF (pc := 21) fpX10_18 dX10_init_21 rfl hq_4 (okv_obj _ _) (Nat.le_of_ble_eq_true rfl) ?_
  have hq_5 := hq_4.self (e := eO 10 [vR N, vR (N + 1), vN])
  have hG_5 := hG_4.ne (e := eO 10 [vR N, vR (N + 1), vN]) (a := q) (by omega)
  have hT_5 := hT_4.ne (e := eO 10 [vR N, vR (N + 1), vN]) (a := q) (by omega)
  refine g_aload_n (pc := 24) (r := .inl (some q)) dX10_init_24 rfl ?_
  refine g_sipush (pc := 25) dX10_init_25 (by decide +kernel) ?_
  refine g_newI (pc := 28) (n := 4096) rfl (by omega) ac_int dX10_init_28 (by show (73 : Nat) + 1 ≤ 632; decide) (by show (4631 : Nat) + 4096 ≤ 42297; decide) ?_
  have hq_6 := hq_5.grow (ρ2 := (74, 8727, N + 74)) (e2 := eA 0 4096 (fun _ => 0)) (Nat.le_succ _)
  have hG_6 := hG_5.grow (ρ2 := (74, 8727, N + 74)) (e2 := eA 0 4096 (fun _ => 0)) (Nat.le_succ _)
  have hT_6 := hT_5.grow (ρ2 := (74, 8727, N + 74)) (e2 := eA 0 4096 (fun _ => 0)) (Nat.le_succ _)
  have hS_6 : Hd (74, 8727, N + 74) (va_up (va_up h1 q (eO 10 [vR N, vR (N + 1), vN])) (N + 73) (eA 0 4096 (fun _ => 0))) (N + 73) (eA 0 4096 (fun _ => 0)) := Hd.fresh (Nat.lt_succ_self _)
  show G mX10_init _ 30 [(0, vR q)] [vR (N + 73), vR q] (74, 8727, N + 74) (va_up (va_up h1 q (eO 10 [vR N, vR (N + 1), vN])) (N + 73) (eA 0 4096 (fun _ => 0))) _
  refine g_putF (pc := 30) fpX10_22 dX10_init_30 rfl hq_6 (okv_arr _ _) (Nat.le_of_ble_eq_true rfl) ?_
  have hq_7 := hq_6.self (e := eO 10 [vR N, vR (N + 1), vR (N + 73)])
  have hG_7 := hG_6.ne (e := eO 10 [vR N, vR (N + 1), vR (N + 73)]) (a := q) (by omega)
  have hT_7 := hT_6.ne (e := eO 10 [vR N, vR (N + 1), vR (N + 73)]) (a := q) (by omega)
  have hS_7 := hS_6.ne (e := eO 10 [vR N, vR (N + 1), vR (N + 73)]) (a := q) (by omega)
  refine g_iconst (pc := 33) dX10_init_33 ?_
  refine g_istore_n (pc := 34) (lo2 := [(0, vR q), (1, vI 0)]) dX10_init_34 (by decide) rfl ?_
  refine g_iload_n (pc := 35) (x := 0) dX10_init_35 rfl ?_
  refine g_aload_n (pc := 36) (r := .inl (some q)) dX10_init_36 rfl ?_
  refine g_getf (pc := 37) (v := vR N) flX10_11 dX10_init_37 hq_7 rfl ?_
  refine g_qlen (pc := 40) dX10_init_40 hG_7 (by decide) ?_
  refine g_icmp_geF (pc := 41) (tgt := 63) dX10_init_41 (by decide) (by omega) (by omega) (by omega) ?_
  refine g_aload_n (pc := 44) (r := .inl (some q)) dX10_init_44 rfl ?_
  refine g_getf (pc := 45) (v := vR N) flX10_11 dX10_init_45 hq_7 rfl ?_
  refine g_iload_n (pc := 48) (x := 0) dX10_init_48 rfl ?_
  refine g_new (pc := 49) nwX10_9 dX10_init_49 (by show (74 : Nat) + 1 ≤ 632; decide) (by show (8727 : Nat) + 10 ≤ 42297; decide) ?_
  have hq_8 := hq_7.grow (ρ2 := (75, 8737, N + 75)) (e2 := eO 1 [vI 0, vI 0, vI 0, vI 0, vN, vN, vN, vN, vN, vN]) (Nat.le_succ _)
  have hG_8 := hG_7.grow (ρ2 := (75, 8737, N + 75)) (e2 := eO 1 [vI 0, vI 0, vI 0, vI 0, vN, vN, vN, vN, vN, vN]) (Nat.le_succ _)
  have hS_8 := hS_7.grow (ρ2 := (75, 8737, N + 75)) (e2 := eO 1 [vI 0, vI 0, vI 0, vI 0, vN, vN, vN, vN, vN, vN]) (Nat.le_succ _)
  have hM0_8 : Hd (75, 8737, N + 75) (va_up (va_up (va_up (va_up h1 q (eO 10 [vR N, vR (N + 1), vN])) (N + 73) (eA 0 4096 (fun _ => 0))) q (eO 10 [vR N, vR (N + 1), vR (N + 73)])) (N + 74) (eO 1 [vI 0, vI 0, vI 0, vI 0, vN, vN, vN, vN, vN, vN])) (N + 74) (eO 1 [vI 0, vI 0, vI 0, vI 0, vN, vN, vN, vN, vN, vN]) := Hd.fresh (Nat.lt_succ_self _)
  show G mX10_init _ 52 [(0, vR q), (1, vI 0)] [vR (N + 74), vI 0, vR N] (75, 8737, N + 75) (va_up (va_up (va_up (va_up h1 q (eO 10 [vR N, vR (N + 1), vN])) (N + 73) (eA 0 4096 (fun _ => 0))) q (eO 10 [vR N, vR (N + 1), vR (N + 73)])) (N + 74) (eO 1 [vI 0, vI 0, vI 0, vI 0, vN, vN, vN, vN, vN, vN])) _
  refine g_dup (pc := 52) dX10_init_52 rfl ?_
  refine g_callI (pc := 53) (as := []) (b := N + 74) (st := [vR (N + 74), vI 0, vR N]) (mc := 92) (ms := 5585) liX10_26 dX10_init_53 (Nat.le_of_ble_eq_true rfl) (by omega) (by show (75 : Nat) + 92 ≤ 632; decide) (by show (8737 : Nat) + 5585 ≤ 42297; decide) (c_newMillN (d := d) hM0_8) ?_
  rintro r g0 ⟨rfl, m0_0, y0⟩
  try dsimp only at m0_0 y0
  have hq_9 := hq_8.mv (ρ2 := (167, 14322, N + 167)) (by show _ ≤ N + 167; dsimp only; omega) (y0 _ (by omega))
  have hG_9 := hG_8.mv (ρ2 := (167, 14322, N + 167)) (by show _ ≤ N + 167; dsimp only; omega) (y0 _ (by omega))
  have hS_9 := hS_8.mv (ρ2 := (167, 14322, N + 167)) (by show _ ≤ N + 167; dsimp only; omega) (y0 _ (by omega))
  have hM0_9 := hM0_8.mvto (ρ2 := (167, 14322, N + 167)) (by show _ ≤ N + 167; dsimp only; omega) m0_0.1
  show G mX10_init _ 56 [(0, vR q), (1, vI 0)] [vR (N + 74), vI 0, vR N] (167, 14322, N + 167) g0 _
  refine g_aastN (pc := 56) (j := 0) dX10_init_56 hG_9 (Or.inl ⟨rfl, _, hM0_9⟩) (by omega) (by omega) (by omega) ?_
  have hq_10 := hq_9.ne (e := eQ 4 6 (va_up (fun _ => none) 0 (some (N + 74)))) (a := N) (by omega)
  have hG_10 := hG_9.self (e := eQ 4 6 (va_up (fun _ => none) 0 (some (N + 74))))
  have hS_10 := hS_9.ne (e := eQ 4 6 (va_up (fun _ => none) 0 (some (N + 74)))) (a := N) (by omega)
  have hM0_10 := hM0_9.ne (e := eQ 4 6 (va_up (fun _ => none) 0 (some (N + 74)))) (a := N) (by omega)
  replace m0_0 := m0_0.keep (h2 := va_up g0 N (eQ 4 6 (va_up (fun _ => none) 0 (some (N + 74))))) (fun a a1 a2 => va_up_ne _ _ (by omega))
  refine g_iinc (pc := 57) (x := 0) (lo2 := [(0, vR q), (1, vI (0 + 1))]) dX10_init_57 rfl (by decide) rfl ?_
  refine g_goto (pc := 60) (tgt := 35) dX10_init_60 (by decide) ?_
  refine g_iload_n (pc := 35) (x := 0 + 1) dX10_init_35 rfl ?_
  refine g_aload_n (pc := 36) (r := .inl (some q)) dX10_init_36 rfl ?_
  refine g_getf (pc := 37) (v := vR N) flX10_11 dX10_init_37 hq_10 rfl ?_
  refine g_qlen (pc := 40) dX10_init_40 hG_10 (by decide) ?_
  refine g_icmp_geF (pc := 41) (tgt := 63) dX10_init_41 (by decide) (by omega) (by omega) (by omega) ?_
  refine g_aload_n (pc := 44) (r := .inl (some q)) dX10_init_44 rfl ?_
  refine g_getf (pc := 45) (v := vR N) flX10_11 dX10_init_45 hq_10 rfl ?_
  refine g_iload_n (pc := 48) (x := 0 + 1) dX10_init_48 rfl ?_
  refine g_new (pc := 49) nwX10_9 dX10_init_49 (by show (167 : Nat) + 1 ≤ 632; decide) (by show (14322 : Nat) + 10 ≤ 42297; decide) ?_
  have hq_11 := hq_10.grow (ρ2 := (168, 14332, N + 168)) (e2 := eO 1 [vI 0, vI 0, vI 0, vI 0, vN, vN, vN, vN, vN, vN]) (Nat.le_succ _)
  have hG_11 := hG_10.grow (ρ2 := (168, 14332, N + 168)) (e2 := eO 1 [vI 0, vI 0, vI 0, vI 0, vN, vN, vN, vN, vN, vN]) (Nat.le_succ _)
  have hS_11 := hS_10.grow (ρ2 := (168, 14332, N + 168)) (e2 := eO 1 [vI 0, vI 0, vI 0, vI 0, vN, vN, vN, vN, vN, vN]) (Nat.le_succ _)
  have hM1_11 : Hd (168, 14332, N + 168) (va_up (va_up g0 N (eQ 4 6 (va_up (fun _ => none) 0 (some (N + 74))))) (N + 167) (eO 1 [vI 0, vI 0, vI 0, vI 0, vN, vN, vN, vN, vN, vN])) (N + 167) (eO 1 [vI 0, vI 0, vI 0, vI 0, vN, vN, vN, vN, vN, vN]) := Hd.fresh (Nat.lt_succ_self _)
  show G mX10_init _ 52 [(0, vR q), (1, vI (0 + 1))] [vR (N + 167), vI (0 + 1), vR N] (168, 14332, N + 168) (va_up (va_up g0 N (eQ 4 6 (va_up (fun _ => none) 0 (some (N + 74))))) (N + 167) (eO 1 [vI 0, vI 0, vI 0, vI 0, vN, vN, vN, vN, vN, vN])) _
  refine g_dup (pc := 52) dX10_init_52 rfl ?_
  refine g_callI (pc := 53) (as := []) (b := N + 167) (st := [vR (N + 167), vI (0 + 1), vR N]) (mc := 92) (ms := 5585) liX10_26 dX10_init_53 (Nat.le_of_ble_eq_true rfl) (by omega) (by show (168 : Nat) + 92 ≤ 632; decide) (by show (14332 : Nat) + 5585 ≤ 42297; decide) (c_newMillN (d := d) hM1_11) ?_
  rintro r g1 ⟨rfl, m1_1, y1⟩
  try dsimp only at m1_1 y1
  have hq_12 := hq_11.mv (ρ2 := (260, 19917, N + 260)) (by show _ ≤ N + 260; dsimp only; omega) (y1 _ (by omega))
  have hG_12 := hG_11.mv (ρ2 := (260, 19917, N + 260)) (by show _ ≤ N + 260; dsimp only; omega) (y1 _ (by omega))
  have hS_12 := hS_11.mv (ρ2 := (260, 19917, N + 260)) (by show _ ≤ N + 260; dsimp only; omega) (y1 _ (by omega))
  have hM1_12 := hM1_11.mvto (ρ2 := (260, 19917, N + 260)) (by show _ ≤ N + 260; dsimp only; omega) m1_1.1
  show G mX10_init _ 56 [(0, vR q), (1, vI (0 + 1))] [vR (N + 167), vI (0 + 1), vR N] (260, 19917, N + 260) g1 _
  refine g_aastN (pc := 56) (j := 0 + 1) dX10_init_56 hG_12 (Or.inl ⟨rfl, _, hM1_12⟩) (by omega) (by omega) (by omega) ?_
  have hq_13 := hq_12.ne (e := eQ 4 6 (va_up (va_up (fun _ => none) 0 (some (N + 74))) (0 + 1) (some (N + 167)))) (a := N) (by omega)
  have hG_13 := hG_12.self (e := eQ 4 6 (va_up (va_up (fun _ => none) 0 (some (N + 74))) (0 + 1) (some (N + 167))))
  have hS_13 := hS_12.ne (e := eQ 4 6 (va_up (va_up (fun _ => none) 0 (some (N + 74))) (0 + 1) (some (N + 167)))) (a := N) (by omega)
  have hM1_13 := hM1_12.ne (e := eQ 4 6 (va_up (va_up (fun _ => none) 0 (some (N + 74))) (0 + 1) (some (N + 167)))) (a := N) (by omega)
  have m0_1 := m0_0.keep (h2 := va_up g1 N (eQ 4 6 (va_up (va_up (fun _ => none) 0 (some (N + 74))) (0 + 1) (some (N + 167))))) (fun a a1 a2 => (va_up_ne _ _ (by omega)).trans ((y1 a (by omega)).trans (va_up_ne _ _ (by omega))))
  replace m1_1 := m1_1.keep (h2 := va_up g1 N (eQ 4 6 (va_up (va_up (fun _ => none) 0 (some (N + 74))) (0 + 1) (some (N + 167))))) (fun a a1 a2 => va_up_ne _ _ (by omega))
  refine g_iinc (pc := 57) (x := 0 + 1) (lo2 := [(0, vR q), (1, vI (0 + 1 + 1))]) dX10_init_57 rfl (by decide) rfl ?_
  refine g_goto (pc := 60) (tgt := 35) dX10_init_60 (by decide) ?_
  refine g_iload_n (pc := 35) (x := 0 + 1 + 1) dX10_init_35 rfl ?_
  refine g_aload_n (pc := 36) (r := .inl (some q)) dX10_init_36 rfl ?_
  refine g_getf (pc := 37) (v := vR N) flX10_11 dX10_init_37 hq_13 rfl ?_
  refine g_qlen (pc := 40) dX10_init_40 hG_13 (by decide) ?_
  refine g_icmp_geF (pc := 41) (tgt := 63) dX10_init_41 (by decide) (by omega) (by omega) (by omega) ?_
  refine g_aload_n (pc := 44) (r := .inl (some q)) dX10_init_44 rfl ?_
  refine g_getf (pc := 45) (v := vR N) flX10_11 dX10_init_45 hq_13 rfl ?_
  refine g_iload_n (pc := 48) (x := 0 + 1 + 1) dX10_init_48 rfl ?_
  refine g_new (pc := 49) nwX10_9 dX10_init_49 (by show (260 : Nat) + 1 ≤ 632; decide) (by show (19917 : Nat) + 10 ≤ 42297; decide) ?_
  have hq_14 := hq_13.grow (ρ2 := (261, 19927, N + 261)) (e2 := eO 1 [vI 0, vI 0, vI 0, vI 0, vN, vN, vN, vN, vN, vN]) (Nat.le_succ _)
  have hG_14 := hG_13.grow (ρ2 := (261, 19927, N + 261)) (e2 := eO 1 [vI 0, vI 0, vI 0, vI 0, vN, vN, vN, vN, vN, vN]) (Nat.le_succ _)
  have hS_14 := hS_13.grow (ρ2 := (261, 19927, N + 261)) (e2 := eO 1 [vI 0, vI 0, vI 0, vI 0, vN, vN, vN, vN, vN, vN]) (Nat.le_succ _)
  have hM2_14 : Hd (261, 19927, N + 261) (va_up (va_up g1 N (eQ 4 6 (va_up (va_up (fun _ => none) 0 (some (N + 74))) (0 + 1) (some (N + 167))))) (N + 260) (eO 1 [vI 0, vI 0, vI 0, vI 0, vN, vN, vN, vN, vN, vN])) (N + 260) (eO 1 [vI 0, vI 0, vI 0, vI 0, vN, vN, vN, vN, vN, vN]) := Hd.fresh (Nat.lt_succ_self _)
  show G mX10_init _ 52 [(0, vR q), (1, vI (0 + 1 + 1))] [vR (N + 260), vI (0 + 1 + 1), vR N] (261, 19927, N + 261) (va_up (va_up g1 N (eQ 4 6 (va_up (va_up (fun _ => none) 0 (some (N + 74))) (0 + 1) (some (N + 167))))) (N + 260) (eO 1 [vI 0, vI 0, vI 0, vI 0, vN, vN, vN, vN, vN, vN])) _
  refine g_dup (pc := 52) dX10_init_52 rfl ?_
  refine g_callI (pc := 53) (as := []) (b := N + 260) (st := [vR (N + 260), vI (0 + 1 + 1), vR N]) (mc := 92) (ms := 5585) liX10_26 dX10_init_53 (Nat.le_of_ble_eq_true rfl) (by omega) (by show (261 : Nat) + 92 ≤ 632; decide) (by show (19927 : Nat) + 5585 ≤ 42297; decide) (c_newMillN (d := d) hM2_14) ?_
  rintro r g2 ⟨rfl, m2_2, y2⟩
  try dsimp only at m2_2 y2
  have hq_15 := hq_14.mv (ρ2 := (353, 25512, N + 353)) (by show _ ≤ N + 353; dsimp only; omega) (y2 _ (by omega))
  have hG_15 := hG_14.mv (ρ2 := (353, 25512, N + 353)) (by show _ ≤ N + 353; dsimp only; omega) (y2 _ (by omega))
  have hS_15 := hS_14.mv (ρ2 := (353, 25512, N + 353)) (by show _ ≤ N + 353; dsimp only; omega) (y2 _ (by omega))
  have hM2_15 := hM2_14.mvto (ρ2 := (353, 25512, N + 353)) (by show _ ≤ N + 353; dsimp only; omega) m2_2.1
  show G mX10_init _ 56 [(0, vR q), (1, vI (0 + 1 + 1))] [vR (N + 260), vI (0 + 1 + 1), vR N] (353, 25512, N + 353) g2 _
  refine g_aastN (pc := 56) (j := 0 + 1 + 1) dX10_init_56 hG_15 (Or.inl ⟨rfl, _, hM2_15⟩) (by omega) (by omega) (by omega) ?_
  have hq_16 := hq_15.ne (e := eQ 4 6 (va_up (va_up (va_up (fun _ => none) 0 (some (N + 74))) (0 + 1) (some (N + 167))) (0 + 1 + 1) (some (N + 260)))) (a := N) (by omega)
  have hG_16 := hG_15.self (e := eQ 4 6 (va_up (va_up (va_up (fun _ => none) 0 (some (N + 74))) (0 + 1) (some (N + 167))) (0 + 1 + 1) (some (N + 260))))
  have hS_16 := hS_15.ne (e := eQ 4 6 (va_up (va_up (va_up (fun _ => none) 0 (some (N + 74))) (0 + 1) (some (N + 167))) (0 + 1 + 1) (some (N + 260)))) (a := N) (by omega)
  have hM2_16 := hM2_15.ne (e := eQ 4 6 (va_up (va_up (va_up (fun _ => none) 0 (some (N + 74))) (0 + 1) (some (N + 167))) (0 + 1 + 1) (some (N + 260)))) (a := N) (by omega)
  have m0_2 := m0_1.keep (h2 := va_up g2 N (eQ 4 6 (va_up (va_up (va_up (fun _ => none) 0 (some (N + 74))) (0 + 1) (some (N + 167))) (0 + 1 + 1) (some (N + 260))))) (fun a a1 a2 => (va_up_ne _ _ (by omega)).trans ((y2 a (by omega)).trans (va_up_ne _ _ (by omega))))
  have m1_2 := m1_1.keep (h2 := va_up g2 N (eQ 4 6 (va_up (va_up (va_up (fun _ => none) 0 (some (N + 74))) (0 + 1) (some (N + 167))) (0 + 1 + 1) (some (N + 260))))) (fun a a1 a2 => (va_up_ne _ _ (by omega)).trans ((y2 a (by omega)).trans (va_up_ne _ _ (by omega))))
  replace m2_2 := m2_2.keep (h2 := va_up g2 N (eQ 4 6 (va_up (va_up (va_up (fun _ => none) 0 (some (N + 74))) (0 + 1) (some (N + 167))) (0 + 1 + 1) (some (N + 260))))) (fun a a1 a2 => va_up_ne _ _ (by omega))
  refine g_iinc (pc := 57) (x := 0 + 1 + 1) (lo2 := [(0, vR q), (1, vI (0 + 1 + 1 + 1))]) dX10_init_57 rfl (by decide) rfl ?_
  refine g_goto (pc := 60) (tgt := 35) dX10_init_60 (by decide) ?_
  refine g_iload_n (pc := 35) (x := 0 + 1 + 1 + 1) dX10_init_35 rfl ?_
  refine g_aload_n (pc := 36) (r := .inl (some q)) dX10_init_36 rfl ?_
  refine g_getf (pc := 37) (v := vR N) flX10_11 dX10_init_37 hq_16 rfl ?_
  refine g_qlen (pc := 40) dX10_init_40 hG_16 (by decide) ?_
  refine g_icmp_geF (pc := 41) (tgt := 63) dX10_init_41 (by decide) (by omega) (by omega) (by omega) ?_
  refine g_aload_n (pc := 44) (r := .inl (some q)) dX10_init_44 rfl ?_
  refine g_getf (pc := 45) (v := vR N) flX10_11 dX10_init_45 hq_16 rfl ?_
  refine g_iload_n (pc := 48) (x := 0 + 1 + 1 + 1) dX10_init_48 rfl ?_
  refine g_new (pc := 49) nwX10_9 dX10_init_49 (by show (353 : Nat) + 1 ≤ 632; decide) (by show (25512 : Nat) + 10 ≤ 42297; decide) ?_
  have hq_17 := hq_16.grow (ρ2 := (354, 25522, N + 354)) (e2 := eO 1 [vI 0, vI 0, vI 0, vI 0, vN, vN, vN, vN, vN, vN]) (Nat.le_succ _)
  have hG_17 := hG_16.grow (ρ2 := (354, 25522, N + 354)) (e2 := eO 1 [vI 0, vI 0, vI 0, vI 0, vN, vN, vN, vN, vN, vN]) (Nat.le_succ _)
  have hS_17 := hS_16.grow (ρ2 := (354, 25522, N + 354)) (e2 := eO 1 [vI 0, vI 0, vI 0, vI 0, vN, vN, vN, vN, vN, vN]) (Nat.le_succ _)
  have hM3_17 : Hd (354, 25522, N + 354) (va_up (va_up g2 N (eQ 4 6 (va_up (va_up (va_up (fun _ => none) 0 (some (N + 74))) (0 + 1) (some (N + 167))) (0 + 1 + 1) (some (N + 260))))) (N + 353) (eO 1 [vI 0, vI 0, vI 0, vI 0, vN, vN, vN, vN, vN, vN])) (N + 353) (eO 1 [vI 0, vI 0, vI 0, vI 0, vN, vN, vN, vN, vN, vN]) := Hd.fresh (Nat.lt_succ_self _)
  show G mX10_init _ 52 [(0, vR q), (1, vI (0 + 1 + 1 + 1))] [vR (N + 353), vI (0 + 1 + 1 + 1), vR N] (354, 25522, N + 354) (va_up (va_up g2 N (eQ 4 6 (va_up (va_up (va_up (fun _ => none) 0 (some (N + 74))) (0 + 1) (some (N + 167))) (0 + 1 + 1) (some (N + 260))))) (N + 353) (eO 1 [vI 0, vI 0, vI 0, vI 0, vN, vN, vN, vN, vN, vN])) _
  refine g_dup (pc := 52) dX10_init_52 rfl ?_
  refine g_callI (pc := 53) (as := []) (b := N + 353) (st := [vR (N + 353), vI (0 + 1 + 1 + 1), vR N]) (mc := 92) (ms := 5585) liX10_26 dX10_init_53 (Nat.le_of_ble_eq_true rfl) (by omega) (by show (354 : Nat) + 92 ≤ 632; decide) (by show (25522 : Nat) + 5585 ≤ 42297; decide) (c_newMillN (d := d) hM3_17) ?_
  rintro r g3 ⟨rfl, m3_3, y3⟩
  try dsimp only at m3_3 y3
  have hq_18 := hq_17.mv (ρ2 := (446, 31107, N + 446)) (by show _ ≤ N + 446; dsimp only; omega) (y3 _ (by omega))
  have hG_18 := hG_17.mv (ρ2 := (446, 31107, N + 446)) (by show _ ≤ N + 446; dsimp only; omega) (y3 _ (by omega))
  have hS_18 := hS_17.mv (ρ2 := (446, 31107, N + 446)) (by show _ ≤ N + 446; dsimp only; omega) (y3 _ (by omega))
  have hM3_18 := hM3_17.mvto (ρ2 := (446, 31107, N + 446)) (by show _ ≤ N + 446; dsimp only; omega) m3_3.1
  show G mX10_init _ 56 [(0, vR q), (1, vI (0 + 1 + 1 + 1))] [vR (N + 353), vI (0 + 1 + 1 + 1), vR N] (446, 31107, N + 446) g3 _
  refine g_aastN (pc := 56) (j := 0 + 1 + 1 + 1) dX10_init_56 hG_18 (Or.inl ⟨rfl, _, hM3_18⟩) (by omega) (by omega) (by omega) ?_
  have hq_19 := hq_18.ne (e := eQ 4 6 (va_up (va_up (va_up (va_up (fun _ => none) 0 (some (N + 74))) (0 + 1) (some (N + 167))) (0 + 1 + 1) (some (N + 260))) (0 + 1 + 1 + 1) (some (N + 353)))) (a := N) (by omega)
  have hG_19 := hG_18.self (e := eQ 4 6 (va_up (va_up (va_up (va_up (fun _ => none) 0 (some (N + 74))) (0 + 1) (some (N + 167))) (0 + 1 + 1) (some (N + 260))) (0 + 1 + 1 + 1) (some (N + 353))))
  have hS_19 := hS_18.ne (e := eQ 4 6 (va_up (va_up (va_up (va_up (fun _ => none) 0 (some (N + 74))) (0 + 1) (some (N + 167))) (0 + 1 + 1) (some (N + 260))) (0 + 1 + 1 + 1) (some (N + 353)))) (a := N) (by omega)
  have hM3_19 := hM3_18.ne (e := eQ 4 6 (va_up (va_up (va_up (va_up (fun _ => none) 0 (some (N + 74))) (0 + 1) (some (N + 167))) (0 + 1 + 1) (some (N + 260))) (0 + 1 + 1 + 1) (some (N + 353)))) (a := N) (by omega)
  have m0_3 := m0_2.keep (h2 := va_up g3 N (eQ 4 6 (va_up (va_up (va_up (va_up (fun _ => none) 0 (some (N + 74))) (0 + 1) (some (N + 167))) (0 + 1 + 1) (some (N + 260))) (0 + 1 + 1 + 1) (some (N + 353))))) (fun a a1 a2 => (va_up_ne _ _ (by omega)).trans ((y3 a (by omega)).trans (va_up_ne _ _ (by omega))))
  have m1_3 := m1_2.keep (h2 := va_up g3 N (eQ 4 6 (va_up (va_up (va_up (va_up (fun _ => none) 0 (some (N + 74))) (0 + 1) (some (N + 167))) (0 + 1 + 1) (some (N + 260))) (0 + 1 + 1 + 1) (some (N + 353))))) (fun a a1 a2 => (va_up_ne _ _ (by omega)).trans ((y3 a (by omega)).trans (va_up_ne _ _ (by omega))))
  have m2_3 := m2_2.keep (h2 := va_up g3 N (eQ 4 6 (va_up (va_up (va_up (va_up (fun _ => none) 0 (some (N + 74))) (0 + 1) (some (N + 167))) (0 + 1 + 1) (some (N + 260))) (0 + 1 + 1 + 1) (some (N + 353))))) (fun a a1 a2 => (va_up_ne _ _ (by omega)).trans ((y3 a (by omega)).trans (va_up_ne _ _ (by omega))))
  replace m3_3 := m3_3.keep (h2 := va_up g3 N (eQ 4 6 (va_up (va_up (va_up (va_up (fun _ => none) 0 (some (N + 74))) (0 + 1) (some (N + 167))) (0 + 1 + 1) (some (N + 260))) (0 + 1 + 1 + 1) (some (N + 353))))) (fun a a1 a2 => va_up_ne _ _ (by omega))
  refine g_iinc (pc := 57) (x := 0 + 1 + 1 + 1) (lo2 := [(0, vR q), (1, vI (0 + 1 + 1 + 1 + 1))]) dX10_init_57 rfl (by decide) rfl ?_
  refine g_goto (pc := 60) (tgt := 35) dX10_init_60 (by decide) ?_
  refine g_iload_n (pc := 35) (x := 0 + 1 + 1 + 1 + 1) dX10_init_35 rfl ?_
  refine g_aload_n (pc := 36) (r := .inl (some q)) dX10_init_36 rfl ?_
  refine g_getf (pc := 37) (v := vR N) flX10_11 dX10_init_37 hq_19 rfl ?_
  refine g_qlen (pc := 40) dX10_init_40 hG_19 (by decide) ?_
  refine g_icmp_geF (pc := 41) (tgt := 63) dX10_init_41 (by decide) (by omega) (by omega) (by omega) ?_
  refine g_aload_n (pc := 44) (r := .inl (some q)) dX10_init_44 rfl ?_
  refine g_getf (pc := 45) (v := vR N) flX10_11 dX10_init_45 hq_19 rfl ?_
  refine g_iload_n (pc := 48) (x := 0 + 1 + 1 + 1 + 1) dX10_init_48 rfl ?_
  refine g_new (pc := 49) nwX10_9 dX10_init_49 (by show (446 : Nat) + 1 ≤ 632; decide) (by show (31107 : Nat) + 10 ≤ 42297; decide) ?_
  have hq_20 := hq_19.grow (ρ2 := (447, 31117, N + 447)) (e2 := eO 1 [vI 0, vI 0, vI 0, vI 0, vN, vN, vN, vN, vN, vN]) (Nat.le_succ _)
  have hG_20 := hG_19.grow (ρ2 := (447, 31117, N + 447)) (e2 := eO 1 [vI 0, vI 0, vI 0, vI 0, vN, vN, vN, vN, vN, vN]) (Nat.le_succ _)
  have hS_20 := hS_19.grow (ρ2 := (447, 31117, N + 447)) (e2 := eO 1 [vI 0, vI 0, vI 0, vI 0, vN, vN, vN, vN, vN, vN]) (Nat.le_succ _)
  have hM4_20 : Hd (447, 31117, N + 447) (va_up (va_up g3 N (eQ 4 6 (va_up (va_up (va_up (va_up (fun _ => none) 0 (some (N + 74))) (0 + 1) (some (N + 167))) (0 + 1 + 1) (some (N + 260))) (0 + 1 + 1 + 1) (some (N + 353))))) (N + 446) (eO 1 [vI 0, vI 0, vI 0, vI 0, vN, vN, vN, vN, vN, vN])) (N + 446) (eO 1 [vI 0, vI 0, vI 0, vI 0, vN, vN, vN, vN, vN, vN]) := Hd.fresh (Nat.lt_succ_self _)
  show G mX10_init _ 52 [(0, vR q), (1, vI (0 + 1 + 1 + 1 + 1))] [vR (N + 446), vI (0 + 1 + 1 + 1 + 1), vR N] (447, 31117, N + 447) (va_up (va_up g3 N (eQ 4 6 (va_up (va_up (va_up (va_up (fun _ => none) 0 (some (N + 74))) (0 + 1) (some (N + 167))) (0 + 1 + 1) (some (N + 260))) (0 + 1 + 1 + 1) (some (N + 353))))) (N + 446) (eO 1 [vI 0, vI 0, vI 0, vI 0, vN, vN, vN, vN, vN, vN])) _
  refine g_dup (pc := 52) dX10_init_52 rfl ?_
  refine g_callI (pc := 53) (as := []) (b := N + 446) (st := [vR (N + 446), vI (0 + 1 + 1 + 1 + 1), vR N]) (mc := 92) (ms := 5585) liX10_26 dX10_init_53 (Nat.le_of_ble_eq_true rfl) (by omega) (by show (447 : Nat) + 92 ≤ 632; decide) (by show (31117 : Nat) + 5585 ≤ 42297; decide) (c_newMillN (d := d) hM4_20) ?_
  rintro r g4 ⟨rfl, m4_4, y4⟩
  try dsimp only at m4_4 y4
  have hq_21 := hq_20.mv (ρ2 := (539, 36702, N + 539)) (by show _ ≤ N + 539; dsimp only; omega) (y4 _ (by omega))
  have hG_21 := hG_20.mv (ρ2 := (539, 36702, N + 539)) (by show _ ≤ N + 539; dsimp only; omega) (y4 _ (by omega))
  have hS_21 := hS_20.mv (ρ2 := (539, 36702, N + 539)) (by show _ ≤ N + 539; dsimp only; omega) (y4 _ (by omega))
  have hM4_21 := hM4_20.mvto (ρ2 := (539, 36702, N + 539)) (by show _ ≤ N + 539; dsimp only; omega) m4_4.1
  show G mX10_init _ 56 [(0, vR q), (1, vI (0 + 1 + 1 + 1 + 1))] [vR (N + 446), vI (0 + 1 + 1 + 1 + 1), vR N] (539, 36702, N + 539) g4 _
  refine g_aastN (pc := 56) (j := 0 + 1 + 1 + 1 + 1) dX10_init_56 hG_21 (Or.inl ⟨rfl, _, hM4_21⟩) (by omega) (by omega) (by omega) ?_
  have hq_22 := hq_21.ne (e := eQ 4 6 (va_up (va_up (va_up (va_up (va_up (fun _ => none) 0 (some (N + 74))) (0 + 1) (some (N + 167))) (0 + 1 + 1) (some (N + 260))) (0 + 1 + 1 + 1) (some (N + 353))) (0 + 1 + 1 + 1 + 1) (some (N + 446)))) (a := N) (by omega)
  have hG_22 := hG_21.self (e := eQ 4 6 (va_up (va_up (va_up (va_up (va_up (fun _ => none) 0 (some (N + 74))) (0 + 1) (some (N + 167))) (0 + 1 + 1) (some (N + 260))) (0 + 1 + 1 + 1) (some (N + 353))) (0 + 1 + 1 + 1 + 1) (some (N + 446))))
  have hS_22 := hS_21.ne (e := eQ 4 6 (va_up (va_up (va_up (va_up (va_up (fun _ => none) 0 (some (N + 74))) (0 + 1) (some (N + 167))) (0 + 1 + 1) (some (N + 260))) (0 + 1 + 1 + 1) (some (N + 353))) (0 + 1 + 1 + 1 + 1) (some (N + 446)))) (a := N) (by omega)
  have hM4_22 := hM4_21.ne (e := eQ 4 6 (va_up (va_up (va_up (va_up (va_up (fun _ => none) 0 (some (N + 74))) (0 + 1) (some (N + 167))) (0 + 1 + 1) (some (N + 260))) (0 + 1 + 1 + 1) (some (N + 353))) (0 + 1 + 1 + 1 + 1) (some (N + 446)))) (a := N) (by omega)
  have m0_4 := m0_3.keep (h2 := va_up g4 N (eQ 4 6 (va_up (va_up (va_up (va_up (va_up (fun _ => none) 0 (some (N + 74))) (0 + 1) (some (N + 167))) (0 + 1 + 1) (some (N + 260))) (0 + 1 + 1 + 1) (some (N + 353))) (0 + 1 + 1 + 1 + 1) (some (N + 446))))) (fun a a1 a2 => (va_up_ne _ _ (by omega)).trans ((y4 a (by omega)).trans (va_up_ne _ _ (by omega))))
  have m1_4 := m1_3.keep (h2 := va_up g4 N (eQ 4 6 (va_up (va_up (va_up (va_up (va_up (fun _ => none) 0 (some (N + 74))) (0 + 1) (some (N + 167))) (0 + 1 + 1) (some (N + 260))) (0 + 1 + 1 + 1) (some (N + 353))) (0 + 1 + 1 + 1 + 1) (some (N + 446))))) (fun a a1 a2 => (va_up_ne _ _ (by omega)).trans ((y4 a (by omega)).trans (va_up_ne _ _ (by omega))))
  have m2_4 := m2_3.keep (h2 := va_up g4 N (eQ 4 6 (va_up (va_up (va_up (va_up (va_up (fun _ => none) 0 (some (N + 74))) (0 + 1) (some (N + 167))) (0 + 1 + 1) (some (N + 260))) (0 + 1 + 1 + 1) (some (N + 353))) (0 + 1 + 1 + 1 + 1) (some (N + 446))))) (fun a a1 a2 => (va_up_ne _ _ (by omega)).trans ((y4 a (by omega)).trans (va_up_ne _ _ (by omega))))
  have m3_4 := m3_3.keep (h2 := va_up g4 N (eQ 4 6 (va_up (va_up (va_up (va_up (va_up (fun _ => none) 0 (some (N + 74))) (0 + 1) (some (N + 167))) (0 + 1 + 1) (some (N + 260))) (0 + 1 + 1 + 1) (some (N + 353))) (0 + 1 + 1 + 1 + 1) (some (N + 446))))) (fun a a1 a2 => (va_up_ne _ _ (by omega)).trans ((y4 a (by omega)).trans (va_up_ne _ _ (by omega))))
  replace m4_4 := m4_4.keep (h2 := va_up g4 N (eQ 4 6 (va_up (va_up (va_up (va_up (va_up (fun _ => none) 0 (some (N + 74))) (0 + 1) (some (N + 167))) (0 + 1 + 1) (some (N + 260))) (0 + 1 + 1 + 1) (some (N + 353))) (0 + 1 + 1 + 1 + 1) (some (N + 446))))) (fun a a1 a2 => va_up_ne _ _ (by omega))
  refine g_iinc (pc := 57) (x := 0 + 1 + 1 + 1 + 1) (lo2 := [(0, vR q), (1, vI (0 + 1 + 1 + 1 + 1 + 1))]) dX10_init_57 rfl (by decide) rfl ?_
  refine g_goto (pc := 60) (tgt := 35) dX10_init_60 (by decide) ?_
  refine g_iload_n (pc := 35) (x := 0 + 1 + 1 + 1 + 1 + 1) dX10_init_35 rfl ?_
  refine g_aload_n (pc := 36) (r := .inl (some q)) dX10_init_36 rfl ?_
  refine g_getf (pc := 37) (v := vR N) flX10_11 dX10_init_37 hq_22 rfl ?_
  refine g_qlen (pc := 40) dX10_init_40 hG_22 (by decide) ?_
  refine g_icmp_geF (pc := 41) (tgt := 63) dX10_init_41 (by decide) (by omega) (by omega) (by omega) ?_
  refine g_aload_n (pc := 44) (r := .inl (some q)) dX10_init_44 rfl ?_
  refine g_getf (pc := 45) (v := vR N) flX10_11 dX10_init_45 hq_22 rfl ?_
  refine g_iload_n (pc := 48) (x := 0 + 1 + 1 + 1 + 1 + 1) dX10_init_48 rfl ?_
  refine g_new (pc := 49) nwX10_9 dX10_init_49 (by show (539 : Nat) + 1 ≤ 632; decide) (by show (36702 : Nat) + 10 ≤ 42297; decide) ?_
  have hq_23 := hq_22.grow (ρ2 := (540, 36712, N + 540)) (e2 := eO 1 [vI 0, vI 0, vI 0, vI 0, vN, vN, vN, vN, vN, vN]) (Nat.le_succ _)
  have hG_23 := hG_22.grow (ρ2 := (540, 36712, N + 540)) (e2 := eO 1 [vI 0, vI 0, vI 0, vI 0, vN, vN, vN, vN, vN, vN]) (Nat.le_succ _)
  have hS_23 := hS_22.grow (ρ2 := (540, 36712, N + 540)) (e2 := eO 1 [vI 0, vI 0, vI 0, vI 0, vN, vN, vN, vN, vN, vN]) (Nat.le_succ _)
  have hM5_23 : Hd (540, 36712, N + 540) (va_up (va_up g4 N (eQ 4 6 (va_up (va_up (va_up (va_up (va_up (fun _ => none) 0 (some (N + 74))) (0 + 1) (some (N + 167))) (0 + 1 + 1) (some (N + 260))) (0 + 1 + 1 + 1) (some (N + 353))) (0 + 1 + 1 + 1 + 1) (some (N + 446))))) (N + 539) (eO 1 [vI 0, vI 0, vI 0, vI 0, vN, vN, vN, vN, vN, vN])) (N + 539) (eO 1 [vI 0, vI 0, vI 0, vI 0, vN, vN, vN, vN, vN, vN]) := Hd.fresh (Nat.lt_succ_self _)
  show G mX10_init _ 52 [(0, vR q), (1, vI (0 + 1 + 1 + 1 + 1 + 1))] [vR (N + 539), vI (0 + 1 + 1 + 1 + 1 + 1), vR N] (540, 36712, N + 540) (va_up (va_up g4 N (eQ 4 6 (va_up (va_up (va_up (va_up (va_up (fun _ => none) 0 (some (N + 74))) (0 + 1) (some (N + 167))) (0 + 1 + 1) (some (N + 260))) (0 + 1 + 1 + 1) (some (N + 353))) (0 + 1 + 1 + 1 + 1) (some (N + 446))))) (N + 539) (eO 1 [vI 0, vI 0, vI 0, vI 0, vN, vN, vN, vN, vN, vN])) _
  refine g_dup (pc := 52) dX10_init_52 rfl ?_
  refine g_callI (pc := 53) (as := []) (b := N + 539) (st := [vR (N + 539), vI (0 + 1 + 1 + 1 + 1 + 1), vR N]) (mc := 92) (ms := 5585) liX10_26 dX10_init_53 (Nat.le_of_ble_eq_true rfl) (by omega) (by show (540 : Nat) + 92 ≤ 632; decide) (by show (36712 : Nat) + 5585 ≤ 42297; decide) (c_newMillN (d := d) hM5_23) ?_
  rintro r g5 ⟨rfl, m5_5, y5⟩
  try dsimp only at m5_5 y5
  have hq_24 := hq_23.mv (ρ2 := (632, 42297, N + 632)) (by show _ ≤ N + 632; dsimp only; omega) (y5 _ (by omega))
  have hG_24 := hG_23.mv (ρ2 := (632, 42297, N + 632)) (by show _ ≤ N + 632; dsimp only; omega) (y5 _ (by omega))
  have hS_24 := hS_23.mv (ρ2 := (632, 42297, N + 632)) (by show _ ≤ N + 632; dsimp only; omega) (y5 _ (by omega))
  have hM5_24 := hM5_23.mvto (ρ2 := (632, 42297, N + 632)) (by show _ ≤ N + 632; dsimp only; omega) m5_5.1
  show G mX10_init _ 56 [(0, vR q), (1, vI (0 + 1 + 1 + 1 + 1 + 1))] [vR (N + 539), vI (0 + 1 + 1 + 1 + 1 + 1), vR N] (632, 42297, N + 632) g5 _
  refine g_aastN (pc := 56) (j := 0 + 1 + 1 + 1 + 1 + 1) dX10_init_56 hG_24 (Or.inl ⟨rfl, _, hM5_24⟩) (by omega) (by omega) (by omega) ?_
  have hq_25 := hq_24.ne (e := eQ 4 6 (va_up (va_up (va_up (va_up (va_up (va_up (fun _ => none) 0 (some (N + 74))) (0 + 1) (some (N + 167))) (0 + 1 + 1) (some (N + 260))) (0 + 1 + 1 + 1) (some (N + 353))) (0 + 1 + 1 + 1 + 1) (some (N + 446))) (0 + 1 + 1 + 1 + 1 + 1) (some (N + 539)))) (a := N) (by omega)
  have hG_25 := hG_24.self (e := eQ 4 6 (va_up (va_up (va_up (va_up (va_up (va_up (fun _ => none) 0 (some (N + 74))) (0 + 1) (some (N + 167))) (0 + 1 + 1) (some (N + 260))) (0 + 1 + 1 + 1) (some (N + 353))) (0 + 1 + 1 + 1 + 1) (some (N + 446))) (0 + 1 + 1 + 1 + 1 + 1) (some (N + 539))))
  have hS_25 := hS_24.ne (e := eQ 4 6 (va_up (va_up (va_up (va_up (va_up (va_up (fun _ => none) 0 (some (N + 74))) (0 + 1) (some (N + 167))) (0 + 1 + 1) (some (N + 260))) (0 + 1 + 1 + 1) (some (N + 353))) (0 + 1 + 1 + 1 + 1) (some (N + 446))) (0 + 1 + 1 + 1 + 1 + 1) (some (N + 539)))) (a := N) (by omega)
  have hM5_25 := hM5_24.ne (e := eQ 4 6 (va_up (va_up (va_up (va_up (va_up (va_up (fun _ => none) 0 (some (N + 74))) (0 + 1) (some (N + 167))) (0 + 1 + 1) (some (N + 260))) (0 + 1 + 1 + 1) (some (N + 353))) (0 + 1 + 1 + 1 + 1) (some (N + 446))) (0 + 1 + 1 + 1 + 1 + 1) (some (N + 539)))) (a := N) (by omega)
  have m0_5 := m0_4.keep (h2 := va_up g5 N (eQ 4 6 (va_up (va_up (va_up (va_up (va_up (va_up (fun _ => none) 0 (some (N + 74))) (0 + 1) (some (N + 167))) (0 + 1 + 1) (some (N + 260))) (0 + 1 + 1 + 1) (some (N + 353))) (0 + 1 + 1 + 1 + 1) (some (N + 446))) (0 + 1 + 1 + 1 + 1 + 1) (some (N + 539))))) (fun a a1 a2 => (va_up_ne _ _ (by omega)).trans ((y5 a (by omega)).trans (va_up_ne _ _ (by omega))))
  have m1_5 := m1_4.keep (h2 := va_up g5 N (eQ 4 6 (va_up (va_up (va_up (va_up (va_up (va_up (fun _ => none) 0 (some (N + 74))) (0 + 1) (some (N + 167))) (0 + 1 + 1) (some (N + 260))) (0 + 1 + 1 + 1) (some (N + 353))) (0 + 1 + 1 + 1 + 1) (some (N + 446))) (0 + 1 + 1 + 1 + 1 + 1) (some (N + 539))))) (fun a a1 a2 => (va_up_ne _ _ (by omega)).trans ((y5 a (by omega)).trans (va_up_ne _ _ (by omega))))
  have m2_5 := m2_4.keep (h2 := va_up g5 N (eQ 4 6 (va_up (va_up (va_up (va_up (va_up (va_up (fun _ => none) 0 (some (N + 74))) (0 + 1) (some (N + 167))) (0 + 1 + 1) (some (N + 260))) (0 + 1 + 1 + 1) (some (N + 353))) (0 + 1 + 1 + 1 + 1) (some (N + 446))) (0 + 1 + 1 + 1 + 1 + 1) (some (N + 539))))) (fun a a1 a2 => (va_up_ne _ _ (by omega)).trans ((y5 a (by omega)).trans (va_up_ne _ _ (by omega))))
  have m3_5 := m3_4.keep (h2 := va_up g5 N (eQ 4 6 (va_up (va_up (va_up (va_up (va_up (va_up (fun _ => none) 0 (some (N + 74))) (0 + 1) (some (N + 167))) (0 + 1 + 1) (some (N + 260))) (0 + 1 + 1 + 1) (some (N + 353))) (0 + 1 + 1 + 1 + 1) (some (N + 446))) (0 + 1 + 1 + 1 + 1 + 1) (some (N + 539))))) (fun a a1 a2 => (va_up_ne _ _ (by omega)).trans ((y5 a (by omega)).trans (va_up_ne _ _ (by omega))))
  have m4_5 := m4_4.keep (h2 := va_up g5 N (eQ 4 6 (va_up (va_up (va_up (va_up (va_up (va_up (fun _ => none) 0 (some (N + 74))) (0 + 1) (some (N + 167))) (0 + 1 + 1) (some (N + 260))) (0 + 1 + 1 + 1) (some (N + 353))) (0 + 1 + 1 + 1 + 1) (some (N + 446))) (0 + 1 + 1 + 1 + 1 + 1) (some (N + 539))))) (fun a a1 a2 => (va_up_ne _ _ (by omega)).trans ((y5 a (by omega)).trans (va_up_ne _ _ (by omega))))
  replace m5_5 := m5_5.keep (h2 := va_up g5 N (eQ 4 6 (va_up (va_up (va_up (va_up (va_up (va_up (fun _ => none) 0 (some (N + 74))) (0 + 1) (some (N + 167))) (0 + 1 + 1) (some (N + 260))) (0 + 1 + 1 + 1) (some (N + 353))) (0 + 1 + 1 + 1 + 1) (some (N + 446))) (0 + 1 + 1 + 1 + 1 + 1) (some (N + 539))))) (fun a a1 a2 => va_up_ne _ _ (by omega))
  refine g_iinc (pc := 57) (x := 0 + 1 + 1 + 1 + 1 + 1) (lo2 := [(0, vR q), (1, vI (0 + 1 + 1 + 1 + 1 + 1 + 1))]) dX10_init_57 rfl (by decide) rfl ?_
  refine g_goto (pc := 60) (tgt := 35) dX10_init_60 (by decide) ?_
  refine g_iload_n (pc := 35) (x := 0 + 1 + 1 + 1 + 1 + 1 + 1) dX10_init_35 rfl ?_
  refine g_aload_n (pc := 36) (r := .inl (some q)) dX10_init_36 rfl ?_
  refine g_getf (pc := 37) (v := vR N) flX10_11 dX10_init_37 hq_25 rfl ?_
  refine g_qlen (pc := 40) dX10_init_40 hG_25 (by decide) ?_
  refine g_icmp_geT (pc := 41) (tgt := 63) dX10_init_41 (by decide) (by omega) (by omega) (by omega) ?_
  refine r_void (pc := 63) dX10_init_63 rfl rfl (Nat.le_refl _) ⟨rfl, hq_25.2, ?_, (va_up_ne _ _ (by omega)).trans ((y5 _ (by omega)).trans ((va_up_ne _ _ (by omega)).trans ((va_up_ne _ _ (by omega)).trans ((y4 _ (by omega)).trans ((va_up_ne _ _ (by omega)).trans ((va_up_ne _ _ (by omega)).trans ((y3 _ (by omega)).trans ((va_up_ne _ _ (by omega)).trans ((va_up_ne _ _ (by omega)).trans ((y2 _ (by omega)).trans ((va_up_ne _ _ (by omega)).trans ((va_up_ne _ _ (by omega)).trans ((y1 _ (by omega)).trans ((va_up_ne _ _ (by omega)).trans ((va_up_ne _ _ (by omega)).trans ((y0 _ (by omega)).trans ((va_up_ne _ _ (by omega)).trans ((va_up_ne _ _ (by omega)).trans ((va_up_ne _ _ (by omega)).trans ((va_up_ne _ _ (by omega)).trans (t0))))))))))))))))))))), (va_up_ne _ _ (by omega)).trans ((y5 _ (by omega)).trans ((va_up_ne _ _ (by omega)).trans ((va_up_ne _ _ (by omega)).trans ((y4 _ (by omega)).trans ((va_up_ne _ _ (by omega)).trans ((va_up_ne _ _ (by omega)).trans ((y3 _ (by omega)).trans ((va_up_ne _ _ (by omega)).trans ((va_up_ne _ _ (by omega)).trans ((y2 _ (by omega)).trans ((va_up_ne _ _ (by omega)).trans ((va_up_ne _ _ (by omega)).trans ((y1 _ (by omega)).trans ((va_up_ne _ _ (by omega)).trans ((va_up_ne _ _ (by omega)).trans ((y0 _ (by omega)).trans ((va_up_ne _ _ (by omega)).trans ((va_up_ne _ _ (by omega)).trans ((va_up_ne _ _ (by omega)).trans ((va_up_ne _ _ (by omega)).trans (t1))))))))))))))))))))), (va_up_ne _ _ (by omega)).trans ((y5 _ (by omega)).trans ((va_up_ne _ _ (by omega)).trans ((va_up_ne _ _ (by omega)).trans ((y4 _ (by omega)).trans ((va_up_ne _ _ (by omega)).trans ((va_up_ne _ _ (by omega)).trans ((y3 _ (by omega)).trans ((va_up_ne _ _ (by omega)).trans ((va_up_ne _ _ (by omega)).trans ((y2 _ (by omega)).trans ((va_up_ne _ _ (by omega)).trans ((va_up_ne _ _ (by omega)).trans ((y1 _ (by omega)).trans ((va_up_ne _ _ (by omega)).trans ((va_up_ne _ _ (by omega)).trans ((y0 _ (by omega)).trans ((va_up_ne _ _ (by omega)).trans ((va_up_ne _ _ (by omega)).trans ((va_up_ne _ _ (by omega)).trans ((va_up_ne _ _ (by omega)).trans (t2))))))))))))))))))))), ?_, ?_, (va_up_ne _ _ (by omega)).trans ((y5 _ (by omega)).trans ((va_up_ne _ _ (by omega)).trans ((va_up_ne _ _ (by omega)).trans ((y4 _ (by omega)).trans ((va_up_ne _ _ (by omega)).trans ((va_up_ne _ _ (by omega)).trans ((y3 _ (by omega)).trans ((va_up_ne _ _ (by omega)).trans ((va_up_ne _ _ (by omega)).trans ((y2 _ (by omega)).trans ((va_up_ne _ _ (by omega)).trans ((va_up_ne _ _ (by omega)).trans ((y1 _ (by omega)).trans ((va_up_ne _ _ (by omega)).trans ((va_up_ne _ _ (by omega)).trans ((y0 _ (by omega)).trans ((va_up_ne _ _ (by omega)).trans ((va_up_ne _ _ (by omega)).trans ((va_up_ne _ _ (by omega)).trans ((va_up_ne _ _ (by omega)).trans (t5))))))))))))))))))))), (va_up_ne _ _ (by omega)).trans ((y5 _ (by omega)).trans ((va_up_ne _ _ (by omega)).trans ((va_up_ne _ _ (by omega)).trans ((y4 _ (by omega)).trans ((va_up_ne _ _ (by omega)).trans ((va_up_ne _ _ (by omega)).trans ((y3 _ (by omega)).trans ((va_up_ne _ _ (by omega)).trans ((va_up_ne _ _ (by omega)).trans ((y2 _ (by omega)).trans ((va_up_ne _ _ (by omega)).trans ((va_up_ne _ _ (by omega)).trans ((y1 _ (by omega)).trans ((va_up_ne _ _ (by omega)).trans ((va_up_ne _ _ (by omega)).trans ((y0 _ (by omega)).trans ((va_up_ne _ _ (by omega)).trans ((va_up_ne _ _ (by omega)).trans ((va_up_ne _ _ (by omega)).trans ((va_up_ne _ _ (by omega)).trans (t6))))))))))))))))))))), (va_up_ne _ _ (by omega)).trans ((y5 _ (by omega)).trans ((va_up_ne _ _ (by omega)).trans ((va_up_ne _ _ (by omega)).trans ((y4 _ (by omega)).trans ((va_up_ne _ _ (by omega)).trans ((va_up_ne _ _ (by omega)).trans ((y3 _ (by omega)).trans ((va_up_ne _ _ (by omega)).trans ((va_up_ne _ _ (by omega)).trans ((y2 _ (by omega)).trans ((va_up_ne _ _ (by omega)).trans ((va_up_ne _ _ (by omega)).trans ((y1 _ (by omega)).trans ((va_up_ne _ _ (by omega)).trans ((va_up_ne _ _ (by omega)).trans ((y0 _ (by omega)).trans ((va_up_ne _ _ (by omega)).trans ((va_up_ne _ _ (by omega)).trans ((va_up_ne _ _ (by omega)).trans ((va_up_ne _ _ (by omega)).trans (t7))))))))))))))))))))), fun i hi => (va_up_ne _ _ (by omega)).trans ((y5 _ (by omega)).trans ((va_up_ne _ _ (by omega)).trans ((va_up_ne _ _ (by omega)).trans ((y4 _ (by omega)).trans ((va_up_ne _ _ (by omega)).trans ((va_up_ne _ _ (by omega)).trans ((y3 _ (by omega)).trans ((va_up_ne _ _ (by omega)).trans ((va_up_ne _ _ (by omega)).trans ((y2 _ (by omega)).trans ((va_up_ne _ _ (by omega)).trans ((va_up_ne _ _ (by omega)).trans ((y1 _ (by omega)).trans ((va_up_ne _ _ (by omega)).trans ((va_up_ne _ _ (by omega)).trans ((y0 _ (by omega)).trans ((va_up_ne _ _ (by omega)).trans ((va_up_ne _ _ (by omega)).trans ((va_up_ne _ _ (by omega)).trans ((va_up_ne _ _ (by omega)).trans (t8 i hi))))))))))))))))))))), hS_25.2, ?_, fun b hb => (va_up_ne _ _ (by omega)).trans ((y5 _ (by omega)).trans ((va_up_ne _ _ (by omega)).trans ((va_up_ne _ _ (by omega)).trans ((y4 _ (by omega)).trans ((va_up_ne _ _ (by omega)).trans ((va_up_ne _ _ (by omega)).trans ((y3 _ (by omega)).trans ((va_up_ne _ _ (by omega)).trans ((va_up_ne _ _ (by omega)).trans ((y2 _ (by omega)).trans ((va_up_ne _ _ (by omega)).trans ((va_up_ne _ _ (by omega)).trans ((y1 _ (by omega)).trans ((va_up_ne _ _ (by omega)).trans ((va_up_ne _ _ (by omega)).trans ((y0 _ (by omega)).trans ((va_up_ne _ _ (by omega)).trans ((va_up_ne _ _ (by omega)).trans ((va_up_ne _ _ (by omega)).trans ((va_up_ne _ _ (by omega)).trans ((t9 _ (by omega) (by omega)).trans ((va_up_ne _ _ (by omega)).trans ((va_up_ne _ _ (by omega)).trans ((va_up_ne _ _ (by omega)).trans (rfl)))))))))))))))))))))))))⟩
  · refine hG_25.2.trans (congrArg (eQ 4 6) (funext fun j => ?_))
    unfold mlF va_up
    repeat' split
    all_goals first | rfl | (exfalso; omega) | (congr 1; omega)
  · obtain ⟨S2, e1, e2⟩ := t3
    exact ⟨S2, (va_up_ne _ _ (by omega)).trans ((y5 _ (by omega)).trans ((va_up_ne _ _ (by omega)).trans ((va_up_ne _ _ (by omega)).trans ((y4 _ (by omega)).trans ((va_up_ne _ _ (by omega)).trans ((va_up_ne _ _ (by omega)).trans ((y3 _ (by omega)).trans ((va_up_ne _ _ (by omega)).trans ((va_up_ne _ _ (by omega)).trans ((y2 _ (by omega)).trans ((va_up_ne _ _ (by omega)).trans ((va_up_ne _ _ (by omega)).trans ((y1 _ (by omega)).trans ((va_up_ne _ _ (by omega)).trans ((va_up_ne _ _ (by omega)).trans ((y0 _ (by omega)).trans ((va_up_ne _ _ (by omega)).trans ((va_up_ne _ _ (by omega)).trans ((va_up_ne _ _ (by omega)).trans ((va_up_ne _ _ (by omega)).trans (e1))))))))))))))))))))), e2⟩
  · obtain ⟨S2, e1, e2⟩ := t4
    exact ⟨S2, (va_up_ne _ _ (by omega)).trans ((y5 _ (by omega)).trans ((va_up_ne _ _ (by omega)).trans ((va_up_ne _ _ (by omega)).trans ((y4 _ (by omega)).trans ((va_up_ne _ _ (by omega)).trans ((va_up_ne _ _ (by omega)).trans ((y3 _ (by omega)).trans ((va_up_ne _ _ (by omega)).trans ((va_up_ne _ _ (by omega)).trans ((y2 _ (by omega)).trans ((va_up_ne _ _ (by omega)).trans ((va_up_ne _ _ (by omega)).trans ((y1 _ (by omega)).trans ((va_up_ne _ _ (by omega)).trans ((va_up_ne _ _ (by omega)).trans ((y0 _ (by omega)).trans ((va_up_ne _ _ (by omega)).trans ((va_up_ne _ _ (by omega)).trans ((va_up_ne _ _ (by omega)).trans ((va_up_ne _ _ (by omega)).trans (e1))))))))))))))))))))), e2⟩
  · intro i hi
    have hcs : i = 0 ∨ i = 1 ∨ i = 2 ∨ i = 3 ∨ i = 4 ∨ i = 5 := by omega
    rcases hcs with rfl | rfl | rfl | rfl | rfl | rfl
    · exact m0_5
    · exact m1_5
    · exact m2_5
    · exact m3_5
    · exact m4_5
    · exact m5_5
