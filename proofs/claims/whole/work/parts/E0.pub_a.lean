/-! ===== the class: millAt, millOf, partCount, partAt, open ===== -/
theorem mlF_at {b n i : Nat} (h : i < n) : mlF b n i = some (b + 93 * i) := if_pos h
theorem CM.out {N : Nat} {h : MH} {b kd M n : Nat} {T Y : Nat → Int} {P : Nat → Nat → Int} (c : CM N h b (kd, M, n, T, Y, P)) : okS kd M n T Y P ∧ Hd (0, 0, N) h b (mlO b 1 (kd : Int) (M : Int) (n : Int)) ∧ (Hd (0, 0, N) h (b + 1) (eA 0 4 Y) ∧ rng Y) ∧ PC N h b M ∧ PT N h (b + 12) M n T ∧ RD N h b M n T ∧ NT N h b M (T 0) ∧ PIC N h b kd M P := c
theorem CM.mk {N : Nat} {h : MH} {b kd M n : Nat} {T Y : Nat → Int} {P : Nat → Nat → Int} (c : okS kd M n T Y P ∧ Hd (0, 0, N) h b (mlO b 1 (kd : Int) (M : Int) (n : Int)) ∧ (Hd (0, 0, N) h (b + 1) (eA 0 4 Y) ∧ rng Y) ∧ PC N h b M ∧ PT N h (b + 12) M n T ∧ RD N h b M n T ∧ NT N h b M (T 0) ∧ PIC N h b kd M P) : CM N h b (kd, M, n, T, Y, P) := c
/-- what a call of the class on mills leaves -/
def cP (N : Nat) (h h2 : MH) (σ : Nat → Option MSt) : Prop := CMs N h2 σ ∧ ∀ a, ((2 ≤ a ∧ a < 74) ∨ 633 ≤ a) → h2 a = h a
theorem cP.rfl {N : Nat} {h : MH} {σ : Nat → Option MSt} (c : CMs N h σ) : cP N h h σ := ⟨c, fun _ _ => Eq.refl _⟩
theorem cP.same {N : Nat} {h h2 : MH} {σ : Nat → Option MSt} {i b : Nat} {s : MSt} (c : CMs N h σ) (hi : i < 6) (e : σ i = some s) (eb : b = 75 + 93 * i) (k : ∀ a, a < b ∨ b + 93 ≤ a → h2 a = h a) (ho : CM N h2 b s) : cP N h h2 σ := by
  subst eb
  exact ⟨c.same hi e k ho, fun a z => k a (by omega)⟩
theorem cP.set {N : Nat} {h h2 : MH} {σ : Nat → Option MSt} {i b : Nat} {s : MSt} (c : CMs N h σ) (hi : i < 6) (eb : b = 75 + 93 * i) (k : ∀ a, a < b ∨ b + 93 ≤ a → h2 a = h a) (ho : CM N h2 b s) : cP N h h2 (va_up σ i (some s)) := by
  subst eb
  exact ⟨c.set hi k ho, fun a z => k a (by omega)⟩
/-- the mill that is asked for, in the class -/
def MA (N : Nat) (h : MH) (σ : Nat → Option MSt) (m : Int) (i b kd M n : Nat) (T Y : Nat → Int) (P : Nat → Nat → Int) : Prop := i < 6 ∧ m = (i : Int) ∧ b = 75 + 93 * i ∧ σ i = some (kd, M, n, T, Y, P) ∧ gt σ m = some (kd, M, n, T, Y, P) ∧ CM N h b (kd, M, n, T, Y, P)

theorem c_millAt {N d : Nat} {m : Int} {σ : Nat → Option MSt} {h : MH} (hm : i32 m) (c : CMs N h σ) : Ok mX10_millAt d 0 0 [vR 0, vI m] N h (fun r h2 => h2 = h ∧ ((gt σ m = none ∧ r = some vN) ∨ ∃ (i b kd M n : Nat) (T Y : Nat → Int) (P : Nat → Nat → Int), MA N h σ m i b kd M n T Y P ∧ r = some (vR b))) := by
  refine Ok.of pfX10_millAt rfl (Nat.le_of_ble_eq_true rfl) (fun Ls sx => ?_)
  show G mX10_millAt (d, 0, 0, Ls, sx) 0 [(0, vR 0), (1, vI m)] [] (0, 0, N) h _
  obtain ⟨c1, c2, c3, c4⟩ := id c
  refine g_iload_n (pc := 0) (x := m) dX10_millAt_0 rfl ?_
  refine g_if_lt (pc := 1) (tgt := 13) dX10_millAt_1 (by decide) (by omega) (fun h0 => ?_) (fun h0 => ?_)
  · refine g_null (pc := 13) dX10_millAt_13 ?_
    exact r_ref (pc := 14) dX10_millAt_14 rfl (Or.inl ⟨_, rfl⟩) rfl (Nat.le_refl _) ⟨rfl, Or.inl ⟨by unfold gt; rw [if_neg (by omega)], rfl⟩⟩
  · refine g_iload_n (pc := 4) (x := m) dX10_millAt_4 rfl ?_
    refine g_aload_n (pc := 5) (r := .inl (some 0)) dX10_millAt_5 rfl ?_
    refine g_getf (pc := 6) (v := vR 1) flX10_11 dX10_millAt_6 c1 rfl ?_
    refine g_qlen (pc := 9) dX10_millAt_9 c2 (by decide) ?_
    refine g_icmp_lt (pc := 10) (tgt := 15) dX10_millAt_10 (by decide) (by omega) (by omega) (fun h6 => ?_) (fun h6 => ?_)
    · obtain ⟨i, ei⟩ : ∃ i : Nat, m = (i : Int) := ⟨m.toNat, by omega⟩
      subst ei
      have hi : i < 6 := by omega
      have eg := gt_at (σ := σ) hi
      rcases es : σ i with _ | s
      · obtain ⟨kd, M, n, hml⟩ := ((c4 i hi).1 es).2
        refine g_aload_n (pc := 15) (r := .inl (some 0)) dX10_millAt_15 rfl ?_
        refine g_getf (pc := 16) (v := vR 1) flX10_11 dX10_millAt_16 c1 rfl ?_
        refine g_iload_n (pc := 19) (x := (i : Int)) dX10_millAt_19 rfl ?_
        refine g_aaldN (pc := 20) (j := i) dX10_millAt_20 c2 (by decide) (by omega) (by omega) (by omega) ?_
        rw [mlF_at (b := 75) (n := 6) (i := i) (by omega)]
        refine g_getf (pc := 21) (v := vI 0) flX10_31 dX10_millAt_21 hml rfl ?_
        refine g_if_eqT (pc := 24) (tgt := 36) dX10_millAt_24 (by decide) (by omega) (by omega) ?_
        refine g_null (pc := 36) dX10_millAt_36 ?_
        exact r_ref (pc := 37) dX10_millAt_37 rfl (Or.inl ⟨_, rfl⟩) rfl (Nat.le_refl _) ⟨rfl, Or.inl ⟨eg.trans es, rfl⟩⟩
      · obtain ⟨kd, M, n, T, Y, P⟩ := s
        have cm := (c4 i hi).2 _ es
        have hml := cm.out.2.1
        refine g_aload_n (pc := 15) (r := .inl (some 0)) dX10_millAt_15 rfl ?_
        refine g_getf (pc := 16) (v := vR 1) flX10_11 dX10_millAt_16 c1 rfl ?_
        refine g_iload_n (pc := 19) (x := (i : Int)) dX10_millAt_19 rfl ?_
        refine g_aaldN (pc := 20) (j := i) dX10_millAt_20 c2 (by decide) (by omega) (by omega) (by omega) ?_
        rw [mlF_at (b := 75) (n := 6) (i := i) (by omega)]
        refine g_getf (pc := 21) (v := vI 1) flX10_31 dX10_millAt_21 hml rfl ?_
        refine g_if_eqF (pc := 24) (tgt := 36) dX10_millAt_24 (by decide) (by omega) (by omega) ?_
        refine g_aload_n (pc := 27) (r := .inl (some 0)) dX10_millAt_27 rfl ?_
        refine g_getf (pc := 28) (v := vR 1) flX10_11 dX10_millAt_28 c1 rfl ?_
        refine g_iload_n (pc := 31) (x := (i : Int)) dX10_millAt_31 rfl ?_
        refine g_aaldN (pc := 32) (j := i) dX10_millAt_32 c2 (by decide) (by omega) (by omega) (by omega) ?_
        rw [mlF_at (b := 75) (n := 6) (i := i) (by omega)]
        refine g_goto (pc := 33) (tgt := 37) dX10_millAt_33 (by decide) ?_
        exact r_ref (pc := 37) dX10_millAt_37 rfl (Or.inl ⟨_, rfl⟩) rfl (Nat.le_refl _) ⟨rfl, Or.inr ⟨i, _, kd, M, n, T, Y, P, ⟨hi, rfl, rfl, es, eg.trans es, cm⟩, rfl⟩⟩
    · refine g_null (pc := 13) dX10_millAt_13 ?_
      exact r_ref (pc := 14) dX10_millAt_14 rfl (Or.inl ⟨_, rfl⟩) rfl (Nat.le_refl _) ⟨rfl, Or.inl ⟨by unfold gt; rw [if_neg (by omega)], rfl⟩⟩

theorem c_millOf {N d k : Nat} {m : Int} {σ : Nat → Option MSt} {h : MH} (hm : i32 m) (hk : k ≤ 3) (c : CMs N h σ) : Ok mX10_millOf (d + 1) 0 0 [vR 0, vI m, vI (k : Int)] N h (fun r h2 => h2 = h ∧ (((∀ kd M n T Y P, gt σ m = some (kd, M, n, T, Y, P) → kd ≠ k) ∧ r = some vN) ∨ ∃ (i b M n : Nat) (T Y : Nat → Int) (P : Nat → Nat → Int), MA N h σ m i b k M n T Y P ∧ r = some (vR b))) := by
  refine Ok.of pfX10_millOf rfl (Nat.le_of_ble_eq_true rfl) (fun Ls sx => ?_)
  show G mX10_millOf (d + 1, 0, 0, Ls, sx) 0 [(0, vR 0), (1, vI m), (2, vI (k : Int))] [] (0, 0, N) h _
  obtain ⟨c1, -, -, -⟩ := id c
  refine g_aload_n (pc := 0) (r := .inl (some 0)) dX10_millOf_0 rfl ?_
  refine g_iload_n (pc := 1) (x := m) dX10_millOf_1 rfl ?_
  refine g_callV0 (pc := 2) (as := [vI m]) (b := 0) (st := []) lvX10_39 dX10_millOf_2 c1 (Nat.le_of_ble_eq_true rfl) (by omega) (Nat.zero_le _) (Nat.zero_le _) (c_millAt (d := d) hm c) ?_
  rintro r h1 ⟨e9, e8⟩
  subst e9
  rcases e8 with ⟨eg, e8⟩ | ⟨i, b, kd, M, n, T, Y, P, ma, e8⟩ <;> subst e8
  · refine g_astore_n (pc := 5) (r := .inl none) (lo2 := [(0, vR 0), (1, vI m), (2, vI (k : Int)), (3, vN)]) dX10_millOf_5 (by decide) rfl ?_
    refine g_aload_n (pc := 6) (r := .inl none) dX10_millOf_6 rfl ?_
    refine g_ifnullN (pc := 7) (tgt := 22) dX10_millOf_7 (by decide) ?_
    refine g_null (pc := 22) dX10_millOf_22 ?_
    exact r_ref (pc := 23) dX10_millOf_23 rfl (Or.inl ⟨_, rfl⟩) rfl (Nat.le_refl _) ⟨rfl, Or.inl ⟨fun kd M n T Y P e => (by rw [eg] at e; cases e), rfl⟩⟩
  · obtain ⟨hi, em, eb, es, eg, cm⟩ := id ma
    have hml := cm.out.2.1
    have hok := cm.out.1
    have hkd := hok.1
    refine g_astore_n (pc := 5) (r := .inl (some b)) (lo2 := [(0, vR 0), (1, vI m), (2, vI (k : Int)), (3, vR b)]) dX10_millOf_5 (by decide) rfl ?_
    refine g_aload_n (pc := 6) (r := .inl (some b)) dX10_millOf_6 rfl ?_
    refine g_ifnullR (pc := 7) dX10_millOf_7 ?_
    refine g_aload_n (pc := 10) (r := .inl (some b)) dX10_millOf_10 rfl ?_
    refine g_getf (pc := 11) (v := vI (kd : Int)) flX10_68 dX10_millOf_11 hml rfl ?_
    refine g_iload_n (pc := 14) (x := (k : Int)) dX10_millOf_14 rfl ?_
    refine g_icmp_ne (pc := 15) (tgt := 22) dX10_millOf_15 (by decide) (by omega) (by omega) (fun hk2 => ?_) (fun hk2 => ?_)
    · refine g_null (pc := 22) dX10_millOf_22 ?_
      exact r_ref (pc := 23) dX10_millOf_23 rfl (Or.inl ⟨_, rfl⟩) rfl (Nat.le_refl _) ⟨rfl, Or.inl ⟨fun kd2 M2 n2 T2 Y2 P2 e => (by rw [eg] at e; cases e; omega), rfl⟩⟩
    · have ek : kd = k := by omega
      subst ek
      refine g_aload_n (pc := 18) (r := .inl (some b)) dX10_millOf_18 rfl ?_
      refine g_goto (pc := 19) (tgt := 23) dX10_millOf_19 (by decide) ?_
      exact r_ref (pc := 23) dX10_millOf_23 rfl (Or.inl ⟨_, rfl⟩) rfl (Nat.le_refl _) ⟨rfl, Or.inr ⟨i, b, M, n, T, Y, P, ma, rfl⟩⟩

theorem pct_l {N d b M Ls : Nat} {sx : Nat → Int} {h : MH} (hM : 2 ≤ M) (hM2 : M ≤ 500) (hpc : PC N h b M) : ∀ (f i : Nat) (xi K : Int), i + f = 4 → xi = (i : Int) → K = (((if i ≤ (fcs M).length then i else (fcs M).length) : Nat) : Int) → G mX1_partCount (d, 0, 0, Ls, sx) 13 [(0, vR b), (1, vI K), (2, vR (b + 7)), (3, vI 4), (4, vI xi)] [] (0, 0, N) h (Pq mX1_partCount 0 0 (fun r h2 => h2 = h ∧ r = some (vI ((fcs M).length : Int)))) := by
  intro f
  induction f with
  | zero =>
    intro i xi K hf ex eK
    have hlen := (fcs_ok hM hM2).1
    have hpa := hpc.1
    refine g_iload (pc := 13) (x := xi) dX1_partCount_13 rfl ?_
    refine g_iload_n (pc := 15) (x := 4) dX1_partCount_15 rfl ?_
    refine g_icmp_geT (pc := 16) (tgt := 48) dX1_partCount_16 (by decide) (by omega) (by omega) (by omega) ?_
    refine g_iload_n (pc := 48) (x := K) dX1_partCount_48 rfl ?_
    exact r_int (pc := 49) dX1_partCount_49 rfl rfl (Nat.le_refl _) ⟨rfl, by rw [eK]; congr 2; split <;> omega⟩
  | succ f ih =>
    intro i xi K hf ex eK
    have hlen := (fcs_ok hM hM2).1
    have hpa := hpc.1
    have hci := hpc.2 i (by omega)
    refine g_iload (pc := 13) (x := xi) dX1_partCount_13 rfl ?_
    refine g_iload_n (pc := 15) (x := 4) dX1_partCount_15 rfl ?_
    refine g_icmp_geF (pc := 16) (tgt := 48) dX1_partCount_16 (by decide) (by omega) (by omega) (by omega) ?_
    refine g_aload_n (pc := 19) (r := .inl (some (b + 7))) dX1_partCount_19 rfl ?_
    refine g_iload (pc := 20) (x := xi) dX1_partCount_20 rfl ?_
    refine g_aaldN (pc := 22) (j := i) dX1_partCount_22 hpa (by decide) (by omega) (by omega) (by omega) ?_
    rw [rwF_at (b := b + 8) (n := 4) (i := i) (by omega)]
    refine g_astore (pc := 23) (r := .inl (some (b + 8 + i))) (lo2 := [(0, vR b), (1, vI K), (2, vR (b + 7)), (3, vI 4), (4, vI xi), (5, vR (b + 8 + i))]) dX1_partCount_23 (by decide) rfl ?_
    by_cases hi : i < (fcs M).length
    · obtain ⟨b1, b2, b3, b4⟩ := (fcs_ok hM hM2).2.1 _ (pe_mem hi)
      have hb : (pe M i).1 ^ (pe M i).2 ≤ 500 := Nat.le_trans (Nat.le_of_dvd (by omega) b4) hM2
      have hb1 : 2 ≤ (pe M i).1 ^ (pe M i).2 := by
        have := Nat.pow_le_pow_right (show 0 < (pe M i).1 by have := b1.1; omega) b3
        rw [Nat.pow_one] at this
        have := b1.1
        omega
      obtain ⟨q, eq⟩ : ∃ q, q = (pe M i).1 ^ (pe M i).2 := ⟨_, rfl⟩
      rw [← eq] at hb hb1
      have hci2 : Hd (0, 0, N) h (b + 8 + i) (eO 4 [vI ((pe M i).1 : Int), vI (q : Int), vI ((pe M i).2 : Int)]) := by rw [eq]; exact hci
      refine g_iload_n (pc := 25) (x := K) dX1_partCount_25 rfl ?_
      refine g_aload (pc := 26) (r := .inl (some (b + 8 + i))) dX1_partCount_26 rfl ?_
      refine g_getf (pc := 28) (v := vI (q : Int)) flX1_115 dX1_partCount_28 hci2 rfl ?_
      refine g_iconst (pc := 31) dX1_partCount_31 ?_
      refine g_icmp_leF (pc := 32) (tgt := 39) dX1_partCount_32 (by decide) (by omega) (by omega) (by omega) ?_
      refine g_iconst (pc := 35) dX1_partCount_35 ?_
      refine g_goto (pc := 36) (tgt := 40) dX1_partCount_36 (by decide) ?_
      refine g_iadd (pc := 40) dX1_partCount_40 ?_
      refine g_istore_n (pc := 41) (lo2 := [(0, vR b), (1, vI (K + 1)), (2, vR (b + 7)), (3, vI 4), (4, vI xi), (5, vR (b + 8 + i))]) dX1_partCount_41 (by decide) rfl ?_
      refine g_iinc (pc := 42) (x := xi) (lo2 := [(0, vR b), (1, vI (K + 1)), (2, vR (b + 7)), (3, vI 4), (4, vI (xi + 1)), (5, vR (b + 8 + i))]) dX1_partCount_42 rfl (by decide) rfl ?_
      refine g_goto (pc := 45) (tgt := 13) dX1_partCount_45 (by decide) ?_
      refine g_pick [0, 1, 2, 3, 4] (lo2 := [(0, vR b), (1, vI (K + 1)), (2, vR (b + 7)), (3, vI 4), (4, vI (xi + 1))]) rfl ?_
      exact ih (i + 1) _ _ (by omega) (by omega) (by rw [eK, if_pos (by omega), if_pos (by omega)]; rfl)
    · have hpo := pe_out (M := M) (i := i) (by omega)
      have hci2 : Hd (0, 0, N) h (b + 8 + i) (eO 4 [vI 0, vI 1, vI 0]) := by rw [show (eO 4 [vI 0, vI 1, vI 0] : ME) = ptE (pe M i) by rw [hpo]; rfl]; exact hci
      refine g_iload_n (pc := 25) (x := K) dX1_partCount_25 rfl ?_
      refine g_aload (pc := 26) (r := .inl (some (b + 8 + i))) dX1_partCount_26 rfl ?_
      refine g_getf (pc := 28) (v := vI 1) flX1_115 dX1_partCount_28 hci2 rfl ?_
      refine g_iconst (pc := 31) dX1_partCount_31 ?_
      refine g_icmp_leT (pc := 32) (tgt := 39) dX1_partCount_32 (by decide) (by omega) (by omega) (by omega) ?_
      refine g_iconst (pc := 39) dX1_partCount_39 ?_
      refine g_iadd (pc := 40) dX1_partCount_40 ?_
      refine g_istore_n (pc := 41) (lo2 := [(0, vR b), (1, vI (K + 0)), (2, vR (b + 7)), (3, vI 4), (4, vI xi), (5, vR (b + 8 + i))]) dX1_partCount_41 (by decide) rfl ?_
      refine g_iinc (pc := 42) (x := xi) (lo2 := [(0, vR b), (1, vI (K + 0)), (2, vR (b + 7)), (3, vI 4), (4, vI (xi + 1)), (5, vR (b + 8 + i))]) dX1_partCount_42 rfl (by decide) rfl ?_
      refine g_goto (pc := 45) (tgt := 13) dX1_partCount_45 (by decide) ?_
      refine g_pick [0, 1, 2, 3, 4] (lo2 := [(0, vR b), (1, vI (K + 0)), (2, vR (b + 7)), (3, vI 4), (4, vI (xi + 1))]) rfl ?_
      refine ih (i + 1) _ _ (by omega) (by omega) ?_
      rw [eK, Int.add_zero]
      congr 1
      by_cases z : i ≤ (fcs M).length
      · rw [if_pos z, if_neg (by omega)]
        omega
      · rw [if_neg z, if_neg (by omega)]

theorem c_partCount {N d b kd M n : Nat} {h : MH} (hM : 2 ≤ M) (hM2 : M ≤ 500) (hm : Hd (0, 0, N) h b (mlO b 1 (kd : Int) (M : Int) (n : Int))) (hpc : PC N h b M) : Ok mX1_partCount d 0 0 [vR b] N h (fun r h2 => h2 = h ∧ r = some (vI ((fcs M).length : Int))) := by
  refine Ok.of pfX1_partCount rfl (Nat.le_of_ble_eq_true rfl) (fun Ls sx => ?_)
  show G mX1_partCount (d, 0, 0, Ls, sx) 0 [(0, vR b)] [] (0, 0, N) h _
  have hpa := hpc.1
  refine g_iconst (pc := 0) dX1_partCount_0 ?_
  refine g_istore_n (pc := 1) (lo2 := [(0, vR b), (1, vI 0)]) dX1_partCount_1 (by decide) rfl ?_
  refine g_aload_n (pc := 2) (r := .inl (some b)) dX1_partCount_2 rfl ?_
  refine g_getf (pc := 3) (v := vR (b + 7)) flX1_31 dX1_partCount_3 hm rfl ?_
  refine g_astore_n (pc := 6) (r := .inl (some (b + 7))) (lo2 := [(0, vR b), (1, vI 0), (2, vR (b + 7))]) dX1_partCount_6 (by decide) rfl ?_
  refine g_aload_n (pc := 7) (r := .inl (some (b + 7))) dX1_partCount_7 rfl ?_
  refine g_qlen (pc := 8) dX1_partCount_8 hpa (by decide) ?_
  refine g_istore_n (pc := 9) (lo2 := [(0, vR b), (1, vI 0), (2, vR (b + 7)), (3, vI ((4 : Nat) : Int))]) dX1_partCount_9 (by decide) rfl ?_
  refine g_iconst (pc := 10) dX1_partCount_10 ?_
  refine g_istore (pc := 11) (lo2 := [(0, vR b), (1, vI 0), (2, vR (b + 7)), (3, vI ((4 : Nat) : Int)), (4, vI 0)]) dX1_partCount_11 (by decide) rfl ?_
  exact pct_l hM hM2 hpc 4 0 _ _ (by omega) rfl (by rw [if_pos (Nat.zero_le _)]; rfl)

theorem c_partAt {N d b kd M n : Nat} {k : Int} {h : MH} (hk : i32 k) (hM : 2 ≤ M) (hM2 : M ≤ 500) (hm : Hd (0, 0, N) h b (mlO b 1 (kd : Int) (M : Int) (n : Int))) (hpc : PC N h b M) : Ok mX1_partAt (d + 1) 0 0 [vR b, vI k] N h (fun r h2 => h2 = h ∧ ((¬ (0 ≤ k ∧ k < ((fcs M).length : Int)) ∧ r = some vN) ∨ ∃ j : Nat, k = (j : Int) ∧ j < (fcs M).length ∧ r = some (vR (b + 8 + j)))) := by
  refine Ok.of pfX1_partAt rfl (Nat.le_of_ble_eq_true rfl) (fun Ls sx => ?_)
  show G mX1_partAt (d + 1, 0, 0, Ls, sx) 0 [(0, vR b), (1, vI k)] [] (0, 0, N) h _
  have hlen := (fcs_ok hM hM2).1
  have hpa := hpc.1
  refine g_iload_n (pc := 0) (x := k) dX1_partAt_0 rfl ?_
  refine g_if_lt (pc := 1) (tgt := 12) dX1_partAt_1 (by decide) (by omega) (fun h0 => ?_) (fun h0 => ?_)
  · refine g_null (pc := 12) dX1_partAt_12 ?_
    refine g_goto (pc := 13) (tgt := 22) dX1_partAt_13 (by decide) ?_
    exact r_ref (pc := 22) dX1_partAt_22 rfl (Or.inl ⟨_, rfl⟩) rfl (Nat.le_refl _) ⟨rfl, Or.inl ⟨by omega, rfl⟩⟩
  · refine g_iload_n (pc := 4) (x := k) dX1_partAt_4 rfl ?_
    refine g_aload_n (pc := 5) (r := .inl (some b)) dX1_partAt_5 rfl ?_
    refine g_callV0 (pc := 6) (as := []) (b := b) (st := [vI k]) lvX1_118 dX1_partAt_6 hm (Nat.le_of_ble_eq_true rfl) (by omega) (Nat.zero_le _) (Nat.zero_le _) (c_partCount (d := d) hM hM2 hm hpc) ?_
    rintro r h1 ⟨e9, e8⟩
    subst e9
    subst e8
    refine g_icmp_lt (pc := 9) (tgt := 16) dX1_partAt_9 (by decide) (by omega) (by omega) (fun h6 => ?_) (fun h6 => ?_)
    · obtain ⟨j, ej⟩ : ∃ j : Nat, k = (j : Int) := ⟨k.toNat, by omega⟩
      subst ej
      refine g_aload_n (pc := 16) (r := .inl (some b)) dX1_partAt_16 rfl ?_
      refine g_getf (pc := 17) (v := vR (b + 7)) flX1_31 dX1_partAt_17 hm rfl ?_
      refine g_iload_n (pc := 20) (x := (j : Int)) dX1_partAt_20 rfl ?_
      refine g_aaldN (pc := 21) (j := j) dX1_partAt_21 hpa (by decide) (by omega) (by omega) (by omega) ?_
      rw [rwF_at (b := b + 8) (n := 4) (i := j) (by omega)]
      exact r_ref (pc := 22) dX1_partAt_22 rfl (Or.inl ⟨_, rfl⟩) rfl (Nat.le_refl _) ⟨rfl, Or.inr ⟨j, rfl, by omega, rfl⟩⟩
    · refine g_null (pc := 12) dX1_partAt_12 ?_
      refine g_goto (pc := 13) (tgt := 22) dX1_partAt_13 (by decide) ?_
      exact r_ref (pc := 22) dX1_partAt_22 rfl (Or.inl ⟨_, rfl⟩) rfl (Nat.le_refl _) ⟨rfl, Or.inl ⟨by omega, rfl⟩⟩

/-- the table of a new mill -/
def iniT (kd n : Nat) (T : Nat → Int) : Prop := ∀ r c, r < n → (c < n ∨ c = 4) → T (5 * r + c) = if kd = 2 ∧ c = r + 1 ∧ c < n then 1 else 0

theorem opn_l {N d b kd M n Ls : Nat} {sx : Nat → Int} {h0 : MH} {Q : Option MV → MR → MH → Prop} (n1 : 1 ≤ n) (hn : n ≤ 4) (hm0 : Hd (0, 0, N) h0 b (mlO b 1 (kd : Int) (M : Int) (n : Int))) (hK : ∀ (F : Nat → Nat → Int) (h : MH), PW N h (b + 12) 1 M n F → (∀ j, j < 20 → F 0 j = if j % 5 = j / 5 + 1 ∧ j / 5 < (n - 1) then 1 else 0) → (∀ a, a ≠ b + 12 → a ≠ b + 14 → h a = h0 a) → G mX1_open (d + 3, 0, 0, Ls, sx) 89 [(0, vR b), (1, vI (kd : Int)), (2, vI (M : Int)), (3, vI (n : Int))] [] (0, 0, N) h Q) : ∀ (f r : Nat) (xr : Int) (F : Nat → Nat → Int) (h : MH), r + f + 1 = n → xr = (r : Int) → PW N h (b + 12) 1 M n F → (∀ j, j < 20 → F 0 j = if j % 5 = j / 5 + 1 ∧ j / 5 < r then 1 else 0) → (∀ a, a ≠ b + 12 → a ≠ b + 14 → h a = h0 a) → G mX1_open (d + 3, 0, 0, Ls, sx) 58 [(0, vR b), (1, vI (kd : Int)), (2, vI (M : Int)), (3, vI (n : Int)), (4, vI xr)] [] (0, 0, N) h Q := by
  intro f
  induction f with
  | zero =>
    intro r xr F h hf ex hw f1 hk
    have hm := hm0.keep (hk b (by omega) (by omega))
    refine g_iload (pc := 58) (x := xr) dX1_open_58 rfl ?_
    refine g_iconst (pc := 60) dX1_open_60 ?_
    refine g_iadd (pc := 61) dX1_open_61 ?_
    refine g_aload_n (pc := 62) (r := .inl (some b)) dX1_open_62 rfl ?_
    refine g_getf (pc := 63) (v := vI (n : Int)) flX1_63 dX1_open_63 hm rfl ?_
    refine g_icmp_geT (pc := 66) (tgt := 89) dX1_open_66 (by decide) (by omega) (by omega) (by omega) ?_
    refine g_pick [0, 1, 2, 3] (lo2 := [(0, vR b), (1, vI (kd : Int)), (2, vI (M : Int)), (3, vI (n : Int))]) rfl ?_
    exact hK F h hw (by rw [show n - 1 = r by omega]; exact f1) hk
  | succ f ih =>
    intro r xr F h hf ex hw f1 hk
    have hm := hm0.keep (hk b (by omega) (by omega))
    subst ex
    refine g_iload (pc := 58) (x := (r : Int)) dX1_open_58 rfl ?_
    refine g_iconst (pc := 60) dX1_open_60 ?_
    refine g_iadd (pc := 61) dX1_open_61 ?_
    refine g_aload_n (pc := 62) (r := .inl (some b)) dX1_open_62 rfl ?_
    refine g_getf (pc := 63) (v := vI (n : Int)) flX1_63 dX1_open_63 hm rfl ?_
    refine g_icmp_geF (pc := 66) (tgt := 89) dX1_open_66 (by decide) (by omega) (by omega) (by omega) ?_
    refine g_aload_n (pc := 69) (r := .inl (some b)) dX1_open_69 rfl ?_
    refine g_getf (pc := 70) (v := vR (b + 12)) flX1_39 dX1_open_70 hm rfl ?_
    refine g_iload (pc := 73) (x := (r : Int)) dX1_open_73 rfl ?_
    refine g_iload (pc := 75) (x := (r : Int)) dX1_open_75 rfl ?_
    refine g_iconst (pc := 77) dX1_open_77 ?_
    refine g_iadd (pc := 78) dX1_open_78 ?_
    refine g_iconst (pc := 79) dX1_open_79 ?_
    rw [show (r : Int) + 1 = ((r + 1 : Nat) : Int) by omega]
    refine g_callV0 (pc := 80) (as := [vI (r : Int), vI ((r + 1 : Nat) : Int), vI 1]) (b := b + 12) (st := []) lvX1_79 dX1_open_80 hw.1 (Nat.le_of_ble_eq_true rfl) (by omega) (Nat.zero_le _) (Nat.zero_le _) (c_pput (d := d + 2) (r := r) (c := r + 1) (v := 1) (by omega) (by omega) (by omega) hw) ?_
    rintro r9 h2 ⟨rfl, w2, k2⟩
    refine g_iinc (pc := 83) (x := (r : Int)) (lo2 := [(0, vR b), (1, vI (kd : Int)), (2, vI (M : Int)), (3, vI (n : Int)), (4, vI ((r : Int) + 1))]) dX1_open_83 rfl (by decide) rfl ?_
    refine g_goto (pc := 86) (tgt := 58) dX1_open_86 (by decide) ?_
    refine ih (r + 1) _ _ h2 (by omega) (by omega) w2 (fun j hj => ?_) (fun a z1 z2 => (k2 a z1 z2).trans (hk a z1 z2))
    rw [va_up_self]
    by_cases e : j = 5 * r + (r + 1)
    · rw [e, va_up_self, if_pos (by omega)]
    · rw [va_up_ne _ _ e, f1 j hj]
      by_cases c : j % 5 = j / 5 + 1 ∧ j / 5 < r
      · rw [if_pos c, if_pos (by omega)]
      · rw [if_neg c, if_neg (by omega)]

theorem c_open {N d b kd M n : Nat} {kd0 M0 n0 : Int} {h : MH} (hkd : kd ≤ 3) (hM : 2 ≤ M) (hM2 : M ≤ 500) (n1 : 1 ≤ n) (hn : n ≤ 4) (hk1 : kd = 1 → n = 1) (hk3 : kd = 3 → n = 2 ∧ M ≤ 64) (hm : Hd (0, 0, N) h b (mlO b 0 kd0 M0 n0)) (c0 : CM0 N h b) : Ok mX1_open (d + 3) 0 0 [vR b, vI (kd : Int), vI (M : Int), vI (n : Int)] N h (fun r9 h2 => r9 = none ∧ (∃ T Y, CM N h2 b (kd, M, n, T, Y, fun _ _ => 0) ∧ iniT kd n T ∧ ∀ r, r < n → Y r = 0) ∧ ∀ a, (a < b ∨ b + 93 ≤ a) → h2 a = h a) := by
  refine Ok.of pfX1_open rfl (Nat.le_of_ble_eq_true rfl) (fun Ls sx => ?_)
  show G mX1_open (d + 3, 0, 0, Ls, sx) 0 [(0, vR b), (1, vI (kd : Int)), (2, vI (M : Int)), (3, vI (n : Int))] [] (0, 0, N) h _
  obtain ⟨⟨fy, c1, cy⟩, ⟨sq, ff, c2⟩, ⟨f3, c3⟩, ⟨f4, c4⟩, ⟨pm, c5⟩, ⟨f6, c6⟩, c7, c8, ⟨kn, MP, nP, F, c9⟩, c10, c11, ⟨wh, c12⟩, c13, c14, c15, c16, c17, c18⟩ := c0
  refine g_aload_n (pc := 0) (r := .inl (some b)) dX1_open_0 rfl ?_
  refine g_iconst (pc := 1) dX1_open_1 ?_
  refine g_putf (pc := 2) fpX1_52 dX1_open_2 hm (okv_bool (by omega)) (Nat.le_of_ble_eq_true rfl) ?_
  have hm_1 := hm.self (e := eO 1 [vI 1, vI kd0, vI M0, vI n0, vR (b + 1), vR (b + 12), vR (b + 79), vR (b + 2), vR (b + 5), vR (b + 7)])
  refine g_aload_n (pc := 5) (r := .inl (some b)) dX1_open_5 rfl ?_
  refine g_iload_n (pc := 6) (x := (kd : Int)) dX1_open_6 rfl ?_
  refine g_putf (pc := 7) fpX1_56 dX1_open_7 hm_1 (okv_int _) (Nat.le_of_ble_eq_true rfl) ?_
  have hm_2 := hm_1.self (e := eO 1 [vI 1, vI (kd : Int), vI M0, vI n0, vR (b + 1), vR (b + 12), vR (b + 79), vR (b + 2), vR (b + 5), vR (b + 7)])
  refine g_aload_n (pc := 10) (r := .inl (some b)) dX1_open_10 rfl ?_
  refine g_iload_n (pc := 11) (x := (M : Int)) dX1_open_11 rfl ?_
  refine g_putf (pc := 12) fpX1_60 dX1_open_12 hm_2 (okv_int _) (Nat.le_of_ble_eq_true rfl) ?_
  have hm_3 := hm_2.self (e := eO 1 [vI 1, vI (kd : Int), vI (M : Int), vI n0, vR (b + 1), vR (b + 12), vR (b + 79), vR (b + 2), vR (b + 5), vR (b + 7)])
  refine g_aload_n (pc := 15) (r := .inl (some b)) dX1_open_15 rfl ?_
  refine g_iload_n (pc := 16) (x := (n : Int)) dX1_open_16 rfl ?_
  refine g_putf (pc := 17) fpX1_63 dX1_open_17 hm_3 (okv_int _) (Nat.le_of_ble_eq_true rfl) ?_
  have hm_4 := hm_3.self (e := eO 1 [vI 1, vI (kd : Int), vI (M : Int), vI (n : Int), vR (b + 1), vR (b + 12), vR (b + 79), vR (b + 2), vR (b + 5), vR (b + 7)])
  show G mX1_open _ 20 [(0, vR b), (1, vI (kd : Int)), (2, vI (M : Int)), (3, vI (n : Int))] [] _ (va_up (va_up (va_up (va_up h b (eO 1 [vI 1, vI kd0, vI M0, vI n0, vR (b + 1), vR (b + 12), vR (b + 79), vR (b + 2), vR (b + 5), vR (b + 7)])) b (eO 1 [vI 1, vI (kd : Int), vI M0, vI n0, vR (b + 1), vR (b + 12), vR (b + 79), vR (b + 2), vR (b + 5), vR (b + 7)])) b (eO 1 [vI 1, vI (kd : Int), vI (M : Int), vI n0, vR (b + 1), vR (b + 12), vR (b + 79), vR (b + 2), vR (b + 5), vR (b + 7)])) b (eO 1 [vI 1, vI (kd : Int), vI (M : Int), vI (n : Int), vR (b + 1), vR (b + 12), vR (b + 79), vR (b + 2), vR (b + 5), vR (b + 7)])) _
  obtain ⟨g0, eg0⟩ : ∃ g0, g0 = va_up (va_up (va_up (va_up h b (eO 1 [vI 1, vI kd0, vI M0, vI n0, vR (b + 1), vR (b + 12), vR (b + 79), vR (b + 2), vR (b + 5), vR (b + 7)])) b (eO 1 [vI 1, vI (kd : Int), vI M0, vI n0, vR (b + 1), vR (b + 12), vR (b + 79), vR (b + 2), vR (b + 5), vR (b + 7)])) b (eO 1 [vI 1, vI (kd : Int), vI (M : Int), vI n0, vR (b + 1), vR (b + 12), vR (b + 79), vR (b + 2), vR (b + 5), vR (b + 7)])) b (eO 1 [vI 1, vI (kd : Int), vI (M : Int), vI (n : Int), vR (b + 1), vR (b + 12), vR (b + 79), vR (b + 2), vR (b + 5), vR (b + 7)]) := ⟨_, rfl⟩
  rw [← eg0] at hm_4 ⊢
  have k0 : ∀ a, a ≠ b → g0 a = h a := fun a z => by rw [eg0, va_up_ne _ _ z, va_up_ne _ _ z, va_up_ne _ _ z, va_up_ne _ _ z]
  have c1b := c1.keep (k0 _ (by omega))
  refine g_aload_n (pc := 20) (r := .inl (some b)) dX1_open_20 rfl ?_
  refine g_getf (pc := 21) (v := vR (b + 1)) flX1_9 dX1_open_21 hm_4 rfl ?_
  refine g_iconst (pc := 24) dX1_open_24 ?_
  refine g_callS0 (pc := 25) (as := [vR (b + 1), vI 0]) (st := []) lsX1_66 dX1_open_25 (Nat.le_of_ble_eq_true rfl) (by omega) (Nat.zero_le _) (Nat.zero_le _) (c_fill (d := d + 2) (v := 0) (by omega) c1b) ?_
  rintro r9 g1 ⟨rfl, k1, Y, y1, y2, y3⟩
  have hm1 := hm_4.keep (k1 _ (by omega))
  have kk1 : ∀ a, a ≠ b → a ≠ b + 1 → g1 a = h a := fun a z1 z2 => (k1 a z2).trans (k0 a z1)
  refine g_aload_n (pc := 28) (r := .inl (some b)) dX1_open_28 rfl ?_
  refine g_callV0 (pc := 29) (as := []) (b := b) (st := []) lvX1_72 dX1_open_29 hm1 (Nat.le_of_ble_eq_true rfl) (by omega) (Nat.zero_le _) (Nat.zero_le _) (c_findParts (d := d) hM hM2 hm1 (c7.keep (kk1 _ (by omega) (by omega))) (fun j hj => by obtain ⟨x, y, z, q⟩ := c8 j hj; exact ⟨x, y, z, q.keep (kk1 _ (by omega) (by omega))⟩)) ?_
  rintro r9 g2 ⟨rfl, p2, k2⟩
  have hm2 := hm1.keep (k2 _ (by omega))
  have kk2 : ∀ a, a ≠ b → a ≠ b + 1 → (a < b + 8 ∨ b + 12 ≤ a) → g2 a = h a := fun a z1 z2 z3 => (k2 a z3).trans (kk1 a z1 z2)
  have w2 := PW_keep (h2 := g2) c9 (fun a z1 z2 => kk2 a (by omega) (by omega) (by omega))
  refine g_aload_n (pc := 32) (r := .inl (some b)) dX1_open_32 rfl ?_
  refine g_getf (pc := 33) (v := vR (b + 12)) flX1_39 dX1_open_33 hm2 rfl ?_
  refine g_aload_n (pc := 36) (r := .inl (some b)) dX1_open_36 rfl ?_
  refine g_getf (pc := 37) (v := vI (M : Int)) flX1_60 dX1_open_37 hm2 rfl ?_
  refine g_aload_n (pc := 40) (r := .inl (some b)) dX1_open_40 rfl ?_
  refine g_getf (pc := 41) (v := vI (n : Int)) flX1_63 dX1_open_41 hm2 rfl ?_
  refine g_callV0 (pc := 44) (as := [vI (M : Int), vI (n : Int)]) (b := b + 12) (st := []) lvX1_75 dX1_open_44 w2.1 (Nat.le_of_ble_eq_true rfl) (by omega) (Nat.zero_le _) (Nat.zero_le _) (c_pclear (d := d + 1) w2) ?_
  rintro r9 g3 ⟨rfl, ⟨S, w3, s3⟩, k3⟩
  have hm3 := hm2.keep (k3 _ (by omega) (by omega))
  refine g_aload_n (pc := 47) (r := .inl (some b)) dX1_open_47 rfl ?_
  refine g_getf (pc := 48) (v := vI (kd : Int)) flX1_56 dX1_open_48 hm3 rfl ?_
  refine g_iconst (pc := 51) dX1_open_51 ?_
  have fin : ∀ (F4 : Nat → Nat → Int) (g4 : MH), PW N g4 (b + 12) 1 M n F4 → iniT kd n (F4 0) → (∀ a, a ≠ b + 12 → a ≠ b + 14 → g4 a = g3 a) → G mX1_open (d + 3, 0, 0, Ls, sx) 89 [(0, vR b), (1, vI (kd : Int)), (2, vI (M : Int)), (3, vI (n : Int))] [] (0, 0, N) g4 (Pq mX1_open 0 0 (fun r9 h2 => r9 = none ∧ (∃ T Y, CM N h2 b (kd, M, n, T, Y, fun _ _ => 0) ∧ iniT kd n T ∧ ∀ r, r < n → Y r = 0) ∧ ∀ a, (a < b ∨ b + 93 ≤ a) → h2 a = h a)) := by
    intro F4 g4 w4 i4 k4
    have hm4 := hm3.keep (k4 _ (by omega) (by omega))
    have kk4 : ∀ a, a ≠ b → a ≠ b + 1 → (a < b + 8 ∨ b + 12 < a) → a ≠ b + 14 → g4 a = h a := fun a z1 z2 z3 z4 => (k4 a (by omega) z4).trans ((k3 a (by omega) (by omega)).trans (kk2 a z1 z2 (by omega)))
    have hT : ∀ r c, r < n → (c < n ∨ c = 4) → 0 ≤ F4 0 (5 * r + c) ∧ F4 0 (5 * r + c) < M := fun r c z1 z2 => by
      rw [i4 r c z1 z2]
      split <;> omega
    have hpt : ∀ g5 : MH, (∀ a, b + 12 ≤ a → a < b + 79 → g5 a = g4 a) → PT N g5 (b + 12) M n (F4 0) := fun g5 k5 => ⟨1, F4, ⟨PW_keep w4 (fun a z1 z2 => k5 a z1 (by omega)), SP_one hn hM hT, ⟨Nat.le_refl 1, by omega⟩, c10.keep ((k5 _ (by omega) (by omega)).trans (kk4 _ (by omega) (by omega) (by omega) (by omega))), c11.keep ((k5 _ (by omega) (by omega)).trans (kk4 _ (by omega) (by omega) (by omega) (by omega)))⟩, rfl⟩
    have hY4 : Hd (0, 0, N) g4 (b + 1) (eA 0 4 Y) := ⟨c1.1, (k4 _ (by omega) (by omega)).trans ((k3 _ (by omega) (by omega)).trans ((k2 _ (by omega)).trans y1))⟩
    have rY : rng Y := fun j => by
      by_cases z : j < 4
      · rw [y2 j z]
        omega
      · rw [y3 j (by omega)]
        exact cy j
    have hpc4 : PC N g4 b M := ⟨c7.keep (kk4 _ (by omega) (by omega) (by omega) (by omega)), fun i hi => ⟨by have := (c8 i hi); obtain ⟨_, _, _, q⟩ := this; exact q.1, (k4 _ (by omega) (by omega)).trans ((k3 _ (by omega) (by omega)).trans (p2 i hi))⟩⟩
    have c12b := c12.keep (kk4 (b + 79) (by omega) (by omega) (by omega) (by omega))
    have c2b := c2.keep (kk4 (b + 2) (by omega) (by omega) (by omega) (by omega))
    have c5b := c5.keep (kk4 (b + 5) (by omega) (by omega) (by omega) (by omega))
    have c6b := c6.keep (kk4 (b + 6) (by omega) (by omega) (by omega) (by omega))
    refine g_aload_n (pc := 89) (r := .inl (some b)) dX1_open_89 rfl ?_
    refine g_getf (pc := 90) (v := vI (kd : Int)) flX1_56 dX1_open_90 hm4 rfl ?_
    refine g_iconst (pc := 93) dX1_open_93 ?_
    refine g_icmp_ne (pc := 94) (tgt := 108) dX1_open_94 (by decide) (by omega) (by omega) (fun hk3c => ?_) (fun hk3c => ?_)
    · have q12 := c12b.keep (rfl)
      have q2 := c2b.keep (rfl)
      have qm := hm4.keep (rfl)
      refine g_aload_n (pc := 108) (r := .inl (some b)) dX1_open_108 rfl ?_
      refine g_getf (pc := 109) (v := vR (b + 79)) flX1_48 dX1_open_109 qm rfl ?_
      refine g_callV0 (pc := 112) (as := []) (b := b + 79) (st := []) lvX1_86 dX1_open_112 q12 (Nat.le_of_ble_eq_true rfl) (by omega) (Nat.zero_le _) (Nat.zero_le _) (c_rforget (d := d + 2) q12) ?_
      rintro r9 g6 ⟨rfl, e6⟩
      have k6 : ∀ a, a ≠ b + 79 → g6 a = g4 a := fun a z => by rw [e6, va_up_ne _ _ z]
      have q12b : g6 (b + 79) = eO 8 [vR (b + 12), vR (b + 7), vR (b + 80), vR (b + 82), vR (b + 84), vR (b + 90), vR (b + 91), vR (b + 92), vJ 0] := by rw [e6, va_up_self]
      have qm6 := qm.keep (k6 _ (by omega))
      have q26 := q2.keep (k6 _ (by omega))
      refine g_aload_n (pc := 115) (r := .inl (some b)) dX1_open_115 rfl ?_
      refine g_getf (pc := 116) (v := vR (b + 2)) flX1_18 dX1_open_116 qm6 rfl ?_
      refine g_callV0 (pc := 119) (as := []) (b := b + 2) (st := []) lvX1_89 dX1_open_119 q26 (Nat.le_of_ble_eq_true rfl) (by omega) (Nat.zero_le _) (Nat.zero_le _) (c_nforget (d := d + 2) q26) ?_
      rintro r9 g7 ⟨rfl, e7⟩
      have k7 : ∀ a, a ≠ b + 2 → g7 a = g6 a := fun a z => by rw [e7, va_up_ne _ _ z]
      have q27 : g7 (b + 2) = eO 2 [vR (b + 3), vI sq, vR (b + 4), vI 0] := by rw [e7, va_up_self]
      have k67 : ∀ a, a ≠ b + 79 → a ≠ b + 2 → g7 a = g4 a := fun a z1 z2 => (k7 a z2).trans (k6 a z1)
      have kg : ∀ a, a ≠ b + 5 → a ≠ b + 6 → g4 a = g4 a := fun a z1 z2 => rfl
      have kall : ∀ a, a ≠ b + 79 → a ≠ b + 2 → a ≠ b + 5 → a ≠ b + 6 → g7 a = g4 a := fun a z1 z2 z3 z4 => (k67 a z1 z2).trans (kg a z3 z4)
      have kh : ∀ a, a ≠ b → a ≠ b + 1 → a ≠ b + 2 → a ≠ b + 5 → a ≠ b + 6 → (a < b + 8 ∨ b + 12 < a) → a ≠ b + 14 → a ≠ b + 79 → g7 a = h a := fun a z1 z2 z3 z4 z5 z6 z7 z8 => (kall a z8 z3 z4 z5).trans (kk4 a z1 z2 z6 z7)
      have hrd : RD N g7 b M n (F4 0) := ⟨0, ⟨c12.1, (k7 _ (by omega)).trans q12b⟩, Or.inl ⟨rfl, c13.keep (kh _ (by omega) (by omega) (by omega) (by omega) (by omega) (by omega) (by omega) (by omega)) (kh _ (by omega) (by omega) (by omega) (by omega) (by omega) (by omega) (by omega) (by omega))⟩, c14.keep (kh _ (by omega) (by omega) (by omega) (by omega) (by omega) (by omega) (by omega) (by omega)) (kh _ (by omega) (by omega) (by omega) (by omega) (by omega) (by omega) (by omega) (by omega)), c15.keep (kh _ (by omega) (by omega) (by omega) (by omega) (by omega) (by omega) (by omega) (by omega)), c16.keep (kh _ (by omega) (by omega) (by omega) (by omega) (by omega) (by omega) (by omega) (by omega)), c17.keep (kh _ (by omega) (by omega) (by omega) (by omega) (by omega) (by omega) (by omega) (by omega)), c18.keep (fun a z1 z2 => kh a (by omega) (by omega) (by omega) (by omega) (by omega) (by omega) (by omega) (by omega))⟩
      have hnt : NT N g7 b M (F4 0 0) := ⟨sq, 0, f3, ⟨c2.1, q27⟩, c3.keep (kh _ (by omega) (by omega) (by omega) (by omega) (by omega) (by omega) (by omega) (by omega)), ⟨f4, c4.keep (kh _ (by omega) (by omega) (by omega) (by omega) (by omega) (by omega) (by omega) (by omega))⟩, Or.inl rfl⟩
      exact r_void (pc := 122) dX1_open_122 rfl rfl (Nat.le_refl _) ⟨rfl, ⟨F4 0, Y, CM.mk ⟨⟨hkd, hM, hM2, n1, hn, hk1, hk3, hT, fun r hr => by rw [y2 r (by omega)]; omega, fun _ _ => ⟨Int.le_refl 0, show (0 : Int) ≤ 255 by omega⟩⟩, hm4.keep (kall _ (by omega) (by omega) (by omega) (by omega)), ⟨hY4.keep (kall _ (by omega) (by omega) (by omega) (by omega)), rY⟩, hpc4.keep (fun a z1 z2 => kall a (by omega) (by omega) (by omega) (by omega)), hpt g7 (fun a z1 z2 => kall a (by omega) (by omega) (by omega) (by omega)), hrd, hnt, ⟨pm, f6, c5b.keep (k67 _ (by omega) (by omega)), c6b.keep (k67 _ (by omega) (by omega)), fun z => by omega⟩⟩, i4, fun r hr => y2 r (by omega)⟩, fun a z => (kall a (by omega) (by omega) (by omega) (by omega)).trans (kk4 a (by omega) (by omega) (by omega) (by omega))⟩
    · have hM64 := (hk3 (by omega)).2
      refine g_aload_n (pc := 97) (r := .inl (some b)) dX1_open_97 rfl ?_
      refine g_getf (pc := 98) (v := vR (b + 5)) flX1_25 dX1_open_98 hm4 rfl ?_
      refine g_aload_n (pc := 101) (r := .inl (some b)) dX1_open_101 rfl ?_
      refine g_getf (pc := 102) (v := vI (M : Int)) flX1_60 dX1_open_102 hm4 rfl ?_
      refine g_callV0 (pc := 105) (as := [vI (M : Int)]) (b := b + 5) (st := []) lvX1_83 dX1_open_105 c5b (Nat.le_of_ble_eq_true rfl) (by omega) (Nat.zero_le _) (Nat.zero_le _) (c_pcclear (d := d + 1) hM64 c5b c6b) ?_
      rintro r9 g5 ⟨rfl, o5, ⟨f65, o6, o7⟩, k5⟩
      have q12 := c12b.keep (k5 _ (by omega) (by omega))
      have q2 := c2b.keep (k5 _ (by omega) (by omega))
      have qm := hm4.keep (k5 _ (by omega) (by omega))
      refine g_aload_n (pc := 108) (r := .inl (some b)) dX1_open_108 rfl ?_
      refine g_getf (pc := 109) (v := vR (b + 79)) flX1_48 dX1_open_109 qm rfl ?_
      refine g_callV0 (pc := 112) (as := []) (b := b + 79) (st := []) lvX1_86 dX1_open_112 q12 (Nat.le_of_ble_eq_true rfl) (by omega) (Nat.zero_le _) (Nat.zero_le _) (c_rforget (d := d + 2) q12) ?_
      rintro r9 g6 ⟨rfl, e6⟩
      have k6 : ∀ a, a ≠ b + 79 → g6 a = g5 a := fun a z => by rw [e6, va_up_ne _ _ z]
      have q12b : g6 (b + 79) = eO 8 [vR (b + 12), vR (b + 7), vR (b + 80), vR (b + 82), vR (b + 84), vR (b + 90), vR (b + 91), vR (b + 92), vJ 0] := by rw [e6, va_up_self]
      have qm6 := qm.keep (k6 _ (by omega))
      have q26 := q2.keep (k6 _ (by omega))
      refine g_aload_n (pc := 115) (r := .inl (some b)) dX1_open_115 rfl ?_
      refine g_getf (pc := 116) (v := vR (b + 2)) flX1_18 dX1_open_116 qm6 rfl ?_
      refine g_callV0 (pc := 119) (as := []) (b := b + 2) (st := []) lvX1_89 dX1_open_119 q26 (Nat.le_of_ble_eq_true rfl) (by omega) (Nat.zero_le _) (Nat.zero_le _) (c_nforget (d := d + 2) q26) ?_
      rintro r9 g7 ⟨rfl, e7⟩
      have k7 : ∀ a, a ≠ b + 2 → g7 a = g6 a := fun a z => by rw [e7, va_up_ne _ _ z]
      have q27 : g7 (b + 2) = eO 2 [vR (b + 3), vI sq, vR (b + 4), vI 0] := by rw [e7, va_up_self]
      have k67 : ∀ a, a ≠ b + 79 → a ≠ b + 2 → g7 a = g5 a := fun a z1 z2 => (k7 a z2).trans (k6 a z1)
      have kg : ∀ a, a ≠ b + 5 → a ≠ b + 6 → g5 a = g4 a := fun a z1 z2 => k5 a z1 z2
      have kall : ∀ a, a ≠ b + 79 → a ≠ b + 2 → a ≠ b + 5 → a ≠ b + 6 → g7 a = g4 a := fun a z1 z2 z3 z4 => (k67 a z1 z2).trans (kg a z3 z4)
      have kh : ∀ a, a ≠ b → a ≠ b + 1 → a ≠ b + 2 → a ≠ b + 5 → a ≠ b + 6 → (a < b + 8 ∨ b + 12 < a) → a ≠ b + 14 → a ≠ b + 79 → g7 a = h a := fun a z1 z2 z3 z4 z5 z6 z7 z8 => (kall a z8 z3 z4 z5).trans (kk4 a z1 z2 z6 z7)
      have hrd : RD N g7 b M n (F4 0) := ⟨0, ⟨c12.1, (k7 _ (by omega)).trans q12b⟩, Or.inl ⟨rfl, c13.keep (kh _ (by omega) (by omega) (by omega) (by omega) (by omega) (by omega) (by omega) (by omega)) (kh _ (by omega) (by omega) (by omega) (by omega) (by omega) (by omega) (by omega) (by omega))⟩, c14.keep (kh _ (by omega) (by omega) (by omega) (by omega) (by omega) (by omega) (by omega) (by omega)) (kh _ (by omega) (by omega) (by omega) (by omega) (by omega) (by omega) (by omega) (by omega)), c15.keep (kh _ (by omega) (by omega) (by omega) (by omega) (by omega) (by omega) (by omega) (by omega)), c16.keep (kh _ (by omega) (by omega) (by omega) (by omega) (by omega) (by omega) (by omega) (by omega)), c17.keep (kh _ (by omega) (by omega) (by omega) (by omega) (by omega) (by omega) (by omega) (by omega)), c18.keep (fun a z1 z2 => kh a (by omega) (by omega) (by omega) (by omega) (by omega) (by omega) (by omega) (by omega))⟩
      have hnt : NT N g7 b M (F4 0 0) := ⟨sq, 0, f3, ⟨c2.1, q27⟩, c3.keep (kh _ (by omega) (by omega) (by omega) (by omega) (by omega) (by omega) (by omega) (by omega)), ⟨f4, c4.keep (kh _ (by omega) (by omega) (by omega) (by omega) (by omega) (by omega) (by omega) (by omega))⟩, Or.inl rfl⟩
      exact r_void (pc := 122) dX1_open_122 rfl rfl (Nat.le_refl _) ⟨rfl, ⟨F4 0, Y, CM.mk ⟨⟨hkd, hM, hM2, n1, hn, hk1, hk3, hT, fun r hr => by rw [y2 r (by omega)]; omega, fun _ _ => ⟨Int.le_refl 0, show (0 : Int) ≤ 255 by omega⟩⟩, hm4.keep (kall _ (by omega) (by omega) (by omega) (by omega)), ⟨hY4.keep (kall _ (by omega) (by omega) (by omega) (by omega)), rY⟩, hpc4.keep (fun a z1 z2 => kall a (by omega) (by omega) (by omega) (by omega)), hpt g7 (fun a z1 z2 => kall a (by omega) (by omega) (by omega) (by omega)), hrd, hnt, ⟨(M : Int), f65, ⟨c5.1, (k67 _ (by omega) (by omega)).trans o5⟩, ⟨c6.1, (k67 _ (by omega) (by omega)).trans o6⟩, fun _ => ⟨rfl, fun x y hx hy => o7 _ (by have := (cell_lt hM64 hx hy); omega)⟩⟩⟩, i4, fun r hr => y2 r (by omega)⟩, fun a z => (kall a (by omega) (by omega) (by omega) (by omega)).trans (kk4 a (by omega) (by omega) (by omega) (by omega))⟩
  refine g_icmp_ne (pc := 52) (tgt := 89) dX1_open_52 (by decide) (by omega) (by omega) (fun hk2c => ?_) (fun hk2c => ?_)
  · refine fin _ g3 w3 (fun r c z1 z2 => ?_) (fun _ _ _ => rfl)
    rw [va_up_self, s3 _ (by omega), if_neg (by omega)]
  · refine g_iconst (pc := 55) dX1_open_55 ?_
    refine g_istore (pc := 56) (lo2 := [(0, vR b), (1, vI (kd : Int)), (2, vI (M : Int)), (3, vI (n : Int)), (4, vI 0)]) dX1_open_56 (by decide) rfl ?_
    refine opn_l (h0 := g3) n1 hn hm3 (fun F4 g4 w4 f4 k4 => fin F4 g4 w4 (fun r c z1 z2 => ?_) k4) (n - 1) 0 _ _ g3 (by omega) rfl w3 (fun j hj => by rw [va_up_self, s3 j hj, if_neg (by omega)]) (fun _ _ _ => rfl)
    rw [f4 _ (by omega)]
    by_cases z : c = r + 1 ∧ c < n
    · rw [if_pos (by omega), if_pos (by omega)]
    · rw [if_neg (by omega), if_neg (by omega)]
