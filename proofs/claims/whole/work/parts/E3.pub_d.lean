/-! ===== the class: nets, pictures, what is told, mill ===== -/
theorem qM_not {α : Type} {σ : Nat → Option MSt} {m : Int} {k : Nat} {z : α} {f : Nat → Nat → Nat → (Nat → Int) → (Nat → Int) → (Nat → Nat → Int) → α} (e : ∀ kd M n T Y P, gt σ m = some (kd, M, n, T, Y, P) → kd ≠ k) (hf : ∀ kd M n T Y P, kd ≠ k → f kd M n T Y P = z) : qM σ m z f = z := by
  rcases eg : gt σ m with _ | ⟨kd, M, n, T, Y, P⟩
  · exact qM_none eg
  · rw [qM_some eg]
    exact hf _ _ _ _ _ _ (e _ _ _ _ _ _ eg)
theorem CM_net {N : Nat} {h h2 : MH} {b kd M n : Nat} {T Y : Nat → Int} {P : Nat → Nat → Int} (cm : CM N h b (kd, M, n, T, Y, P)) (hnt : NT N h2 b M (T 0)) (k : ∀ a, a ≠ b + 2 → a ≠ b + 3 → a ≠ b + 4 → h2 a = h a) : CM N h2 b (kd, M, n, T, Y, P) := by
  obtain ⟨ok, hml, ⟨hY, rY⟩, hpc, hw, hd, -, hpi⟩ := cm.out
  exact CM.mk ⟨ok, hml.keep (k _ (by omega) (by omega) (by omega)), ⟨hY.keep (k _ (by omega) (by omega) (by omega)), rY⟩, hpc.keep (fun a z1 z2 => k a (by omega) (by omega) (by omega)), hw.keep (fun a z1 z2 => k a (by omega) (by omega) (by omega)), hd.keep (fun a z1 z2 => k a (by omega) (by omega) (by omega)), hnt, hpi.keep (k _ (by omega) (by omega) (by omega)) (k _ (by omega) (by omega) (by omega))⟩
/-- a cell painted -/
def updP (P : Nat → Nat → Int) (x y : Nat) (v : Int) (a b : Nat) : Int := if a = x ∧ b = y then v else P a b
theorem updP_bd {P : Nat → Nat → Int} {x y : Nat} {v : Int} (h : ∀ a b, 0 ≤ P a b ∧ P a b ≤ 255) (hv : 0 ≤ v ∧ v ≤ 255) : ∀ a b, 0 ≤ updP P x y v a b ∧ updP P x y v a b ≤ 255 := fun a b => by
  unfold updP
  split
  · exact hv
  · exact h a b

theorem k_all {N : Nat} {m : Int} {σ : Nat → Option MSt} {h : MH} (hm : i32 m) (c : CMs N h σ) : Ok mX10_all 10 0 0 [vR 0, vI m] N h (fun r9 h2 => r9 = some (vI (qM σ m (-1) (fun kd M n T Y P => if kd = 1 then ((ind (allR (T 0) (T 4) M) : Nat) : Int) else -1))) ∧ cP N h h2 σ) := by
  refine Ok.of pfX10_all rfl (Nat.le_of_ble_eq_true rfl) (fun Ls sx => ?_)
  show G mX10_all (10, 0, 0, Ls, sx) 0 [(0, vR 0), (1, vI m)] [] (0, 0, N) h _
  obtain ⟨c1, c2, c3, c4⟩ := id c
  refine g_aload_n (pc := 0) (r := .inl (some 0)) dX10_all_0 rfl ?_
  refine g_iload_n (pc := 1) (x := m) dX10_all_1 rfl ?_
  refine g_iconst (pc := 2) dX10_all_2 ?_
  refine g_callV0 (pc := 3) (as := [vI m, vI 1]) (b := 0) (st := []) lvX10_147 dX10_all_3 c1 (Nat.le_of_ble_eq_true rfl) (by omega) (Nat.zero_le _) (Nat.zero_le _) (c_millOf (d := 8) (k := 1) hm (by omega) c) ?_
  rintro r h1 ⟨e9, e8⟩
  subst e9
  rcases e8 with ⟨eg, e8⟩ | ⟨i, b, M, n, T, Y, P, ma, e8⟩ <;> subst e8
  · refine g_astore_n (pc := 6) (r := .inl none) (lo2 := [(0, vR 0), (1, vI m), (2, vN)]) dX10_all_6 (by decide) rfl ?_
    refine g_aload_n (pc := 7) (r := .inl none) dX10_all_7 rfl ?_
    refine g_ifnonnullN (pc := 8) dX10_all_8 ?_
    refine g_iconst (pc := 11) dX10_all_11 ?_
    exact r_int (pc := 12) dX10_all_12 rfl rfl (Nat.le_refl _) ⟨by rw [qM_not eg (fun _ _ _ _ _ _ z => if_neg (fun y => z y))], cP.rfl c⟩
  · obtain ⟨hi, em, eb, es, eg, cm⟩ := id ma
    obtain ⟨ok, hml, ⟨hY, rY⟩, hpc, hw, hd, hnt, hpi⟩ := cm.out
    obtain ⟨hkd, hM, hM2, n1, hn, hk1, hk3, hT, hYb, hPb⟩ := id ok
    obtain ⟨kn, F, hPX, hF⟩ := id hw
    obtain ⟨wh, h79, -⟩ := id hd
    subst hF
    have en : n = 1 := hk1 rfl
    subst en
    have t0 := hT 0 0 (by omega) (Or.inl (by omega))
    have t4 := hT 0 4 (by omega) (Or.inr rfl)
    refine g_astore_n (pc := 6) (r := .inl (some b)) (lo2 := [(0, vR 0), (1, vI m), (2, vR b)]) dX10_all_6 (by decide) rfl ?_
    refine g_aload_n (pc := 7) (r := .inl (some b)) dX10_all_7 rfl ?_
    refine g_ifnonnullR (pc := 8) (tgt := 13) dX10_all_8 (by decide) ?_
    refine g_aload_n (pc := 13) (r := .inl (some b)) dX10_all_13 rfl ?_
    refine g_callV0 (pc := 14) (as := []) (b := b) (st := []) lvX10_151 dX10_all_14 hml (Nat.le_of_ble_eq_true rfl) (by omega) (Nat.zero_le _) (Nat.zero_le _) (c_oneRound (d := 7) (kd := 1) hM hM2 t0 t4 hml hpc hw) ?_
    rintro r8 h9 ⟨e9, e8⟩
    subst e9
    subst e8
    by_cases hal : allR (F 0 0) (F 0 4) M
    · rw [ind_t hal]
      refine g_if_eqF (pc := 17) (tgt := 24) dX10_all_17 (by decide) (by omega) (by omega) ?_
      refine g_iconst (pc := 20) dX10_all_20 ?_
      refine g_goto (pc := 21) (tgt := 25) dX10_all_21 (by decide) ?_
      exact r_int (pc := 25) dX10_all_25 rfl rfl (Nat.le_refl _) ⟨by rw [qM_some eg, if_pos rfl, ind_t hal]; rfl, cP.rfl c⟩
    · rw [ind_f hal]
      refine g_if_eqT (pc := 17) (tgt := 24) dX10_all_17 (by decide) (by omega) (by omega) ?_
      refine g_iconst (pc := 24) dX10_all_24 ?_
      exact r_int (pc := 25) dX10_all_25 rfl rfl (Nat.le_refl _) ⟨by rw [qM_some eg, if_pos rfl, ind_f hal]; rfl, cP.rfl c⟩

theorem k_shortest {N : Nat} {m k : Int} {σ : Nat → Option MSt} {h : MH} {S : Int} {Z : Nat → Int} (hm : i32 m) (hk : i32 k) (hS : ∀ M n T Y P, gt σ m = some (1, M, n, T, Y, P) → (2 ≤ k ∧ k ≤ 4) → isShort (T 0) M k.toNat S Z) (c : CMs N h σ) : Ok mX10_shortest 10 0 0 [vR 0, vI m, vI k] N h (fun r9 h2 => r9 = some (vI (qM σ m (-1) (fun kd M n T Y P => if kd = 1 ∧ (2 ≤ k ∧ k ≤ 4) then S else -1))) ∧ cP N h h2 σ) := by
  refine Ok.of pfX10_shortest rfl (Nat.le_of_ble_eq_true rfl) (fun Ls sx => ?_)
  show G mX10_shortest (10, 0, 0, Ls, sx) 0 [(0, vR 0), (1, vI m), (2, vI k)] [] (0, 0, N) h _
  obtain ⟨c1, c2, c3, c4⟩ := id c
  refine g_aload_n (pc := 0) (r := .inl (some 0)) dX10_shortest_0 rfl ?_
  refine g_iload_n (pc := 1) (x := m) dX10_shortest_1 rfl ?_
  refine g_iconst (pc := 2) dX10_shortest_2 ?_
  refine g_callV0 (pc := 3) (as := [vI m, vI 1]) (b := 0) (st := []) lvX10_147 dX10_shortest_3 c1 (Nat.le_of_ble_eq_true rfl) (by omega) (Nat.zero_le _) (Nat.zero_le _) (c_millOf (d := 8) (k := 1) hm (by omega) c) ?_
  rintro r h1 ⟨e9, e8⟩
  subst e9
  rcases e8 with ⟨eg, e8⟩ | ⟨i, b, M, n, T, Y, P, ma, e8⟩ <;> subst e8
  · refine g_astore_n (pc := 6) (r := .inl none) (lo2 := [(0, vR 0), (1, vI m), (2, vI k), (3, vN)]) dX10_shortest_6 (by decide) rfl ?_
    refine g_aload_n (pc := 7) (r := .inl none) dX10_shortest_7 rfl ?_
    refine g_ifnullN (pc := 8) (tgt := 21) dX10_shortest_8 (by decide) ?_
    refine g_iconst (pc := 21) dX10_shortest_21 ?_
    exact r_int (pc := 22) dX10_shortest_22 rfl rfl (Nat.le_refl _) ⟨by rw [qM_not eg (fun _ _ _ _ _ _ z => if_neg (fun y => z y.1))], cP.rfl c⟩
  · obtain ⟨hi, em, eb, es, eg, cm⟩ := id ma
    obtain ⟨ok, hml, ⟨hY, rY⟩, hpc, hw, hd, hnt, hpi⟩ := cm.out
    obtain ⟨hkd, hM, hM2, n1, hn, hk1, hk3, hT, hYb, hPb⟩ := id ok
    obtain ⟨kn, F, hPX, hF⟩ := id hw
    obtain ⟨wh, h79, -⟩ := id hd
    subst hF
    refine g_astore_n (pc := 6) (r := .inl (some b)) (lo2 := [(0, vR 0), (1, vI m), (2, vI k), (3, vR b)]) dX10_shortest_6 (by decide) rfl ?_
    refine g_aload_n (pc := 7) (r := .inl (some b)) dX10_shortest_7 rfl ?_
    refine g_ifnullR (pc := 8) dX10_shortest_8 ?_
    refine g_iload_n (pc := 11) (x := k) dX10_shortest_11 rfl ?_
    refine g_iconst (pc := 12) dX10_shortest_12 ?_
    refine g_icmp_lt (pc := 13) (tgt := 21) dX10_shortest_13 (by decide) (by omega) (by omega) (fun k0 => ?_) (fun k0 => ?_)
    · refine g_iconst (pc := 21) dX10_shortest_21 ?_
      exact r_int (pc := 22) dX10_shortest_22 rfl rfl (Nat.le_refl _) ⟨by rw [qM_some eg, if_neg (by omega)], cP.rfl c⟩
    · refine g_iload_n (pc := 16) (x := k) dX10_shortest_16 rfl ?_
      refine g_iconst (pc := 17) dX10_shortest_17 ?_
      refine g_icmp_le (pc := 18) (tgt := 23) dX10_shortest_18 (by decide) (by omega) (by omega) (fun k1 => ?_) (fun k1 => ?_)
      · obtain ⟨q, eq⟩ : ∃ q : Nat, k = (q : Int) := ⟨k.toNat, by omega⟩
        subst eq
        have t0 := hT 0 0 (by omega) (Or.inl (by omega))
        have hsh := hS _ _ _ _ _ eg (by omega)
        rw [Int.toNat_natCast] at hsh
        obtain ⟨sq9, ff9, L9, n2, -, -, -⟩ := id hnt
        refine g_aload_n (pc := 23) (r := .inl (some b)) dX10_shortest_23 rfl ?_
        refine g_getf (pc := 24) (v := vR (b + 2)) flX10_154 dX10_shortest_24 hml rfl ?_
        refine g_aload_n (pc := 27) (r := .inl (some b)) dX10_shortest_27 rfl ?_
        refine g_getf (pc := 28) (v := vR (b + 12)) flX10_85 dX10_shortest_28 hml rfl ?_
        refine g_iconst (pc := 31) dX10_shortest_31 ?_
        refine g_iconst (pc := 32) dX10_shortest_32 ?_
        refine g_callV0 (pc := 33) (as := [vI 0, vI 0]) (b := b + 12) (st := [vR (b + 2)]) lvX10_89 dX10_shortest_33 hPX.1.1 (Nat.le_of_ble_eq_true rfl) (by omega) (Nat.zero_le _) (Nat.zero_le _) (c_told (d := 9) (r := 0) (c := 0) (by omega) (by omega) hPX.1) ?_
        rintro r8 h9 ⟨e9, e8⟩
        subst e9
        subst e8
        refine g_aload_n (pc := 36) (r := .inl (some b)) dX10_shortest_36 rfl ?_
        refine g_getf (pc := 37) (v := vI (M : Int)) flX10_58 dX10_shortest_37 hml rfl ?_
        refine g_iload_n (pc := 40) (x := (q : Int)) dX10_shortest_40 rfl ?_
        refine g_callV0 (pc := 41) (as := [vI (F 0 0), vI (M : Int), vI (q : Int)]) (b := b + 2) (st := []) lvX10_158 dX10_shortest_41 n2 (Nat.le_of_ble_eq_true rfl) (by omega) (Nat.zero_le _) (Nat.zero_le _) (c_find (d := 7) hM hM2 t0 (by omega) (by omega) hsh hnt) ?_
        rintro r8 h3 ⟨rfl, ⟨L, o1, o2, o3⟩, nt3, k3⟩
        have hml3 := hml.keep (k3 _ (by omega) (by omega) (by omega))
        refine g_aload_n (pc := 44) (r := .inl (some b)) dX10_shortest_44 rfl ?_
        refine g_getf (pc := 45) (v := vR (b + 2)) flX10_154 dX10_shortest_45 hml3 rfl ?_
        refine g_getf (pc := 48) (v := vI S) flX10_163 dX10_shortest_48 o1 rfl ?_
        exact r_int (pc := 51) dX10_shortest_51 rfl rfl (Nat.le_refl _) ⟨by rw [qM_some eg, if_pos (by omega)], cP.same c hi es eb (fun a z => k3 a (by omega) (by omega) (by omega)) (CM_net cm nt3 k3)⟩
      · refine g_iconst (pc := 21) dX10_shortest_21 ?_
        exact r_int (pc := 22) dX10_shortest_22 rfl rfl (Nat.le_refl _) ⟨by rw [qM_some eg, if_neg (by omega)], cP.rfl c⟩

theorem k_line {N : Nat} {m k j : Int} {σ : Nat → Option MSt} {h : MH} {S : Int} {Z : Nat → Int} (hm : i32 m) (hk : i32 k) (hj : i32 j) (hS : ∀ M n T Y P, gt σ m = some (1, M, n, T, Y, P) → (2 ≤ k ∧ k ≤ 4) → isShort (T 0) M k.toNat S Z) (c : CMs N h σ) : Ok mX10_line 10 0 0 [vR 0, vI m, vI k, vI j] N h (fun r9 h2 => r9 = some (vI (qM σ m (501) (fun kd M n T Y P => if kd = 1 ∧ (2 ≤ k ∧ k ≤ 4) ∧ (0 ≤ j ∧ j < k) then Z j.toNat else 501))) ∧ cP N h h2 σ) := by
  refine Ok.of pfX10_line rfl (Nat.le_of_ble_eq_true rfl) (fun Ls sx => ?_)
  show G mX10_line (10, 0, 0, Ls, sx) 0 [(0, vR 0), (1, vI m), (2, vI k), (3, vI j)] [] (0, 0, N) h _
  obtain ⟨c1, c2, c3, c4⟩ := id c
  refine g_aload_n (pc := 0) (r := .inl (some 0)) dX10_line_0 rfl ?_
  refine g_iload_n (pc := 1) (x := m) dX10_line_1 rfl ?_
  refine g_iconst (pc := 2) dX10_line_2 ?_
  refine g_callV0 (pc := 3) (as := [vI m, vI 1]) (b := 0) (st := []) lvX10_147 dX10_line_3 c1 (Nat.le_of_ble_eq_true rfl) (by omega) (Nat.zero_le _) (Nat.zero_le _) (c_millOf (d := 8) (k := 1) hm (by omega) c) ?_
  rintro r h1 ⟨e9, e8⟩
  subst e9
  rcases e8 with ⟨eg, e8⟩ | ⟨i, b, M, n, T, Y, P, ma, e8⟩ <;> subst e8
  · refine g_astore (pc := 6) (r := .inl none) (lo2 := [(0, vR 0), (1, vI m), (2, vI k), (3, vI j), (4, vN)]) dX10_line_6 (by decide) rfl ?_
    refine g_aload (pc := 8) (r := .inl none) dX10_line_8 rfl ?_
    refine g_ifnullN (pc := 10) (tgt := 32) dX10_line_10 (by decide) ?_
    refine g_sipush (pc := 32) dX10_line_32 (by decide +kernel) ?_
    exact r_int (pc := 35) dX10_line_35 rfl rfl (Nat.le_refl _) ⟨by rw [qM_not eg (fun _ _ _ _ _ _ z => if_neg (fun y => z y.1))], cP.rfl c⟩
  · obtain ⟨hi, em, eb, es, eg, cm⟩ := id ma
    obtain ⟨ok, hml, ⟨hY, rY⟩, hpc, hw, hd, hnt, hpi⟩ := cm.out
    obtain ⟨hkd, hM, hM2, n1, hn, hk1, hk3, hT, hYb, hPb⟩ := id ok
    obtain ⟨kn, F, hPX, hF⟩ := id hw
    obtain ⟨wh, h79, -⟩ := id hd
    subst hF
    refine g_astore (pc := 6) (r := .inl (some b)) (lo2 := [(0, vR 0), (1, vI m), (2, vI k), (3, vI j), (4, vR b)]) dX10_line_6 (by decide) rfl ?_
    refine g_aload (pc := 8) (r := .inl (some b)) dX10_line_8 rfl ?_
    refine g_ifnullR (pc := 10) dX10_line_10 ?_
    refine g_iload_n (pc := 13) (x := k) dX10_line_13 rfl ?_
    refine g_iconst (pc := 14) dX10_line_14 ?_
    refine g_icmp_lt (pc := 15) (tgt := 32) dX10_line_15 (by decide) (by omega) (by omega) (fun k0 => ?_) (fun k0 => ?_)
    · refine g_sipush (pc := 32) dX10_line_32 (by decide +kernel) ?_
      exact r_int (pc := 35) dX10_line_35 rfl rfl (Nat.le_refl _) ⟨by rw [qM_some eg, if_neg (by omega)], cP.rfl c⟩
    · refine g_iload_n (pc := 18) (x := k) dX10_line_18 rfl ?_
      refine g_iconst (pc := 19) dX10_line_19 ?_
      refine g_icmp_gt (pc := 20) (tgt := 32) dX10_line_20 (by decide) (by omega) (by omega) (fun k1 => ?_) (fun k1 => ?_)
      · refine g_sipush (pc := 32) dX10_line_32 (by decide +kernel) ?_
        exact r_int (pc := 35) dX10_line_35 rfl rfl (Nat.le_refl _) ⟨by rw [qM_some eg, if_neg (by omega)], cP.rfl c⟩
      · refine g_iload_n (pc := 23) (x := j) dX10_line_23 rfl ?_
        refine g_if_lt (pc := 24) (tgt := 32) dX10_line_24 (by decide) (by omega) (fun k2 => ?_) (fun k2 => ?_)
        · refine g_sipush (pc := 32) dX10_line_32 (by decide +kernel) ?_
          exact r_int (pc := 35) dX10_line_35 rfl rfl (Nat.le_refl _) ⟨by rw [qM_some eg, if_neg (by omega)], cP.rfl c⟩
        · refine g_iload_n (pc := 27) (x := j) dX10_line_27 rfl ?_
          refine g_iload_n (pc := 28) (x := k) dX10_line_28 rfl ?_
          refine g_icmp_lt (pc := 29) (tgt := 36) dX10_line_29 (by decide) (by omega) (by omega) (fun k3 => ?_) (fun k3 => ?_)
          · obtain ⟨q, eq⟩ : ∃ q : Nat, k = (q : Int) := ⟨k.toNat, by omega⟩
            subst eq
            have t0 := hT 0 0 (by omega) (Or.inl (by omega))
            have hsh := hS _ _ _ _ _ eg (by omega)
            rw [Int.toNat_natCast] at hsh
            obtain ⟨sq9, ff9, L9, n2, -, -, -⟩ := id hnt
            obtain ⟨jj, ej⟩ : ∃ jj : Nat, j = (jj : Int) := ⟨j.toNat, by omega⟩
            subst ej
            refine g_aload (pc := 36) (r := .inl (some b)) dX10_line_36 rfl ?_
            refine g_getf (pc := 38) (v := vR (b + 2)) flX10_154 dX10_line_38 hml rfl ?_
            refine g_aload (pc := 41) (r := .inl (some b)) dX10_line_41 rfl ?_
            refine g_getf (pc := 43) (v := vR (b + 12)) flX10_85 dX10_line_43 hml rfl ?_
            refine g_iconst (pc := 46) dX10_line_46 ?_
            refine g_iconst (pc := 47) dX10_line_47 ?_
            refine g_callV0 (pc := 48) (as := [vI 0, vI 0]) (b := b + 12) (st := [vR (b + 2)]) lvX10_89 dX10_line_48 hPX.1.1 (Nat.le_of_ble_eq_true rfl) (by omega) (Nat.zero_le _) (Nat.zero_le _) (c_told (d := 9) (r := 0) (c := 0) (by omega) (by omega) hPX.1) ?_
            rintro r8 h9 ⟨e9, e8⟩
            subst e9
            subst e8
            refine g_aload (pc := 51) (r := .inl (some b)) dX10_line_51 rfl ?_
            refine g_getf (pc := 53) (v := vI (M : Int)) flX10_58 dX10_line_53 hml rfl ?_
            refine g_iload_n (pc := 56) (x := (q : Int)) dX10_line_56 rfl ?_
            refine g_callV0 (pc := 57) (as := [vI (F 0 0), vI (M : Int), vI (q : Int)]) (b := b + 2) (st := []) lvX10_158 dX10_line_57 n2 (Nat.le_of_ble_eq_true rfl) (by omega) (Nat.zero_le _) (Nat.zero_le _) (c_find (d := 7) hM hM2 t0 (by omega) (by omega) hsh hnt) ?_
            rintro r8 h3 ⟨rfl, ⟨L, o1, o2, o3⟩, nt3, k3⟩
            have hml3 := hml.keep (k3 _ (by omega) (by omega) (by omega))
            refine g_aload (pc := 60) (r := .inl (some b)) dX10_line_60 rfl ?_
            refine g_getf (pc := 62) (v := vR (b + 2)) flX10_154 dX10_line_62 hml3 rfl ?_
            refine g_getf (pc := 65) (v := vR (b + 3)) flX10_166 dX10_line_65 o1 rfl ?_
            refine g_iload_n (pc := 68) (x := (jj : Int)) dX10_line_68 rfl ?_
            refine g_ialdN (pc := 69) (j := jj) dX10_line_69 o2 (by omega) (by omega) (by omega) ?_
            rw [o3 jj (by omega)]
            exact r_int (pc := 70) dX10_line_70 rfl rfl (Nat.le_refl _) ⟨by rw [qM_some eg, if_pos (by omega)]; simp only [Int.toNat_natCast], cP.same c hi es eb (fun a z => k3 a (by omega) (by omega) (by omega)) (CM_net cm nt3 k3)⟩
          · refine g_sipush (pc := 32) dX10_line_32 (by decide +kernel) ?_
            exact r_int (pc := 35) dX10_line_35 rfl rfl (Nat.le_refl _) ⟨by rw [qM_some eg, if_neg (by omega)], cP.rfl c⟩

theorem k_paint {N : Nat} {m x y v : Int} {σ : Nat → Option MSt} {h : MH} (hm : i32 m) (hx : i32 x) (hy : i32 y) (hv : i32 v) (c : CMs N h σ) : Ok mX10_paint 10 0 0 [vR 0, vI m, vI x, vI y, vI v] N h (fun r9 h2 => r9 = some (vI (qM σ m 0 (fun kd M n T Y P => if kd = 3 ∧ ((0 ≤ x ∧ x < M) ∧ (0 ≤ y ∧ y < M)) ∧ (0 ≤ v ∧ v ≤ 255) then 1 else 0))) ∧ cP N h h2 (qM σ m σ (fun kd M n T Y P => if kd = 3 ∧ ((0 ≤ x ∧ x < M) ∧ (0 ≤ y ∧ y < M)) ∧ (0 ≤ v ∧ v ≤ 255) then va_up σ m.toNat (some (kd, M, n, T, Y, updP P x.toNat y.toNat v)) else σ))) := by
  refine Ok.of pfX10_paint rfl (Nat.le_of_ble_eq_true rfl) (fun Ls sx => ?_)
  show G mX10_paint (10, 0, 0, Ls, sx) 0 [(0, vR 0), (1, vI m), (2, vI x), (3, vI y), (4, vI v)] [] (0, 0, N) h _
  obtain ⟨c1, c2, c3, c4⟩ := id c
  refine g_aload_n (pc := 0) (r := .inl (some 0)) dX10_paint_0 rfl ?_
  refine g_iload_n (pc := 1) (x := m) dX10_paint_1 rfl ?_
  refine g_iconst (pc := 2) dX10_paint_2 ?_
  refine g_callV0 (pc := 3) (as := [vI m, vI 3]) (b := 0) (st := []) lvX10_147 dX10_paint_3 c1 (Nat.le_of_ble_eq_true rfl) (by omega) (Nat.zero_le _) (Nat.zero_le _) (c_millOf (d := 8) (k := 3) hm (by omega) c) ?_
  rintro r h1 ⟨e9, e8⟩
  subst e9
  rcases e8 with ⟨eg, e8⟩ | ⟨i, b, M, n, T, Y, P, ma, e8⟩ <;> subst e8
  · refine g_astore (pc := 6) (r := .inl none) (lo2 := [(0, vR 0), (1, vI m), (2, vI x), (3, vI y), (4, vI v), (5, vN)]) dX10_paint_6 (by decide) rfl ?_
    refine g_aload (pc := 8) (r := .inl none) dX10_paint_8 rfl ?_
    refine g_ifnullN (pc := 10) (tgt := 39) dX10_paint_10 (by decide) ?_
    refine g_iconst (pc := 39) dX10_paint_39 ?_
    exact r_bool (pc := 40) dX10_paint_40 rfl rfl (Nat.le_refl _) (Or.inl rfl) ⟨by rw [qM_not eg (fun _ _ _ _ _ _ z => if_neg (fun y => z y.1))], by rw [qM_not eg (fun _ _ _ _ _ _ z => if_neg (fun y => z y.1))]; exact cP.rfl c⟩
  · obtain ⟨hi, em, eb, es, eg, cm⟩ := id ma
    obtain ⟨ok, hml, ⟨hY, rY⟩, hpc, hw, hd, hnt, hpi⟩ := cm.out
    obtain ⟨hkd, hM, hM2, n1, hn, hk1, hk3, hT, hYb, hPb⟩ := id ok
    obtain ⟨kn, F, hPX, hF⟩ := id hw
    obtain ⟨wh, h79, -⟩ := id hd
    subst hF
    obtain ⟨en, hM64⟩ := hk3 rfl
    subst en
    obtain ⟨pm, f, p5, p6, pk⟩ := id hpi
    obtain ⟨epm, pf⟩ := pk rfl
    subst epm
    refine g_astore (pc := 6) (r := .inl (some b)) (lo2 := [(0, vR 0), (1, vI m), (2, vI x), (3, vI y), (4, vI v), (5, vR b)]) dX10_paint_6 (by decide) rfl ?_
    refine g_aload (pc := 8) (r := .inl (some b)) dX10_paint_8 rfl ?_
    refine g_ifnullR (pc := 10) dX10_paint_10 ?_
    refine g_aload (pc := 13) (r := .inl (some b)) dX10_paint_13 rfl ?_
    refine g_getf (pc := 15) (v := vR (b + 5)) flX10_169 dX10_paint_15 hml rfl ?_
    refine g_iload_n (pc := 18) (x := x) dX10_paint_18 rfl ?_
    refine g_iload_n (pc := 19) (x := y) dX10_paint_19 rfl ?_
    refine g_callV0 (pc := 20) (as := [vI x, vI y]) (b := b + 5) (st := []) lvX10_173 dX10_paint_20 p5 (Nat.le_of_ble_eq_true rfl) (by omega) (Nat.zero_le _) (Nat.zero_le _) (c_has (d := 9) hx hy (by omega) p5) ?_
    rintro r8 h9 ⟨e9, e8⟩
    subst e9
    subst e8
    by_cases hh : (0 ≤ x ∧ x < M) ∧ (0 ≤ y ∧ y < M)
    · rw [if_pos hh]
      refine g_if_eqF (pc := 23) (tgt := 39) dX10_paint_23 (by decide) (by omega) (by omega) ?_
      refine g_iload (pc := 26) (x := v) dX10_paint_26 rfl ?_
      refine g_if_lt (pc := 28) (tgt := 39) dX10_paint_28 (by decide) (by omega) (fun k0 => ?_) (fun k0 => ?_)
      · refine g_iconst (pc := 39) dX10_paint_39 ?_
        exact r_bool (pc := 40) dX10_paint_40 rfl rfl (Nat.le_refl _) (Or.inl rfl) ⟨by rw [qM_some eg, if_neg (by omega)], by rw [qM_some eg, if_neg (by omega)]; exact cP.rfl c⟩
      · refine g_iload (pc := 31) (x := v) dX10_paint_31 rfl ?_
        refine g_sipush (pc := 33) dX10_paint_33 (by decide +kernel) ?_
        refine g_icmp_le (pc := 36) (tgt := 41) dX10_paint_36 (by decide) (by omega) (by omega) (fun k1 => ?_) (fun k1 => ?_)
        · obtain ⟨xx, ex⟩ : ∃ xx : Nat, x = (xx : Int) := ⟨x.toNat, by omega⟩
          subst ex
          obtain ⟨yy, ey⟩ : ∃ yy : Nat, y = (yy : Int) := ⟨y.toNat, by omega⟩
          subst ey
          have cl := cell_lt hM64 (show xx < M by omega) (show yy < M by omega)
          refine g_aload (pc := 41) (r := .inl (some b)) dX10_paint_41 rfl ?_
          refine g_getf (pc := 43) (v := vR (b + 5)) flX10_169 dX10_paint_43 hml rfl ?_
          refine g_getf (pc := 46) (v := vR (b + 6)) flX10_179 dX10_paint_46 p5 rfl ?_
          refine g_aload (pc := 49) (r := .inl (some b)) dX10_paint_49 rfl ?_
          refine g_getf (pc := 51) (v := vR (b + 5)) flX10_169 dX10_paint_51 hml rfl ?_
          refine g_iload_n (pc := 54) (x := (xx : Int)) dX10_paint_54 rfl ?_
          refine g_iload_n (pc := 55) (x := (yy : Int)) dX10_paint_55 rfl ?_
          refine g_callV0 (pc := 56) (as := [vI (xx : Int), vI (yy : Int)]) (b := b + 5) (st := [vR (b + 6)]) lvX10_182 dX10_paint_56 p5 (Nat.le_of_ble_eq_true rfl) (by omega) (Nat.zero_le _) (Nat.zero_le _) (c_place (d := 9) p5) ?_
          rintro r8 h9 ⟨e9, e8⟩
          subst e9
          subst e8
          refine g_iload (pc := 59) (x := v) dX10_paint_59 rfl ?_
          refine g_iastN (pc := 61) (j := xx * M + yy) dX10_paint_61 p6 (by omega) (by omega) (by omega) ?_
          have p6_1 := p6.self (e := eA 0 4096 (va_up f (xx * M + yy) v))
          refine g_iconst (pc := 62) dX10_paint_62 ?_
          have hvv : 0 ≤ v ∧ v ≤ 255 := by omega
          have hpu : ∀ x y, x < M → y < M → va_up f (xx * M + yy) v (x * M + y) = updP P xx yy v x y := fun x1 y1 q1 q2 => by
            unfold updP
            by_cases e : x1 = xx ∧ y1 = yy
            · rw [if_pos e, e.1, e.2, va_up_self]
            · rw [if_neg e, va_up_ne _ _ (fun z => e (cell_inj q2 (by omega) z))]
              exact pf x1 y1 q1 q2
          exact r_bool (pc := 63) dX10_paint_63 rfl rfl (Nat.le_refl _) (Or.inr rfl) ⟨by rw [qM_some eg, if_pos ⟨rfl, hh, hvv⟩], by rw [qM_some eg, if_pos ⟨rfl, hh, hvv⟩, em]; simp only [Int.toNat_natCast]; exact cP.set c hi eb (fun a z => va_up_ne _ _ (by omega)) (CM.mk ⟨⟨hkd, hM, hM2, n1, hn, hk1, hk3, hT, hYb, updP_bd hPb hvv⟩, hml.keep (va_up_ne _ _ (by omega)), ⟨hY.keep (va_up_ne _ _ (by omega)), rY⟩, hpc.keep (fun a z1 z2 => va_up_ne _ _ (by omega)), hw.keep (fun a z1 z2 => va_up_ne _ _ (by omega)), hd.keep (fun a z1 z2 => va_up_ne _ _ (by omega)), hnt.keep (fun a z1 z2 => va_up_ne _ _ (by omega)), ⟨_, _, p5.keep (va_up_ne _ _ (by omega)), p6.self, fun _ => ⟨rfl, hpu⟩⟩⟩)⟩
        · refine g_iconst (pc := 39) dX10_paint_39 ?_
          exact r_bool (pc := 40) dX10_paint_40 rfl rfl (Nat.le_refl _) (Or.inl rfl) ⟨by rw [qM_some eg, if_neg (by omega)], by rw [qM_some eg, if_neg (by omega)]; exact cP.rfl c⟩
    · rw [if_neg hh]
      refine g_if_eqT (pc := 23) (tgt := 39) dX10_paint_23 (by decide) (by omega) (by omega) ?_
      refine g_iconst (pc := 39) dX10_paint_39 ?_
      exact r_bool (pc := 40) dX10_paint_40 rfl rfl (Nat.le_refl _) (Or.inl rfl) ⟨by rw [qM_some eg, if_neg (by omega)], by rw [qM_some eg, if_neg (by omega)]; exact cP.rfl c⟩

theorem k_picture {N : Nat} {m x y : Int} {σ : Nat → Option MSt} {h : MH} (hm : i32 m) (hx : i32 x) (hy : i32 y) (c : CMs N h σ) : Ok mX10_picture 10 0 0 [vR 0, vI m, vI x, vI y] N h (fun r9 h2 => r9 = some (vI (qM σ m (-1) (fun kd M n T Y P => if kd = 3 ∧ ((0 ≤ x ∧ x < M) ∧ (0 ≤ y ∧ y < M)) then P x.toNat y.toNat else -1))) ∧ cP N h h2 σ) := by
  refine Ok.of pfX10_picture rfl (Nat.le_of_ble_eq_true rfl) (fun Ls sx => ?_)
  show G mX10_picture (10, 0, 0, Ls, sx) 0 [(0, vR 0), (1, vI m), (2, vI x), (3, vI y)] [] (0, 0, N) h _
  obtain ⟨c1, c2, c3, c4⟩ := id c
  refine g_aload_n (pc := 0) (r := .inl (some 0)) dX10_picture_0 rfl ?_
  refine g_iload_n (pc := 1) (x := m) dX10_picture_1 rfl ?_
  refine g_iconst (pc := 2) dX10_picture_2 ?_
  refine g_callV0 (pc := 3) (as := [vI m, vI 3]) (b := 0) (st := []) lvX10_147 dX10_picture_3 c1 (Nat.le_of_ble_eq_true rfl) (by omega) (Nat.zero_le _) (Nat.zero_le _) (c_millOf (d := 8) (k := 3) hm (by omega) c) ?_
  rintro r h1 ⟨e9, e8⟩
  subst e9
  rcases e8 with ⟨eg, e8⟩ | ⟨i, b, M, n, T, Y, P, ma, e8⟩ <;> subst e8
  · refine g_astore (pc := 6) (r := .inl none) (lo2 := [(0, vR 0), (1, vI m), (2, vI x), (3, vI y), (4, vN)]) dX10_picture_6 (by decide) rfl ?_
    refine g_aload (pc := 8) (r := .inl none) dX10_picture_8 rfl ?_
    refine g_ifnullN (pc := 10) (tgt := 26) dX10_picture_10 (by decide) ?_
    refine g_iconst (pc := 26) dX10_picture_26 ?_
    exact r_int (pc := 27) dX10_picture_27 rfl rfl (Nat.le_refl _) ⟨by rw [qM_not eg (fun _ _ _ _ _ _ z => if_neg (fun y => z y.1))], cP.rfl c⟩
  · obtain ⟨hi, em, eb, es, eg, cm⟩ := id ma
    obtain ⟨ok, hml, ⟨hY, rY⟩, hpc, hw, hd, hnt, hpi⟩ := cm.out
    obtain ⟨hkd, hM, hM2, n1, hn, hk1, hk3, hT, hYb, hPb⟩ := id ok
    obtain ⟨kn, F, hPX, hF⟩ := id hw
    obtain ⟨wh, h79, -⟩ := id hd
    subst hF
    obtain ⟨en, hM64⟩ := hk3 rfl
    subst en
    obtain ⟨pm, f, p5, p6, pk⟩ := id hpi
    obtain ⟨epm, pf⟩ := pk rfl
    subst epm
    refine g_astore (pc := 6) (r := .inl (some b)) (lo2 := [(0, vR 0), (1, vI m), (2, vI x), (3, vI y), (4, vR b)]) dX10_picture_6 (by decide) rfl ?_
    refine g_aload (pc := 8) (r := .inl (some b)) dX10_picture_8 rfl ?_
    refine g_ifnullR (pc := 10) dX10_picture_10 ?_
    refine g_aload (pc := 13) (r := .inl (some b)) dX10_picture_13 rfl ?_
    refine g_getf (pc := 15) (v := vR (b + 5)) flX10_169 dX10_picture_15 hml rfl ?_
    refine g_iload_n (pc := 18) (x := x) dX10_picture_18 rfl ?_
    refine g_iload_n (pc := 19) (x := y) dX10_picture_19 rfl ?_
    refine g_callV0 (pc := 20) (as := [vI x, vI y]) (b := b + 5) (st := []) lvX10_173 dX10_picture_20 p5 (Nat.le_of_ble_eq_true rfl) (by omega) (Nat.zero_le _) (Nat.zero_le _) (c_has (d := 9) hx hy (by omega) p5) ?_
    rintro r8 h9 ⟨e9, e8⟩
    subst e9
    subst e8
    by_cases hh : (0 ≤ x ∧ x < M) ∧ (0 ≤ y ∧ y < M)
    · rw [if_pos hh]
      refine g_if_neT (pc := 23) (tgt := 28) dX10_picture_23 (by decide) (by omega) (by omega) ?_
      obtain ⟨xx, ex⟩ : ∃ xx : Nat, x = (xx : Int) := ⟨x.toNat, by omega⟩
      subst ex
      obtain ⟨yy, ey⟩ : ∃ yy : Nat, y = (yy : Int) := ⟨y.toNat, by omega⟩
      subst ey
      have cl := cell_lt hM64 (show xx < M by omega) (show yy < M by omega)
      refine g_aload (pc := 28) (r := .inl (some b)) dX10_picture_28 rfl ?_
      refine g_getf (pc := 30) (v := vR (b + 5)) flX10_169 dX10_picture_30 hml rfl ?_
      refine g_getf (pc := 33) (v := vR (b + 6)) flX10_179 dX10_picture_33 p5 rfl ?_
      refine g_aload (pc := 36) (r := .inl (some b)) dX10_picture_36 rfl ?_
      refine g_getf (pc := 38) (v := vR (b + 5)) flX10_169 dX10_picture_38 hml rfl ?_
      refine g_iload_n (pc := 41) (x := (xx : Int)) dX10_picture_41 rfl ?_
      refine g_iload_n (pc := 42) (x := (yy : Int)) dX10_picture_42 rfl ?_
      refine g_callV0 (pc := 43) (as := [vI (xx : Int), vI (yy : Int)]) (b := b + 5) (st := [vR (b + 6)]) lvX10_182 dX10_picture_43 p5 (Nat.le_of_ble_eq_true rfl) (by omega) (Nat.zero_le _) (Nat.zero_le _) (c_place (d := 9) p5) ?_
      rintro r8 h9 ⟨e9, e8⟩
      subst e9
      subst e8
      refine g_ialdN (pc := 46) (j := xx * M + yy) dX10_picture_46 p6 (by omega) (by omega) (by omega) ?_
      rw [pf xx yy (by omega) (by omega)]
      exact r_int (pc := 47) dX10_picture_47 rfl rfl (Nat.le_refl _) ⟨by rw [qM_some eg, if_pos ⟨rfl, hh⟩]; simp only [Int.toNat_natCast], cP.rfl c⟩
    · rw [if_neg hh]
      refine g_if_neF (pc := 23) (tgt := 28) dX10_picture_23 (by decide) (by omega) (by omega) ?_
      refine g_iconst (pc := 26) dX10_picture_26 ?_
      exact r_int (pc := 27) dX10_picture_27 rfl rfl (Nat.le_refl _) ⟨by rw [qM_some eg, if_neg (by omega)], cP.rfl c⟩

theorem k_move {N : Nat} {m t : Int} {σ : Nat → Option MSt} {h : MH} {W : Nat} (hm : i32 m) (ht : i64 t) (hW : ∀ M n T Y P, gt σ m = some (3, M, n, T, Y, P) → isPer (mp (n + 1) M (au n T)) 32 W ∧ W ≤ 8000000000000000000) (c : CMs N h σ) : Ok mX10_move 10 0 0 [vR 0, vI m, vJ t] N h (fun r9 h2 => r9 = some (vI (qM σ m 0 (fun kd M n T Y P => if kd = 3 ∧ 0 ≤ t ∧ Nat.gcd M (detF n T % (M : Int)).toNat = 1 then 1 else 0))) ∧ cP N h h2 (qM σ m σ (fun kd M n T Y P => if kd = 3 ∧ 0 ≤ t ∧ Nat.gcd M (detF n T % (M : Int)).toNat = 1 then va_up σ m.toNat (some (kd, M, n, T, Y, mvd M W T P t.toNat)) else σ))) := by
  refine Ok.of pfX10_move rfl (Nat.le_of_ble_eq_true rfl) (fun Ls sx => ?_)
  show G mX10_move (10, 0, 0, Ls, sx) 0 [(0, vR 0), (1, vI m), (2, vJ t)] [] (0, 0, N) h _
  obtain ⟨c1, c2, c3, c4⟩ := id c
  refine g_aload_n (pc := 0) (r := .inl (some 0)) dX10_move_0 rfl ?_
  refine g_iload_n (pc := 1) (x := m) dX10_move_1 rfl ?_
  refine g_iconst (pc := 2) dX10_move_2 ?_
  refine g_callV0 (pc := 3) (as := [vI m, vI 3]) (b := 0) (st := []) lvX10_147 dX10_move_3 c1 (Nat.le_of_ble_eq_true rfl) (by omega) (Nat.zero_le _) (Nat.zero_le _) (c_millOf (d := 8) (k := 3) hm (by omega) c) ?_
  rintro r h1 ⟨e9, e8⟩
  subst e9
  rcases e8 with ⟨eg, e8⟩ | ⟨i, b, M, n, T, Y, P, ma, e8⟩ <;> subst e8
  · refine g_astore (pc := 6) (r := .inl none) (lo2 := [(0, vR 0), (1, vI m), (2, vJ t), (4, vN)]) dX10_move_6 (by decide) rfl ?_
    refine g_aload (pc := 8) (r := .inl none) dX10_move_8 rfl ?_
    refine g_ifnullN (pc := 10) (tgt := 27) dX10_move_10 (by decide) ?_
    refine g_iconst (pc := 27) dX10_move_27 ?_
    exact r_bool (pc := 28) dX10_move_28 rfl rfl (Nat.le_refl _) (Or.inl rfl) ⟨by rw [qM_not eg (fun _ _ _ _ _ _ z => if_neg (fun y => z y.1))], by rw [qM_not eg (fun _ _ _ _ _ _ z => if_neg (fun y => z y.1))]; exact cP.rfl c⟩
  · obtain ⟨hi, em, eb, es, eg, cm⟩ := id ma
    obtain ⟨ok, hml, ⟨hY, rY⟩, hpc, hw, hd, hnt, hpi⟩ := cm.out
    obtain ⟨hkd, hM, hM2, n1, hn, hk1, hk3, hT, hYb, hPb⟩ := id ok
    obtain ⟨kn, F, hPX, hF⟩ := id hw
    obtain ⟨wh, h79, -⟩ := id hd
    subst hF
    obtain ⟨en, hM64⟩ := hk3 rfl
    subst en
    obtain ⟨pm, f, p5, p6, pk⟩ := id hpi
    obtain ⟨epm, pf⟩ := pk rfl
    subst epm
    refine g_astore (pc := 6) (r := .inl (some b)) (lo2 := [(0, vR 0), (1, vI m), (2, vJ t), (4, vR b)]) dX10_move_6 (by decide) rfl ?_
    refine g_aload (pc := 8) (r := .inl (some b)) dX10_move_8 rfl ?_
    refine g_ifnullR (pc := 10) dX10_move_10 ?_
    refine g_lload_n (pc := 13) (x := t) dX10_move_13 rfl ?_
    refine g_lconst0 (pc := 14) dX10_move_14 ?_
    refine g_lif_lt (pc := 15) (tgt := 27) dX10_move_15 dX10_move_16 (by decide) (by omega) (by omega) (fun k0 => ?_) (fun k0 => ?_)
    · refine g_iconst (pc := 27) dX10_move_27 ?_
      exact r_bool (pc := 28) dX10_move_28 rfl rfl (Nat.le_refl _) (Or.inl rfl) ⟨by rw [qM_some eg, if_neg (fun y => by omega)], by rw [qM_some eg, if_neg (fun y => by omega)]; exact cP.rfl c⟩
    · refine g_aload (pc := 19) (r := .inl (some b)) dX10_move_19 rfl ?_
      refine g_callV0 (pc := 21) (as := []) (b := b) (st := []) lvX10_78 dX10_move_21 hml (Nat.le_of_ble_eq_true rfl) (by omega) (Nat.zero_le _) (Nat.zero_le _) (c_goesBack (d := 5) (kd := 3) (n := 2) hn hM hM2 hml hPX.1) ?_
      rintro r8 h9 ⟨e9, e8⟩
      subst e9
      subst e8
      by_cases hgb : Nat.gcd M (detF 2 (F 0) % (M : Int)).toNat = 1
      · rw [if_pos hgb]
        refine g_if_neT (pc := 24) (tgt := 29) dX10_move_24 (by decide) (by omega) (by omega) ?_
        obtain ⟨q, eq⟩ : ∃ q : Nat, t = (q : Int) := ⟨t.toNat, by omega⟩
        subst eq
        obtain ⟨hW1, hWb⟩ := hW _ _ _ _ _ eg
        obtain ⟨dd, hdd⟩ := det_inv hM hgb
        have hW0 := inv_per n1 hn (by omega) hdd hW1
        obtain ⟨wh2, y1, y2, y3, y4, y5, y6, y7⟩ := id hd
        obtain ⟨fs, c74⟩ := id c3
        refine g_aload (pc := 29) (r := .inl (some b)) dX10_move_29 rfl ?_
        refine g_getf (pc := 31) (v := vR (b + 5)) flX10_169 dX10_move_31 hml rfl ?_
        refine g_aload (pc := 34) (r := .inl (some b)) dX10_move_34 rfl ?_
        refine g_getf (pc := 36) (v := vR (b + 79)) flX10_96 dX10_move_36 hml rfl ?_
        refine g_lload_n (pc := 39) (x := (q : Int)) dX10_move_39 rfl ?_
        refine g_callV0 (pc := 40) (as := [vJ (q : Int)]) (b := b + 79) (st := [vR (b + 5)]) lvX10_185 dX10_move_40 h79 (Nat.le_of_ble_eq_true rfl) (by omega) (Nat.zero_le _) (Nat.zero_le _) (c_stepOf (d := 5) (n := 2) (by omega) hM hM2 (show q < 9223372036854775808 by omega) y1 hPX y4) ?_
        rintro r8 h2 ⟨e8, ⟨kn2, F2, w2, f2⟩, k2, V, hV, rV, eV⟩
        subst e8
        have hb75 : 75 ≤ b := by omega
        have p5b := p5.keep (k2 _ (by omega) (by omega))
        have c1b := c1.keep (k2 0 (by omega) (by omega))
        refine g_aload_n (pc := 43) (r := .inl (some 0)) dX10_move_43 rfl ?_
        refine g_getf (pc := 44) (v := vR 74) flX10_22 dX10_move_44 c1b rfl ?_
        refine g_callV0 (pc := 47) (as := [vR (b + 90), vR 74]) (b := b + 5) (st := []) lvX10_189 dX10_move_47 p5b (Nat.le_of_ble_eq_true rfl) (by omega) (Nat.zero_le _) (Nat.zero_le _) (c_moveBy (d := 6) (A := stB M (F 0) q) (P2 := mvd M W (F 0) P q) hM hM64 hb75 (stp_of eV (mp_can (by omega) _)) pf (fun x y q1 q2 => mvd_at hM hW0 q q1 q2) p5b (p6.keep (k2 _ (by omega) (by omega))) hV (fun x y q1 q2 => mvd_sur hM hW0 q q1 q2) (c74.keep (k2 _ (by omega) (by omega)))) ?_
        rintro r8 h3 ⟨rfl, ⟨f3, o3, o4⟩, ⟨g3, o5⟩, k3⟩
        refine g_iconst (pc := 50) dX10_move_50 ?_
        have kk : ∀ a, a ≠ 74 → a ≠ b + 6 → a ≠ b + 90 → (a < b + 12 ∨ b + 79 ≤ a) → h3 a = h9 a := fun a z1 z2 z3 z4 => (k3 a z1 z2).trans (k2 a z3 z4)
        have hw3 : PT N h3 (b + 12) M 2 (F 0) := (show PT N h2 (b + 12) M 2 (F 0) from ⟨kn2, F2, w2, f2⟩).keep (fun a z1 z2 => k3 a (by omega) (by omega))
        have hd3 : RD N h3 b M 2 (F 0) := ⟨wh2, y1.keep (kk _ (by omega) (by omega) (by omega) (by omega)), by
          rcases y2 with ⟨e, z⟩ | ⟨W9, e, z1, z2⟩
          · exact Or.inl ⟨e, z.keep (kk _ (by omega) (by omega) (by omega) (by omega)) (kk _ (by omega) (by omega) (by omega) (by omega))⟩
          · exact Or.inr ⟨W9, e, z1, z2.keep (kk _ (by omega) (by omega) (by omega) (by omega)) (kk _ (by omega) (by omega) (by omega) (by omega))⟩, y3.keep (kk _ (by omega) (by omega) (by omega) (by omega)) (kk _ (by omega) (by omega) (by omega) (by omega)), ⟨V, hV.keep (k3 _ (by omega) (by omega)), rV⟩, y5.keep (kk _ (by omega) (by omega) (by omega) (by omega)), y6.keep (kk _ (by omega) (by omega) (by omega) (by omega)), y7.keep (fun a z1 z2 => kk a (by omega) (by omega) (by omega) (by omega))⟩
        have cm3 : CM N h3 b (3, M, 2, F 0, Y, mvd M W (F 0) P q) := CM.mk ⟨⟨hkd, hM, hM2, n1, hn, hk1, hk3, hT, hYb, fun x y => hPb _ _⟩, hml.keep (kk _ (by omega) (by omega) (by omega) (by omega)), ⟨hY.keep (kk _ (by omega) (by omega) (by omega) (by omega)), rY⟩, hpc.keep (fun a z1 z2 => kk a (by omega) (by omega) (by omega) (by omega)), hw3, hd3, hnt.keep (fun a z1 z2 => kk a (by omega) (by omega) (by omega) (by omega)), ⟨_, f3, p5.keep (kk _ (by omega) (by omega) (by omega) (by omega)), ⟨p6.1, o3⟩, fun _ => ⟨rfl, o4⟩⟩⟩
        have hcp : cP N h9 h3 (va_up σ i (some (3, M, 2, F 0, Y, mvd M W (F 0) P q))) := by
          subst eb
          exact ⟨c.upd hi (fun a z1 z2 => kk a z2 (by omega) (by omega) (by omega)) ⟨g3, o5⟩ (CMo.some cm3), fun a z => kk a (by omega) (by omega) (by omega) (by omega)⟩
        exact r_bool (pc := 51) dX10_move_51 rfl rfl (Nat.le_refl _) (Or.inr rfl) ⟨by rw [qM_some eg, if_pos ⟨rfl, by omega, hgb⟩], by rw [qM_some eg, if_pos ⟨rfl, by omega, hgb⟩, em]; simp only [Int.toNat_natCast]; exact hcp⟩
      · rw [if_neg hgb]
        refine g_if_neF (pc := 24) (tgt := 29) dX10_move_24 (by decide) (by omega) (by omega) ?_
        refine g_iconst (pc := 27) dX10_move_27 ?_
        exact r_bool (pc := 28) dX10_move_28 rfl rfl (Nat.le_refl _) (Or.inl rfl) ⟨by rw [qM_some eg, if_neg (fun y => hgb y.2.2)], by rw [qM_some eg, if_neg (fun y => hgb y.2.2)]; exact cP.rfl c⟩

theorem k_seen {N : Nat} {m : Int} {σ : Nat → Option MSt} {h : MH} {W D : Nat} (hm : i32 m) (hW : ∀ M n T Y P, gt σ m = some (3, M, n, T, Y, P) → isPer (mp (n + 1) M (au n T)) 32 W ∧ W ≤ 8000000000000000000) (hD : ∀ M n T Y P, gt σ m = some (3, M, n, T, Y, P) → Nat.gcd M (detF n T % (M : Int)).toNat = 1 → isPer (pcs M T P) 0 D ∧ D ∣ W) (c : CMs N h σ) : Ok mX10_seen 10 0 0 [vR 0, vI m] N h (fun r9 h2 => r9 = some (vJ (qM σ m (-1) (fun kd M n T Y P => if kd = 3 ∧ Nat.gcd M (detF n T % (M : Int)).toNat = 1 then (D : Int) else -1))) ∧ cP N h h2 σ) := by
  refine Ok.of pfX10_seen rfl (Nat.le_of_ble_eq_true rfl) (fun Ls sx => ?_)
  show G mX10_seen (10, 0, 0, Ls, sx) 0 [(0, vR 0), (1, vI m)] [] (0, 0, N) h _
  obtain ⟨c1, c2, c3, c4⟩ := id c
  refine g_aload_n (pc := 0) (r := .inl (some 0)) dX10_seen_0 rfl ?_
  refine g_iload_n (pc := 1) (x := m) dX10_seen_1 rfl ?_
  refine g_iconst (pc := 2) dX10_seen_2 ?_
  refine g_callV0 (pc := 3) (as := [vI m, vI 3]) (b := 0) (st := []) lvX10_147 dX10_seen_3 c1 (Nat.le_of_ble_eq_true rfl) (by omega) (Nat.zero_le _) (Nat.zero_le _) (c_millOf (d := 8) (k := 3) hm (by omega) c) ?_
  rintro r h1 ⟨e9, e8⟩
  subst e9
  rcases e8 with ⟨eg, e8⟩ | ⟨i, b, M, n, T, Y, P, ma, e8⟩ <;> subst e8
  · refine g_astore_n (pc := 6) (r := .inl none) (lo2 := [(0, vR 0), (1, vI m), (2, vN)]) dX10_seen_6 (by decide) rfl ?_
    refine g_aload_n (pc := 7) (r := .inl none) dX10_seen_7 rfl ?_
    refine g_ifnullN (pc := 8) (tgt := 18) dX10_seen_8 (by decide) ?_
    refine g_ldc2 (pc := 18) (n := -1) dX10_seen_18 kcX10_110 ?_
    refine g_goto (pc := 21) (tgt := 35) dX10_seen_21 (by decide) ?_
    exact r_long (pc := 35) dX10_seen_35 rfl rfl (Nat.le_refl _) ⟨by rw [qM_not eg (fun _ _ _ _ _ _ z => if_neg (fun y => z y.1))], cP.rfl c⟩
  · obtain ⟨hi, em, eb, es, eg, cm⟩ := id ma
    obtain ⟨ok, hml, ⟨hY, rY⟩, hpc, hw, hd, hnt, hpi⟩ := cm.out
    obtain ⟨hkd, hM, hM2, n1, hn, hk1, hk3, hT, hYb, hPb⟩ := id ok
    obtain ⟨kn, F, hPX, hF⟩ := id hw
    obtain ⟨wh, h79, -⟩ := id hd
    subst hF
    obtain ⟨en, hM64⟩ := hk3 rfl
    subst en
    obtain ⟨pm, f, p5, p6, pk⟩ := id hpi
    obtain ⟨epm, pf⟩ := pk rfl
    subst epm
    refine g_astore_n (pc := 6) (r := .inl (some b)) (lo2 := [(0, vR 0), (1, vI m), (2, vR b)]) dX10_seen_6 (by decide) rfl ?_
    refine g_aload_n (pc := 7) (r := .inl (some b)) dX10_seen_7 rfl ?_
    refine g_ifnullR (pc := 8) dX10_seen_8 ?_
    refine g_aload_n (pc := 11) (r := .inl (some b)) dX10_seen_11 rfl ?_
    refine g_callV0 (pc := 12) (as := []) (b := b) (st := []) lvX10_78 dX10_seen_12 hml (Nat.le_of_ble_eq_true rfl) (by omega) (Nat.zero_le _) (Nat.zero_le _) (c_goesBack (d := 5) (kd := 3) (n := 2) hn hM hM2 hml hPX.1) ?_
    rintro r8 h9 ⟨e9, e8⟩
    subst e9
    subst e8
    by_cases hgb : Nat.gcd M (detF 2 (F 0) % (M : Int)).toNat = 1
    · rw [if_pos hgb]
      refine g_if_neT (pc := 15) (tgt := 24) dX10_seen_15 (by decide) (by omega) (by omega) ?_
      obtain ⟨hW1, hWb⟩ := hW _ _ _ _ _ eg
      obtain ⟨hD1, hD2⟩ := hD _ _ _ _ _ eg hgb
      refine g_aload_n (pc := 24) (r := .inl (some b)) dX10_seen_24 rfl ?_
      refine g_getf (pc := 25) (v := vR (b + 79)) flX10_96 dX10_seen_25 hml rfl ?_
      refine g_aload_n (pc := 28) (r := .inl (some b)) dX10_seen_28 rfl ?_
      refine g_getf (pc := 29) (v := vR (b + 5)) flX10_169 dX10_seen_29 hml rfl ?_
      refine g_callV0 (pc := 32) (as := [vR (b + 5)]) (b := b + 79) (st := []) lvX10_193 dX10_seen_32 h79 (Nat.le_of_ble_eq_true rfl) (by omega) (Nat.zero_le _) (Nat.zero_le _) (c_turnsToLookAlike (d := 2) hM hM64 hW1 hWb hD1 hD2 hPb pf hpc hw hd p5 p6) ?_
      rintro r8 h2 ⟨e8, w2, d2, k2⟩
      subst e8
      exact r_long (pc := 35) dX10_seen_35 rfl rfl (Nat.le_refl _) ⟨by rw [qM_some eg, if_pos ⟨rfl, hgb⟩], cP.same c hi es eb (fun a z => k2 a (by omega)) (CM_hid cm w2 d2 k2)⟩
    · rw [if_neg hgb]
      refine g_if_neF (pc := 15) (tgt := 24) dX10_seen_15 (by decide) (by omega) (by omega) ?_
      refine g_ldc2 (pc := 18) (n := -1) dX10_seen_18 kcX10_110 ?_
      refine g_goto (pc := 21) (tgt := 35) dX10_seen_21 (by decide) ?_
      exact r_long (pc := 35) dX10_seen_35 rfl rfl (Nat.le_refl _) ⟨by rw [qM_some eg, if_neg (fun y => hgb y.2)], cP.rfl c⟩
