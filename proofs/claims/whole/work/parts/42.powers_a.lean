/-! ===== Powers: apply, compose ===== -/
/-- an array's numbers are rests below 500 -/
def rng (f : Nat → Int) : Prop := ∀ j, 0 ≤ f j ∧ f j < 500
theorem mul_rng {a b : Int} (ha : 0 ≤ a ∧ a < 500) (hb : 0 ≤ b ∧ b < 500) : 0 ≤ a * b ∧ a * b ≤ 249001 := by
  have h1 : 0 ≤ a * b := Int.mul_nonneg ha.1 hb.1
  have h2 : a * b ≤ 499 * b := Int.mul_le_mul_of_nonneg_right (by omega) hb.1
  omega

theorem apply_l1 {κ : KX} {ρ : MR} {h : MH} {Q : Option MV → MR → MH → Prop} {tr oo ii uu ps sp sr : Nat} {kn : Int} {M n r : Nat} {O X : Nat → Int} (ht : Hd ρ h tr (eO 6 [vR ps, vR sp, vR sr, vI kn, vI (M : Int), vI (n : Int)])) (hO : Hd ρ h oo (eA 0 20 O)) (hX : Hd ρ h ii (eA 0 4 X)) (hn : n ≤ 4) (hr : r < n) {x5 : Int} (h5 : x5 = (r : Int)) : ∀ (k j : Nat) (xj e : Int), j + k = n → xj = (j : Int) → (∀ e2 x7, e2 = e + ss (fun i => O (5 * r + i) * X i) j k → G mX6_apply κ 76 [(0, vR tr), (1, vR oo), (2, vR ii), (3, vR uu), (4, vI (M : Int)), (5, vI x5), (6, vI e2), (7, vI x7)] [] ρ h Q) → G mX6_apply κ 42 [(0, vR tr), (1, vR oo), (2, vR ii), (3, vR uu), (4, vI (M : Int)), (5, vI x5), (6, vI e), (7, vI xj)] [] ρ h Q := by
  intro k
  induction k with
  | zero =>
    intro j xj e hj ex hk
    refine g_iload (pc := 42) (x := xj) dX6_apply_42 rfl ?_
    refine g_aload_n (pc := 44) (r := .inl (some tr)) dX6_apply_44 rfl ?_
    refine g_getf (pc := 45) (v := vI (n : Int)) flX6_30 dX6_apply_45 ht rfl ?_
    refine g_icmp_geT (pc := 48) (tgt := 76) dX6_apply_48 (by decide) (by omega) (by omega) (by omega) ?_
    exact hk _ _ (by simp [ss])
  | succ k ih =>
    intro j xj e hj ex hk
    refine g_iload (pc := 42) (x := xj) dX6_apply_42 rfl ?_
    refine g_aload_n (pc := 44) (r := .inl (some tr)) dX6_apply_44 rfl ?_
    refine g_getf (pc := 45) (v := vI (n : Int)) flX6_30 dX6_apply_45 ht rfl ?_
    refine g_icmp_geF (pc := 48) (tgt := 76) dX6_apply_48 (by decide) (by omega) (by omega) (by omega) ?_
    refine g_iload (pc := 51) (x := e) dX6_apply_51 rfl ?_
    refine g_aload_n (pc := 53) (r := .inl (some oo)) dX6_apply_53 rfl ?_
    refine g_iload (pc := 54) (x := x5) dX6_apply_54 rfl ?_
    refine g_iconst (pc := 56) dX6_apply_56 ?_
    refine g_imul (pc := 57) dX6_apply_57 ?_
    refine g_iload (pc := 58) (x := xj) dX6_apply_58 rfl ?_
    refine g_iadd (pc := 60) dX6_apply_60 ?_
    refine g_ialdN (pc := 61) (j := 5 * r + j) dX6_apply_61 hO (by omega) (by omega) (by omega) ?_
    refine g_aload_n (pc := 62) (r := .inl (some ii)) dX6_apply_62 rfl ?_
    refine g_iload (pc := 63) (x := xj) dX6_apply_63 rfl ?_
    refine g_ialdN (pc := 65) (j := j) dX6_apply_65 hX (by omega) (by omega) (by omega) ?_
    refine g_imul (pc := 66) dX6_apply_66 ?_
    refine g_iadd (pc := 67) dX6_apply_67 ?_
    refine g_istore (pc := 68) (lo2 := [(0, vR tr), (1, vR oo), (2, vR ii), (3, vR uu), (4, vI (M : Int)), (5, vI x5), (6, vI (e + ((O (5 * r + j)) * (X j)))), (7, vI xj)]) dX6_apply_68 (by decide) rfl ?_
    refine g_iinc (pc := 70) (x := xj) (lo2 := [(0, vR tr), (1, vR oo), (2, vR ii), (3, vR uu), (4, vI (M : Int)), (5, vI x5), (6, vI (e + ((O (5 * r + j)) * (X j)))), (7, vI (xj + 1))]) dX6_apply_70 rfl (by decide) rfl ?_
    refine g_goto (pc := 73) (tgt := 42) dX6_apply_73 (by decide) ?_
    refine ih (j + 1) _ _ (by omega) (by omega) (fun e2 x7 h1 => hk e2 x7 ?_)
    rw [h1, show ss (fun i => O (5 * r + i) * X i) j (k + 1) = O (5 * r + j) * X j + ss (fun i => O (5 * r + i) * X i) (j + 1) k from rfl]
    omega

/-- a step taken by a row: place r of what comes -/
def apF (n M : Nat) (O X : Nat → Int) (r : Nat) : Int := (O (5 * r + 4) + ss (fun i => O (5 * r + i) * X i) 0 n) % M
theorem apF_rng {n M : Nat} {O X : Nat → Int} (hM : 0 < M) (hM2 : M ≤ 500) (r : Nat) : 0 ≤ apF n M O X r ∧ apF n M O X r < 500 := by
  have h1 := Int.emod_nonneg (O (5 * r + 4) + ss (fun i => O (5 * r + i) * X i) 0 n) (show (M : Int) ≠ 0 by omega)
  have h2 := Int.emod_lt_of_pos (O (5 * r + 4) + ss (fun i => O (5 * r + i) * X i) 0 n) (show 0 < (M : Int) by omega)
  unfold apF
  omega
theorem apply_l2 {κ : KX} {N : Nat} {h0 : MH} {tr oo ii uu ps sp sr : Nat} {kn : Int} {M n : Nat} {O X : Nat → Int} (hn : n ≤ 4) (hM : 0 < M) (hM2 : M ≤ 500) (rO : rng O) (rX : rng X) (n1 : tr ≠ uu) (n2 : oo ≠ uu) (n3 : ii ≠ uu) {P : Option MV → MH → Prop} : ∀ (k r : Nat) (x5 : Int) (h : MH) (T : Nat → Int), r + k = n → x5 = (r : Int) → Hd (0, 0, N) h tr (eO 6 [vR ps, vR sp, vR sr, vI kn, vI (M : Int), vI (n : Int)]) → Hd (0, 0, N) h oo (eA 0 20 O) → Hd (0, 0, N) h ii (eA 0 4 X) → Hd (0, 0, N) h uu (eA 0 4 T) → (∀ h2 T2, Hd (0, 0, N) h2 uu (eA 0 4 T2) → (∀ b, b ≠ uu → h2 b = h b) → (∀ j, r ≤ j → j < n → T2 j = apF n M O X j) → (∀ j, (j < r ∨ n ≤ j) → T2 j = T j) → P none h2) → G mX6_apply κ 20 [(0, vR tr), (1, vR oo), (2, vR ii), (3, vR uu), (4, vI (M : Int)), (5, vI x5)] [] (0, 0, N) h (Pq mX6_apply 0 0 P) := by
  intro k
  induction k with
  | zero =>
    intro r x5 h T hk ex ht hO hX hT hP
    refine g_iload (pc := 20) (x := x5) dX6_apply_20 rfl ?_
    refine g_aload_n (pc := 22) (r := .inl (some tr)) dX6_apply_22 rfl ?_
    refine g_getf (pc := 23) (v := vI (n : Int)) flX6_30 dX6_apply_23 ht rfl ?_
    refine g_icmp_geT (pc := 26) (tgt := 91) dX6_apply_26 (by decide) (by omega) (by omega) (by omega) ?_
    exact r_void (pc := 91) dX6_apply_91 rfl rfl (Nat.le_refl _) (hP h T hT (fun _ _ => rfl) (fun j _ _ => by omega) (fun _ _ => rfl))
  | succ k ih =>
    intro r x5 h T hk ex ht hO hX hT hP
    refine g_iload (pc := 20) (x := x5) dX6_apply_20 rfl ?_
    refine g_aload_n (pc := 22) (r := .inl (some tr)) dX6_apply_22 rfl ?_
    refine g_getf (pc := 23) (v := vI (n : Int)) flX6_30 dX6_apply_23 ht rfl ?_
    refine g_icmp_geF (pc := 26) (tgt := 91) dX6_apply_26 (by decide) (by omega) (by omega) (by omega) ?_
    refine g_aload_n (pc := 29) (r := .inl (some oo)) dX6_apply_29 rfl ?_
    refine g_iload (pc := 30) (x := x5) dX6_apply_30 rfl ?_
    refine g_iconst (pc := 32) dX6_apply_32 ?_
    refine g_imul (pc := 33) dX6_apply_33 ?_
    refine g_iconst (pc := 34) dX6_apply_34 ?_
    refine g_iadd (pc := 35) dX6_apply_35 ?_
    refine g_ialdN (pc := 36) (j := 5 * r + 4) dX6_apply_36 hO (by omega) (by omega) (by omega) ?_
    refine g_istore (pc := 37) (lo2 := [(0, vR tr), (1, vR oo), (2, vR ii), (3, vR uu), (4, vI (M : Int)), (5, vI x5), (6, vI (O (5 * r + 4)))]) dX6_apply_37 (by decide) rfl ?_
    refine g_iconst (pc := 39) dX6_apply_39 ?_
    refine g_istore (pc := 40) (lo2 := [(0, vR tr), (1, vR oo), (2, vR ii), (3, vR uu), (4, vI (M : Int)), (5, vI x5), (6, vI (O (5 * r + 4))), (7, vI 0)]) dX6_apply_40 (by decide) rfl ?_
    refine apply_l1 ht hO hX hn (by omega) ex n 0 _ _ (by omega) rfl (fun e2 x7 h1 => ?_)
    have hb := ss_bd (f := fun i => O (5 * r + i) * X i) (B := 249001) n 0 (fun i _ _ => mul_rng (rO _) (rX _))
    have hb1 := rO (5 * r + 4)
    have e9 : e2.tmod (M : Int) = apF n M O X r := by
      unfold apF
      rw [← h1]
      exact Int.tmod_eq_emod_of_nonneg (by omega)
    refine g_aload_n (pc := 76) (r := .inl (some uu)) dX6_apply_76 rfl ?_
    refine g_iload (pc := 77) (x := x5) dX6_apply_77 rfl ?_
    refine g_iload (pc := 79) (x := e2) dX6_apply_79 rfl ?_
    refine g_iload (pc := 81) (x := (M : Int)) dX6_apply_81 rfl ?_
    refine g_irem (pc := 83) dX6_apply_83 (by omega) (by omega) (by omega) ?_
    refine g_iastN (pc := 84) (j := r) dX6_apply_84 hT (by omega) (by omega) (by omega) ?_
    have ht_1 := ht.ne (e := eA 0 4 (va_up T r (e2.tmod (M : Int)))) (a := uu) (by omega)
    have hO_1 := hO.ne (e := eA 0 4 (va_up T r (e2.tmod (M : Int)))) (a := uu) (by omega)
    have hX_1 := hX.ne (e := eA 0 4 (va_up T r (e2.tmod (M : Int)))) (a := uu) (by omega)
    have hT_1 := hT.self (e := eA 0 4 (va_up T r (e2.tmod (M : Int))))
    refine g_iinc (pc := 85) (x := x5) (lo2 := [(0, vR tr), (1, vR oo), (2, vR ii), (3, vR uu), (4, vI (M : Int)), (5, vI (x5 + 1)), (6, vI e2), (7, vI x7)]) dX6_apply_85 rfl (by decide) rfl ?_
    refine g_goto (pc := 88) (tgt := 20) dX6_apply_88 (by decide) ?_
    refine g_pick [0, 1, 2, 3, 4, 5] (lo2 := [(0, vR tr), (1, vR oo), (2, vR ii), (3, vR uu), (4, vI (M : Int)), (5, vI (x5 + 1))]) rfl ?_
    refine ih (r + 1) (x5 + 1) _ _ (by omega) (by omega) ht_1 hO_1 hX_1 hT_1 (fun h2 T2 q1 q2 q3 q4 => hP h2 T2 q1 (fun b hb => (q2 b hb).trans (va_up_ne _ _ hb)) (fun j a1 a2 => ?_) (fun j a1 => ?_))
    · by_cases hj : j = r
      · subst hj
        rw [q4 j (by omega), va_up_self, e9]
      · exact q3 j (by omega) a2
    · rw [q4 j (by omega), va_up_ne _ _ (by omega)]


theorem c_apply {κ : KX} {N : Nat} {h0 : MH} {tr oo ii uu ps sp sr : Nat} {kn : Int} {M n : Nat} {O X : Nat → Int} (hn : n ≤ 4) (hM : 0 < M) (hM2 : M ≤ 500) (rO : rng O) (rX : rng X) (n1 : tr ≠ uu) (n2 : oo ≠ uu) (n3 : ii ≠ uu) {d : Nat} {T : Nat → Int} {h : MH} (ht : Hd (0, 0, N) h tr (eO 6 [vR ps, vR sp, vR sr, vI kn, vI (M : Int), vI (n : Int)])) (hO : Hd (0, 0, N) h oo (eA 0 20 O)) (hX : Hd (0, 0, N) h ii (eA 0 4 X)) (hT : Hd (0, 0, N) h uu (eA 0 4 T)) : Ok mX6_apply d 0 0 [vR tr, vR oo, vR ii, vR uu] N h (fun r h2 => r = none ∧ (∀ b, b ≠ uu → h2 b = h b) ∧ ∃ T2, h2 uu = eA 0 4 T2 ∧ (∀ j, j < n → T2 j = apF n M O X j) ∧ ∀ j, n ≤ j → T2 j = T j) := by
  refine Ok.of pfX6_apply rfl (Nat.le_of_ble_eq_true rfl) (fun Ls sx => ?_)
  show G mX6_apply (d, 0, 0, Ls, sx) 0 [(0, vR tr), (1, vR oo), (2, vR ii), (3, vR uu)] [] (0, 0, N) h _
  refine g_aload_n (pc := 0) (r := .inl (some tr)) dX6_apply_0 rfl ?_
  refine g_getf (pc := 1) (v := vI (M : Int)) flX6_27 dX6_apply_1 ht rfl ?_
  refine g_if_leF (pc := 4) (tgt := 14) dX6_apply_4 (by decide) (by omega) (by omega) ?_
  refine g_aload_n (pc := 7) (r := .inl (some tr)) dX6_apply_7 rfl ?_
  refine g_getf (pc := 8) (v := vI (M : Int)) flX6_27 dX6_apply_8 ht rfl ?_
  refine g_goto (pc := 11) (tgt := 15) dX6_apply_11 (by decide) ?_
  refine g_istore (pc := 15) (lo2 := [(0, vR tr), (1, vR oo), (2, vR ii), (3, vR uu), (4, vI (M : Int))]) dX6_apply_15 (by decide) rfl ?_
  refine g_iconst (pc := 17) dX6_apply_17 ?_
  refine g_istore (pc := 18) (lo2 := [(0, vR tr), (1, vR oo), (2, vR ii), (3, vR uu), (4, vI (M : Int)), (5, vI 0)]) dX6_apply_18 (by decide) rfl ?_
  exact apply_l2 (h0 := h) hn hM hM2 rO rX n1 n2 n3 n 0 _ h T (by omega) rfl ht hO hX hT (fun h2 T2 q1 q2 q3 q4 => ⟨rfl, q2, T2, q1.2, fun j hj => q3 j (Nat.zero_le _) hj, fun j hj => q4 j (Or.inr hj)⟩)

/-- first the inner step, then the outer one: place j of what comes -/
def coF (n M : Nat) (O X T : Nat → Int) (j : Nat) : Int :=
  if j / 5 < n then (if j % 5 = 4 then (O (5 * (j / 5) + 4) + ss (fun i => O (5 * (j / 5) + i) * X (5 * i + 4)) 0 n) % M else if j % 5 < n then ss (fun i => O (5 * (j / 5) + i) * X (5 * i + j % 5)) 0 n % M else T j) else T j
theorem comp_l1 {κ : KX} {ρ : MR} {h : MH} {Q : Option MV → MR → MH → Prop} {tr oo ii uu ps sp sr : Nat} {kn : Int} {M n r : Nat} {O X : Nat → Int} (ht : Hd ρ h tr (eO 6 [vR ps, vR sp, vR sr, vI kn, vI (M : Int), vI (n : Int)])) (hO : Hd ρ h oo (eA 0 20 O)) (hX : Hd ρ h ii (eA 0 20 X)) (hn : n ≤ 4) (hr : r < n) {x5 x6 : Int} (h6 : x6 = ((5 * r : Nat) : Int)) : ∀ (k j : Nat) (xj e : Int), j + k = n → xj = (j : Int) → (∀ e2 x8, e2 = e + ss (fun i => O (5 * r + i) * X (5 * i + 4)) j k → G mX6_compose κ 82 [(0, vR tr), (1, vR oo), (2, vR ii), (3, vR uu), (4, vI (M : Int)), (5, vI x5), (6, vI x6), (7, vI e2), (8, vI x8)] [] ρ h Q) → G mX6_compose κ 46 [(0, vR tr), (1, vR oo), (2, vR ii), (3, vR uu), (4, vI (M : Int)), (5, vI x5), (6, vI x6), (7, vI e), (8, vI xj)] [] ρ h Q := by
  intro k
  induction k with
  | zero =>
    intro j xj e hj ex hk
    refine g_iload (pc := 46) (x := xj) dX6_compose_46 rfl ?_
    refine g_aload_n (pc := 48) (r := .inl (some tr)) dX6_compose_48 rfl ?_
    refine g_getf (pc := 49) (v := vI (n : Int)) flX6_30 dX6_compose_49 ht rfl ?_
    refine g_icmp_geT (pc := 52) (tgt := 82) dX6_compose_52 (by decide) (by omega) (by omega) (by omega) ?_
    exact hk _ _ (by simp [ss])
  | succ k ih =>
    intro j xj e hj ex hk
    refine g_iload (pc := 46) (x := xj) dX6_compose_46 rfl ?_
    refine g_aload_n (pc := 48) (r := .inl (some tr)) dX6_compose_48 rfl ?_
    refine g_getf (pc := 49) (v := vI (n : Int)) flX6_30 dX6_compose_49 ht rfl ?_
    refine g_icmp_geF (pc := 52) (tgt := 82) dX6_compose_52 (by decide) (by omega) (by omega) (by omega) ?_
    refine g_iload (pc := 55) (x := e) dX6_compose_55 rfl ?_
    refine g_aload_n (pc := 57) (r := .inl (some oo)) dX6_compose_57 rfl ?_
    refine g_iload (pc := 58) (x := x6) dX6_compose_58 rfl ?_
    refine g_iload (pc := 60) (x := xj) dX6_compose_60 rfl ?_
    refine g_iadd (pc := 62) dX6_compose_62 ?_
    refine g_ialdN (pc := 63) (j := 5 * r + j) dX6_compose_63 hO (by omega) (by omega) (by omega) ?_
    refine g_aload_n (pc := 64) (r := .inl (some ii)) dX6_compose_64 rfl ?_
    refine g_iload (pc := 65) (x := xj) dX6_compose_65 rfl ?_
    refine g_iconst (pc := 67) dX6_compose_67 ?_
    refine g_imul (pc := 68) dX6_compose_68 ?_
    refine g_iconst (pc := 69) dX6_compose_69 ?_
    refine g_iadd (pc := 70) dX6_compose_70 ?_
    refine g_ialdN (pc := 71) (j := 5 * j + 4) dX6_compose_71 hX (by omega) (by omega) (by omega) ?_
    refine g_imul (pc := 72) dX6_compose_72 ?_
    refine g_iadd (pc := 73) dX6_compose_73 ?_
    refine g_istore (pc := 74) (lo2 := [(0, vR tr), (1, vR oo), (2, vR ii), (3, vR uu), (4, vI (M : Int)), (5, vI x5), (6, vI x6), (7, vI (e + ((O (5 * r + j)) * (X (5 * j + 4))))), (8, vI xj)]) dX6_compose_74 (by decide) rfl ?_
    refine g_iinc (pc := 76) (x := xj) (lo2 := [(0, vR tr), (1, vR oo), (2, vR ii), (3, vR uu), (4, vI (M : Int)), (5, vI x5), (6, vI x6), (7, vI (e + ((O (5 * r + j)) * (X (5 * j + 4))))), (8, vI (xj + 1))]) dX6_compose_76 rfl (by decide) rfl ?_
    refine g_goto (pc := 79) (tgt := 46) dX6_compose_79 (by decide) ?_
    refine ih (j + 1) (xj + 1) _ (by omega) (by omega) (fun e2 x8 h1 => hk e2 x8 ?_)
    rw [h1, show ss (fun i => O (5 * r + i) * X (5 * i + 4)) j (k + 1) = O (5 * r + j) * X (5 * j + 4) + ss (fun i => O (5 * r + i) * X (5 * i + 4)) (j + 1) k from rfl]
    omega

theorem comp_l2 {κ : KX} {ρ : MR} {h : MH} {Q : Option MV → MR → MH → Prop} {tr oo ii uu ps sp sr : Nat} {kn : Int} {M n r : Nat} {O X : Nat → Int} (ht : Hd ρ h tr (eO 6 [vR ps, vR sp, vR sr, vI kn, vI (M : Int), vI (n : Int)])) (hO : Hd ρ h oo (eA 0 20 O)) (hX : Hd ρ h ii (eA 0 20 X)) (hn : n ≤ 4) (hr : r < n) {c : Nat} (hc : c < n) {x5 x6 e7 x8 : Int} (h6 : x6 = ((5 * r : Nat) : Int)) (h8 : x8 = (c : Int)) : ∀ (k j : Nat) (xj e : Int), j + k = n → xj = (j : Int) → (∀ e2 x10, e2 = e + ss (fun i => O (5 * r + i) * X (5 * i + c)) j k → G mX6_compose κ 148 [(0, vR tr), (1, vR oo), (2, vR ii), (3, vR uu), (4, vI (M : Int)), (5, vI x5), (6, vI x6), (7, vI e7), (8, vI x8), (9, vI e2), (10, vI x10)] [] ρ h Q) → G mX6_compose κ 111 [(0, vR tr), (1, vR oo), (2, vR ii), (3, vR uu), (4, vI (M : Int)), (5, vI x5), (6, vI x6), (7, vI e7), (8, vI x8), (9, vI e), (10, vI xj)] [] ρ h Q := by
  intro k
  induction k with
  | zero =>
    intro j xj e hj ex hk
    refine g_iload (pc := 111) (x := xj) dX6_compose_111 rfl ?_
    refine g_aload_n (pc := 113) (r := .inl (some tr)) dX6_compose_113 rfl ?_
    refine g_getf (pc := 114) (v := vI (n : Int)) flX6_30 dX6_compose_114 ht rfl ?_
    refine g_icmp_geT (pc := 117) (tgt := 148) dX6_compose_117 (by decide) (by omega) (by omega) (by omega) ?_
    exact hk _ _ (by simp [ss])
  | succ k ih =>
    intro j xj e hj ex hk
    refine g_iload (pc := 111) (x := xj) dX6_compose_111 rfl ?_
    refine g_aload_n (pc := 113) (r := .inl (some tr)) dX6_compose_113 rfl ?_
    refine g_getf (pc := 114) (v := vI (n : Int)) flX6_30 dX6_compose_114 ht rfl ?_
    refine g_icmp_geF (pc := 117) (tgt := 148) dX6_compose_117 (by decide) (by omega) (by omega) (by omega) ?_
    refine g_iload (pc := 120) (x := e) dX6_compose_120 rfl ?_
    refine g_aload_n (pc := 122) (r := .inl (some oo)) dX6_compose_122 rfl ?_
    refine g_iload (pc := 123) (x := x6) dX6_compose_123 rfl ?_
    refine g_iload (pc := 125) (x := xj) dX6_compose_125 rfl ?_
    refine g_iadd (pc := 127) dX6_compose_127 ?_
    refine g_ialdN (pc := 128) (j := 5 * r + j) dX6_compose_128 hO (by omega) (by omega) (by omega) ?_
    refine g_aload_n (pc := 129) (r := .inl (some ii)) dX6_compose_129 rfl ?_
    refine g_iload (pc := 130) (x := xj) dX6_compose_130 rfl ?_
    refine g_iconst (pc := 132) dX6_compose_132 ?_
    refine g_imul (pc := 133) dX6_compose_133 ?_
    refine g_iload (pc := 134) (x := x8) dX6_compose_134 rfl ?_
    refine g_iadd (pc := 136) dX6_compose_136 ?_
    refine g_ialdN (pc := 137) (j := 5 * j + c) dX6_compose_137 hX (by omega) (by omega) (by omega) ?_
    refine g_imul (pc := 138) dX6_compose_138 ?_
    refine g_iadd (pc := 139) dX6_compose_139 ?_
    refine g_istore (pc := 140) (lo2 := [(0, vR tr), (1, vR oo), (2, vR ii), (3, vR uu), (4, vI (M : Int)), (5, vI x5), (6, vI x6), (7, vI e7), (8, vI x8), (9, vI (e + ((O (5 * r + j)) * (X (5 * j + c))))), (10, vI xj)]) dX6_compose_140 (by decide) rfl ?_
    refine g_iinc (pc := 142) (x := xj) (lo2 := [(0, vR tr), (1, vR oo), (2, vR ii), (3, vR uu), (4, vI (M : Int)), (5, vI x5), (6, vI x6), (7, vI e7), (8, vI x8), (9, vI (e + ((O (5 * r + j)) * (X (5 * j + c))))), (10, vI (xj + 1))]) dX6_compose_142 rfl (by decide) rfl ?_
    refine g_goto (pc := 145) (tgt := 111) dX6_compose_145 (by decide) ?_
    refine ih (j + 1) (xj + 1) _ (by omega) (by omega) (fun e2 x10 h1 => hk e2 x10 ?_)
    rw [h1, show ss (fun i => O (5 * r + i) * X (5 * i + c)) j (k + 1) = O (5 * r + j) * X (5 * j + c) + ss (fun i => O (5 * r + i) * X (5 * i + c)) (j + 1) k from rfl]
    omega
