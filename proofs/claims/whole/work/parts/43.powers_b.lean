/-! ===== Powers: compose ===== -/
theorem comp_l3 {κ : KX} {N : Nat} {Q : Option MV → MR → MH → Prop} {tr oo ii uu ps sp sr : Nat} {kn : Int} {M n : Nat} {O X : Nat → Int} (hn : n ≤ 4) (hM : 0 < M) (hM2 : M ≤ 500) (rO : rng O) (rX : rng X) (n1 : tr ≠ uu) (n2 : oo ≠ uu) (n3 : ii ≠ uu) {r : Nat} (hr : r < n) {x5 x6 e7 : Int} (h6 : x6 = ((5 * r : Nat) : Int)) : ∀ (k c : Nat) (x8 : Int) (h : MH) (T : Nat → Int), c + k = n → x8 = (c : Int) → Hd (0, 0, N) h tr (eO 6 [vR ps, vR sp, vR sr, vI kn, vI (M : Int), vI (n : Int)]) → Hd (0, 0, N) h oo (eA 0 20 O) → Hd (0, 0, N) h ii (eA 0 20 X) → Hd (0, 0, N) h uu (eA 0 20 T) → (∀ h2 T2, Hd (0, 0, N) h2 uu (eA 0 20 T2) → (∀ b, b ≠ uu → h2 b = h b) → (∀ j, c ≤ j → j < n → T2 (5 * r + j) = ss (fun i => O (5 * r + i) * X (5 * i + j)) 0 n % M) → (∀ j, (j < 5 * r + c ∨ 5 * r + n ≤ j) → T2 j = T j) → G mX6_compose κ 166 [(0, vR tr), (1, vR oo), (2, vR ii), (3, vR uu), (4, vI (M : Int)), (5, vI x5), (6, vI x6)] [] (0, 0, N) h2 Q) → G mX6_compose κ 96 [(0, vR tr), (1, vR oo), (2, vR ii), (3, vR uu), (4, vI (M : Int)), (5, vI x5), (6, vI x6), (7, vI e7), (8, vI x8)] [] (0, 0, N) h Q := by
  intro k
  induction k with
  | zero =>
    intro c x8 h T hk ex ht hO hX hT hP
    refine g_iload (pc := 96) (x := x8) dX6_compose_96 rfl ?_
    refine g_aload_n (pc := 98) (r := .inl (some tr)) dX6_compose_98 rfl ?_
    refine g_getf (pc := 99) (v := vI (n : Int)) flX6_30 dX6_compose_99 ht rfl ?_
    refine g_icmp_geT (pc := 102) (tgt := 166) dX6_compose_102 (by decide) (by omega) (by omega) (by omega) ?_
    refine g_pick [0, 1, 2, 3, 4, 5, 6] (lo2 := [(0, vR tr), (1, vR oo), (2, vR ii), (3, vR uu), (4, vI (M : Int)), (5, vI x5), (6, vI x6)]) rfl ?_
    exact hP h T hT (fun _ _ => rfl) (fun j _ _ => by omega) (fun _ _ => rfl)
  | succ k ih =>
    intro c x8 h T hk ex ht hO hX hT hP
    refine g_iload (pc := 96) (x := x8) dX6_compose_96 rfl ?_
    refine g_aload_n (pc := 98) (r := .inl (some tr)) dX6_compose_98 rfl ?_
    refine g_getf (pc := 99) (v := vI (n : Int)) flX6_30 dX6_compose_99 ht rfl ?_
    refine g_icmp_geF (pc := 102) (tgt := 166) dX6_compose_102 (by decide) (by omega) (by omega) (by omega) ?_
    refine g_iconst (pc := 105) dX6_compose_105 ?_
    refine g_istore (pc := 106) (lo2 := [(0, vR tr), (1, vR oo), (2, vR ii), (3, vR uu), (4, vI (M : Int)), (5, vI x5), (6, vI x6), (7, vI e7), (8, vI x8), (9, vI 0)]) dX6_compose_106 (by decide) rfl ?_
    refine g_iconst (pc := 108) dX6_compose_108 ?_
    refine g_istore (pc := 109) (lo2 := [(0, vR tr), (1, vR oo), (2, vR ii), (3, vR uu), (4, vI (M : Int)), (5, vI x5), (6, vI x6), (7, vI e7), (8, vI x8), (9, vI 0), (10, vI 0)]) dX6_compose_109 (by decide) rfl ?_
    refine comp_l2 ht hO hX hn hr (by omega) h6 ex n 0 _ _ (by omega) rfl (fun e2 x10 h1 => ?_)
    have hb := ss_bd (f := (fun i => O (5 * r + i) * X (5 * i + c))) (B := 249001) n 0 (fun i _ _ => mul_rng (rO _) (rX _))
    have e9 : e2.tmod (M : Int) = ss (fun i => O (5 * r + i) * X (5 * i + c)) 0 n % M := by
      rw [h1, Int.zero_add]
      exact Int.tmod_eq_emod_of_nonneg (by omega)
    refine g_aload_n (pc := 148) (r := .inl (some uu)) dX6_compose_148 rfl ?_
    refine g_iload (pc := 149) (x := x6) dX6_compose_149 rfl ?_
    refine g_iload (pc := 151) (x := x8) dX6_compose_151 rfl ?_
    refine g_iadd (pc := 153) dX6_compose_153 ?_
    refine g_iload (pc := 154) (x := e2) dX6_compose_154 rfl ?_
    refine g_iload (pc := 156) (x := (M : Int)) dX6_compose_156 rfl ?_
    refine g_irem (pc := 158) dX6_compose_158 (by omega) (by omega) (by omega) ?_
    refine g_iastN (pc := 159) (j := 5 * r + c) dX6_compose_159 hT (by omega) (by omega) (by omega) ?_
    have ht_1 := ht.ne (e := eA 0 20 (va_up T (5 * r + c) (e2.tmod (M : Int)))) (a := uu) (by omega)
    have hO_1 := hO.ne (e := eA 0 20 (va_up T (5 * r + c) (e2.tmod (M : Int)))) (a := uu) (by omega)
    have hX_1 := hX.ne (e := eA 0 20 (va_up T (5 * r + c) (e2.tmod (M : Int)))) (a := uu) (by omega)
    have hT_1 := hT.self (e := eA 0 20 (va_up T (5 * r + c) (e2.tmod (M : Int))))
    refine g_iinc (pc := 160) (x := x8) (lo2 := [(0, vR tr), (1, vR oo), (2, vR ii), (3, vR uu), (4, vI (M : Int)), (5, vI x5), (6, vI x6), (7, vI e7), (8, vI (x8 + 1)), (9, vI e2), (10, vI x10)]) dX6_compose_160 rfl (by decide) rfl ?_
    refine g_goto (pc := 163) (tgt := 96) dX6_compose_163 (by decide) ?_
    refine g_pick [0, 1, 2, 3, 4, 5, 6, 7, 8] (lo2 := [(0, vR tr), (1, vR oo), (2, vR ii), (3, vR uu), (4, vI (M : Int)), (5, vI x5), (6, vI x6), (7, vI e7), (8, vI (x8 + 1))]) rfl ?_
    refine ih (c + 1) (x8 + 1) _ _ (by omega) (by omega) ht_1 hO_1 hX_1 hT_1 (fun h2 T2 q1 q2 q3 q4 => hP h2 T2 q1 (fun b hb => (q2 b hb).trans (va_up_ne _ _ hb)) (fun j a1 a2 => ?_) (fun j a1 => ?_))
    · by_cases hj : j = c
      · subst hj
        rw [q4 _ (by omega), va_up_self, e9]
      · exact q3 j (by omega) a2
    · rw [q4 j (by omega), va_up_ne _ _ (by omega)]

theorem comp_l4 {κ : KX} {N : Nat} {tr oo ii uu ps sp sr : Nat} {kn : Int} {M n : Nat} {O X : Nat → Int} (hn : n ≤ 4) (hM : 0 < M) (hM2 : M ≤ 500) (rO : rng O) (rX : rng X) (n1 : tr ≠ uu) (n2 : oo ≠ uu) (n3 : ii ≠ uu) {P : Option MV → MH → Prop} : ∀ (k r : Nat) (x5 : Int) (h : MH) (T : Nat → Int), r + k = n → x5 = (r : Int) → Hd (0, 0, N) h tr (eO 6 [vR ps, vR sp, vR sr, vI kn, vI (M : Int), vI (n : Int)]) → Hd (0, 0, N) h oo (eA 0 20 O) → Hd (0, 0, N) h ii (eA 0 20 X) → Hd (0, 0, N) h uu (eA 0 20 T) → (∀ h2 T2, Hd (0, 0, N) h2 uu (eA 0 20 T2) → (∀ b, b ≠ uu → h2 b = h b) → (∀ j, 5 * r ≤ j → T2 j = coF n M O X T j) → (∀ j, j < 5 * r → T2 j = T j) → P none h2) → G mX6_compose κ 20 [(0, vR tr), (1, vR oo), (2, vR ii), (3, vR uu), (4, vI (M : Int)), (5, vI x5)] [] (0, 0, N) h (Pq mX6_compose 0 0 P) := by
  intro k
  induction k with
  | zero =>
    intro r x5 h T hk ex ht hO hX hT hP
    refine g_iload (pc := 20) (x := x5) dX6_compose_20 rfl ?_
    refine g_aload_n (pc := 22) (r := .inl (some tr)) dX6_compose_22 rfl ?_
    refine g_getf (pc := 23) (v := vI (n : Int)) flX6_30 dX6_compose_23 ht rfl ?_
    refine g_icmp_geT (pc := 26) (tgt := 172) dX6_compose_26 (by decide) (by omega) (by omega) (by omega) ?_
    exact r_void (pc := 172) dX6_compose_172 rfl rfl (Nat.le_refl _) (hP h T hT (fun _ _ => rfl) (fun j hj => by unfold coF; rw [if_neg (by omega)]) (fun _ _ => rfl))
  | succ k ih =>
    intro r x5 h T hk ex ht hO hX hT hP
    refine g_iload (pc := 20) (x := x5) dX6_compose_20 rfl ?_
    refine g_aload_n (pc := 22) (r := .inl (some tr)) dX6_compose_22 rfl ?_
    refine g_getf (pc := 23) (v := vI (n : Int)) flX6_30 dX6_compose_23 ht rfl ?_
    refine g_icmp_geF (pc := 26) (tgt := 172) dX6_compose_26 (by decide) (by omega) (by omega) (by omega) ?_
    refine g_iload (pc := 29) (x := x5) dX6_compose_29 rfl ?_
    refine g_iconst (pc := 31) dX6_compose_31 ?_
    refine g_imul (pc := 32) dX6_compose_32 ?_
    refine g_istore (pc := 33) (lo2 := [(0, vR tr), (1, vR oo), (2, vR ii), (3, vR uu), (4, vI (M : Int)), (5, vI x5), (6, vI (x5 * 5))]) dX6_compose_33 (by decide) rfl ?_
    refine g_aload_n (pc := 35) (r := .inl (some oo)) dX6_compose_35 rfl ?_
    refine g_iload (pc := 36) (x := x5 * 5) dX6_compose_36 rfl ?_
    refine g_iconst (pc := 38) dX6_compose_38 ?_
    refine g_iadd (pc := 39) dX6_compose_39 ?_
    refine g_ialdN (pc := 40) (j := 5 * r + 4) dX6_compose_40 hO (by omega) (by omega) (by omega) ?_
    refine g_istore (pc := 41) (lo2 := [(0, vR tr), (1, vR oo), (2, vR ii), (3, vR uu), (4, vI (M : Int)), (5, vI x5), (6, vI (x5 * 5)), (7, vI (O (5 * r + 4)))]) dX6_compose_41 (by decide) rfl ?_
    refine g_iconst (pc := 43) dX6_compose_43 ?_
    refine g_istore (pc := 44) (lo2 := [(0, vR tr), (1, vR oo), (2, vR ii), (3, vR uu), (4, vI (M : Int)), (5, vI x5), (6, vI (x5 * 5)), (7, vI (O (5 * r + 4))), (8, vI 0)]) dX6_compose_44 (by decide) rfl ?_
    refine comp_l1 (r := r) (x6 := x5 * 5) ht hO hX hn (by omega) (by omega) n 0 _ _ (by omega) rfl (fun e2 x8 h1 => ?_)
    have hb := ss_bd (f := (fun i => O (5 * r + i) * X (5 * i + 4))) (B := 249001) n 0 (fun i _ _ => mul_rng (rO _) (rX _))
    have hb1 := rO (5 * r + 4)
    have e9 : e2.tmod (M : Int) = (O (5 * r + 4) + ss (fun i => O (5 * r + i) * X (5 * i + 4)) 0 n) % M := by
      rw [← h1]
      exact Int.tmod_eq_emod_of_nonneg (by omega)
    refine g_aload_n (pc := 82) (r := .inl (some uu)) dX6_compose_82 rfl ?_
    refine g_iload (pc := 83) (x := x5 * 5) dX6_compose_83 rfl ?_
    refine g_iconst (pc := 85) dX6_compose_85 ?_
    refine g_iadd (pc := 86) dX6_compose_86 ?_
    refine g_iload (pc := 87) (x := e2) dX6_compose_87 rfl ?_
    refine g_iload (pc := 89) (x := (M : Int)) dX6_compose_89 rfl ?_
    refine g_irem (pc := 91) dX6_compose_91 (by omega) (by omega) (by omega) ?_
    refine g_iastN (pc := 92) (j := 5 * r + 4) dX6_compose_92 hT (by omega) (by omega) (by omega) ?_
    have ht_1 := ht.ne (e := eA 0 20 (va_up T (5 * r + 4) (e2.tmod (M : Int)))) (a := uu) (by omega)
    have hO_1 := hO.ne (e := eA 0 20 (va_up T (5 * r + 4) (e2.tmod (M : Int)))) (a := uu) (by omega)
    have hX_1 := hX.ne (e := eA 0 20 (va_up T (5 * r + 4) (e2.tmod (M : Int)))) (a := uu) (by omega)
    have hT_1 := hT.self (e := eA 0 20 (va_up T (5 * r + 4) (e2.tmod (M : Int))))
    refine g_iconst (pc := 93) dX6_compose_93 ?_
    refine g_istore (pc := 94) (lo2 := [(0, vR tr), (1, vR oo), (2, vR ii), (3, vR uu), (4, vI (M : Int)), (5, vI x5), (6, vI (x5 * 5)), (7, vI e2), (8, vI 0)]) dX6_compose_94 (by decide) rfl ?_
    refine comp_l3 (r := r) (x6 := x5 * 5) hn hM hM2 rO rX n1 n2 n3 (by omega) (by omega) n 0 _ _ _ (by omega) rfl ht_1 hO_1 hX_1 hT_1 (fun h2 T2 p1 p2 p3 p4 => ?_)
    have ht2 : Hd (0, 0, N) h2 tr (eO 6 [vR ps, vR sp, vR sr, vI kn, vI (M : Int), vI (n : Int)]) := ⟨ht.1, (p2 _ n1).trans ht_1.2⟩
    have hO2 : Hd (0, 0, N) h2 oo (eA 0 20 O) := ⟨hO.1, (p2 _ n2).trans hO_1.2⟩
    have hX2 : Hd (0, 0, N) h2 ii (eA 0 20 X) := ⟨hX.1, (p2 _ n3).trans hX_1.2⟩
    refine g_iinc (pc := 166) (x := x5) (lo2 := [(0, vR tr), (1, vR oo), (2, vR ii), (3, vR uu), (4, vI (M : Int)), (5, vI (x5 + 1)), (6, vI (x5 * 5))]) dX6_compose_166 rfl (by decide) rfl ?_
    refine g_goto (pc := 169) (tgt := 20) dX6_compose_169 (by decide) ?_
    refine g_pick [0, 1, 2, 3, 4, 5] (lo2 := [(0, vR tr), (1, vR oo), (2, vR ii), (3, vR uu), (4, vI (M : Int)), (5, vI (x5 + 1))]) rfl ?_
    refine ih (r + 1) (x5 + 1) h2 T2 (by omega) (by omega) ht2 hO2 hX2 p1 (fun h3 T3 q1 q2 q3 q4 => hP h3 T3 q1 (fun b hb => (q2 b hb).trans ((p2 b hb).trans (va_up_ne _ _ hb))) (fun j a1 => ?_) (fun j a1 => ?_))
    · by_cases hj : 5 * (r + 1) ≤ j
      · rw [q3 j hj]
        unfold coF
        split
        · split
          · rfl
          · split
            · rfl
            · rw [p4 j (by omega), va_up_ne _ _ (by omega)]
        · rw [p4 j (by omega), va_up_ne _ _ (by omega)]
      · have hd : j / 5 = r := by omega
        rw [q4 j (by omega)]
        unfold coF
        rw [if_pos (by omega), hd]
        split
        · rename_i h4
          have e4 : j = 5 * r + 4 := by omega
          subst e4
          rw [p4 _ (by omega), va_up_self, e9]
        · rename_i h4
          split
          · rename_i h5
            have := p3 (j % 5) (Nat.zero_le _) h5
            rw [show 5 * r + j % 5 = j by omega] at this
            exact this
          · rw [p4 j (by omega), va_up_ne _ _ (by omega)]
    · rw [q4 j (by omega), p4 j (by omega), va_up_ne _ _ (by omega)]

theorem c_compose {N : Nat} {tr oo ii uu ps sp sr : Nat} {kn : Int} {M n : Nat} {O X : Nat → Int} (hn : n ≤ 4) (hM : 0 < M) (hM2 : M ≤ 500) (rO : rng O) (rX : rng X) (n1 : tr ≠ uu) (n2 : oo ≠ uu) (n3 : ii ≠ uu) {d : Nat} {T : Nat → Int} {h : MH} (ht : Hd (0, 0, N) h tr (eO 6 [vR ps, vR sp, vR sr, vI kn, vI (M : Int), vI (n : Int)])) (hO : Hd (0, 0, N) h oo (eA 0 20 O)) (hX : Hd (0, 0, N) h ii (eA 0 20 X)) (hT : Hd (0, 0, N) h uu (eA 0 20 T)) : Ok mX6_compose d 0 0 [vR tr, vR oo, vR ii, vR uu] N h (fun r h2 => r = none ∧ (∀ b, b ≠ uu → h2 b = h b) ∧ h2 uu = eA 0 20 (coF n M O X T)) := by
  refine Ok.of pfX6_compose rfl (Nat.le_of_ble_eq_true rfl) (fun Ls sx => ?_)
  show G mX6_compose (d, 0, 0, Ls, sx) 0 [(0, vR tr), (1, vR oo), (2, vR ii), (3, vR uu)] [] (0, 0, N) h _
  refine g_aload_n (pc := 0) (r := .inl (some tr)) dX6_compose_0 rfl ?_
  refine g_getf (pc := 1) (v := vI (M : Int)) flX6_27 dX6_compose_1 ht rfl ?_
  refine g_if_leF (pc := 4) (tgt := 14) dX6_compose_4 (by decide) (by omega) (by omega) ?_
  refine g_aload_n (pc := 7) (r := .inl (some tr)) dX6_compose_7 rfl ?_
  refine g_getf (pc := 8) (v := vI (M : Int)) flX6_27 dX6_compose_8 ht rfl ?_
  refine g_goto (pc := 11) (tgt := 15) dX6_compose_11 (by decide) ?_
  refine g_istore (pc := 15) (lo2 := [(0, vR tr), (1, vR oo), (2, vR ii), (3, vR uu), (4, vI (M : Int))]) dX6_compose_15 (by decide) rfl ?_
  refine g_iconst (pc := 17) dX6_compose_17 ?_
  refine g_istore (pc := 18) (lo2 := [(0, vR tr), (1, vR oo), (2, vR ii), (3, vR uu), (4, vI (M : Int)), (5, vI 0)]) dX6_compose_18 (by decide) rfl ?_
  refine comp_l4 hn hM hM2 rO rX n1 n2 n3 n 0 _ h T (by omega) rfl ht hO hX hT (fun h2 T2 q1 q2 q3 q4 => ⟨rfl, q2, ?_⟩)
  rw [q1.2, show T2 = coF n M O X T from funext fun j => q3 j (Nat.zero_le _)]
