/-! ===== the reference's object ===== -/
abbrev mdl (x : Nat) (th wd pm fm mu um pr ts : Int) : ME := eO 11 [vI th, vR (x + 1), vR (x + 2), vR (x + 3), vR (x + 4), vR (x + 5), vR (x + 6), vR (x + 7), vR (x + 8), vR (x + 9), vR (x + 10), vR (x + 11), vR (x + 12), vI wd, vR (x + 13), vR (x + 14), vR (x + 15), vR (x + 16), vR (x + 17), vI pm, vR (x + 18), vI fm, vJ mu, vR (x + 19), vR (x + 20), vR (x + 21), vR (x + 22), vI um, vR (x + 23), vR (x + 24), vR (x + 25), vI pr, vR (x + 26), vI ts, vR (x + 27), vR (x + 28), vR (x + 29)]

theorem mul_l1 {κ : KX} {ρ : MR} {h : MH} {Q : Option MV → MR → MH → Prop} {x aa bb uu : Nat} {th pm fm mu um pr ts : Int} {w q r c : Nat} {A B : Nat → Int} (hx : Hd ρ h x (mdl x th (w : Int) pm fm mu um pr ts)) (hA : Hd ρ h aa (eA 0 25 A)) (hB : Hd ρ h bb (eA 0 25 B)) (hw : w ≤ 5) (hr : r < w) (hc : c < w) {x5 x6 : Int} (h5 : x5 = (r : Int)) (h6 : x6 = (c : Int)) : ∀ (k j : Nat) (xj e : Int), j + k = w → xj = (j : Int) → (∀ e2 x9, e2 = e + ss (fun i => A (5 * r + i) * B (5 * i + c)) j k → G mX11_multiplies κ 69 [(0, vR x), (1, vR aa), (2, vR bb), (3, vR uu), (4, vI (q : Int)), (5, vI x5), (6, vI x6), (7, vI e2), (8, vI x9)] [] ρ h Q) → G mX11_multiplies κ 30 [(0, vR x), (1, vR aa), (2, vR bb), (3, vR uu), (4, vI (q : Int)), (5, vI x5), (6, vI x6), (7, vI e), (8, vI xj)] [] ρ h Q := by
  intro k
  induction k with
  | zero =>
    intro j xj e hj ex hk
    refine g_iload (pc := 30) (x := xj) dX11_multiplies_30 rfl ?_
    refine g_aload_n (pc := 32) (r := .inl (some x)) dX11_multiplies_32 rfl ?_
    refine g_getf (pc := 33) (v := vI (w : Int)) flX11_120 dX11_multiplies_33 hx rfl ?_
    refine g_icmp_geT (pc := 36) (tgt := 69) dX11_multiplies_36 (by decide) (by omega) (by omega) (by omega) ?_
    exact hk _ _ (by simp [ss])
  | succ k ih =>
    intro j xj e hj ex hk
    refine g_iload (pc := 30) (x := xj) dX11_multiplies_30 rfl ?_
    refine g_aload_n (pc := 32) (r := .inl (some x)) dX11_multiplies_32 rfl ?_
    refine g_getf (pc := 33) (v := vI (w : Int)) flX11_120 dX11_multiplies_33 hx rfl ?_
    refine g_icmp_geF (pc := 36) (tgt := 69) dX11_multiplies_36 (by decide) (by omega) (by omega) (by omega) ?_
    refine g_iload (pc := 39) (x := e) dX11_multiplies_39 rfl ?_
    refine g_aload_n (pc := 41) (r := .inl (some aa)) dX11_multiplies_41 rfl ?_
    refine g_iconst (pc := 42) dX11_multiplies_42 ?_
    refine g_iload (pc := 43) (x := x5) dX11_multiplies_43 rfl ?_
    refine g_imul (pc := 45) dX11_multiplies_45 ?_
    refine g_iload (pc := 46) (x := xj) dX11_multiplies_46 rfl ?_
    refine g_iadd (pc := 48) dX11_multiplies_48 ?_
    refine g_ialdN (pc := 49) (j := 5 * r + j) dX11_multiplies_49 hA (by omega) (by omega) (by omega) ?_
    refine g_aload_n (pc := 50) (r := .inl (some bb)) dX11_multiplies_50 rfl ?_
    refine g_iconst (pc := 51) dX11_multiplies_51 ?_
    refine g_iload (pc := 52) (x := xj) dX11_multiplies_52 rfl ?_
    refine g_imul (pc := 54) dX11_multiplies_54 ?_
    refine g_iload (pc := 55) (x := x6) dX11_multiplies_55 rfl ?_
    refine g_iadd (pc := 57) dX11_multiplies_57 ?_
    refine g_ialdN (pc := 58) (j := 5 * j + c) dX11_multiplies_58 hB (by omega) (by omega) (by omega) ?_
    refine g_imul (pc := 59) dX11_multiplies_59 ?_
    refine g_iadd (pc := 60) dX11_multiplies_60 ?_
    refine g_istore (pc := 61) (lo2 := [(0, vR x), (1, vR aa), (2, vR bb), (3, vR uu), (4, vI (q : Int)), (5, vI x5), (6, vI x6), (7, vI (e + ((A (5 * r + j)) * (B (5 * j + c))))), (8, vI xj)]) dX11_multiplies_61 (by decide) rfl ?_
    refine g_iinc (pc := 63) (x := xj) (lo2 := [(0, vR x), (1, vR aa), (2, vR bb), (3, vR uu), (4, vI (q : Int)), (5, vI x5), (6, vI x6), (7, vI (e + ((A (5 * r + j)) * (B (5 * j + c))))), (8, vI (xj + 1))]) dX11_multiplies_63 rfl (by decide) rfl ?_
    refine g_goto (pc := 66) (tgt := 30) dX11_multiplies_66 (by decide) ?_
    refine ih (j + 1) (xj + 1) _ (by omega) (by omega) (fun e2 x9 h1 => hk e2 x9 ?_)
    rw [h1, show ss (fun i => A (5 * r + i) * B (5 * i + c)) j (k + 1) = A (5 * r + j) * B (5 * j + c) + ss (fun i => A (5 * r + i) * B (5 * i + c)) (j + 1) k from rfl]
    omega

theorem mul_l2 {κ : KX} {N : Nat} {Q : Option MV → MR → MH → Prop} {x aa bb uu : Nat} {th pm fm mu um pr ts : Int} {w q : Nat} {A B : Nat → Int} (hw : w ≤ 5) (hq : 0 < q) (hq2 : q ≤ 500) (rA : rng A) (rB : rng B) (n1 : aa ≠ x + 12) (n2 : bb ≠ x + 12) {r : Nat} (hr : r < w) {x5 : Int} (h5 : x5 = (r : Int)) : ∀ (k c : Nat) (x6 : Int) (h : MH) (T : Nat → Int), c + k = w → x6 = (c : Int) → Hd (0, 0, N) h x (mdl x th (w : Int) pm fm mu um pr ts) → Hd (0, 0, N) h aa (eA 0 25 A) → Hd (0, 0, N) h bb (eA 0 25 B) → Hd (0, 0, N) h (x + 12) (eA 0 25 T) → (∀ h2 T2, Hd (0, 0, N) h2 (x + 12) (eA 0 25 T2) → (∀ b, b ≠ x + 12 → h2 b = h b) → (∀ j, c ≤ j → j < w → T2 (5 * r + j) = ss (fun i => A (5 * r + i) * B (5 * i + j)) 0 w % q) → (∀ j, (j < 5 * r + c ∨ 5 * r + w ≤ j) → T2 j = T j) → G mX11_multiplies κ 92 [(0, vR x), (1, vR aa), (2, vR bb), (3, vR uu), (4, vI (q : Int)), (5, vI x5)] [] (0, 0, N) h2 Q) → G mX11_multiplies κ 15 [(0, vR x), (1, vR aa), (2, vR bb), (3, vR uu), (4, vI (q : Int)), (5, vI x5), (6, vI x6)] [] (0, 0, N) h Q := by
  intro k
  induction k with
  | zero =>
    intro c x6 h T hk ex hx hA hB hT hP
    refine g_iload (pc := 15) (x := x6) dX11_multiplies_15 rfl ?_
    refine g_aload_n (pc := 17) (r := .inl (some x)) dX11_multiplies_17 rfl ?_
    refine g_getf (pc := 18) (v := vI (w : Int)) flX11_120 dX11_multiplies_18 hx rfl ?_
    refine g_icmp_geT (pc := 21) (tgt := 92) dX11_multiplies_21 (by decide) (by omega) (by omega) (by omega) ?_
    refine g_pick [0, 1, 2, 3, 4, 5] (lo2 := [(0, vR x), (1, vR aa), (2, vR bb), (3, vR uu), (4, vI (q : Int)), (5, vI x5)]) rfl ?_
    exact hP h T hT (fun _ _ => rfl) (fun j _ _ => by omega) (fun _ _ => rfl)
  | succ k ih =>
    intro c x6 h T hk ex hx hA hB hT hP
    refine g_iload (pc := 15) (x := x6) dX11_multiplies_15 rfl ?_
    refine g_aload_n (pc := 17) (r := .inl (some x)) dX11_multiplies_17 rfl ?_
    refine g_getf (pc := 18) (v := vI (w : Int)) flX11_120 dX11_multiplies_18 hx rfl ?_
    refine g_icmp_geF (pc := 21) (tgt := 92) dX11_multiplies_21 (by decide) (by omega) (by omega) (by omega) ?_
    refine g_iconst (pc := 24) dX11_multiplies_24 ?_
    refine g_istore (pc := 25) (lo2 := [(0, vR x), (1, vR aa), (2, vR bb), (3, vR uu), (4, vI (q : Int)), (5, vI x5), (6, vI x6), (7, vI 0)]) dX11_multiplies_25 (by decide) rfl ?_
    refine g_iconst (pc := 27) dX11_multiplies_27 ?_
    refine g_istore (pc := 28) (lo2 := [(0, vR x), (1, vR aa), (2, vR bb), (3, vR uu), (4, vI (q : Int)), (5, vI x5), (6, vI x6), (7, vI 0), (8, vI 0)]) dX11_multiplies_28 (by decide) rfl ?_
    refine mul_l1 (r := r) (c := c) hx hA hB hw hr (by omega) h5 ex w 0 _ _ (by omega) rfl (fun e2 x9 h1 => ?_)
    have hb := ss_bd (f := (fun i => A (5 * r + i) * B (5 * i + c))) (B := 249001) w 0 (fun i _ _ => mul_rng (rA _) (rB _))
    have e9 : e2.tmod (q : Int) = ss (fun i => A (5 * r + i) * B (5 * i + c)) 0 w % q := by
      rw [h1, Int.zero_add]
      exact Int.tmod_eq_emod_of_nonneg (by omega)
    refine g_aload_n (pc := 69) (r := .inl (some x)) dX11_multiplies_69 rfl ?_
    refine g_getf (pc := 70) (v := vR (x + 12)) flX11_45 dX11_multiplies_70 hx rfl ?_
    refine g_iconst (pc := 73) dX11_multiplies_73 ?_
    refine g_iload (pc := 74) (x := x5) dX11_multiplies_74 rfl ?_
    refine g_imul (pc := 76) dX11_multiplies_76 ?_
    refine g_iload (pc := 77) (x := x6) dX11_multiplies_77 rfl ?_
    refine g_iadd (pc := 79) dX11_multiplies_79 ?_
    refine g_iload (pc := 80) (x := e2) dX11_multiplies_80 rfl ?_
    refine g_iload (pc := 82) (x := (q : Int)) dX11_multiplies_82 rfl ?_
    refine g_irem (pc := 84) dX11_multiplies_84 (by omega) (by omega) (by omega) ?_
    refine g_iastN (pc := 85) (j := 5 * r + c) dX11_multiplies_85 hT (by omega) (by omega) (by omega) ?_
    have hx_1 := hx.ne (e := eA 0 25 (va_up T (5 * r + c) (e2.tmod (q : Int)))) (a := x + 12) (by omega)
    have hA_1 := hA.ne (e := eA 0 25 (va_up T (5 * r + c) (e2.tmod (q : Int)))) (a := x + 12) (by omega)
    have hB_1 := hB.ne (e := eA 0 25 (va_up T (5 * r + c) (e2.tmod (q : Int)))) (a := x + 12) (by omega)
    have hT_1 := hT.self (e := eA 0 25 (va_up T (5 * r + c) (e2.tmod (q : Int))))
    refine g_iinc (pc := 86) (x := x6) (lo2 := [(0, vR x), (1, vR aa), (2, vR bb), (3, vR uu), (4, vI (q : Int)), (5, vI x5), (6, vI (x6 + 1)), (7, vI e2), (8, vI x9)]) dX11_multiplies_86 rfl (by decide) rfl ?_
    refine g_goto (pc := 89) (tgt := 15) dX11_multiplies_89 (by decide) ?_
    refine g_pick [0, 1, 2, 3, 4, 5, 6] (lo2 := [(0, vR x), (1, vR aa), (2, vR bb), (3, vR uu), (4, vI (q : Int)), (5, vI x5), (6, vI (x6 + 1))]) rfl ?_
    refine ih (c + 1) (x6 + 1) _ _ (by omega) (by omega) hx_1 hA_1 hB_1 hT_1 (fun h2 T2 q1 q2 q3 q4 => hP h2 T2 q1 (fun b hb => (q2 b hb).trans (va_up_ne _ _ hb)) (fun j a1 a2 => ?_) (fun j a1 => ?_))
    · by_cases hj : j = c
      · subst hj
        rw [q4 _ (by omega), va_up_self, e9]
      · exact q3 j (by omega) a2
    · rw [q4 j (by omega), va_up_ne _ _ (by omega)]

/-- a table times a table -/
def muF (w q : Nat) (A B T : Nat → Int) (j : Nat) : Int := if j / 5 < w ∧ j % 5 < w then ss (fun i => A (5 * (j / 5) + i) * B (5 * i + j % 5)) 0 w % q else T j
theorem mul_l3 {κ : KX} {N : Nat} {Q : Option MV → MR → MH → Prop} {x aa bb uu : Nat} {th pm fm mu um pr ts : Int} {w q : Nat} {A B : Nat → Int} (hw : w ≤ 5) (hq : 0 < q) (hq2 : q ≤ 500) (rA : rng A) (rB : rng B) (n1 : aa ≠ x + 12) (n2 : bb ≠ x + 12) : ∀ (k r : Nat) (x5 : Int) (h : MH) (T : Nat → Int), r + k = w → x5 = (r : Int) → Hd (0, 0, N) h x (mdl x th (w : Int) pm fm mu um pr ts) → Hd (0, 0, N) h aa (eA 0 25 A) → Hd (0, 0, N) h bb (eA 0 25 B) → Hd (0, 0, N) h (x + 12) (eA 0 25 T) → (∀ h2 T2, Hd (0, 0, N) h2 (x + 12) (eA 0 25 T2) → (∀ b, b ≠ x + 12 → h2 b = h b) → (∀ j, 5 * r ≤ j → T2 j = muF w q A B T j) → (∀ j, j < 5 * r → T2 j = T j) → G mX11_multiplies κ 98 [(0, vR x), (1, vR aa), (2, vR bb), (3, vR uu), (4, vI (q : Int))] [] (0, 0, N) h2 Q) → G mX11_multiplies κ 3 [(0, vR x), (1, vR aa), (2, vR bb), (3, vR uu), (4, vI (q : Int)), (5, vI x5)] [] (0, 0, N) h Q := by
  intro k
  induction k with
  | zero =>
    intro r x5 h T hk ex hx hA hB hT hP
    refine g_iload (pc := 3) (x := x5) dX11_multiplies_3 rfl ?_
    refine g_aload_n (pc := 5) (r := .inl (some x)) dX11_multiplies_5 rfl ?_
    refine g_getf (pc := 6) (v := vI (w : Int)) flX11_120 dX11_multiplies_6 hx rfl ?_
    refine g_icmp_geT (pc := 9) (tgt := 98) dX11_multiplies_9 (by decide) (by omega) (by omega) (by omega) ?_
    refine g_pick [0, 1, 2, 3, 4] (lo2 := [(0, vR x), (1, vR aa), (2, vR bb), (3, vR uu), (4, vI (q : Int))]) rfl ?_
    exact hP h T hT (fun _ _ => rfl) (fun j hj => by unfold muF; rw [if_neg (by omega)]) (fun _ _ => rfl)
  | succ k ih =>
    intro r x5 h T hk ex hx hA hB hT hP
    refine g_iload (pc := 3) (x := x5) dX11_multiplies_3 rfl ?_
    refine g_aload_n (pc := 5) (r := .inl (some x)) dX11_multiplies_5 rfl ?_
    refine g_getf (pc := 6) (v := vI (w : Int)) flX11_120 dX11_multiplies_6 hx rfl ?_
    refine g_icmp_geF (pc := 9) (tgt := 98) dX11_multiplies_9 (by decide) (by omega) (by omega) (by omega) ?_
    refine g_iconst (pc := 12) dX11_multiplies_12 ?_
    refine g_istore (pc := 13) (lo2 := [(0, vR x), (1, vR aa), (2, vR bb), (3, vR uu), (4, vI (q : Int)), (5, vI x5), (6, vI 0)]) dX11_multiplies_13 (by decide) rfl ?_
    refine mul_l2 (r := r) hw hq hq2 rA rB n1 n2 (by omega) ex w 0 _ h T (by omega) rfl hx hA hB hT (fun h2 T2 p1 p2 p3 p4 => ?_)
    have hx2 : Hd (0, 0, N) h2 x (mdl x th (w : Int) pm fm mu um pr ts) := ⟨hx.1, (p2 _ (by omega)).trans hx.2⟩
    have hA2 : Hd (0, 0, N) h2 aa (eA 0 25 A) := ⟨hA.1, (p2 _ n1).trans hA.2⟩
    have hB2 : Hd (0, 0, N) h2 bb (eA 0 25 B) := ⟨hB.1, (p2 _ n2).trans hB.2⟩
    refine g_iinc (pc := 92) (x := x5) (lo2 := [(0, vR x), (1, vR aa), (2, vR bb), (3, vR uu), (4, vI (q : Int)), (5, vI (x5 + 1))]) dX11_multiplies_92 rfl (by decide) rfl ?_
    refine g_goto (pc := 95) (tgt := 3) dX11_multiplies_95 (by decide) ?_
    refine ih (r + 1) (x5 + 1) h2 T2 (by omega) (by omega) hx2 hA2 hB2 p1 (fun h3 T3 q1 q2 q3 q4 => hP h3 T3 q1 (fun b hb => (q2 b hb).trans (p2 b hb)) (fun j a1 => ?_) (fun j a1 => ?_))
    · by_cases hj : 5 * (r + 1) ≤ j
      · rw [q3 j hj]
        unfold muF
        split
        · rfl
        · exact p4 j (by omega)
      · have hd : j / 5 = r := by omega
        rw [q4 j (by omega)]
        unfold muF
        rw [hd]
        split
        · rename_i h5
          have := p3 (j % 5) (Nat.zero_le _) h5.2
          rw [show 5 * r + j % 5 = j by omega] at this
          exact this
        · rename_i h5
          exact p4 j (by omega)
    · rw [q4 j (by omega), p4 j (by omega)]

theorem mul_l4 {κ : KX} {N : Nat} {x aa bb uu : Nat} {th pm fm mu um pr ts : Int} {w q : Nat} {T : Nat → Int} (n3 : uu ≠ x + 12) (n4 : uu ≠ x) {P : Option MV → MH → Prop} : ∀ (k j : Nat) (xj : Int) (h : MH) (U : Nat → Int), j + k = 25 → xj = (j : Int) → Hd (0, 0, N) h x (mdl x th (w : Int) pm fm mu um pr ts) → Hd (0, 0, N) h (x + 12) (eA 0 25 T) → Hd (0, 0, N) h uu (eA 0 25 U) → (∀ h2 U2, Hd (0, 0, N) h2 uu (eA 0 25 U2) → (∀ b, b ≠ uu → h2 b = h b) → (∀ i, j ≤ i → i < 25 → U2 i = T i) → (∀ i, (i < j ∨ 25 ≤ i) → U2 i = U i) → P none h2) → G mX11_multiplies κ 101 [(0, vR x), (1, vR aa), (2, vR bb), (3, vR uu), (4, vI (q : Int)), (5, vI xj)] [] (0, 0, N) h (Pq mX11_multiplies 0 0 P) := by
  intro k
  induction k with
  | zero =>
    intro j xj h U hk ex hx hT hU hP
    refine g_iload (pc := 101) (x := xj) dX11_multiplies_101 rfl ?_
    refine g_bipush (pc := 103) dX11_multiplies_103 (by decide +kernel) ?_
    refine g_icmp_geT (pc := 105) (tgt := 125) dX11_multiplies_105 (by decide) (by omega) (by omega) (by omega) ?_
    exact r_void (pc := 125) dX11_multiplies_125 rfl rfl (Nat.le_refl _) (hP h U hU (fun _ _ => rfl) (fun i _ _ => by omega) (fun _ _ => rfl))
  | succ k ih =>
    intro j xj h U hk ex hx hT hU hP
    refine g_iload (pc := 101) (x := xj) dX11_multiplies_101 rfl ?_
    refine g_bipush (pc := 103) dX11_multiplies_103 (by decide +kernel) ?_
    refine g_icmp_geF (pc := 105) (tgt := 125) dX11_multiplies_105 (by decide) (by omega) (by omega) (by omega) ?_
    refine g_aload_n (pc := 108) (r := .inl (some uu)) dX11_multiplies_108 rfl ?_
    refine g_iload (pc := 109) (x := xj) dX11_multiplies_109 rfl ?_
    refine g_aload_n (pc := 111) (r := .inl (some x)) dX11_multiplies_111 rfl ?_
    refine g_getf (pc := 112) (v := vR (x + 12)) flX11_45 dX11_multiplies_112 hx rfl ?_
    refine g_iload (pc := 115) (x := xj) dX11_multiplies_115 rfl ?_
    refine g_ialdN (pc := 117) (j := j) dX11_multiplies_117 hT (by omega) (by omega) (by omega) ?_
    refine g_iastN (pc := 118) (j := j) dX11_multiplies_118 hU (by omega) (by omega) (by omega) ?_
    have hx_1 := hx.ne (e := eA 0 25 (va_up U j (T j))) (a := uu) (by omega)
    have hT_1 := hT.ne (e := eA 0 25 (va_up U j (T j))) (a := uu) (by omega)
    have hU_1 := hU.self (e := eA 0 25 (va_up U j (T j)))
    refine g_iinc (pc := 119) (x := xj) (lo2 := [(0, vR x), (1, vR aa), (2, vR bb), (3, vR uu), (4, vI (q : Int)), (5, vI (xj + 1))]) dX11_multiplies_119 rfl (by decide) rfl ?_
    refine g_goto (pc := 122) (tgt := 101) dX11_multiplies_122 (by decide) ?_
    refine ih (j + 1) (xj + 1) _ _ (by omega) (by omega) hx_1 hT_1 hU_1 (fun h2 U2 q1 q2 q3 q4 => hP h2 U2 q1 (fun b hb => (q2 b hb).trans (va_up_ne _ _ hb)) (fun i a1 a2 => ?_) (fun i a1 => ?_))
    · by_cases hj : i = j
      · subst hj
        rw [q4 _ (by omega), va_up_self]
      · exact q3 i (by omega) a2
    · rw [q4 i (by omega), va_up_ne _ _ (by omega)]

theorem c_multiplies {N : Nat} {x aa bb uu : Nat} {th pm fm mu um pr ts : Int} {w q : Nat} {A B : Nat → Int} (hw : w ≤ 5) (hq : 0 < q) (hq2 : q ≤ 500) (rA : rng A) (rB : rng B) (n1 : aa ≠ x + 12) (n2 : bb ≠ x + 12) (n3 : uu ≠ x + 12) (n4 : uu ≠ x) {d : Nat} {T U : Nat → Int} {h : MH} (hx : Hd (0, 0, N) h x (mdl x th (w : Int) pm fm mu um pr ts)) (hA : Hd (0, 0, N) h aa (eA 0 25 A)) (hB : Hd (0, 0, N) h bb (eA 0 25 B)) (hT : Hd (0, 0, N) h (x + 12) (eA 0 25 T)) (hU : Hd (0, 0, N) h uu (eA 0 25 U)) : Ok mX11_multiplies d 0 0 [vR x, vR aa, vR bb, vR uu, vI (q : Int)] N h (fun r h2 => r = none ∧ (∀ b, b ≠ uu → b ≠ x + 12 → h2 b = h b) ∧ h2 (x + 12) = eA 0 25 (muF w q A B T) ∧ ∃ U2, h2 uu = eA 0 25 U2 ∧ (∀ j, j < 25 → U2 j = muF w q A B T j) ∧ ∀ j, 25 ≤ j → U2 j = U j) := by
  refine Ok.of pfX11_multiplies rfl (Nat.le_of_ble_eq_true rfl) (fun Ls sx => ?_)
  show G mX11_multiplies (d, 0, 0, Ls, sx) 0 [(0, vR x), (1, vR aa), (2, vR bb), (3, vR uu), (4, vI (q : Int))] [] (0, 0, N) h _
  refine g_iconst (pc := 0) dX11_multiplies_0 ?_
  refine g_istore (pc := 1) (lo2 := [(0, vR x), (1, vR aa), (2, vR bb), (3, vR uu), (4, vI (q : Int)), (5, vI 0)]) dX11_multiplies_1 (by decide) rfl ?_
  refine mul_l3 hw hq hq2 rA rB n1 n2 w 0 _ h T (by omega) rfl hx hA hB hT (fun h2 T2 p1 p2 p3 p4 => ?_)
  have eT : T2 = muF w q A B T := funext fun j => p3 j (Nat.zero_le _)
  subst eT
  have hx2 : Hd (0, 0, N) h2 x (mdl x th (w : Int) pm fm mu um pr ts) := ⟨hx.1, (p2 _ (by omega)).trans hx.2⟩
  have hU2 : Hd (0, 0, N) h2 uu (eA 0 25 U) := ⟨hU.1, (p2 _ n3).trans hU.2⟩
  refine g_iconst (pc := 98) dX11_multiplies_98 ?_
  refine g_istore (pc := 99) (lo2 := [(0, vR x), (1, vR aa), (2, vR bb), (3, vR uu), (4, vI (q : Int)), (5, vI 0)]) dX11_multiplies_99 (by decide) rfl ?_
  refine mul_l4 n3 n4 25 0 _ h2 U (by omega) rfl hx2 p1 hU2 (fun h3 U2 q1 q2 q3 q4 => ⟨rfl, fun b b1 b2 => (q2 b b1).trans (p2 b b2), (q2 _ (Ne.symm n3)).trans p1.2, U2, q1.2, fun j hj => q3 j (Nat.zero_le _) hj, fun j hj => q4 j (Or.inr hj)⟩)
