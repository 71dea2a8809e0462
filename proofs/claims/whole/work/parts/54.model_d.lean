/-! ===== the reference: powers ===== -/
theorem rng_mu {w q : Nat} {A B T : Nat → Int} (hq : 0 < q) (hq2 : q ≤ 500) (rT : rng T) : rng (muF w q A B T) := by
  intro j
  unfold muF
  split
  · have h1 := Int.emod_nonneg (ss (fun i => A (5 * (j / 5) + i) * B (5 * i + j % 5)) 0 w) (show (q : Int) ≠ 0 by omega)
    have h2 := Int.emod_lt_of_pos (ss (fun i => A (5 * (j / 5) + i) * B (5 * i + j % 5)) 0 w) (show 0 < (q : Int) by omega)
    omega
  · exact rT j
theorem rng_cp {n : Nat} {U U2 V : Nat → Int} (rV : rng V) (rU : rng U) (h1 : ∀ j, j < n → U2 j = V j) (h2 : ∀ j, n ≤ j → U2 j = U j) : rng U2 := by
  intro j
  by_cases hj : j < n
  · rw [h1 j hj]; exact rV j
  · rw [h2 j (by omega)]; exact rU j
theorem rng_up {f : Nat → Int} {j : Nat} {v : Int} (h : rng f) (hv : 0 ≤ v ∧ v < 500) : rng (va_up f j v) := by
  intro i
  unfold va_up
  split
  · exact hv
  · exact h i
theorem cw_mu {w q : Nat} {A B T U2 : Nat → Int} (hw : w ≤ 5) (h : ∀ j, j < 25 → U2 j = muF w q A B T j) : cw w U2 = mm w q (cw w A) (cw w B) := by
  rw [mm_cw hw, ← muF_cw (T := T)]
  exact cw_of (fun j h1 h2 => h j (by omega))
theorem baF_can {n q i : Nat} {Tb Mo : Nat → Int} (hq : 0 < q) : can (n + 1) q (baF n q i Tb Mo) := by
  refine ⟨fun j hj => if_neg hj, fun j => ?_⟩
  unfold baF
  split
  · exact ⟨Int.emod_nonneg _ (by omega), Int.emod_lt_of_pos _ (by omega)⟩
  · omega

theorem powers_l {κ : KX} {N x d : Nat} {th pm fm mu um pr ts tt : Int} {i n q : Nat} (hn : n ≤ 4) (hq : 0 < q) (hq2 : q ≤ 500) (hk0 : d + 1 ≤ κ.1) {P : Option MV → MH → Prop} : ∀ (t : Nat) (xt : Int) (h : MH) (B Pw T : Nat → Int), xt = (t : Int) → i64 xt → Hd (0, 0, N) h x (mdl x th ((n + 1 : Nat) : Int) pm fm mu um pr ts) → Hd (0, 0, N) h (x + 10) (eA 0 25 B) → Hd (0, 0, N) h (x + 11) (eA 0 25 Pw) → Hd (0, 0, N) h (x + 12) (eA 0 25 T) → rng B → rng Pw → rng T → can (n + 1) q (cw (n + 1) B) → can (n + 1) q (cw (n + 1) Pw) → (∀ h2 B2 P2 T2, Hd (0, 0, N) h2 (x + 10) (eA 0 25 B2) → Hd (0, 0, N) h2 (x + 11) (eA 0 25 P2) → Hd (0, 0, N) h2 (x + 12) (eA 0 25 T2) → rng B2 → rng P2 → rng T2 → (∀ b, b ≠ x + 10 → b ≠ x + 11 → b ≠ x + 12 → h2 b = h b) → cw (n + 1) P2 = mm (n + 1) q (cw (n + 1) Pw) (mp (n + 1) q (cw (n + 1) B) t) → P none h2) → G mX11_powers κ 73 [(0, vR x), (1, vI (i : Int)), (2, vJ tt), (4, vI (q : Int)), (5, vJ xt)] [] (0, 0, N) h (Pq mX11_powers 0 0 P) := by
  intro t
  induction t using Nat.strongRecOn with
  | ind t ih =>
    intro xt h B Pw T ex h64 hx hB hPw hT rB rP rT cB cP hK
    by_cases h0 : t = 0
    · subst h0
      refine g_lload (pc := 73) (x := xt) dX11_powers_73 rfl ?_
      refine g_lconst0 (pc := 75) dX11_powers_75 ?_
      refine g_lif_leT (pc := 76) (tgt := 138) dX11_powers_76 dX11_powers_77 (by decide) (by omega) (by omega) (by omega) ?_
      exact r_void (pc := 138) dX11_powers_138 rfl rfl (Nat.le_refl _) (hK h B Pw T hB hPw hT rB rP rT (fun _ _ _ _ => rfl) (mm_1r (by omega) cP).symm)
    · have hm2 : xt.tmod 2 = ((t % 2 : Nat) : Int) := by rw [ex]; exact Int.tmod_eq_emod_of_nonneg (by omega)
      have hd2 : xt.tdiv 2 = ((t / 2 : Nat) : Int) := by rw [ex]; exact Int.tdiv_eq_ediv_of_nonneg (by omega)
      have tl : ∀ (h1 : MH) (P1 T1 : Nat → Int), Hd (0, 0, N) h1 x (mdl x th ((n + 1 : Nat) : Int) pm fm mu um pr ts) → Hd (0, 0, N) h1 (x + 10) (eA 0 25 B) → Hd (0, 0, N) h1 (x + 11) (eA 0 25 P1) → Hd (0, 0, N) h1 (x + 12) (eA 0 25 T1) → rng P1 → rng T1 → can (n + 1) q (cw (n + 1) P1) → (∀ b, b ≠ x + 10 → b ≠ x + 11 → b ≠ x + 12 → h1 b = h b) → mm (n + 1) q (cw (n + 1) P1) (mp (n + 1) q (cw (n + 1) B) (2 * (t / 2))) = mm (n + 1) q (cw (n + 1) Pw) (mp (n + 1) q (cw (n + 1) B) t) → G mX11_powers κ 109 [(0, vR x), (1, vI (i : Int)), (2, vJ tt), (4, vI (q : Int)), (5, vJ xt)] [] (0, 0, N) h1 (Pq mX11_powers 0 0 P) := by
        intro h1 P1 T1 hx hB hPw hT rP1 rT1 cP1 ho he
        refine g_aload_n (pc := 109) (r := .inl (some x)) dX11_powers_109 rfl ?_
        refine g_aload_n (pc := 110) (r := .inl (some x)) dX11_powers_110 rfl ?_
        refine g_getf (pc := 111) (v := vR (x + 10)) flX11_39 dX11_powers_111 hx rfl ?_
        refine g_aload_n (pc := 114) (r := .inl (some x)) dX11_powers_114 rfl ?_
        refine g_getf (pc := 115) (v := vR (x + 10)) flX11_39 dX11_powers_115 hx rfl ?_
        refine g_aload_n (pc := 118) (r := .inl (some x)) dX11_powers_118 rfl ?_
        refine g_getf (pc := 119) (v := vR (x + 10)) flX11_39 dX11_powers_119 hx rfl ?_
        refine g_iload (pc := 122) (x := (q : Int)) dX11_powers_122 rfl ?_
        refine g_callV0 (pc := 124) (as := [vR (x + 10), vR (x + 10), vR (x + 10), vI (q : Int)]) (b := x) (st := []) lvX11_129 dX11_powers_124 hx (Nat.le_of_ble_eq_true rfl) (by omega) (Nat.zero_le _) (Nat.zero_le _) (c_multiplies (w := n + 1) (q := q) (d := d) (by omega) hq hq2 rB rB (by omega) (by omega) (by omega) (by omega) hx hB hB hT hB) ?_
        rintro r h2 ⟨rfl, c1, c2, U2, c3, c4, c5⟩
        have hx_1 := hx.keep (c1 _ (by omega) (by omega))
        have hB_1 := hB.to c3
        have hPw_1 := hPw.keep (c1 _ (by omega) (by omega))
        have hT_1 := hT.to c2
        refine g_lload (pc := 127) (x := xt) dX11_powers_127 rfl ?_
        refine g_ldc2 (pc := 129) (n := 2) dX11_powers_129 kcX11_127 ?_
        refine g_ldiv (pc := 132) dX11_powers_132 (by omega) (by omega) (by omega) ?_
        rw [hd2]
        refine g_lstore (pc := 133) (lo2 := [(0, vR x), (1, vI (i : Int)), (2, vJ tt), (4, vI (q : Int)), (5, vJ ((t / 2 : Nat) : Int))]) dX11_powers_133 (by decide) rfl ?_
        refine g_goto (pc := 135) (tgt := 73) dX11_powers_135 (by decide) ?_
        have eU := cw_mu (by omega) c4
        refine ih (t / 2) (by omega) _ h2 U2 P1 _ rfl (by omega) hx_1 hB_1 hPw_1 hT_1 (rng_cp (rng_mu hq hq2 rT1) rB c4 c5) rP1 (rng_mu hq hq2 rT1) (by rw [eU]; exact mm_can hq) cP1 (fun h3 B3 P3 T3 q1 q2 q3 q4 q5 q6 q7 q8 => hK h3 B3 P3 T3 q1 q2 q3 q4 q5 q6 (fun b b1 b2 b3 => (q7 b b1 b2 b3).trans ((c1 b b1 b3).trans (ho b b1 b2 b3))) ?_)
        rw [q8, eU, mp_sq (by omega), he]
      refine g_lload (pc := 73) (x := xt) dX11_powers_73 rfl ?_
      refine g_lconst0 (pc := 75) dX11_powers_75 ?_
      refine g_lif_leF (pc := 76) (tgt := 138) dX11_powers_76 dX11_powers_77 (by decide) (by omega) (by omega) (by omega) ?_
      refine g_lload (pc := 80) (x := xt) dX11_powers_80 rfl ?_
      refine g_ldc2 (pc := 82) (n := 2) dX11_powers_82 kcX11_127 ?_
      refine g_lrem (pc := 85) dX11_powers_85 (by omega) (by omega) (by omega) ?_
      rw [hm2]
      refine g_lconst1 (pc := 86) dX11_powers_86 ?_
      refine g_lif_ne (pc := 87) (tgt := 109) dX11_powers_87 dX11_powers_88 (by decide) (by omega) (by omega) (fun ho => ?_) (fun ho => ?_)
      · exact tl h Pw T hx hB hPw hT rP rT cP (fun _ _ _ _ => rfl) (by rw [show 2 * (t / 2) = t by omega])
      · refine g_aload_n (pc := 91) (r := .inl (some x)) dX11_powers_91 rfl ?_
        refine g_aload_n (pc := 92) (r := .inl (some x)) dX11_powers_92 rfl ?_
        refine g_getf (pc := 93) (v := vR (x + 11)) flX11_42 dX11_powers_93 hx rfl ?_
        refine g_aload_n (pc := 96) (r := .inl (some x)) dX11_powers_96 rfl ?_
        refine g_getf (pc := 97) (v := vR (x + 10)) flX11_39 dX11_powers_97 hx rfl ?_
        refine g_aload_n (pc := 100) (r := .inl (some x)) dX11_powers_100 rfl ?_
        refine g_getf (pc := 101) (v := vR (x + 11)) flX11_42 dX11_powers_101 hx rfl ?_
        refine g_iload (pc := 104) (x := (q : Int)) dX11_powers_104 rfl ?_
        refine g_callV0 (pc := 106) (as := [vR (x + 11), vR (x + 10), vR (x + 11), vI (q : Int)]) (b := x) (st := []) lvX11_129 dX11_powers_106 hx (Nat.le_of_ble_eq_true rfl) (by omega) (Nat.zero_le _) (Nat.zero_le _) (c_multiplies (w := n + 1) (q := q) (d := d) (by omega) hq hq2 rP rB (by omega) (by omega) (by omega) (by omega) hx hPw hB hT hPw) ?_
        rintro r h2 ⟨rfl, c1, c2, U2, c3, c4, c5⟩
        have hx_1 := hx.keep (c1 _ (by omega) (by omega))
        have hB_1 := hB.keep (c1 _ (by omega) (by omega))
        have hPw_1 := hPw.to c3
        have hT_1 := hT.to c2
        have eU := cw_mu (by omega) c4
        refine tl h2 U2 _ hx_1 hB_1 hPw_1 hT_1 (rng_cp (rng_mu hq hq2 rT) rP c4 c5) (rng_mu hq hq2 rT) (by rw [eU]; exact mm_can hq) (fun b b1 b2 b3 => c1 b b2 b3) ?_
        have e8 : mp (n + 1) q (cw (n + 1) B) t = mm (n + 1) q (cw (n + 1) B) (mp (n + 1) q (cw (n + 1) B) (2 * (t / 2))) := by
          have e7 := mp_add (w := n + 1) (q := q) (A := cw (n + 1) B) (by omega) hq 1 (2 * (t / 2))
          rw [show 1 + 2 * (t / 2) = t by omega, mp_one (by omega) cB] at e7
          exact e7
        rw [eU, e8, mm_assoc (by omega)]

theorem powers_i1 {κ : KX} {N x : Nat} {th pm fm mu um pr ts tt : Int} {i n q : Nat} {Q : Option MV → MR → MH → Prop} (hn : n ≤ 4) (hq : 0 < q) (hq2 : q ≤ 500) {r : Nat} (hr : r < n + 1) {x5 : Int} (h5 : x5 = (r : Int)) : ∀ (k c : Nat) (x6 : Int) (h : MH) (Pw : Nat → Int), c + k = n + 1 → x6 = (c : Int) → Hd (0, 0, N) h x (mdl x th ((n + 1 : Nat) : Int) pm fm mu um pr ts) → Hd (0, 0, N) h (x + 11) (eA 0 25 Pw) → rng Pw → (∀ h2 P2, Hd (0, 0, N) h2 (x + 11) (eA 0 25 P2) → rng P2 → (∀ b, b ≠ x + 11 → h2 b = h b) → (∀ j, c ≤ j → j < n + 1 → P2 (5 * r + j) = m1 (n + 1) q (5 * r + j)) → (∀ j, (j < 5 * r + c ∨ 5 * r + (n + 1) ≤ j) → P2 j = Pw j) → G mX11_powers κ 64 [(0, vR x), (1, vI (i : Int)), (2, vJ tt), (4, vI (q : Int)), (5, vI x5)] [] (0, 0, N) h2 Q) → G mX11_powers κ 22 [(0, vR x), (1, vI (i : Int)), (2, vJ tt), (4, vI (q : Int)), (5, vI x5), (6, vI x6)] [] (0, 0, N) h Q := by
  intro k
  induction k with
  | zero =>
    intro c x6 h Pw hk ex hx hPw rP hK
    refine g_iload (pc := 22) (x := x6) dX11_powers_22 rfl ?_
    refine g_aload_n (pc := 24) (r := .inl (some x)) dX11_powers_24 rfl ?_
    refine g_getf (pc := 25) (v := vI ((n + 1 : Nat) : Int)) flX11_120 dX11_powers_25 hx rfl ?_
    refine g_icmp_geT (pc := 28) (tgt := 64) dX11_powers_28 (by decide) (by omega) (by omega) (by omega) ?_
    refine g_pick [0, 1, 2, 3, 4] (lo2 := [(0, vR x), (1, vI (i : Int)), (2, vJ tt), (4, vI (q : Int)), (5, vI x5)]) rfl ?_
    exact hK h Pw hPw rP (fun _ _ => rfl) (fun j _ _ => by omega) (fun _ _ => rfl)
  | succ k ih =>
    intro c x6 h Pw hk ex hx hPw rP hK
    refine g_iload (pc := 22) (x := x6) dX11_powers_22 rfl ?_
    refine g_aload_n (pc := 24) (r := .inl (some x)) dX11_powers_24 rfl ?_
    refine g_getf (pc := 25) (v := vI ((n + 1 : Nat) : Int)) flX11_120 dX11_powers_25 hx rfl ?_
    refine g_icmp_geF (pc := 28) (tgt := 64) dX11_powers_28 (by decide) (by omega) (by omega) (by omega) ?_
    refine g_aload_n (pc := 31) (r := .inl (some x)) dX11_powers_31 rfl ?_
    refine g_getf (pc := 32) (v := vR (x + 11)) flX11_42 dX11_powers_32 hx rfl ?_
    refine g_iconst (pc := 35) dX11_powers_35 ?_
    refine g_iload (pc := 36) (x := x5) dX11_powers_36 rfl ?_
    refine g_imul (pc := 38) dX11_powers_38 ?_
    refine g_iload (pc := 39) (x := x6) dX11_powers_39 rfl ?_
    refine g_iadd (pc := 41) dX11_powers_41 ?_
    have tl : ∀ v : Int, (0 ≤ v ∧ v < 500) → v = m1 (n + 1) q (5 * r + c) → G mX11_powers κ 57 [(0, vR x), (1, vI (i : Int)), (2, vJ tt), (4, vI (q : Int)), (5, vI x5), (6, vI x6)] [vI v, vI ((5 * x5) + x6), vR (x + 11)] (0, 0, N) h Q := by
      intro v v0 ev
      refine g_iastN (pc := 57) (j := 5 * r + c) dX11_powers_57 hPw (by omega) (by omega) (by omega) ?_
      have hx_1 := hx.ne (e := eA 0 25 (va_up Pw (5 * r + c) v)) (a := x + 11) (by omega)
      have hPw_1 := hPw.self (e := eA 0 25 (va_up Pw (5 * r + c) v))
      refine g_iinc (pc := 58) (x := x6) (lo2 := [(0, vR x), (1, vI (i : Int)), (2, vJ tt), (4, vI (q : Int)), (5, vI x5), (6, vI (x6 + 1))]) dX11_powers_58 rfl (by decide) rfl ?_
      refine g_goto (pc := 61) (tgt := 22) dX11_powers_61 (by decide) ?_
      refine ih (c + 1) (x6 + 1) _ _ (by omega) (by omega) hx_1 hPw_1 (rng_up rP v0) (fun h2 B2 q1 q0 q2 q3 q4 => hK h2 B2 q1 q0 (fun b hb => (q2 b hb).trans (va_up_ne _ _ hb)) (fun j a1 a2 => ?_) (fun j a1 => ?_))
      · by_cases hj : j = c
        · subst hj
          rw [q4 _ (by omega), va_up_self, ev]
        · exact q3 j (by omega) a2
      · rw [q4 j (by omega), va_up_ne _ _ (by omega)]
    rw [m1_at (by omega) hr (show c < n + 1 by omega)] at tl
    refine g_iload (pc := 42) (x := x5) dX11_powers_42 rfl ?_
    refine g_iload (pc := 44) (x := x6) dX11_powers_44 rfl ?_
    refine g_icmp_ne (pc := 46) (tgt := 56) dX11_powers_46 (by decide) (by omega) (by omega) (fun hrc => ?_) (fun hrc => ?_)
    · rw [if_neg (by omega)] at tl
      refine g_iconst (pc := 56) dX11_powers_56 ?_
      exact tl _ (by omega) rfl
    · rw [if_pos (by omega)] at tl
      have e1 : (1 : Int).tmod (q : Int) = 1 % (q : Int) := Int.tmod_eq_emod_of_nonneg (by omega)
      have e2 := Int.emod_nonneg (1 : Int) (show (q : Int) ≠ 0 by omega)
      have e3 := Int.emod_lt_of_pos (1 : Int) (show 0 < (q : Int) by omega)
      refine g_iconst (pc := 49) dX11_powers_49 ?_
      refine g_iload (pc := 50) (x := (q : Int)) dX11_powers_50 rfl ?_
      refine g_irem (pc := 52) dX11_powers_52 (by omega) (by omega) (by omega) ?_
      refine g_goto (pc := 53) (tgt := 57) dX11_powers_53 (by decide) ?_
      exact tl _ (by omega) e1

theorem powers_i2 {κ : KX} {N x : Nat} {th pm fm mu um pr ts tt : Int} {i n q : Nat} {Q : Option MV → MR → MH → Prop} (hn : n ≤ 4) (hq : 0 < q) (hq2 : q ≤ 500) : ∀ (k r : Nat) (x5 : Int) (h : MH) (Pw : Nat → Int), r + k = n + 1 → x5 = (r : Int) → Hd (0, 0, N) h x (mdl x th ((n + 1 : Nat) : Int) pm fm mu um pr ts) → Hd (0, 0, N) h (x + 11) (eA 0 25 Pw) → rng Pw → (∀ h2 P2, Hd (0, 0, N) h2 (x + 11) (eA 0 25 P2) → rng P2 → (∀ b, b ≠ x + 11 → h2 b = h b) → (∀ j, 5 * r ≤ j → j / 5 < n + 1 → j % 5 < n + 1 → P2 j = m1 (n + 1) q j) → (∀ j, j < 5 * r → P2 j = Pw j) → G mX11_powers κ 70 [(0, vR x), (1, vI (i : Int)), (2, vJ tt), (4, vI (q : Int))] [] (0, 0, N) h2 Q) → G mX11_powers κ 10 [(0, vR x), (1, vI (i : Int)), (2, vJ tt), (4, vI (q : Int)), (5, vI x5)] [] (0, 0, N) h Q := by
  intro k
  induction k with
  | zero =>
    intro r x5 h Pw hk ex hx hPw rP hK
    refine g_iload (pc := 10) (x := x5) dX11_powers_10 rfl ?_
    refine g_aload_n (pc := 12) (r := .inl (some x)) dX11_powers_12 rfl ?_
    refine g_getf (pc := 13) (v := vI ((n + 1 : Nat) : Int)) flX11_120 dX11_powers_13 hx rfl ?_
    refine g_icmp_geT (pc := 16) (tgt := 70) dX11_powers_16 (by decide) (by omega) (by omega) (by omega) ?_
    refine g_pick [0, 1, 2, 3] (lo2 := [(0, vR x), (1, vI (i : Int)), (2, vJ tt), (4, vI (q : Int))]) rfl ?_
    exact hK h Pw hPw rP (fun _ _ => rfl) (fun j _ _ _ => by omega) (fun _ _ => rfl)
  | succ k ih =>
    intro r x5 h Pw hk ex hx hPw rP hK
    refine g_iload (pc := 10) (x := x5) dX11_powers_10 rfl ?_
    refine g_aload_n (pc := 12) (r := .inl (some x)) dX11_powers_12 rfl ?_
    refine g_getf (pc := 13) (v := vI ((n + 1 : Nat) : Int)) flX11_120 dX11_powers_13 hx rfl ?_
    refine g_icmp_geF (pc := 16) (tgt := 70) dX11_powers_16 (by decide) (by omega) (by omega) (by omega) ?_
    refine g_iconst (pc := 19) dX11_powers_19 ?_
    refine g_istore (pc := 20) (lo2 := [(0, vR x), (1, vI (i : Int)), (2, vJ tt), (4, vI (q : Int)), (5, vI x5), (6, vI 0)]) dX11_powers_20 (by decide) rfl ?_
    refine powers_i1 (r := r) hn hq hq2 (by omega) ex (n + 1) 0 _ h Pw (by omega) rfl hx hPw rP (fun h2 P2 p1 p0 p2 p3 p4 => ?_)
    have hx2 := hx.keep (p2 _ (by omega))
    refine g_iinc (pc := 64) (x := x5) (lo2 := [(0, vR x), (1, vI (i : Int)), (2, vJ tt), (4, vI (q : Int)), (5, vI (x5 + 1))]) dX11_powers_64 rfl (by decide) rfl ?_
    refine g_goto (pc := 67) (tgt := 10) dX11_powers_67 (by decide) ?_
    refine ih (r + 1) (x5 + 1) h2 P2 (by omega) (by omega) hx2 p1 p0 (fun h3 B3 q1 q0 q2 q3 q4 => hK h3 B3 q1 q0 (fun b hb => (q2 b hb).trans (p2 b hb)) (fun j a1 a2 a3 => ?_) (fun j a1 => ?_))
    · by_cases hj : 5 * (r + 1) ≤ j
      · exact q3 j hj a2 a3
      · rw [q4 j (by omega)]
        have := p3 (j % 5) (Nat.zero_le _) a3
        rw [show 5 * r + j % 5 = j by omega] at this
        exact this
    · rw [q4 j (by omega), p4 j (by omega)]

theorem c_powers {N d : Nat} {x : Nat} {th wd pm fm mu um pr ts : Int} {i n q t : Nat} {Sz Tb Mo : Nat → Int} (hn : n ≤ 4) (hi : i < 6) (hq : 0 < q) (hq2 : q ≤ 500) (rT : rng Tb) (rM : rng Mo) (hz : Sz i = (n : Int)) (ht : (t : Int) ≤ 9223372036854775807) {B Pw T : Nat → Int} (rB : rng B) (rP : rng Pw) (rT2 : rng T) {h : MH} (hx : Hd (0, 0, N) h x (mdl x th wd pm fm mu um pr ts)) (hZ : Hd (0, 0, N) h (x + 4) (eA 0 6 Sz)) (hTb : Hd (0, 0, N) h (x + 5) (eA 0 96 Tb)) (hMo : Hd (0, 0, N) h (x + 6) (eA 0 24 Mo)) (hB : Hd (0, 0, N) h (x + 10) (eA 0 25 B)) (hPw : Hd (0, 0, N) h (x + 11) (eA 0 25 Pw)) (hT : Hd (0, 0, N) h (x + 12) (eA 0 25 T)) : Ok mX11_powers (d + 1) 0 0 [vR x, vI (i : Int), vJ (t : Int), vI (q : Int)] N h (fun r h2 => r = none ∧ (∀ b, b ≠ x → b ≠ x + 10 → b ≠ x + 11 → b ≠ x + 12 → h2 b = h b) ∧ h2 x = mdl x th ((n + 1 : Nat) : Int) pm fm mu um pr ts ∧ (∃ B2, h2 (x + 10) = eA 0 25 B2 ∧ rng B2) ∧ (∃ T2, h2 (x + 12) = eA 0 25 T2 ∧ rng T2) ∧ ∃ P2, h2 (x + 11) = eA 0 25 P2 ∧ rng P2 ∧ cw (n + 1) P2 = mp (n + 1) q (baF n q i Tb Mo) t) := by
  refine Ok.of pfX11_powers rfl (Nat.le_of_ble_eq_true rfl) (fun Ls sx => ?_)
  show G mX11_powers (d + 1, 0, 0, Ls, sx) 0 [(0, vR x), (1, vI (i : Int)), (2, vJ (t : Int)), (4, vI (q : Int))] [] (0, 0, N) h _
  refine g_aload_n (pc := 0) (r := .inl (some x)) dX11_powers_0 rfl ?_
  refine g_iload_n (pc := 1) (x := (i : Int)) dX11_powers_1 rfl ?_
  refine g_iload (pc := 2) (x := (q : Int)) dX11_powers_2 rfl ?_
  refine g_callV0 (pc := 4) (as := [vI (i : Int), vI (q : Int)]) (b := x) (st := []) lvX11_123 dX11_powers_4 hx (Nat.le_of_ble_eq_true rfl) (by omega) (Nat.zero_le _) (Nat.zero_le _) (c_beginsBase (d := d) hn hi hq hq2 rT rM hz hx hZ hTb hMo hB) ?_
  rintro r h2 ⟨rfl, c1, c2, B2, c3, c4, c5⟩
  have hx_1 := hx.to c2
  have hZ_1 := hZ.keep (c1 _ (by omega) (by omega))
  have hTb_1 := hTb.keep (c1 _ (by omega) (by omega))
  have hMo_1 := hMo.keep (c1 _ (by omega) (by omega))
  have hB_1 := hB.to c3
  have hPw_1 := hPw.keep (c1 _ (by omega) (by omega))
  have hT_1 := hT.keep (c1 _ (by omega) (by omega))
  have eB : cw (n + 1) B2 = baF n q i Tb Mo := by
    rw [cw_of c4, cw_id (baF_can hq)]
  have rB2 : rng B2 := by
    intro j
    by_cases hj : j / 5 < n + 1 ∧ j % 5 < n + 1
    · rw [c4 j hj.1 hj.2]
      have := (baF_can (n := n) (i := i) (Tb := Tb) (Mo := Mo) hq).2 j
      omega
    · rw [c5 j hj]
      exact rB j
  refine g_iconst (pc := 7) dX11_powers_7 ?_
  refine g_istore (pc := 8) (lo2 := [(0, vR x), (1, vI (i : Int)), (2, vJ (t : Int)), (4, vI (q : Int)), (5, vI 0)]) dX11_powers_8 (by decide) rfl ?_
  refine powers_i2 hn hq hq2 (n + 1) 0 _ h2 Pw (by omega) rfl hx_1 hPw_1 rP (fun h3 P3 p1 p0 p2 p3 p4 => ?_)
  have hx_2 := hx_1.keep (p2 _ (by omega))
  have hZ_2 := hZ_1.keep (p2 _ (by omega))
  have hTb_2 := hTb_1.keep (p2 _ (by omega))
  have hMo_2 := hMo_1.keep (p2 _ (by omega))
  have hB_2 := hB_1.keep (p2 _ (by omega))
  have hPw_2 := hPw_1.to p1.2
  have hT_2 := hT_1.keep (p2 _ (by omega))
  have eP : cw (n + 1) P3 = m1 (n + 1) q := by
    rw [cw_of (fun j a b => p3 j (Nat.zero_le _) a b), cw_id (m1_can hq)]
  refine g_lload_n (pc := 70) (x := (t : Int)) dX11_powers_70 rfl ?_
  refine g_lstore (pc := 71) (lo2 := [(0, vR x), (1, vI (i : Int)), (2, vJ (t : Int)), (4, vI (q : Int)), (5, vJ (t : Int))]) dX11_powers_71 (by decide) rfl ?_
  refine powers_l (d := d) hn hq hq2 (Nat.le_refl _) t _ h3 B2 P3 T rfl ⟨by omega, ht⟩ hx_2 hB_2 hPw_2 hT_2 rB2 p0 rT2 (by rw [eB]; exact baF_can hq) (by rw [eP]; exact m1_can hq) (fun h4 B4 P4 T4 q1 q2 q3 q4 q5 q6 q7 q8 => ⟨rfl, fun b b1 b2 b3 b4 => (q7 b b2 b3 b4).trans ((p2 b b3).trans (c1 b b1 b2)), (q7 _ (by omega) (by omega) (by omega)).trans hx_2.2, ⟨B4, q1.2, q4⟩, ⟨T4, q3.2, q6⟩, P4, q2.2, q5, ?_⟩)
  rw [q8, eP, eB, mm_1l (by omega) (mp_can hq t)]
