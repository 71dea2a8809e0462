/-! ===== the determinant of four rows; isTurnable ===== -/
theorem det4_0 (T : Nat → Int) : ss (fun x => wst 4 T 4 0 1 x 0 0) 0 16 = 0 := by
  simp [ss, wst, swk, orN]
  try grind

theorem det4_1 (T : Nat → Int) : ss (fun x => wst 4 T 4 0 1 x 0 0) 16 16 = 0 - T 2 * T 8 * T 11 * T 15 + T 3 * T 7 * T 11 * T 15 := by
  simp [ss, wst, swk, orN]
  try grind

theorem det4_2 (T : Nat → Int) : ss (fun x => wst 4 T 4 0 1 x 0 0) 32 16 = 0 + T 1 * T 8 * T 12 * T 15 - T 3 * T 6 * T 12 * T 15 := by
  simp [ss, wst, swk, orN]
  try grind

theorem det4_3 (T : Nat → Int) : ss (fun x => wst 4 T 4 0 1 x 0 0) 48 16 = 0 - T 1 * T 7 * T 13 * T 15 + T 2 * T 6 * T 13 * T 15 := by
  simp [ss, wst, swk, orN]
  try grind

theorem det4_4 (T : Nat → Int) : ss (fun x => wst 4 T 4 0 1 x 0 0) 64 16 = 0 + T 2 * T 8 * T 10 * T 16 - T 3 * T 7 * T 10 * T 16 := by
  simp [ss, wst, swk, orN]
  try grind

theorem det4_5 (T : Nat → Int) : ss (fun x => wst 4 T 4 0 1 x 0 0) 80 16 = 0 := by
  simp [ss, wst, swk, orN]
  try grind

theorem det4_6 (T : Nat → Int) : ss (fun x => wst 4 T 4 0 1 x 0 0) 96 16 = 0 - T 0 * T 8 * T 12 * T 16 + T 3 * T 5 * T 12 * T 16 := by
  simp [ss, wst, swk, orN]
  try grind

theorem det4_7 (T : Nat → Int) : ss (fun x => wst 4 T 4 0 1 x 0 0) 112 16 = 0 + T 0 * T 7 * T 13 * T 16 - T 2 * T 5 * T 13 * T 16 := by
  simp [ss, wst, swk, orN]
  try grind

theorem det4_8 (T : Nat → Int) : ss (fun x => wst 4 T 4 0 1 x 0 0) 128 16 = 0 - T 1 * T 8 * T 10 * T 17 + T 3 * T 6 * T 10 * T 17 := by
  simp [ss, wst, swk, orN]
  try grind

theorem det4_9 (T : Nat → Int) : ss (fun x => wst 4 T 4 0 1 x 0 0) 144 16 = 0 + T 0 * T 8 * T 11 * T 17 - T 3 * T 5 * T 11 * T 17 := by
  simp [ss, wst, swk, orN]
  try grind

theorem det4_10 (T : Nat → Int) : ss (fun x => wst 4 T 4 0 1 x 0 0) 160 16 = 0 := by
  simp [ss, wst, swk, orN]
  try grind

theorem det4_11 (T : Nat → Int) : ss (fun x => wst 4 T 4 0 1 x 0 0) 176 16 = 0 - T 0 * T 6 * T 13 * T 17 + T 1 * T 5 * T 13 * T 17 := by
  simp [ss, wst, swk, orN]
  try grind

theorem det4_12 (T : Nat → Int) : ss (fun x => wst 4 T 4 0 1 x 0 0) 192 16 = 0 + T 1 * T 7 * T 10 * T 18 - T 2 * T 6 * T 10 * T 18 := by
  simp [ss, wst, swk, orN]
  try grind

theorem det4_13 (T : Nat → Int) : ss (fun x => wst 4 T 4 0 1 x 0 0) 208 16 = 0 - T 0 * T 7 * T 11 * T 18 + T 2 * T 5 * T 11 * T 18 := by
  simp [ss, wst, swk, orN]
  try grind

theorem det4_14 (T : Nat → Int) : ss (fun x => wst 4 T 4 0 1 x 0 0) 224 16 = 0 + T 0 * T 6 * T 12 * T 18 - T 1 * T 5 * T 12 * T 18 := by
  simp [ss, wst, swk, orN]
  try grind

theorem det4_15 (T : Nat → Int) : ss (fun x => wst 4 T 4 0 1 x 0 0) 240 16 = 0 := by
  simp [ss, wst, swk, orN]
  try grind

theorem det_4 (T : Nat → Int) : ss (fun x => wst 4 T 4 0 1 x 0 0) 0 256 = detF 4 T := by
  have h : ∀ (g : Nat → Int), ss g 0 256 = ss g 0 16 + ss g 16 16 + ss g 32 16 + ss g 48 16 + ss g 64 16 + ss g 80 16 + ss g 96 16 + ss g 112 16 + ss g 128 16 + ss g 144 16 + ss g 160 16 + ss g 176 16 + ss g 192 16 + ss g 208 16 + ss g 224 16 + ss g 240 16 := by
    intro g
    rw [show (256 : Nat) = 16 + 240 from rfl, ss_split g 240 16 0]
    rw [show (240 : Nat) = 16 + 224 from rfl, ss_split g 224 16 16]
    rw [show (224 : Nat) = 16 + 208 from rfl, ss_split g 208 16 32]
    rw [show (208 : Nat) = 16 + 192 from rfl, ss_split g 192 16 48]
    rw [show (192 : Nat) = 16 + 176 from rfl, ss_split g 176 16 64]
    rw [show (176 : Nat) = 16 + 160 from rfl, ss_split g 160 16 80]
    rw [show (160 : Nat) = 16 + 144 from rfl, ss_split g 144 16 96]
    rw [show (144 : Nat) = 16 + 128 from rfl, ss_split g 128 16 112]
    rw [show (128 : Nat) = 16 + 112 from rfl, ss_split g 112 16 128]
    rw [show (112 : Nat) = 16 + 96 from rfl, ss_split g 96 16 144]
    rw [show (96 : Nat) = 16 + 80 from rfl, ss_split g 80 16 160]
    rw [show (80 : Nat) = 16 + 64 from rfl, ss_split g 64 16 176]
    rw [show (64 : Nat) = 16 + 48 from rfl, ss_split g 48 16 192]
    rw [show (48 : Nat) = 16 + 32 from rfl, ss_split g 32 16 208]
    rw [show (32 : Nat) = 16 + 16 from rfl, ss_split g 16 16 224]
    simp only [Nat.reduceAdd]
    omega
  rw [h]
  rw [det4_0, det4_1, det4_2, det4_3, det4_4, det4_5, det4_6, det4_7, det4_8, det4_9, det4_10, det4_11, det4_12, det4_13, det4_14, det4_15]
  simp [detF, prF, sqF]
  grind
theorem det_bd {n : Nat} {T : Nat → Int} (hT : ∀ r c, r < n → c < n → 0 ≤ T (5 * r + c) ∧ T (5 * r + c) < 500) : i64 (detF n T) := by
  have hs : ∀ r c, -500 ≤ sqF n T r c ∧ sqF n T r c ≤ 500 := fun r c => by
    unfold sqF
    split
    · rename_i h
      have := hT r c h.1 h.2
      omega
    · split <;> omega
  have hp : ∀ r a b, -500000 ≤ prF n T r a b ∧ prF n T r a b ≤ 500000 := fun r a b => by
    unfold prF
    have h1 := mul_bd (hs r a) (hs (r + 1) b)
    have h2 := mul_bd (hs r b) (hs (r + 1) a)
    omega
  unfold detF
  have z0 := mul_bd (hp 0 0 1) (hp 2 2 3)
  have z1 := mul_bd (hp 0 0 2) (hp 2 1 3)
  have z2 := mul_bd (hp 0 0 3) (hp 2 1 2)
  have z3 := mul_bd (hp 0 1 2) (hp 2 0 3)
  have z4 := mul_bd (hp 0 1 3) (hp 2 0 2)
  have z5 := mul_bd (hp 0 2 3) (hp 2 0 1)
  omega

theorem c_mworth {N d x i n M : Nat} {pr ts : Int} {T Y : Nat → Int} {h : MH} (n1 : 1 ≤ n) (hn : n ≤ 4) (hM : 2 ≤ M) (hM2 : M ≤ 500) (hi : i < 6) (hx : MO N h x pr ts) (hr : MRw N h x i n M T Y) : Ok mX11_worth (d + 1) 0 0 [vR x, vI (i : Int)] N h (fun r h2 => h2 = h ∧ r = some (vI (detF n T % (M : Int)))) := by
  refine Ok.of pfX11_worth rfl (Nat.le_of_ble_eq_true rfl) (fun Ls sx => ?_)
  show G mX11_worth (d + 1, 0, 0, Ls, sx) 0 [(0, vR x), (1, vI (i : Int))] [] (0, 0, N) h _
  obtain ⟨th, wd, pm, fm, mu, um, hx⟩ := hx
  obtain ⟨Ms, Sz, Tb, Mo, Pl, m3, m4, m5, m6, m7, rT, rM, rP, hm, hz, h1, h2, h3⟩ := hr
  have hdb : i64 (detF n T) := det_bd (fun r c hr hc => by rw [← h1 r c hr hc]; exact rT _)
  refine g_aload_n (pc := 0) (r := .inl (some x)) dX11_worth_0 rfl ?_
  refine g_getf (pc := 1) (v := vR (x + 4)) flX11_20 dX11_worth_1 hx rfl ?_
  refine g_iload_n (pc := 4) (x := (i : Int)) dX11_worth_4 rfl ?_
  refine g_ialdN (pc := 5) (j := i) dX11_worth_5 m4 (by omega) (by omega) (by omega) ?_
  rw [hz]
  refine g_istore_n (pc := 6) (lo2 := [(0, vR x), (1, vI (i : Int)), (2, vI (n : Int))]) dX11_worth_6 (by decide) rfl ?_
  refine g_lconst0 (pc := 7) dX11_worth_7 ?_
  refine g_lstore_n (pc := 8) (lo2 := [(0, vR x), (1, vI (i : Int)), (2, vI (n : Int)), (3, vJ 0)]) dX11_worth_8 (by decide) rfl ?_
  refine g_iconst (pc := 9) dX11_worth_9 ?_
  refine g_istore (pc := 10) (lo2 := [(0, vR x), (1, vI (i : Int)), (2, vI (n : Int)), (3, vJ 0), (5, vI 1)]) dX11_worth_10 (by decide) rfl ?_
  refine g_iconst (pc := 12) dX11_worth_12 ?_
  refine g_istore (pc := 13) (lo2 := [(0, vR x), (1, vI (i : Int)), (2, vI (n : Int)), (3, vJ 0), (5, vI 1), (6, vI 0)]) dX11_worth_13 (by decide) rfl ?_
  have hcs : n = 1 ∨ n = 2 ∨ n = 3 ∨ n = 4 := by omega
  rcases hcs with rfl | rfl | rfl | rfl
  · refine g_iload (pc := 15) (x := 0) dX11_worth_15 rfl ?_
    refine g_iload_n (pc := 17) (x := ((1 : Nat) : Int)) dX11_worth_17 rfl ?_
    refine g_icmp_geF (pc := 18) (tgt := 33) dX11_worth_18 (by decide) (by omega) (by omega) (by omega) ?_
    refine g_iload (pc := 21) (x := 1) dX11_worth_21 rfl ?_
    refine g_iload_n (pc := 23) (x := ((1 : Nat) : Int)) dX11_worth_23 rfl ?_
    refine g_imul (pc := 24) dX11_worth_24 ?_
    refine g_istore (pc := 25) (lo2 := [(0, vR x), (1, vI (i : Int)), (2, vI ((1 : Nat) : Int)), (3, vJ 0), (5, vI (1 * ((1 : Nat) : Int))), (6, vI 0)]) dX11_worth_25 (by decide) rfl ?_
    refine g_iinc (pc := 27) (x := 0) (lo2 := [(0, vR x), (1, vI (i : Int)), (2, vI ((1 : Nat) : Int)), (3, vJ 0), (5, vI (1 * ((1 : Nat) : Int))), (6, vI (0 + 1))]) dX11_worth_27 rfl (by decide) rfl ?_
    refine g_goto (pc := 30) (tgt := 15) dX11_worth_30 (by decide) ?_
    refine g_iload (pc := 15) (x := 0 + 1) dX11_worth_15 rfl ?_
    refine g_iload_n (pc := 17) (x := ((1 : Nat) : Int)) dX11_worth_17 rfl ?_
    refine g_icmp_geT (pc := 18) (tgt := 33) dX11_worth_18 (by decide) (by omega) (by omega) (by omega) ?_
    refine g_iconst (pc := 33) dX11_worth_33 ?_
    refine g_istore (pc := 34) (lo2 := [(0, vR x), (1, vI (i : Int)), (2, vI ((1 : Nat) : Int)), (3, vJ 0), (5, vI (1 * ((1 : Nat) : Int))), (6, vI 0)]) dX11_worth_34 (by decide) rfl ?_
    exact wor_l3 (al := 1) (by omega) (by omega) hi hM hM2 (by omega) rT h1 hm (det_1 T) hdb hx m5 m3 1 0 _ _ (by omega) rfl rfl
  · refine g_iload (pc := 15) (x := 0) dX11_worth_15 rfl ?_
    refine g_iload_n (pc := 17) (x := ((2 : Nat) : Int)) dX11_worth_17 rfl ?_
    refine g_icmp_geF (pc := 18) (tgt := 33) dX11_worth_18 (by decide) (by omega) (by omega) (by omega) ?_
    refine g_iload (pc := 21) (x := 1) dX11_worth_21 rfl ?_
    refine g_iload_n (pc := 23) (x := ((2 : Nat) : Int)) dX11_worth_23 rfl ?_
    refine g_imul (pc := 24) dX11_worth_24 ?_
    refine g_istore (pc := 25) (lo2 := [(0, vR x), (1, vI (i : Int)), (2, vI ((2 : Nat) : Int)), (3, vJ 0), (5, vI (1 * ((2 : Nat) : Int))), (6, vI 0)]) dX11_worth_25 (by decide) rfl ?_
    refine g_iinc (pc := 27) (x := 0) (lo2 := [(0, vR x), (1, vI (i : Int)), (2, vI ((2 : Nat) : Int)), (3, vJ 0), (5, vI (1 * ((2 : Nat) : Int))), (6, vI (0 + 1))]) dX11_worth_27 rfl (by decide) rfl ?_
    refine g_goto (pc := 30) (tgt := 15) dX11_worth_30 (by decide) ?_
    refine g_iload (pc := 15) (x := 0 + 1) dX11_worth_15 rfl ?_
    refine g_iload_n (pc := 17) (x := ((2 : Nat) : Int)) dX11_worth_17 rfl ?_
    refine g_icmp_geF (pc := 18) (tgt := 33) dX11_worth_18 (by decide) (by omega) (by omega) (by omega) ?_
    refine g_iload (pc := 21) (x := 1 * ((2 : Nat) : Int)) dX11_worth_21 rfl ?_
    refine g_iload_n (pc := 23) (x := ((2 : Nat) : Int)) dX11_worth_23 rfl ?_
    refine g_imul (pc := 24) dX11_worth_24 ?_
    refine g_istore (pc := 25) (lo2 := [(0, vR x), (1, vI (i : Int)), (2, vI ((2 : Nat) : Int)), (3, vJ 0), (5, vI ((1 * ((2 : Nat) : Int)) * ((2 : Nat) : Int))), (6, vI (0 + 1))]) dX11_worth_25 (by decide) rfl ?_
    refine g_iinc (pc := 27) (x := 0 + 1) (lo2 := [(0, vR x), (1, vI (i : Int)), (2, vI ((2 : Nat) : Int)), (3, vJ 0), (5, vI ((1 * ((2 : Nat) : Int)) * ((2 : Nat) : Int))), (6, vI (0 + 1 + 1))]) dX11_worth_27 rfl (by decide) rfl ?_
    refine g_goto (pc := 30) (tgt := 15) dX11_worth_30 (by decide) ?_
    refine g_iload (pc := 15) (x := 0 + 1 + 1) dX11_worth_15 rfl ?_
    refine g_iload_n (pc := 17) (x := ((2 : Nat) : Int)) dX11_worth_17 rfl ?_
    refine g_icmp_geT (pc := 18) (tgt := 33) dX11_worth_18 (by decide) (by omega) (by omega) (by omega) ?_
    refine g_iconst (pc := 33) dX11_worth_33 ?_
    refine g_istore (pc := 34) (lo2 := [(0, vR x), (1, vI (i : Int)), (2, vI ((2 : Nat) : Int)), (3, vJ 0), (5, vI ((1 * ((2 : Nat) : Int)) * ((2 : Nat) : Int))), (6, vI 0)]) dX11_worth_34 (by decide) rfl ?_
    exact wor_l3 (al := 4) (by omega) (by omega) hi hM hM2 (by omega) rT h1 hm (det_2 T) hdb hx m5 m3 4 0 _ _ (by omega) rfl rfl
  · refine g_iload (pc := 15) (x := 0) dX11_worth_15 rfl ?_
    refine g_iload_n (pc := 17) (x := ((3 : Nat) : Int)) dX11_worth_17 rfl ?_
    refine g_icmp_geF (pc := 18) (tgt := 33) dX11_worth_18 (by decide) (by omega) (by omega) (by omega) ?_
    refine g_iload (pc := 21) (x := 1) dX11_worth_21 rfl ?_
    refine g_iload_n (pc := 23) (x := ((3 : Nat) : Int)) dX11_worth_23 rfl ?_
    refine g_imul (pc := 24) dX11_worth_24 ?_
    refine g_istore (pc := 25) (lo2 := [(0, vR x), (1, vI (i : Int)), (2, vI ((3 : Nat) : Int)), (3, vJ 0), (5, vI (1 * ((3 : Nat) : Int))), (6, vI 0)]) dX11_worth_25 (by decide) rfl ?_
    refine g_iinc (pc := 27) (x := 0) (lo2 := [(0, vR x), (1, vI (i : Int)), (2, vI ((3 : Nat) : Int)), (3, vJ 0), (5, vI (1 * ((3 : Nat) : Int))), (6, vI (0 + 1))]) dX11_worth_27 rfl (by decide) rfl ?_
    refine g_goto (pc := 30) (tgt := 15) dX11_worth_30 (by decide) ?_
    refine g_iload (pc := 15) (x := 0 + 1) dX11_worth_15 rfl ?_
    refine g_iload_n (pc := 17) (x := ((3 : Nat) : Int)) dX11_worth_17 rfl ?_
    refine g_icmp_geF (pc := 18) (tgt := 33) dX11_worth_18 (by decide) (by omega) (by omega) (by omega) ?_
    refine g_iload (pc := 21) (x := 1 * ((3 : Nat) : Int)) dX11_worth_21 rfl ?_
    refine g_iload_n (pc := 23) (x := ((3 : Nat) : Int)) dX11_worth_23 rfl ?_
    refine g_imul (pc := 24) dX11_worth_24 ?_
    refine g_istore (pc := 25) (lo2 := [(0, vR x), (1, vI (i : Int)), (2, vI ((3 : Nat) : Int)), (3, vJ 0), (5, vI ((1 * ((3 : Nat) : Int)) * ((3 : Nat) : Int))), (6, vI (0 + 1))]) dX11_worth_25 (by decide) rfl ?_
    refine g_iinc (pc := 27) (x := 0 + 1) (lo2 := [(0, vR x), (1, vI (i : Int)), (2, vI ((3 : Nat) : Int)), (3, vJ 0), (5, vI ((1 * ((3 : Nat) : Int)) * ((3 : Nat) : Int))), (6, vI (0 + 1 + 1))]) dX11_worth_27 rfl (by decide) rfl ?_
    refine g_goto (pc := 30) (tgt := 15) dX11_worth_30 (by decide) ?_
    refine g_iload (pc := 15) (x := 0 + 1 + 1) dX11_worth_15 rfl ?_
    refine g_iload_n (pc := 17) (x := ((3 : Nat) : Int)) dX11_worth_17 rfl ?_
    refine g_icmp_geF (pc := 18) (tgt := 33) dX11_worth_18 (by decide) (by omega) (by omega) (by omega) ?_
    refine g_iload (pc := 21) (x := (1 * ((3 : Nat) : Int)) * ((3 : Nat) : Int)) dX11_worth_21 rfl ?_
    refine g_iload_n (pc := 23) (x := ((3 : Nat) : Int)) dX11_worth_23 rfl ?_
    refine g_imul (pc := 24) dX11_worth_24 ?_
    refine g_istore (pc := 25) (lo2 := [(0, vR x), (1, vI (i : Int)), (2, vI ((3 : Nat) : Int)), (3, vJ 0), (5, vI (((1 * ((3 : Nat) : Int)) * ((3 : Nat) : Int)) * ((3 : Nat) : Int))), (6, vI (0 + 1 + 1))]) dX11_worth_25 (by decide) rfl ?_
    refine g_iinc (pc := 27) (x := 0 + 1 + 1) (lo2 := [(0, vR x), (1, vI (i : Int)), (2, vI ((3 : Nat) : Int)), (3, vJ 0), (5, vI (((1 * ((3 : Nat) : Int)) * ((3 : Nat) : Int)) * ((3 : Nat) : Int))), (6, vI (0 + 1 + 1 + 1))]) dX11_worth_27 rfl (by decide) rfl ?_
    refine g_goto (pc := 30) (tgt := 15) dX11_worth_30 (by decide) ?_
    refine g_iload (pc := 15) (x := 0 + 1 + 1 + 1) dX11_worth_15 rfl ?_
    refine g_iload_n (pc := 17) (x := ((3 : Nat) : Int)) dX11_worth_17 rfl ?_
    refine g_icmp_geT (pc := 18) (tgt := 33) dX11_worth_18 (by decide) (by omega) (by omega) (by omega) ?_
    refine g_iconst (pc := 33) dX11_worth_33 ?_
    refine g_istore (pc := 34) (lo2 := [(0, vR x), (1, vI (i : Int)), (2, vI ((3 : Nat) : Int)), (3, vJ 0), (5, vI (((1 * ((3 : Nat) : Int)) * ((3 : Nat) : Int)) * ((3 : Nat) : Int))), (6, vI 0)]) dX11_worth_34 (by decide) rfl ?_
    exact wor_l3 (al := 27) (by omega) (by omega) hi hM hM2 (by omega) rT h1 hm (det_3 T) hdb hx m5 m3 27 0 _ _ (by omega) rfl rfl
  · refine g_iload (pc := 15) (x := 0) dX11_worth_15 rfl ?_
    refine g_iload_n (pc := 17) (x := ((4 : Nat) : Int)) dX11_worth_17 rfl ?_
    refine g_icmp_geF (pc := 18) (tgt := 33) dX11_worth_18 (by decide) (by omega) (by omega) (by omega) ?_
    refine g_iload (pc := 21) (x := 1) dX11_worth_21 rfl ?_
    refine g_iload_n (pc := 23) (x := ((4 : Nat) : Int)) dX11_worth_23 rfl ?_
    refine g_imul (pc := 24) dX11_worth_24 ?_
    refine g_istore (pc := 25) (lo2 := [(0, vR x), (1, vI (i : Int)), (2, vI ((4 : Nat) : Int)), (3, vJ 0), (5, vI (1 * ((4 : Nat) : Int))), (6, vI 0)]) dX11_worth_25 (by decide) rfl ?_
    refine g_iinc (pc := 27) (x := 0) (lo2 := [(0, vR x), (1, vI (i : Int)), (2, vI ((4 : Nat) : Int)), (3, vJ 0), (5, vI (1 * ((4 : Nat) : Int))), (6, vI (0 + 1))]) dX11_worth_27 rfl (by decide) rfl ?_
    refine g_goto (pc := 30) (tgt := 15) dX11_worth_30 (by decide) ?_
    refine g_iload (pc := 15) (x := 0 + 1) dX11_worth_15 rfl ?_
    refine g_iload_n (pc := 17) (x := ((4 : Nat) : Int)) dX11_worth_17 rfl ?_
    refine g_icmp_geF (pc := 18) (tgt := 33) dX11_worth_18 (by decide) (by omega) (by omega) (by omega) ?_
    refine g_iload (pc := 21) (x := 1 * ((4 : Nat) : Int)) dX11_worth_21 rfl ?_
    refine g_iload_n (pc := 23) (x := ((4 : Nat) : Int)) dX11_worth_23 rfl ?_
    refine g_imul (pc := 24) dX11_worth_24 ?_
    refine g_istore (pc := 25) (lo2 := [(0, vR x), (1, vI (i : Int)), (2, vI ((4 : Nat) : Int)), (3, vJ 0), (5, vI ((1 * ((4 : Nat) : Int)) * ((4 : Nat) : Int))), (6, vI (0 + 1))]) dX11_worth_25 (by decide) rfl ?_
    refine g_iinc (pc := 27) (x := 0 + 1) (lo2 := [(0, vR x), (1, vI (i : Int)), (2, vI ((4 : Nat) : Int)), (3, vJ 0), (5, vI ((1 * ((4 : Nat) : Int)) * ((4 : Nat) : Int))), (6, vI (0 + 1 + 1))]) dX11_worth_27 rfl (by decide) rfl ?_
    refine g_goto (pc := 30) (tgt := 15) dX11_worth_30 (by decide) ?_
    refine g_iload (pc := 15) (x := 0 + 1 + 1) dX11_worth_15 rfl ?_
    refine g_iload_n (pc := 17) (x := ((4 : Nat) : Int)) dX11_worth_17 rfl ?_
    refine g_icmp_geF (pc := 18) (tgt := 33) dX11_worth_18 (by decide) (by omega) (by omega) (by omega) ?_
    refine g_iload (pc := 21) (x := (1 * ((4 : Nat) : Int)) * ((4 : Nat) : Int)) dX11_worth_21 rfl ?_
    refine g_iload_n (pc := 23) (x := ((4 : Nat) : Int)) dX11_worth_23 rfl ?_
    refine g_imul (pc := 24) dX11_worth_24 ?_
    refine g_istore (pc := 25) (lo2 := [(0, vR x), (1, vI (i : Int)), (2, vI ((4 : Nat) : Int)), (3, vJ 0), (5, vI (((1 * ((4 : Nat) : Int)) * ((4 : Nat) : Int)) * ((4 : Nat) : Int))), (6, vI (0 + 1 + 1))]) dX11_worth_25 (by decide) rfl ?_
    refine g_iinc (pc := 27) (x := 0 + 1 + 1) (lo2 := [(0, vR x), (1, vI (i : Int)), (2, vI ((4 : Nat) : Int)), (3, vJ 0), (5, vI (((1 * ((4 : Nat) : Int)) * ((4 : Nat) : Int)) * ((4 : Nat) : Int))), (6, vI (0 + 1 + 1 + 1))]) dX11_worth_27 rfl (by decide) rfl ?_
    refine g_goto (pc := 30) (tgt := 15) dX11_worth_30 (by decide) ?_
    refine g_iload (pc := 15) (x := 0 + 1 + 1 + 1) dX11_worth_15 rfl ?_
    refine g_iload_n (pc := 17) (x := ((4 : Nat) : Int)) dX11_worth_17 rfl ?_
    refine g_icmp_geF (pc := 18) (tgt := 33) dX11_worth_18 (by decide) (by omega) (by omega) (by omega) ?_
    refine g_iload (pc := 21) (x := ((1 * ((4 : Nat) : Int)) * ((4 : Nat) : Int)) * ((4 : Nat) : Int)) dX11_worth_21 rfl ?_
    refine g_iload_n (pc := 23) (x := ((4 : Nat) : Int)) dX11_worth_23 rfl ?_
    refine g_imul (pc := 24) dX11_worth_24 ?_
    refine g_istore (pc := 25) (lo2 := [(0, vR x), (1, vI (i : Int)), (2, vI ((4 : Nat) : Int)), (3, vJ 0), (5, vI ((((1 * ((4 : Nat) : Int)) * ((4 : Nat) : Int)) * ((4 : Nat) : Int)) * ((4 : Nat) : Int))), (6, vI (0 + 1 + 1 + 1))]) dX11_worth_25 (by decide) rfl ?_
    refine g_iinc (pc := 27) (x := 0 + 1 + 1 + 1) (lo2 := [(0, vR x), (1, vI (i : Int)), (2, vI ((4 : Nat) : Int)), (3, vJ 0), (5, vI ((((1 * ((4 : Nat) : Int)) * ((4 : Nat) : Int)) * ((4 : Nat) : Int)) * ((4 : Nat) : Int))), (6, vI (0 + 1 + 1 + 1 + 1))]) dX11_worth_27 rfl (by decide) rfl ?_
    refine g_goto (pc := 30) (tgt := 15) dX11_worth_30 (by decide) ?_
    refine g_iload (pc := 15) (x := 0 + 1 + 1 + 1 + 1) dX11_worth_15 rfl ?_
    refine g_iload_n (pc := 17) (x := ((4 : Nat) : Int)) dX11_worth_17 rfl ?_
    refine g_icmp_geT (pc := 18) (tgt := 33) dX11_worth_18 (by decide) (by omega) (by omega) (by omega) ?_
    refine g_iconst (pc := 33) dX11_worth_33 ?_
    refine g_istore (pc := 34) (lo2 := [(0, vR x), (1, vI (i : Int)), (2, vI ((4 : Nat) : Int)), (3, vJ 0), (5, vI ((((1 * ((4 : Nat) : Int)) * ((4 : Nat) : Int)) * ((4 : Nat) : Int)) * ((4 : Nat) : Int))), (6, vI 0)]) dX11_worth_34 (by decide) rfl ?_
    exact wor_l3 (al := 256) (by omega) (by omega) hi hM hM2 (by omega) rT h1 hm (det_4 T) hdb hx m5 m3 256 0 _ _ (by omega) rfl rfl

theorem c_isTurnable {N d x i n M : Nat} {pr ts : Int} {T Y : Nat → Int} {h : MH} (n1 : 1 ≤ n) (hn : n ≤ 4) (hM : 2 ≤ M) (hM2 : M ≤ 500) (hi : i < 6) (hx : MO N h x pr ts) (hr : MRw N h x i n M T Y) : Ok mX11_isTurnable (d + 2) 0 0 [vR x, vI (i : Int)] N h (fun r h2 => h2 = h ∧ r = some (vI (if Nat.gcd M (detF n T % (M : Int)).toNat = 1 then 1 else 0))) := by
  refine Ok.of pfX11_isTurnable rfl (Nat.le_of_ble_eq_true rfl) (fun Ls sx => ?_)
  show G mX11_isTurnable (d + 2, 0, 0, Ls, sx) 0 [(0, vR x), (1, vI (i : Int))] [] (0, 0, N) h _
  obtain ⟨th, wd, pm, fm, mu, um, hxo⟩ := id hx
  obtain ⟨Ms, Sz, Tb, Mo, Pl, m3, -, -, -, -, -, -, -, hm, -⟩ := id hr
  refine g_aload_n (pc := 0) (r := .inl (some x)) dX11_isTurnable_0 rfl ?_
  refine g_getf (pc := 1) (v := vR (x + 3)) flX11_17 dX11_isTurnable_1 hxo rfl ?_
  refine g_iload_n (pc := 4) (x := (i : Int)) dX11_isTurnable_4 rfl ?_
  refine g_ialdN (pc := 5) (j := i) dX11_isTurnable_5 m3 (by omega) (by omega) (by omega) ?_
  rw [hm]
  refine g_aload_n (pc := 6) (r := .inl (some x)) dX11_isTurnable_6 rfl ?_
  refine g_iload_n (pc := 7) (x := (i : Int)) dX11_isTurnable_7 rfl ?_
  refine g_callV0 (pc := 8) (as := [vI (i : Int)]) (b := x) (st := [vI (M : Int)]) lvX11_150 dX11_isTurnable_8 hxo (Nat.le_of_ble_eq_true rfl) (by omega) (Nat.zero_le _) (Nat.zero_le _) (c_mworth (d := d) n1 hn hM hM2 hi hx hr) ?_
  rintro q h2 ⟨e9, e8⟩
  subst e9
  subst e8
  have n0 := Int.emod_nonneg (detF n T) (show (M : Int) ≠ 0 by omega)
  have n1 := Int.emod_lt_of_pos (detF n T) (show (0 : Int) < M by omega)
  obtain ⟨y, ey⟩ : ∃ y : Nat, (detF n T % (M : Int)) = (y : Int) := ⟨(detF n T % (M : Int)).toNat, by omega⟩
  rw [ey] at n0 n1 ⊢
  rw [Int.toNat_natCast]
  refine g_callS0 (pc := 11) (as := [vI (M : Int), vI (y : Int)]) (st := []) lsX11_154 dX11_isTurnable_11 (Nat.le_of_ble_eq_true rfl) (by omega) (Nat.zero_le _) (Nat.zero_le _) (c_common (d := d + 1) (by omega) (by omega)) ?_
  rintro q h2 ⟨e9, e8⟩
  subst e9
  subst e8
  have g1 := Nat.gcd_le_left y (show 0 < M by omega)
  refine g_iconst (pc := 14) dX11_isTurnable_14 ?_
  refine g_icmp_ne (pc := 15) (tgt := 22) dX11_isTurnable_15 (by decide) (by omega) (by omega) (fun h0 => ?_) (fun h0 => ?_)
  · refine g_iconst (pc := 22) dX11_isTurnable_22 ?_
    exact r_bool (pc := 23) dX11_isTurnable_23 rfl rfl (Nat.le_refl _) (Or.inl rfl) ⟨rfl, by rw [if_neg (by omega)]⟩
  · refine g_iconst (pc := 18) dX11_isTurnable_18 ?_
    refine g_goto (pc := 19) (tgt := 23) dX11_isTurnable_19 (by decide) ?_
    exact r_bool (pc := 23) dX11_isTurnable_23 rfl rfl (Nat.le_refl _) (Or.inr rfl) ⟨rfl, by rw [if_pos (by omega)]⟩
