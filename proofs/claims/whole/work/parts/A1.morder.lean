/-! ===== the reference: orderOf ===== -/
theorem ord_l1 {N d x i k n q W Ls : Nat} {th pm mu um pr ts rd : Int} {T Sz Tb Mo L S2 sx : Nat → Int} {fl : List Nat} {h0 : MH} {Q : Option MV → MR → MH → Prop} (hn : n ≤ 4) (hi : i < 6) (hk5 : k < 5) (hq : 2 ≤ q) (hq2 : q ≤ 500) (rT : rng Tb) (rM : rng Mo) (hz : Sz i = (n : Int)) (hSk : S2 k = (q : Int)) (h1 : ∀ r c, r < n → c < n → Tb (16 * i + 4 * r + c) = T (5 * r + c)) (h2 : ∀ r, r < n → Mo (4 * i + r) = T (5 * r + 4)) (hW : isPer (mp (n + 1) q (au n T)) 0 W) (hfl : FLk L fl) (hlen : fl.length ≤ 62) (hpr : ∀ y ∈ fl, prm y) (hZ0 : Hd (0, 0, N) h0 (x + 4) (eA 0 6 Sz)) (hTb0 : Hd (0, 0, N) h0 (x + 5) (eA 0 96 Tb)) (hMo0 : Hd (0, 0, N) h0 (x + 6) (eA 0 24 Mo)) (hL0 : Hd (0, 0, N) h0 (x + 18) (eA 3 70 L)) (hS0 : Hd (0, 0, N) h0 (x + 16) (eA 0 5 S2)) (hK : ∀ (wd : Int) (h2 : MH), Hd (0, 0, N) h2 x (mdl x th wd pm (fl.length : Int) mu um pr ts) → Sc N h2 (x + 10) 25 → Sc N h2 (x + 11) 25 → Sc N h2 (x + 12) 25 → (∀ a, a ≠ x → a ≠ x + 10 → a ≠ x + 11 → a ≠ x + 12 → h2 a = h0 a) → G mX11_orderOf (d + 3, 0, 0, Ls, sx) 91 [(0, vR x), (1, vI (i : Int)), (2, vJ rd), (4, vI (k : Int)), (5, vJ (W : Int))] [] (0, 0, N) h2 Q) : ∀ (f j r9 : Nat) (xj wd : Int) (h : MH), j + f = fl.length → xj = (j : Int) → 1 ≤ r9 → r9 ≤ 8000000000000000000 → W ∣ r9 → r9 ∣ W * prodL (fl.drop j) → prodL (fl.drop j) ∣ r9 → Hd (0, 0, N) h x (mdl x th wd pm (fl.length : Int) mu um pr ts) → Sc N h (x + 10) 25 → Sc N h (x + 11) 25 → Sc N h (x + 12) 25 → (∀ a, a ≠ x → a ≠ x + 10 → a ≠ x + 11 → a ≠ x + 12 → h a = h0 a) → G mX11_orderOf (d + 3, 0, 0, Ls, sx) 39 [(0, vR x), (1, vI (i : Int)), (2, vJ rd), (4, vI (k : Int)), (5, vJ (r9 : Int)), (7, vI xj)] [] (0, 0, N) h Q := by
  intro f
  induction f with
  | zero =>
    intro j r9 xj wd h hf ex r1 rb w1 w2 w3 hx s10 s11 s12 hk
    have hL := hL0.keep (hk (x + 18) (by omega) (by omega) (by omega) (by omega))
    have hS2 := hS0.keep (hk (x + 16) (by omega) (by omega) (by omega) (by omega))
    have hnil : prodL (fl.drop j) = 1 := by rw [List.drop_eq_nil_iff.mpr (by omega)]; rfl
    rw [hnil, Nat.mul_one] at w2
    have eW : r9 = W := Nat.dvd_antisymm w2 w1
    refine g_iload (pc := 39) (x := xj) dX11_orderOf_39 rfl ?_
    refine g_aload_n (pc := 41) (r := .inl (some x)) dX11_orderOf_41 rfl ?_
    refine g_getf (pc := 42) (v := vI (fl.length : Int)) flX11_167 dX11_orderOf_42 hx rfl ?_
    refine g_icmp_geT (pc := 45) (tgt := 91) dX11_orderOf_45 (by decide) (by omega) (by omega) (by omega) ?_
    refine g_pick [0, 1, 2, 3, 4] (lo2 := [(0, vR x), (1, vI (i : Int)), (2, vJ rd), (4, vI (k : Int)), (5, vJ (r9 : Int))]) rfl ?_
    rw [eW]
    exact hK wd h hx s10 s11 s12 hk
  | succ f ih =>
    intro j r9 xj wd h hf ex r1 rb w1 w2 w3 hx s10 s11 s12 hk
    have hL := hL0.keep (hk (x + 18) (by omega) (by omega) (by omega) (by omega))
    have hS2 := hS0.keep (hk (x + 16) (by omega) (by omega) (by omega) (by omega))
    have hj : j < fl.length := by omega
    have hLj := hfl j hj
    have hmem : fl.getD j 0 ∈ fl := by simp [List.getD, hj]
    have hpf := hpr _ hmem
    have hdr := prodL_drop hj
    obtain ⟨f9, ef⟩ : ∃ f9, f9 = fl.getD j 0 := ⟨_, rfl⟩
    rw [← ef] at hLj hpf hdr
    obtain ⟨st1, st2, st3⟩ := fl_step hpf hdr w1 w2 w3 r1
    have ed := tdivN (rfl : (r9 : Int) = (r9 : Int)) (rfl : (f9 : Int) = (f9 : Int))
    have f2 := hpf.1
    have hf9 : f9 ≤ r9 := Nat.le_of_dvd r1 st3
    have hdl : r9 / f9 ≤ r9 := Nat.div_le_self _ _
    have hTb := hTb0.keep (hk (x + 5) (by omega) (by omega) (by omega) (by omega))
    have hMo := hMo0.keep (hk (x + 6) (by omega) (by omega) (by omega) (by omega))
    have hSz := hZ0.keep (hk (x + 4) (by omega) (by omega) (by omega) (by omega))
    refine g_iload (pc := 39) (x := xj) dX11_orderOf_39 rfl ?_
    refine g_aload_n (pc := 41) (r := .inl (some x)) dX11_orderOf_41 rfl ?_
    refine g_getf (pc := 42) (v := vI (fl.length : Int)) flX11_167 dX11_orderOf_42 hx rfl ?_
    refine g_icmp_geF (pc := 45) (tgt := 91) dX11_orderOf_45 (by decide) (by omega) (by omega) (by omega) ?_
    refine g_aload_n (pc := 48) (r := .inl (some x)) dX11_orderOf_48 rfl ?_
    refine g_iload_n (pc := 49) (x := (i : Int)) dX11_orderOf_49 rfl ?_
    refine g_lload (pc := 50) (x := (r9 : Int)) dX11_orderOf_50 rfl ?_
    refine g_aload_n (pc := 52) (r := .inl (some x)) dX11_orderOf_52 rfl ?_
    refine g_getf (pc := 53) (v := vR (x + 18)) flX11_63 dX11_orderOf_53 hx rfl ?_
    refine g_iload (pc := 56) (x := xj) dX11_orderOf_56 rfl ?_
    refine g_laldN (pc := 58) (j := j) dX11_orderOf_58 hL (by omega) (by omega) (by omega) ?_
    rw [hLj]
    refine g_ldiv (pc := 59) dX11_orderOf_59 (by omega) (by omega) (by omega) ?_
    refine g_aload_n (pc := 60) (r := .inl (some x)) dX11_orderOf_60 rfl ?_
    refine g_getf (pc := 61) (v := vR (x + 16)) flX11_57 dX11_orderOf_61 hx rfl ?_
    refine g_iload (pc := 64) (x := (k : Int)) dX11_orderOf_64 rfl ?_
    refine g_ialdN (pc := 66) (j := k) dX11_orderOf_66 hS2 (by omega) (by omega) (by omega) ?_
    rw [hSk, ed]
    refine g_callV0 (pc := 67) (as := [vI (i : Int), vJ ((r9 / f9 : Nat) : Int), vI (q : Int)]) (b := x) (st := []) lvX11_208 dX11_orderOf_67 hx (Nat.le_of_ble_eq_true rfl) (by omega) (Nat.zero_le _) (Nat.zero_le _) (c_isStill (d := d) (t := r9 / f9) hn hi hq hq2 rT rM hz (by omega) hx hSz hTb hMo s10 s11 s12) ?_
    rintro r h3 ⟨k3, o3, t10, t11, t12, hres⟩
    have hx3 : Hd (0, 0, N) h3 x (mdl x th ((n + 1 : Nat) : Int) pm (fl.length : Int) mu um pr ts) := ⟨hx.1, o3⟩
    have hk3 : ∀ a, a ≠ x → a ≠ x + 10 → a ≠ x + 11 → a ≠ x + 12 → h3 a = h0 a := fun a a1 a2 a3 a4 => (k3 a a1 a2 a3 a4).trans (hk a a1 a2 a3 a4)
    have hL3 := hL0.keep (hk3 (x + 18) (by omega) (by omega) (by omega) (by omega))
    have hiff : mp (n + 1) q (baF n q i Tb Mo) (r9 / f9) = m1 (n + 1) q ↔ W ∣ r9 / f9 := by
      rw [← hW.2, ba_au hn h1 h2, Nat.zero_add]
      rfl
    rcases hres with ⟨rfl, hyes⟩ | ⟨rfl, hno⟩
    · refine g_if_eqF (pc := 70) (tgt := 85) dX11_orderOf_70 (by decide) (by omega) (by omega) ?_
      obtain ⟨u1, u2, u3⟩ := st1 (hiff.mp hyes)
      refine g_lload (pc := 73) (x := (r9 : Int)) dX11_orderOf_73 rfl ?_
      refine g_aload_n (pc := 75) (r := .inl (some x)) dX11_orderOf_75 rfl ?_
      refine g_getf (pc := 76) (v := vR (x + 18)) flX11_63 dX11_orderOf_76 hx3 rfl ?_
      refine g_iload (pc := 79) (x := xj) dX11_orderOf_79 rfl ?_
      refine g_laldN (pc := 81) (j := j) dX11_orderOf_81 hL3 (by omega) (by omega) (by omega) ?_
      rw [hLj]
      refine g_ldiv (pc := 82) dX11_orderOf_82 (by omega) (by omega) (by omega) ?_
      refine g_lstore (pc := 83) (lo2 := [(0, vR x), (1, vI (i : Int)), (2, vJ rd), (4, vI (k : Int)), (5, vJ ((r9 : Int).tdiv (f9 : Int))), (7, vI xj)]) dX11_orderOf_83 (by decide) rfl ?_
      refine g_iinc (pc := 85) (x := xj) (lo2 := [(0, vR x), (1, vI (i : Int)), (2, vJ rd), (4, vI (k : Int)), (5, vJ ((r9 : Int).tdiv (f9 : Int))), (7, vI (xj + 1))]) dX11_orderOf_85 rfl (by decide) rfl ?_
      refine g_goto (pc := 88) (tgt := 39) dX11_orderOf_88 (by decide) ?_
      rw [ed]
      exact ih (j + 1) (r9 / f9) _ _ h3 (by omega) (by omega) u3 (by omega) (hiff.mp hyes) u1 u2 hx3 t10 t11 t12 hk3
    · refine g_if_eqT (pc := 70) (tgt := 85) dX11_orderOf_70 (by decide) (by omega) (by omega) ?_
      obtain ⟨u1, u2⟩ := st2 (fun y => hno (hiff.mpr y))
      refine g_iinc (pc := 85) (x := xj) (lo2 := [(0, vR x), (1, vI (i : Int)), (2, vJ rd), (4, vI (k : Int)), (5, vJ (r9 : Int)), (7, vI (xj + 1))]) dX11_orderOf_85 rfl (by decide) rfl ?_
      refine g_goto (pc := 88) (tgt := 39) dX11_orderOf_88 (by decide) ?_
      exact ih (j + 1) r9 _ _ h3 (by omega) (by omega) r1 rb w1 u1 u2 hx3 t10 t11 t12 hk3

theorem ord_l2 {N d x i n M Ls : Nat} {th um pr ts : Int} {T Sz Tb Mo P2 S2 O2 sx : Nat → Int} {Wf : Nat → Nat} {h0 : MH} (n1 : 1 ≤ n) (hn : n ≤ 4) (hM : 2 ≤ M) (hM2 : M ≤ 500) (hi : i < 6) (rT : rng Tb) (rM : rng Mo) (hz : Sz i = (n : Int)) (h1 : ∀ r c, r < n → c < n → Tb (16 * i + 4 * r + c) = T (5 * r + c)) (h2 : ∀ r, r < n → Mo (4 * i + r) = T (5 * r + 4)) (hW : ∀ k, k < (fcs M).length → isPer (mp (n + 1) ((pe M k).1 ^ (pe M k).2) (au n T)) 0 (Wf k)) (hWE : ∀ k, k < (fcs M).length → Wf k ∣ Lf (pe M k).1 4 * Nf (pe M k).1 4 * (pe M k).1 ^ ((pe M k).2 - 1)) (hlc : ∀ k, k ≤ (fcs M).length → 1 ≤ lcmI Wf k ∧ lcmI Wf k ≤ 8000000000000000000) (hfac : ∀ j, j < (fcs M).length → P2 j = ((pe M j).1 : Int) ∧ S2 j = (((pe M j).1 ^ (pe M j).2 : Nat) : Int) ∧ O2 j = ((pe M j).2 : Int)) (hZ0 : Hd (0, 0, N) h0 (x + 4) (eA 0 6 Sz)) (hTb0 : Hd (0, 0, N) h0 (x + 5) (eA 0 96 Tb)) (hMo0 : Hd (0, 0, N) h0 (x + 6) (eA 0 24 Mo)) : ∀ (f k rd : Nat) (xk wd fm mu : Int) (h : MH), k + f = (fcs M).length → xk = (k : Int) → rd = lcmI Wf k → Hd (0, 0, N) h x (mdl x th wd ((fcs M).length : Int) fm mu um pr ts) → Sc N h (x + 10) 25 → Sc N h (x + 11) 25 → Sc N h (x + 12) 25 → Sc N h (x + 13) 4 → Sc N h (x + 14) 4 → Hd (0, 0, N) h (x + 15) (eA 0 5 P2) → Hd (0, 0, N) h (x + 16) (eA 0 5 S2) → Hd (0, 0, N) h (x + 17) (eA 0 5 O2) → (∃ L, Hd (0, 0, N) h (x + 18) (eA 3 70 L)) → (∀ a, a ≠ x → (a < x + 10 ∨ x + 18 < a) → h a = h0 a) → G mX11_orderOf (d + 3, 0, 0, Ls, sx) 15 [(0, vR x), (1, vI (i : Int)), (2, vJ (rd : Int)), (4, vI xk)] [] (0, 0, N) h (Pq mX11_orderOf 0 0 (fun r h2 => r = some (vJ ((lcmI Wf (fcs M).length : Nat) : Int)) ∧ MO N h2 x pr ts ∧ SCR N h2 x ∧ ∀ a, a ≠ x → (a < x + 10 ∨ x + 18 < a) → h2 a = h0 a)) := by
  intro f
  induction f with
  | zero =>
    intro k rd xk wd fm mu h hf ex er hx s10 s11 s12 s13 s14 hP2 hS2 hO2 hLx hk
    obtain ⟨L0, hL⟩ := hLx
    have hlen := (fcs_ok hM hM2).1
    have ek : k = (fcs M).length := by omega
    refine g_iload (pc := 15) (x := xk) dX11_orderOf_15 rfl ?_
    refine g_aload_n (pc := 17) (r := .inl (some x)) dX11_orderOf_17 rfl ?_
    refine g_getf (pc := 18) (v := vI ((fcs M).length : Int)) flX11_158 dX11_orderOf_18 hx rfl ?_
    refine g_icmp_geT (pc := 21) (tgt := 104) dX11_orderOf_21 (by decide) (by omega) (by omega) (by omega) ?_
    refine g_lload_n (pc := 104) (x := (rd : Int)) dX11_orderOf_104 rfl ?_
    rw [er, ek]
    exact r_long (pc := 105) dX11_orderOf_105 rfl rfl (Nat.le_refl _) ⟨rfl, ⟨th, wd, _, fm, mu, um, hx⟩, ⟨s10, s11, s12, s13, s14, ⟨_, hP2⟩, ⟨_, hS2⟩, ⟨_, hO2⟩, ⟨_, hL⟩⟩, hk⟩
  | succ f ih =>
    intro k rd xk wd fm mu h hf ex er hx s10 s11 s12 s13 s14 hP2 hS2 hO2 hLx hk
    obtain ⟨L0, hL⟩ := hLx
    have hlen := (fcs_ok hM hM2).1
    have hkl : k < (fcs M).length := by omega
    obtain ⟨b1, b2, b3, b4⟩ := (fcs_ok hM hM2).2.1 _ (pe_mem hkl)
    obtain ⟨f1, f2, f3⟩ := hfac k hkl
    obtain ⟨c1, c2⟩ := hlc k (by omega)
    obtain ⟨c3, c4⟩ := hlc (k + 1) (by omega)
    have hWk := hW k hkl
    have hqb : (pe M k).1 ^ (pe M k).2 ≤ 500 := Nat.le_trans (Nat.le_of_dvd (by omega) b4) hM2
    have hq2 : 2 ≤ (pe M k).1 ^ (pe M k).2 := by
      have := Nat.pow_le_pow_right (show 0 < (pe M k).1 by have := b1.1; omega) b3
      rw [Nat.pow_one] at this
      have := b1.1
      omega
    obtain ⟨q, eq⟩ : ∃ q, q = (pe M k).1 ^ (pe M k).2 := ⟨_, rfl⟩
    rw [← eq] at hWk hqb hq2 f2
    have hWEk := hWE k hkl
    have hEb : Lf (pe M k).1 4 * Nf (pe M k).1 4 * (pe M k).1 ^ ((pe M k).2 - 1) ≤ 8000000000000000000 := E_bd b1.1 (by omega) (by omega) (by rw [show (pe M k).2 - 1 + 1 = (pe M k).2 by omega, ← eq]; exact hqb)
    have hE1 : 1 ≤ Lf (pe M k).1 4 * Nf (pe M k).1 4 * (pe M k).1 ^ ((pe M k).2 - 1) := E_pos b1.1 (by omega) (by omega)
    have hWb := Nat.le_of_dvd hE1 hWEk
    subst ex
    refine g_iload (pc := 15) (x := (k : Int)) dX11_orderOf_15 rfl ?_
    refine g_aload_n (pc := 17) (r := .inl (some x)) dX11_orderOf_17 rfl ?_
    refine g_getf (pc := 18) (v := vI ((fcs M).length : Int)) flX11_158 dX11_orderOf_18 hx rfl ?_
    refine g_icmp_geF (pc := 21) (tgt := 104) dX11_orderOf_21 (by decide) (by omega) (by omega) (by omega) ?_
    refine g_aload_n (pc := 24) (r := .inl (some x)) dX11_orderOf_24 rfl ?_
    refine g_iload (pc := 25) (x := (k : Int)) dX11_orderOf_25 rfl ?_
    refine g_callV0 (pc := 27) (as := [vI (k : Int)]) (b := x) (st := []) lvX11_189 dX11_orderOf_27 hx (Nat.le_of_ble_eq_true rfl) (by omega) (Nat.zero_le _) (Nat.zero_le _) (c_makesMultiple (d := d + 1) (p := (pe M k).1) (o := (pe M k).2) (by omega) b1 b2 b3 (by rw [← eq]; exact hqb) f1 f3 hx hP2 hO2 hL) ?_
    rintro r g1 ⟨rfl, fl, L, p1, p2, p3, p4, p5, p6, p7⟩
    have hx1 : Hd (0, 0, N) g1 x (mdl x th wd ((fcs M).length : Int) (fl.length : Int) ((Lf (pe M k).1 4 * Nf (pe M k).1 4 * (pe M k).1 ^ ((pe M k).2 - 1) : Nat) : Int) um pr ts) := ⟨hx.1, p5⟩
    have k1 : ∀ a, a ≠ x → (a < x + 10 ∨ x + 18 < a) → g1 a = h0 a := fun a a1 a2 => (p7 a a1 (by omega)).trans (hk a a1 a2)
    obtain ⟨E, hE⟩ : ∃ E, E = Lf (pe M k).1 4 * Nf (pe M k).1 4 * (pe M k).1 ^ ((pe M k).2 - 1) := ⟨_, rfl⟩
    rw [← hE] at hx1 p2 hWEk hEb hE1 hWb
    refine g_aload_n (pc := 30) (r := .inl (some x)) dX11_orderOf_30 rfl ?_
    refine g_getf (pc := 31) (v := vJ (E : Int)) flX11_176 dX11_orderOf_31 hx1 rfl ?_
    refine g_lstore (pc := 34) (lo2 := [(0, vR x), (1, vI (i : Int)), (2, vJ (rd : Int)), (4, vI (k : Int)), (5, vJ (E : Int))]) dX11_orderOf_34 (by decide) rfl ?_
    refine g_iconst (pc := 36) dX11_orderOf_36 ?_
    refine g_istore (pc := 37) (lo2 := [(0, vR x), (1, vI (i : Int)), (2, vJ (rd : Int)), (4, vI (k : Int)), (5, vJ (E : Int)), (7, vI 0)]) dX11_orderOf_37 (by decide) rfl ?_
    refine ord_l1 (h0 := g1) (W := Wf k) (T := T) (L := L) (fl := fl) hn hi (by omega) hq2 hqb rT rM hz f2 h1 h2 hWk p4 p3 p1 (hZ0.keep (k1 _ (by omega) (by omega))) (hTb0.keep (k1 _ (by omega) (by omega))) (hMo0.keep (k1 _ (by omega) (by omega))) ⟨hL.1, p6⟩ (hS2.keep (p7 _ (by omega) (by omega))) (fun wd3 g3 x3 u10 u11 u12 k3 => ?_) fl.length 0 E _ _ g1 (by omega) rfl hE1 hEb hWEk (by rw [List.drop_zero, p2]; exact Nat.dvd_mul_left _ _) (by rw [List.drop_zero, p2]; exact Nat.dvd_refl _) hx1 (s10.keep (p7 _ (by omega) (by omega))) (s11.keep (p7 _ (by omega) (by omega))) (s12.keep (p7 _ (by omega) (by omega))) (fun _ _ _ _ _ => rfl)
    refine g_lload_n (pc := 91) (x := (rd : Int)) dX11_orderOf_91 rfl ?_
    refine g_lload (pc := 92) (x := ((Wf k : Nat) : Int)) dX11_orderOf_92 rfl ?_
    refine g_callS0 (pc := 94) (as := [vJ (rd : Int), vJ ((Wf k : Nat) : Int)]) (st := []) lsX11_199 dX11_orderOf_94 (Nat.le_of_ble_eq_true rfl) (by omega) (Nat.zero_le _) (Nat.zero_le _) (c_together (d := d + 1) (x := rd) (y := Wf k) (by omega) (by omega) (by omega)) ?_
    rintro r g4 ⟨e9, e8⟩
    subst e9
    subst e8
    rw [lcm_div_mul rd (Wf k) (by omega)]
    refine g_lstore_n (pc := 97) (lo2 := [(0, vR x), (1, vI (i : Int)), (2, vJ ((Nat.lcm rd (Wf k) : Nat) : Int)), (4, vI (k : Int)), (5, vJ ((Wf k : Nat) : Int))]) dX11_orderOf_97 (by decide) rfl ?_
    refine g_iinc (pc := 98) (x := (k : Int)) (lo2 := [(0, vR x), (1, vI (i : Int)), (2, vJ ((Nat.lcm rd (Wf k) : Nat) : Int)), (4, vI ((k : Int) + 1)), (5, vJ ((Wf k : Nat) : Int))]) dX11_orderOf_98 rfl (by decide) rfl ?_
    refine g_goto (pc := 101) (tgt := 15) dX11_orderOf_101 (by decide) ?_
    refine g_pick [0, 1, 2, 3] (lo2 := [(0, vR x), (1, vI (i : Int)), (2, vJ ((Nat.lcm rd (Wf k) : Nat) : Int)), (4, vI ((k : Int) + 1))]) rfl ?_
    exact ih (k + 1) (Nat.lcm rd (Wf k)) _ _ _ _ _ (by omega) (by omega) (by rw [er]; rfl) x3 u10 u11 u12 (s13.keep ((k3 (x + 13) (by omega) (by omega) (by omega) (by omega)).trans (p7 (x + 13) (by omega) (by omega)))) (s14.keep ((k3 (x + 14) (by omega) (by omega) (by omega) (by omega)).trans (p7 (x + 14) (by omega) (by omega)))) (hP2.keep ((k3 (x + 15) (by omega) (by omega) (by omega) (by omega)).trans (p7 (x + 15) (by omega) (by omega)))) (hS2.keep ((k3 (x + 16) (by omega) (by omega) (by omega) (by omega)).trans (p7 (x + 16) (by omega) (by omega)))) (hO2.keep ((k3 (x + 17) (by omega) (by omega) (by omega) (by omega)).trans (p7 (x + 17) (by omega) (by omega)))) ⟨L, hL.1, (k3 _ (by omega) (by omega) (by omega) (by omega)).trans p6⟩ (fun a a1 a2 => (k3 a a1 (by omega) (by omega) (by omega)).trans (k1 a a1 a2))

theorem c_orderOf {N d x i n M : Nat} {pr ts : Int} {T Y : Nat → Int} {Wf : Nat → Nat} {h : MH} (n1 : 1 ≤ n) (hn : n ≤ 4) (hM : 2 ≤ M) (hM2 : M ≤ 500) (hi : i < 6) (hW : ∀ k, k < (fcs M).length → isPer (mp (n + 1) ((pe M k).1 ^ (pe M k).2) (au n T)) 0 (Wf k)) (hWE : ∀ k, k < (fcs M).length → Wf k ∣ Lf (pe M k).1 4 * Nf (pe M k).1 4 * (pe M k).1 ^ ((pe M k).2 - 1)) (hlc : ∀ k, k ≤ (fcs M).length → 1 ≤ lcmI Wf k ∧ lcmI Wf k ≤ 8000000000000000000) (hx : MO N h x pr ts) (hr : MRw N h x i n M T Y) (hs : SCR N h x) : Ok mX11_orderOf (d + 3) 0 0 [vR x, vI (i : Int)] N h (fun r h2 => r = some (vJ ((lcmI Wf (fcs M).length : Nat) : Int)) ∧ MO N h2 x pr ts ∧ SCR N h2 x ∧ ∀ a, a ≠ x → (a < x + 10 ∨ x + 18 < a) → h2 a = h a) := by
  refine Ok.of pfX11_orderOf rfl (Nat.le_of_ble_eq_true rfl) (fun Ls sx => ?_)
  show G mX11_orderOf (d + 3, 0, 0, Ls, sx) 0 [(0, vR x), (1, vI (i : Int))] [] (0, 0, N) h _
  obtain ⟨th, wd, pm, fm, mu, um, hx⟩ := hx
  obtain ⟨Ms, Sz, Tb, Mo, Pl, m3, m4, m5, m6, m7, rT, rM, rP, hm, hz, h1, h2, h3⟩ := hr
  obtain ⟨s10, s11, s12, s13, s14, ⟨p15, s15⟩, ⟨p16, s16⟩, ⟨p17, s17⟩, p18, s18⟩ := hs
  refine g_aload_n (pc := 0) (r := .inl (some x)) dX11_orderOf_0 rfl ?_
  refine g_aload_n (pc := 1) (r := .inl (some x)) dX11_orderOf_1 rfl ?_
  refine g_getf (pc := 2) (v := vR (x + 3)) flX11_17 dX11_orderOf_2 hx rfl ?_
  refine g_iload_n (pc := 5) (x := (i : Int)) dX11_orderOf_5 rfl ?_
  refine g_ialdN (pc := 6) (j := i) dX11_orderOf_6 m3 (by omega) (by omega) (by omega) ?_
  rw [hm]
  refine g_callV0 (pc := 7) (as := [vI (M : Int)]) (b := x) (st := []) lvX11_164 dX11_orderOf_7 hx (Nat.le_of_ble_eq_true rfl) (by omega) (Nat.zero_le _) (Nat.zero_le _) (c_parts (d := d + 2) hM hM2 hx s15 s16 s17) ?_
  rintro r g1 ⟨rfl, o1, ⟨P2, S2, O2, e1, e2, e3, hfac⟩, k1⟩
  refine g_lconst1 (pc := 10) dX11_orderOf_10 ?_
  refine g_lstore_n (pc := 11) (lo2 := [(0, vR x), (1, vI (i : Int)), (2, vJ 1)]) dX11_orderOf_11 (by decide) rfl ?_
  refine g_iconst (pc := 12) dX11_orderOf_12 ?_
  refine g_istore (pc := 13) (lo2 := [(0, vR x), (1, vI (i : Int)), (2, vJ 1), (4, vI 0)]) dX11_orderOf_13 (by decide) rfl ?_
  refine Q_mono (ord_l2 (h0 := g1) (T := T) (Wf := Wf) n1 hn hM hM2 hi rT rM hz h1 h2 hW hWE hlc hfac (m4.keep (k1 _ (by omega) (by omega) (by omega) (by omega))) (m5.keep (k1 _ (by omega) (by omega) (by omega) (by omega))) (m6.keep (k1 _ (by omega) (by omega) (by omega) (by omega))) (fcs M).length 0 1 _ _ _ _ g1 (by omega) rfl rfl ⟨hx.1, o1⟩ (s10.keep (k1 _ (by omega) (by omega) (by omega) (by omega))) (s11.keep (k1 _ (by omega) (by omega) (by omega) (by omega))) (s12.keep (k1 _ (by omega) (by omega) (by omega) (by omega))) (s13.keep (k1 _ (by omega) (by omega) (by omega) (by omega))) (s14.keep (k1 _ (by omega) (by omega) (by omega) (by omega))) ⟨s15.1, e1⟩ ⟨s16.1, e2⟩ ⟨s17.1, e3⟩ ⟨_, s18.keep (k1 _ (by omega) (by omega) (by omega) (by omega))⟩ (fun _ _ _ => rfl)) ?_
  rintro r g2 ⟨f1, f2, f3, f4⟩
  exact ⟨f1, f2, f3, fun a a1 a2 => (f4 a a1 a2).trans (k1 a a1 (by omega) (by omega) (by omega))⟩
