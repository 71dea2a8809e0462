/-! ===== the reference: the loops of seen and move; Rounds.turnsToLookAlike ===== -/
theorem see_i {N d x i M W D Ls : Nat} {th wd pm fm mu um pr ts : Int} {sx T Pi Pw : Nat → Int} {P : Nat → Nat → Int} {h0 : MH} {y : Nat} (hM : 2 ≤ M) (hM2 : M ≤ 64) (hi : i < 6) (hW : isPer (mp 3 M (au 2 T)) 0 W) (hD : isPer (pcs M T P) 0 D) (hDb : D ≤ 8000000000000000000) (hP : ∀ x y, 0 ≤ P x y ∧ P x y ≤ 255) (hK : ∀ x y, x < M → y < M → Pi (4096 * i + (64 * y + x)) = sb (P x y)) (hx0 : Hd (0, 0, N) h0 x (mdl x th wd pm fm mu um pr ts)) (hPw0 : Hd (0, 0, N) h0 (x + 11) (eA 0 25 Pw)) (rPw : rng Pw) (ecw : cw 3 Pw = stB M T 1) (hPi0 : Hd (0, 0, N) h0 (x + 8) (eA 1 24576 Pi)) (hy : y < M) (hK2 : ∀ (al : Nat) (Sn Cy : Nat → Int) (h : MH), SNv M T (fun c => Pi (4096 * i + c)) Sn al → (∀ x0 y0, x0 < M → y0 < M → (y0 < (y + 1) ∨ (y0 = (y + 1) ∧ x0 < 0)) → Sn (64 * y0 + x0) = 1) → Hd (0, 0, N) h (x + 24) (eA 0 4096 Cy) → Hd (0, 0, N) h (x + 25) (eA 2 4096 Sn) → Sc N h (x + 13) 4 → Sc N h (x + 14) 4 → (∀ a, a ≠ x + 13 → a ≠ x + 14 → a ≠ x + 24 → a ≠ x + 25 → h a = h0 a) → G mX11_seen (d + 3, 0, 0, Ls, sx) 120 [(0, vR x), (1, vI (i : Int)), (2, vI (M : Int)), (3, vJ (al : Int)), (5, vI (y : Int))] [] (0, 0, N) h (Pq mX11_seen 0 0 (fun r h2 => r = some (vJ (D : Int)) ∧ Sc N h2 (x + 13) 4 ∧ Sc N h2 (x + 14) 4 ∧ (∃ Cy2, Hd (0, 0, N) h2 (x + 24) (eA 0 4096 Cy2)) ∧ (∃ Sn2, Hd (0, 0, N) h2 (x + 25) (eA 2 4096 Sn2)) ∧ (∀ a, a ≠ x + 13 → a ≠ x + 14 → a ≠ x + 24 → a ≠ x + 25 → h2 a = h0 a)))) : ∀ (f u al : Nat) (xx : Int) (Sn Cy : Nat → Int) (h : MH), u + f = M → xx = (u : Int) → SNv M T (fun c => Pi (4096 * i + c)) Sn al → (∀ x0 y0, x0 < M → y0 < M → (y0 < y ∨ (y0 = y ∧ x0 < u)) → Sn (64 * y0 + x0) = 1) → Hd (0, 0, N) h (x + 24) (eA 0 4096 Cy) → Hd (0, 0, N) h (x + 25) (eA 2 4096 Sn) → Sc N h (x + 13) 4 → Sc N h (x + 14) 4 → (∀ a, a ≠ x + 13 → a ≠ x + 14 → a ≠ x + 24 → a ≠ x + 25 → h a = h0 a) → G mX11_seen (d + 3, 0, 0, Ls, sx) 75 [(0, vR x), (1, vI (i : Int)), (2, vI (M : Int)), (3, vJ (al : Int)), (5, vI (y : Int)), (6, vI xx)] [] (0, 0, N) h (Pq mX11_seen 0 0 (fun r h2 => r = some (vJ (D : Int)) ∧ Sc N h2 (x + 13) 4 ∧ Sc N h2 (x + 14) 4 ∧ (∃ Cy2, Hd (0, 0, N) h2 (x + 24) (eA 0 4096 Cy2)) ∧ (∃ Sn2, Hd (0, 0, N) h2 (x + 25) (eA 2 4096 Sn2)) ∧ (∀ a, a ≠ x + 13 → a ≠ x + 14 → a ≠ x + 24 → a ≠ x + 25 → h2 a = h0 a))) := by
  intro f
  induction f with
  | zero =>
    intro u al xx Sn Cy h hf ex sn dn hCy hSn s13 s14 hk
    have hx := hx0.keep (hk x (by omega) (by omega) (by omega) (by omega))
    refine g_iload (pc := 75) (x := xx) dX11_seen_75 rfl ?_
    refine g_iload_n (pc := 77) (x := (M : Int)) dX11_seen_77 rfl ?_
    refine g_icmp_geT (pc := 78) (tgt := 120) dX11_seen_78 (by decide) (by omega) (by omega) (by omega) ?_
    refine g_pick [0, 1, 2, 3, 4] (lo2 := [(0, vR x), (1, vI (i : Int)), (2, vI (M : Int)), (3, vJ (al : Int)), (5, vI (y : Int))]) rfl ?_
    exact hK2 al Sn Cy h sn (fun x0 y0 q1 q2 q3 => dn x0 y0 q1 q2 (by omega)) hCy hSn s13 s14 hk
  | succ f ih =>
    intro u al xx Sn Cy h hf ex sn dn hCy hSn s13 s14 hk
    have hx := hx0.keep (hk x (by omega) (by omega) (by omega) (by omega))
    subst ex
    obtain ⟨hin, -, -⟩ := inP_of hM2 (show u < M by omega) hy
    have hal := Nat.le_of_dvd (by have := hD.1; omega) (SNv_dvd hM hM2 hP hK hD sn)
    have al1 := sn.2.2.1
    have hcl := inP_lt hM2 hin
    obtain ⟨c, ec⟩ : ∃ c, c = 64 * y + u := ⟨_, rfl⟩
    rw [← ec] at hin hcl
    refine g_iload (pc := 75) (x := (u : Int)) dX11_seen_75 rfl ?_
    refine g_iload_n (pc := 77) (x := (M : Int)) dX11_seen_77 rfl ?_
    refine g_icmp_geF (pc := 78) (tgt := 120) dX11_seen_78 (by decide) (by omega) (by omega) (by omega) ?_
    refine g_aload_n (pc := 81) (r := .inl (some x)) dX11_seen_81 rfl ?_
    refine g_bipush (pc := 82) dX11_seen_82 (by decide +kernel) ?_
    refine g_iload (pc := 84) (x := (y : Int)) dX11_seen_84 rfl ?_
    refine g_imul (pc := 86) dX11_seen_86 ?_
    refine g_iload (pc := 87) (x := (u : Int)) dX11_seen_87 rfl ?_
    refine g_iadd (pc := 89) dX11_seen_89 ?_
    refine g_iload_n (pc := 90) (x := (M : Int)) dX11_seen_90 rfl ?_
    rw [show 64 * (y : Int) + (u : Int) = (c : Int) by omega]
    rcases sn.1 c hin with c0 | c1
    · obtain ⟨n, hn⟩ := wy_ex hM hM2 hW c
      obtain ⟨e, he, hen⟩ := clr_ex (K := (fun c => Pi (4096 * i + c))) hM hM2 hn
      have n4 : n ≤ 4096 := per_le (wy_det hM hM2) hn (fun k => inP_lt hM2 (wy_in hM hM2 k))
      have n1 := hn.1
      have e1 := he.1
      have hel := Nat.le_of_dvd (by omega) hen
      refine g_callV0 (pc := 91) (as := [vI (c : Int), vI (M : Int)]) (b := x) (st := []) lvX11_258 dX11_seen_91 hx (Nat.le_of_ble_eq_true rfl) (by omega) (Nat.zero_le _) (Nat.zero_le _) (c_cycleFrom (d := d) hin hM hM2 hn (fun k => (SNv_way hM hM2 sn hin k).trans c0) hx (hPw0.keep (hk _ (by omega) (by omega) (by omega) (by omega))) rPw ecw hCy hSn s13 s14) ?_
      rintro r h1 ⟨e9, t13, t14, ⟨Cy2, hC2, eC2⟩, ⟨Sn2, hS2, eS1, eS2⟩, k1⟩
      subst e9
      have hx1 := hx.keep (k1 x (by omega) (by omega) (by omega) (by omega))
      have hPi1 := (hPi0.keep (hk _ (by omega) (by omega) (by omega) (by omega))).keep (k1 _ (by omega) (by omega) (by omega) (by omega))
      refine g_istore (pc := 94) (lo2 := [(0, vR x), (1, vI (i : Int)), (2, vI (M : Int)), (3, vJ (al : Int)), (5, vI (y : Int)), (6, vI (u : Int)), (7, vI (n : Int))]) dX11_seen_94 (by decide) rfl ?_
      refine g_iload (pc := 96) (x := (n : Int)) dX11_seen_96 rfl ?_
      refine g_if_leF (pc := 98) (tgt := 114) dX11_seen_98 (by decide) (by omega) (by omega) ?_
      refine g_lload_n (pc := 101) (x := (al : Int)) dX11_seen_101 rfl ?_
      refine g_aload_n (pc := 102) (r := .inl (some x)) dX11_seen_102 rfl ?_
      refine g_iload_n (pc := 103) (x := (i : Int)) dX11_seen_103 rfl ?_
      refine g_iload (pc := 104) (x := (n : Int)) dX11_seen_104 rfl ?_
      have hKb : ∀ k, k < n → i32 (Pi (4096 * i + wy M T c k)) := fun k _ => by
        have hw := wy_in (T := T) (c := c) hM hM2 k
        have := sb_bd (hP (wy M T c k % 64) (wy M T c k / 64))
        rw [← hK _ _ hw.1 hw.2, show 64 * (wy M T c k / 64) + wy M T c k % 64 = wy M T c k by omega] at this
        omega
      refine g_callV0 (pc := 106) (as := [vI (i : Int), vI (n : Int)]) (b := x) (st := [vJ (al : Int)]) lvX11_261 dX11_seen_106 hx1 (Nat.le_of_ble_eq_true rfl) (by omega) (Nat.zero_le _) (Nat.zero_le _) (c_periodOf (d := d + 1) (e := e) (zc := wy M T c) hi n1 n4 (fun k hk2 => ⟨eC2 k hk2, inP_lt hM2 (wy_in hM hM2 k)⟩) hKb hx1 hPi1 hC2 e1 hen (fun q _ _ => rep_iff hM hM2 hn he q)) ?_
      rintro r h2 ⟨e9, e8⟩
      subst e9
      subst e8
      refine g_i2l (pc := 109) dX11_seen_109 (by omega) ?_
      refine g_callS0 (pc := 110) (as := [vJ (al : Int), vJ (e : Int)]) (st := []) lsX11_199 dX11_seen_110 (Nat.le_of_ble_eq_true rfl) (by omega) (Nat.zero_le _) (Nat.zero_le _) (c_together (d := d + 1) (x := al) (y := e) (by omega) (by omega) (by omega)) ?_
      rintro r h3 ⟨e9, e8⟩
      subst e9
      subst e8
      rw [lcm_div_mul al e (by omega)]
      refine g_lstore_n (pc := 113) (lo2 := [(0, vR x), (1, vI (i : Int)), (2, vI (M : Int)), (3, vJ ((Nat.lcm al e : Nat) : Int)), (5, vI (y : Int)), (6, vI (u : Int)), (7, vI (n : Int))]) dX11_seen_113 (by decide) rfl ?_
      refine g_iinc (pc := 114) (x := (u : Int)) (lo2 := [(0, vR x), (1, vI (i : Int)), (2, vI (M : Int)), (3, vJ ((Nat.lcm al e : Nat) : Int)), (5, vI (y : Int)), (6, vI ((u : Int) + 1)), (7, vI (n : Int))]) dX11_seen_114 rfl (by decide) rfl ?_
      refine g_goto (pc := 117) (tgt := 75) dX11_seen_117 (by decide) ?_
      refine g_pick [0, 1, 2, 3, 4, 5] (lo2 := [(0, vR x), (1, vI (i : Int)), (2, vI (M : Int)), (3, vJ ((Nat.lcm al e : Nat) : Int)), (5, vI (y : Int)), (6, vI ((u : Int) + 1))]) rfl ?_
      obtain ⟨sn2, mono⟩ := SNv_step hM hM2 hW sn hin c0 hn he eS1 eS2
      refine ih (u + 1) (Nat.lcm al e) _ Sn2 Cy2 h3 (by omega) (by omega) sn2 (fun x0 y0 q1 q2 q3 => ?_) hC2 hS2 t13 t14 (fun a z1 z2 z3 z4 => (k1 a z1 z2 z3 z4).trans (hk a z1 z2 z3 z4))
      by_cases eq : 64 * y0 + x0 = c
      · rw [eq, ← wy_0 (T := T) hM hin]
        exact eS1 0 (by omega)
      · exact mono _ (dn x0 y0 q1 q2 (by omega))
    · refine g_callV0 (pc := 91) (as := [vI (c : Int), vI (M : Int)]) (b := x) (st := []) lvX11_258 dX11_seen_91 hx (Nat.le_of_ble_eq_true rfl) (by omega) (Nat.zero_le _) (Nat.zero_le _) (c_cycleNo (d := d) hcl c1 hx hSn) ?_
      rintro r h1 ⟨e9, e8⟩
      subst e9
      subst e8
      refine g_istore (pc := 94) (lo2 := [(0, vR x), (1, vI (i : Int)), (2, vI (M : Int)), (3, vJ (al : Int)), (5, vI (y : Int)), (6, vI (u : Int)), (7, vI 0)]) dX11_seen_94 (by decide) rfl ?_
      refine g_iload (pc := 96) (x := 0) dX11_seen_96 rfl ?_
      refine g_if_leT (pc := 98) (tgt := 114) dX11_seen_98 (by decide) (by omega) (by omega) ?_
      refine g_iinc (pc := 114) (x := (u : Int)) (lo2 := [(0, vR x), (1, vI (i : Int)), (2, vI (M : Int)), (3, vJ (al : Int)), (5, vI (y : Int)), (6, vI ((u : Int) + 1)), (7, vI 0)]) dX11_seen_114 rfl (by decide) rfl ?_
      refine g_goto (pc := 117) (tgt := 75) dX11_seen_117 (by decide) ?_
      refine g_pick [0, 1, 2, 3, 4, 5] (lo2 := [(0, vR x), (1, vI (i : Int)), (2, vI (M : Int)), (3, vJ (al : Int)), (5, vI (y : Int)), (6, vI ((u : Int) + 1))]) rfl ?_
      refine ih (u + 1) al _ Sn Cy h1 (by omega) (by omega) sn (fun x0 y0 q1 q2 q3 => ?_) hCy hSn s13 s14 hk
      by_cases eq : 64 * y0 + x0 = c
      · rw [eq]
        exact c1
      · exact dn x0 y0 q1 q2 (by omega)

theorem see_o {N d x i M W D Ls : Nat} {th wd pm fm mu um pr ts : Int} {sx T Pi Pw : Nat → Int} {P : Nat → Nat → Int} {h0 : MH} (hM : 2 ≤ M) (hM2 : M ≤ 64) (hi : i < 6) (hW : isPer (mp 3 M (au 2 T)) 0 W) (hD : isPer (pcs M T P) 0 D) (hDb : D ≤ 8000000000000000000) (hP : ∀ x y, 0 ≤ P x y ∧ P x y ≤ 255) (hK : ∀ x y, x < M → y < M → Pi (4096 * i + (64 * y + x)) = sb (P x y)) (hx0 : Hd (0, 0, N) h0 x (mdl x th wd pm fm mu um pr ts)) (hPw0 : Hd (0, 0, N) h0 (x + 11) (eA 0 25 Pw)) (rPw : rng Pw) (ecw : cw 3 Pw = stB M T 1) (hPi0 : Hd (0, 0, N) h0 (x + 8) (eA 1 24576 Pi)) : ∀ (f y al : Nat) (xy : Int) (Sn Cy : Nat → Int) (h : MH), y + f = M → xy = (y : Int) → SNv M T (fun c => Pi (4096 * i + c)) Sn al → (∀ x0 y0, x0 < M → y0 < M → (y0 < y ∨ (y0 = y ∧ x0 < 0)) → Sn (64 * y0 + x0) = 1) → Hd (0, 0, N) h (x + 24) (eA 0 4096 Cy) → Hd (0, 0, N) h (x + 25) (eA 2 4096 Sn) → Sc N h (x + 13) 4 → Sc N h (x + 14) 4 → (∀ a, a ≠ x + 13 → a ≠ x + 14 → a ≠ x + 24 → a ≠ x + 25 → h a = h0 a) → G mX11_seen (d + 3, 0, 0, Ls, sx) 66 [(0, vR x), (1, vI (i : Int)), (2, vI (M : Int)), (3, vJ (al : Int)), (5, vI xy)] [] (0, 0, N) h (Pq mX11_seen 0 0 (fun r h2 => r = some (vJ (D : Int)) ∧ Sc N h2 (x + 13) 4 ∧ Sc N h2 (x + 14) 4 ∧ (∃ Cy2, Hd (0, 0, N) h2 (x + 24) (eA 0 4096 Cy2)) ∧ (∃ Sn2, Hd (0, 0, N) h2 (x + 25) (eA 2 4096 Sn2)) ∧ (∀ a, a ≠ x + 13 → a ≠ x + 14 → a ≠ x + 24 → a ≠ x + 25 → h2 a = h0 a))) := by
  intro f
  induction f with
  | zero =>
    intro y al xy Sn Cy h hf ex sn dn hCy hSn s13 s14 hk
    refine g_iload (pc := 66) (x := xy) dX11_seen_66 rfl ?_
    refine g_iload_n (pc := 68) (x := (M : Int)) dX11_seen_68 rfl ?_
    refine g_icmp_geT (pc := 69) (tgt := 126) dX11_seen_69 (by decide) (by omega) (by omega) (by omega) ?_
    refine g_lload_n (pc := 126) (x := (al : Int)) dX11_seen_126 rfl ?_
    have eD := SNv_end hM hM2 hP hK hD sn (fun x0 y0 q1 q2 => dn x0 y0 q1 q2 (by omega))
    rw [eD]
    exact r_long (pc := 127) dX11_seen_127 rfl rfl (Nat.le_refl _) ⟨rfl, s13, s14, ⟨Cy, hCy⟩, ⟨Sn, hSn⟩, hk⟩
  | succ f ih =>
    intro y al xy Sn Cy h hf ex sn dn hCy hSn s13 s14 hk
    subst ex
    refine g_iload (pc := 66) (x := (y : Int)) dX11_seen_66 rfl ?_
    refine g_iload_n (pc := 68) (x := (M : Int)) dX11_seen_68 rfl ?_
    refine g_icmp_geF (pc := 69) (tgt := 126) dX11_seen_69 (by decide) (by omega) (by omega) (by omega) ?_
    refine g_iconst (pc := 72) dX11_seen_72 ?_
    refine g_istore (pc := 73) (lo2 := [(0, vR x), (1, vI (i : Int)), (2, vI (M : Int)), (3, vJ (al : Int)), (5, vI (y : Int)), (6, vI 0)]) dX11_seen_73 (by decide) rfl ?_
    refine see_i hM hM2 hi hW hD hDb hP hK hx0 hPw0 rPw ecw hPi0 (by omega) (fun al2 Sn2 Cy2 h2 sn2 dn2 c2 n2 t13 t14 k2 => ?_) M 0 al _ Sn Cy h (by omega) rfl sn dn hCy hSn s13 s14 hk
    refine g_iinc (pc := 120) (x := (y : Int)) (lo2 := [(0, vR x), (1, vI (i : Int)), (2, vI (M : Int)), (3, vJ (al2 : Int)), (5, vI ((y : Int) + 1))]) dX11_seen_120 rfl (by decide) rfl ?_
    refine g_goto (pc := 123) (tgt := 66) dX11_seen_123 (by decide) ?_
    exact ih (y + 1) al2 _ Sn2 Cy2 h2 (by omega) (by omega) sn2 dn2 c2 n2 t13 t14 k2

theorem see_r {N d x i M W D Ls : Nat} {th wd pm fm mu um pr ts : Int} {sx T Pi Pw : Nat → Int} {P : Nat → Nat → Int} {h0 : MH} (hM : 2 ≤ M) (hM2 : M ≤ 64) (hi : i < 6) (hW : isPer (mp 3 M (au 2 T)) 0 W) (hD : isPer (pcs M T P) 0 D) (hDb : D ≤ 8000000000000000000) (hP : ∀ x y, 0 ≤ P x y ∧ P x y ≤ 255) (hK : ∀ x y, x < M → y < M → Pi (4096 * i + (64 * y + x)) = sb (P x y)) (hx0 : Hd (0, 0, N) h0 x (mdl x th wd pm fm mu um pr ts)) (hPw0 : Hd (0, 0, N) h0 (x + 11) (eA 0 25 Pw)) (rPw : rng Pw) (ecw : cw 3 Pw = stB M T 1) (hPi0 : Hd (0, 0, N) h0 (x + 8) (eA 1 24576 Pi)) : ∀ (f k : Nat) (xk : Int) (Sn Cy : Nat → Int) (h : MH), k + f = 4096 → xk = (k : Int) → (∀ j, j < k → Sn j = 0) → Hd (0, 0, N) h (x + 24) (eA 0 4096 Cy) → Hd (0, 0, N) h (x + 25) (eA 2 4096 Sn) → Sc N h (x + 13) 4 → Sc N h (x + 14) 4 → (∀ a, a ≠ x + 13 → a ≠ x + 14 → a ≠ x + 24 → a ≠ x + 25 → h a = h0 a) → G mX11_seen (d + 3, 0, 0, Ls, sx) 41 [(0, vR x), (1, vI (i : Int)), (2, vI (M : Int)), (3, vI xk)] [] (0, 0, N) h (Pq mX11_seen 0 0 (fun r h2 => r = some (vJ (D : Int)) ∧ Sc N h2 (x + 13) 4 ∧ Sc N h2 (x + 14) 4 ∧ (∃ Cy2, Hd (0, 0, N) h2 (x + 24) (eA 0 4096 Cy2)) ∧ (∃ Sn2, Hd (0, 0, N) h2 (x + 25) (eA 2 4096 Sn2)) ∧ (∀ a, a ≠ x + 13 → a ≠ x + 14 → a ≠ x + 24 → a ≠ x + 25 → h2 a = h0 a))) := by
  intro f
  induction f with
  | zero =>
    intro k xk Sn Cy h hf ex sz hCy hSn s13 s14 hk
    have hx := hx0.keep (hk x (by omega) (by omega) (by omega) (by omega))
    refine g_iload_n (pc := 41) (x := xk) dX11_seen_41 rfl ?_
    refine g_sipush (pc := 42) dX11_seen_42 (by decide +kernel) ?_
    refine g_icmp_geT (pc := 45) (tgt := 61) dX11_seen_45 (by decide) (by omega) (by omega) (by omega) ?_
    refine g_lconst1 (pc := 61) dX11_seen_61 ?_
    refine g_lstore_n (pc := 62) (lo2 := [(0, vR x), (1, vI (i : Int)), (2, vI (M : Int)), (3, vJ 1)]) dX11_seen_62 (by decide) rfl ?_
    refine g_iconst (pc := 63) dX11_seen_63 ?_
    refine g_istore (pc := 64) (lo2 := [(0, vR x), (1, vI (i : Int)), (2, vI (M : Int)), (3, vJ 1), (5, vI 0)]) dX11_seen_64 (by decide) rfl ?_
    exact see_o hM hM2 hi hW hD hDb hP hK hx0 hPw0 rPw ecw hPi0 M 0 1 _ Sn Cy h (by omega) rfl (SNv_zero (fun c hc => sz c (by omega)) hM hM2) (fun x0 y0 _ _ q => by omega) hCy hSn s13 s14 hk
  | succ f ih =>
    intro k xk Sn Cy h hf ex sz hCy hSn s13 s14 hk
    have hx := hx0.keep (hk x (by omega) (by omega) (by omega) (by omega))
    refine g_iload_n (pc := 41) (x := xk) dX11_seen_41 rfl ?_
    refine g_sipush (pc := 42) dX11_seen_42 (by decide +kernel) ?_
    refine g_icmp_geF (pc := 45) (tgt := 61) dX11_seen_45 (by decide) (by omega) (by omega) (by omega) ?_
    refine g_aload_n (pc := 48) (r := .inl (some x)) dX11_seen_48 rfl ?_
    refine g_getf (pc := 49) (v := vR (x + 25)) flX11_85 dX11_seen_49 hx rfl ?_
    refine g_iload_n (pc := 52) (x := xk) dX11_seen_52 rfl ?_
    refine g_iconst (pc := 53) dX11_seen_53 ?_
    refine g_zastN (pc := 54) (j := k) dX11_seen_54 hSn (by omega) (by omega) (by omega) (by omega) ?_
    have hx_1 := hx.ne (e := eA 2 4096 (va_up Sn k 0)) (a := x + 25) (by omega)
    have hSn_1 := hSn.self (e := eA 2 4096 (va_up Sn k 0))
    refine g_iinc (pc := 55) (x := xk) (lo2 := [(0, vR x), (1, vI (i : Int)), (2, vI (M : Int)), (3, vI (xk + 1))]) dX11_seen_55 rfl (by decide) rfl ?_
    refine g_goto (pc := 58) (tgt := 41) dX11_seen_58 (by decide) ?_
    refine ih (k + 1) _ _ Cy _ (by omega) (by omega) (fun j q => ?_) (hCy.ne (by omega)) hSn_1 (s13.keep (va_up_ne _ _ (by omega))) (s14.keep (va_up_ne _ _ (by omega))) (fun a z1 z2 z3 z4 => (va_up_ne _ _ z4).trans (hk a z1 z2 z3 z4))
    by_cases ej : j = k
    · rw [ej, va_up_self]
    · rw [va_up_ne _ _ ej]
      exact sz j (by omega)

theorem mmv_4 {N d x i M Ls : Nat} {tt : Int} {th wd pm fm mu um pr ts : Int} {sx Pi A : Nat → Int} {P P2 : Nat → Nat → Int} {h0 : MH} {y : Nat} {mv9 : Nat → Int} (hM : 2 ≤ M) (hM2 : M ≤ 64) (hi : i < 6) (hP : ∀ x y, 0 ≤ P2 x y ∧ P2 x y ≤ 255) (hP2 : ∀ x y, x < M → y < M → P2 (pX M A x y) (pY M A x y) = P x y) (hsu : ∀ x y, x < M → y < M → ∃ x0 y0, x0 < M ∧ y0 < M ∧ pX M A x0 y0 = x ∧ pY M A x0 y0 = y) (hK : ∀ x y, x < M → y < M → Pi (4096 * i + 64 * y + x) = sb (P x y)) (hx0 : Hd (0, 0, N) h0 x (mdl x th wd pm fm mu um pr ts)) (hmd : (∀ x0 y0, x0 < M → y0 < M → mv9 (64 * y0 + x0) = sb (P2 x0 y0))) (hy : y < M) (hK2 : ∀ (Pj : Nat → Int) (h : MH), Hd (0, 0, N) h (x + 8) (eA 1 24576 Pj) → Hd (0, 0, N) h (x + 9) (eA 1 4096 mv9) → Sc N h (x + 13) 4 → Sc N h (x + 14) 4 → (∀ x0 y0, x0 < M → y0 < M → (y0 < (y + 1) ∨ (y0 = (y + 1) ∧ x0 < 0)) → Pj (4096 * i + 64 * y0 + x0) = sb (P2 x0 y0)) → (∀ k, (k < 4096 * i ∨ 4096 * i + 4096 ≤ k) → Pj k = Pi k) → (∀ a, a ≠ x + 8 → a ≠ x + 9 → a ≠ x + 13 → a ≠ x + 14 → h a = h0 a) → G mX11_move (d + 2, 0, 0, Ls, sx) 169 [(0, vR x), (1, vI (i : Int)), (2, vJ tt), (4, vI (M : Int)), (5, vI (y : Int))] [] (0, 0, N) h (Pq mX11_move 0 0 (fun r h2 => r = some (vI 1) ∧ Sc N h2 (x + 13) 4 ∧ Sc N h2 (x + 14) 4 ∧ (∃ mv2, Hd (0, 0, N) h2 (x + 9) (eA 1 4096 mv2)) ∧ (∃ Pi2, Hd (0, 0, N) h2 (x + 8) (eA 1 24576 Pi2) ∧ (∀ x y, x < M → y < M → Pi2 (4096 * i + 64 * y + x) = sb (P2 x y)) ∧ ∀ k, (k < 4096 * i ∨ 4096 * i + 4096 ≤ k) → Pi2 k = Pi k) ∧ (∀ a, a ≠ x + 8 → a ≠ x + 9 → a ≠ x + 13 → a ≠ x + 14 → h2 a = h0 a)))) : ∀ (f u : Nat) (xu : Int) (Pj : Nat → Int) (h : MH), u + f = M → xu = (u : Int) → Hd (0, 0, N) h (x + 8) (eA 1 24576 Pj) → Hd (0, 0, N) h (x + 9) (eA 1 4096 mv9) → Sc N h (x + 13) 4 → Sc N h (x + 14) 4 → (∀ x0 y0, x0 < M → y0 < M → (y0 < y ∨ (y0 = y ∧ x0 < u)) → Pj (4096 * i + 64 * y0 + x0) = sb (P2 x0 y0)) → (∀ k, (k < 4096 * i ∨ 4096 * i + 4096 ≤ k) → Pj k = Pi k) → (∀ a, a ≠ x + 8 → a ≠ x + 9 → a ≠ x + 13 → a ≠ x + 14 → h a = h0 a) → G mX11_move (d + 2, 0, 0, Ls, sx) 124 [(0, vR x), (1, vI (i : Int)), (2, vJ tt), (4, vI (M : Int)), (5, vI (y : Int)), (6, vI xu)] [] (0, 0, N) h (Pq mX11_move 0 0 (fun r h2 => r = some (vI 1) ∧ Sc N h2 (x + 13) 4 ∧ Sc N h2 (x + 14) 4 ∧ (∃ mv2, Hd (0, 0, N) h2 (x + 9) (eA 1 4096 mv2)) ∧ (∃ Pi2, Hd (0, 0, N) h2 (x + 8) (eA 1 24576 Pi2) ∧ (∀ x y, x < M → y < M → Pi2 (4096 * i + 64 * y + x) = sb (P2 x y)) ∧ ∀ k, (k < 4096 * i ∨ 4096 * i + 4096 ≤ k) → Pi2 k = Pi k) ∧ (∀ a, a ≠ x + 8 → a ≠ x + 9 → a ≠ x + 13 → a ≠ x + 14 → h2 a = h0 a))) := by
  intro f
  induction f with
  | zero =>
    intro u xu Pj h hf ex hPj hmv s13 s14 iv ou hk
    have hx := hx0.keep (hk x (by omega) (by omega) (by omega) (by omega))
    refine g_iload (pc := 124) (x := xu) dX11_move_124 rfl ?_
    refine g_iload (pc := 126) (x := (M : Int)) dX11_move_126 rfl ?_
    refine g_icmp_geT (pc := 128) (tgt := 169) dX11_move_128 (by decide) (by omega) (by omega) (by omega) ?_
    refine g_pick [0, 1, 2, 3, 4] (lo2 := [(0, vR x), (1, vI (i : Int)), (2, vJ tt), (4, vI (M : Int)), (5, vI (y : Int))]) rfl ?_
    exact hK2 Pj h hPj hmv s13 s14 (fun x0 y0 q1 q2 q3 => iv x0 y0 q1 q2 (by omega)) ou hk
  | succ f ih =>
    intro u xu Pj h hf ex hPj hmv s13 s14 iv ou hk
    have hx := hx0.keep (hk x (by omega) (by omega) (by omega) (by omega))
    subst ex
    refine g_iload (pc := 124) (x := (u : Int)) dX11_move_124 rfl ?_
    refine g_iload (pc := 126) (x := (M : Int)) dX11_move_126 rfl ?_
    refine g_icmp_geF (pc := 128) (tgt := 169) dX11_move_128 (by decide) (by omega) (by omega) (by omega) ?_
    refine g_aload_n (pc := 131) (r := .inl (some x)) dX11_move_131 rfl ?_
    refine g_getf (pc := 132) (v := vR (x + 8)) flX11_32 dX11_move_132 hx rfl ?_
    refine g_sipush (pc := 135) dX11_move_135 (by decide +kernel) ?_
    refine g_iload_n (pc := 138) (x := (i : Int)) dX11_move_138 rfl ?_
    refine g_imul (pc := 139) dX11_move_139 ?_
    refine g_bipush (pc := 140) dX11_move_140 (by decide +kernel) ?_
    refine g_iload (pc := 142) (x := (y : Int)) dX11_move_142 rfl ?_
    refine g_imul (pc := 144) dX11_move_144 ?_
    refine g_iadd (pc := 145) dX11_move_145 ?_
    refine g_iload (pc := 146) (x := (u : Int)) dX11_move_146 rfl ?_
    refine g_iadd (pc := 148) dX11_move_148 ?_
    refine g_aload_n (pc := 149) (r := .inl (some x)) dX11_move_149 rfl ?_
    refine g_getf (pc := 150) (v := vR (x + 9)) flX11_36 dX11_move_150 hx rfl ?_
    refine g_bipush (pc := 153) dX11_move_153 (by decide +kernel) ?_
    refine g_iload (pc := 155) (x := (y : Int)) dX11_move_155 rfl ?_
    refine g_imul (pc := 157) dX11_move_157 ?_
    refine g_iload (pc := 158) (x := (u : Int)) dX11_move_158 rfl ?_
    refine g_iadd (pc := 160) dX11_move_160 ?_
    refine g_baldN (pc := 161) (j := (64 * y) + u) dX11_move_161 hmv (by omega) (by omega) (by omega) ?_
    rw [hmd u y (by omega) hy]
    refine g_bastN (pc := 162) (j := ((4096 * i) + (64 * y)) + u) dX11_move_162 hPj (by omega) (by omega) (by omega) ?_
    have hx_1 := hx.ne (e := eA 1 24576 (va_up Pj (((4096 * i) + (64 * y)) + u) ((Int32.ofInt (sb (P2 u y))).toInt8.toInt32.toInt))) (a := x + 8) (by omega)
    have hPj_1 := hPj.self (e := eA 1 24576 (va_up Pj (((4096 * i) + (64 * y)) + u) ((Int32.ofInt (sb (P2 u y))).toInt8.toInt32.toInt)))
    have hmv_1 := hmv.ne (e := eA 1 24576 (va_up Pj (((4096 * i) + (64 * y)) + u) ((Int32.ofInt (sb (P2 u y))).toInt8.toInt32.toInt))) (a := x + 8) (by omega)
    refine g_iinc (pc := 163) (x := (u : Int)) (lo2 := [(0, vR x), (1, vI (i : Int)), (2, vJ tt), (4, vI (M : Int)), (5, vI (y : Int)), (6, vI ((u : Int) + 1))]) dX11_move_163 rfl (by decide) rfl ?_
    refine g_goto (pc := 166) (tgt := 124) dX11_move_166 (by decide) ?_
    refine ih (u + 1) _ _ _ (by omega) (by omega) hPj_1 hmv_1 (s13.keep (va_up_ne _ _ (by omega))) (s14.keep (va_up_ne _ _ (by omega))) (fun x0 y0 q1 q2 q3 => ?_) (fun k q => ?_) (fun a z1 z2 z3 z4 => (va_up_ne _ _ z1).trans (hk a z1 z2 z3 z4))
    · by_cases eq : 4096 * i + 64 * y0 + x0 = 4096 * i + 64 * y + u
      · rw [eq, va_up_self, show x0 = u by omega, show y0 = y by omega]
        exact sb_idem (hP u y)
      · rw [va_up_ne _ _ eq]
        exact iv x0 y0 q1 q2 (by omega)
    · rw [va_up_ne _ _ (by omega)]
      exact ou k q

theorem mmv_3 {N d x i M Ls : Nat} {tt : Int} {th wd pm fm mu um pr ts : Int} {sx Pi A : Nat → Int} {P P2 : Nat → Nat → Int} {h0 : MH} {mv9 : Nat → Int} (hM : 2 ≤ M) (hM2 : M ≤ 64) (hi : i < 6) (hP : ∀ x y, 0 ≤ P2 x y ∧ P2 x y ≤ 255) (hP2 : ∀ x y, x < M → y < M → P2 (pX M A x y) (pY M A x y) = P x y) (hsu : ∀ x y, x < M → y < M → ∃ x0 y0, x0 < M ∧ y0 < M ∧ pX M A x0 y0 = x ∧ pY M A x0 y0 = y) (hK : ∀ x y, x < M → y < M → Pi (4096 * i + 64 * y + x) = sb (P x y)) (hx0 : Hd (0, 0, N) h0 x (mdl x th wd pm fm mu um pr ts)) (hmd : (∀ x0 y0, x0 < M → y0 < M → mv9 (64 * y0 + x0) = sb (P2 x0 y0))) : ∀ (f y : Nat) (xy : Int) (Pj : Nat → Int) (h : MH), y + f = M → xy = (y : Int) → Hd (0, 0, N) h (x + 8) (eA 1 24576 Pj) → Hd (0, 0, N) h (x + 9) (eA 1 4096 mv9) → Sc N h (x + 13) 4 → Sc N h (x + 14) 4 → (∀ x0 y0, x0 < M → y0 < M → (y0 < y ∨ (y0 = y ∧ x0 < 0)) → Pj (4096 * i + 64 * y0 + x0) = sb (P2 x0 y0)) → (∀ k, (k < 4096 * i ∨ 4096 * i + 4096 ≤ k) → Pj k = Pi k) → (∀ a, a ≠ x + 8 → a ≠ x + 9 → a ≠ x + 13 → a ≠ x + 14 → h a = h0 a) → G mX11_move (d + 2, 0, 0, Ls, sx) 114 [(0, vR x), (1, vI (i : Int)), (2, vJ tt), (4, vI (M : Int)), (5, vI xy)] [] (0, 0, N) h (Pq mX11_move 0 0 (fun r h2 => r = some (vI 1) ∧ Sc N h2 (x + 13) 4 ∧ Sc N h2 (x + 14) 4 ∧ (∃ mv2, Hd (0, 0, N) h2 (x + 9) (eA 1 4096 mv2)) ∧ (∃ Pi2, Hd (0, 0, N) h2 (x + 8) (eA 1 24576 Pi2) ∧ (∀ x y, x < M → y < M → Pi2 (4096 * i + 64 * y + x) = sb (P2 x y)) ∧ ∀ k, (k < 4096 * i ∨ 4096 * i + 4096 ≤ k) → Pi2 k = Pi k) ∧ (∀ a, a ≠ x + 8 → a ≠ x + 9 → a ≠ x + 13 → a ≠ x + 14 → h2 a = h0 a))) := by
  intro f
  induction f with
  | zero =>
    intro y xy Pj h hf ex hPj hmv s13 s14 iv ou hk
    refine g_iload (pc := 114) (x := xy) dX11_move_114 rfl ?_
    refine g_iload (pc := 116) (x := (M : Int)) dX11_move_116 rfl ?_
    refine g_icmp_geT (pc := 118) (tgt := 175) dX11_move_118 (by decide) (by omega) (by omega) (by omega) ?_
    refine g_iconst (pc := 175) dX11_move_175 ?_
    exact r_bool (pc := 176) dX11_move_176 rfl rfl (Nat.le_refl _) (Or.inr rfl) ⟨rfl, s13, s14, ⟨mv9, hmv⟩, ⟨Pj, hPj, fun x0 y0 q1 q2 => iv x0 y0 q1 q2 (by omega), ou⟩, hk⟩
  | succ f ih =>
    intro y xy Pj h hf ex hPj hmv s13 s14 iv ou hk
    subst ex
    refine g_iload (pc := 114) (x := (y : Int)) dX11_move_114 rfl ?_
    refine g_iload (pc := 116) (x := (M : Int)) dX11_move_116 rfl ?_
    refine g_icmp_geF (pc := 118) (tgt := 175) dX11_move_118 (by decide) (by omega) (by omega) (by omega) ?_
    refine g_iconst (pc := 121) dX11_move_121 ?_
    refine g_istore (pc := 122) (lo2 := [(0, vR x), (1, vI (i : Int)), (2, vJ tt), (4, vI (M : Int)), (5, vI (y : Int)), (6, vI 0)]) dX11_move_122 (by decide) rfl ?_
    refine mmv_4 hM hM2 hi hP hP2 hsu hK hx0 hmd (by omega) (fun Pj2 h2 p2 m2 t13 t14 iv2 ou2 k2 => ?_) M 0 _ Pj h (by omega) rfl hPj hmv s13 s14 iv ou hk
    refine g_iinc (pc := 169) (x := (y : Int)) (lo2 := [(0, vR x), (1, vI (i : Int)), (2, vJ tt), (4, vI (M : Int)), (5, vI ((y : Int) + 1))]) dX11_move_169 rfl (by decide) rfl ?_
    refine g_goto (pc := 172) (tgt := 114) dX11_move_172 (by decide) ?_
    exact ih (y + 1) _ Pj2 h2 (by omega) (by omega) p2 m2 t13 t14 iv2 ou2 k2

theorem mmv_2 {N d x i M Ls : Nat} {tt : Int} {th wd pm fm mu um pr ts : Int} {sx Pi A Pw : Nat → Int} {P P2 : Nat → Nat → Int} {h0 : MH} {y : Nat} (hM : 2 ≤ M) (hM2 : M ≤ 64) (hi : i < 6) (hP : ∀ x y, 0 ≤ P2 x y ∧ P2 x y ≤ 255) (hP2 : ∀ x y, x < M → y < M → P2 (pX M A x y) (pY M A x y) = P x y) (hsu : ∀ x y, x < M → y < M → ∃ x0 y0, x0 < M ∧ y0 < M ∧ pX M A x0 y0 = x ∧ pY M A x0 y0 = y) (hK : ∀ x y, x < M → y < M → Pi (4096 * i + 64 * y + x) = sb (P x y)) (hx0 : Hd (0, 0, N) h0 x (mdl x th wd pm fm mu um pr ts)) (hPw0 : Hd (0, 0, N) h0 (x + 11) (eA 0 25 Pw)) (rPw : rng Pw) (ecw : cw 3 Pw = A) (hPi0 : Hd (0, 0, N) h0 (x + 8) (eA 1 24576 Pi)) (hy : y < M) (hK2 : ∀ (mv9 : Nat → Int) (h : MH), Hd (0, 0, N) h (x + 9) (eA 1 4096 mv9) → Sc N h (x + 13) 4 → Sc N h (x + 14) 4 → (∀ x0 y0, x0 < M → y0 < M → (y0 < (y + 1) ∨ (y0 = (y + 1) ∧ x0 < 0)) → mv9 (64 * pY M A x0 y0 + pX M A x0 y0) = sb (P2 (pX M A x0 y0) (pY M A x0 y0))) → (∀ a, a ≠ x + 9 → a ≠ x + 13 → a ≠ x + 14 → h a = h0 a) → G mX11_move (d + 2, 0, 0, Ls, sx) 105 [(0, vR x), (1, vI (i : Int)), (2, vJ tt), (4, vI (M : Int)), (5, vI (y : Int))] [] (0, 0, N) h (Pq mX11_move 0 0 (fun r h2 => r = some (vI 1) ∧ Sc N h2 (x + 13) 4 ∧ Sc N h2 (x + 14) 4 ∧ (∃ mv2, Hd (0, 0, N) h2 (x + 9) (eA 1 4096 mv2)) ∧ (∃ Pi2, Hd (0, 0, N) h2 (x + 8) (eA 1 24576 Pi2) ∧ (∀ x y, x < M → y < M → Pi2 (4096 * i + 64 * y + x) = sb (P2 x y)) ∧ ∀ k, (k < 4096 * i ∨ 4096 * i + 4096 ≤ k) → Pi2 k = Pi k) ∧ (∀ a, a ≠ x + 8 → a ≠ x + 9 → a ≠ x + 13 → a ≠ x + 14 → h2 a = h0 a)))) : ∀ (f u : Nat) (xu : Int) (mv9 : Nat → Int) (h : MH), u + f = M → xu = (u : Int) → Hd (0, 0, N) h (x + 9) (eA 1 4096 mv9) → Sc N h (x + 13) 4 → Sc N h (x + 14) 4 → (∀ x0 y0, x0 < M → y0 < M → (y0 < y ∨ (y0 = y ∧ x0 < u)) → mv9 (64 * pY M A x0 y0 + pX M A x0 y0) = sb (P2 (pX M A x0 y0) (pY M A x0 y0))) → (∀ a, a ≠ x + 9 → a ≠ x + 13 → a ≠ x + 14 → h a = h0 a) → G mX11_move (d + 2, 0, 0, Ls, sx) 58 [(0, vR x), (1, vI (i : Int)), (2, vJ tt), (4, vI (M : Int)), (5, vI (y : Int)), (6, vI xu)] [] (0, 0, N) h (Pq mX11_move 0 0 (fun r h2 => r = some (vI 1) ∧ Sc N h2 (x + 13) 4 ∧ Sc N h2 (x + 14) 4 ∧ (∃ mv2, Hd (0, 0, N) h2 (x + 9) (eA 1 4096 mv2)) ∧ (∃ Pi2, Hd (0, 0, N) h2 (x + 8) (eA 1 24576 Pi2) ∧ (∀ x y, x < M → y < M → Pi2 (4096 * i + 64 * y + x) = sb (P2 x y)) ∧ ∀ k, (k < 4096 * i ∨ 4096 * i + 4096 ≤ k) → Pi2 k = Pi k) ∧ (∀ a, a ≠ x + 8 → a ≠ x + 9 → a ≠ x + 13 → a ≠ x + 14 → h2 a = h0 a))) := by
  intro f
  induction f with
  | zero =>
    intro u xu mv9 h hf ex hmv s13 s14 iv hk
    have hx := hx0.keep (hk x (by omega) (by omega) (by omega))
    have hPi := hPi0.keep (hk _ (by omega) (by omega) (by omega))
    refine g_iload (pc := 58) (x := xu) dX11_move_58 rfl ?_
    refine g_iload (pc := 60) (x := (M : Int)) dX11_move_60 rfl ?_
    refine g_icmp_geT (pc := 62) (tgt := 105) dX11_move_62 (by decide) (by omega) (by omega) (by omega) ?_
    refine g_pick [0, 1, 2, 3, 4] (lo2 := [(0, vR x), (1, vI (i : Int)), (2, vJ tt), (4, vI (M : Int)), (5, vI (y : Int))]) rfl ?_
    exact hK2 mv9 h hmv s13 s14 (fun x0 y0 q1 q2 q3 => iv x0 y0 q1 q2 (by omega)) hk
  | succ f ih =>
    intro u xu mv9 h hf ex hmv s13 s14 iv hk
    have hx := hx0.keep (hk x (by omega) (by omega) (by omega))
    have hPi := hPi0.keep (hk _ (by omega) (by omega) (by omega))
    subst ex
    have lX := pX_lt (A := A) (x := u) (y := y) (show 0 < M by omega)
    have lY := pY_lt (A := A) (x := u) (y := y) (show 0 < M by omega)
    refine g_iload (pc := 58) (x := (u : Int)) dX11_move_58 rfl ?_
    refine g_iload (pc := 60) (x := (M : Int)) dX11_move_60 rfl ?_
    refine g_icmp_geF (pc := 62) (tgt := 105) dX11_move_62 (by decide) (by omega) (by omega) (by omega) ?_
    refine g_aload_n (pc := 65) (r := .inl (some x)) dX11_move_65 rfl ?_
    refine g_getf (pc := 66) (v := vR (x + 9)) flX11_36 dX11_move_66 hx rfl ?_
    refine g_aload_n (pc := 69) (r := .inl (some x)) dX11_move_69 rfl ?_
    refine g_iload (pc := 70) (x := (u : Int)) dX11_move_70 rfl ?_
    refine g_iload (pc := 72) (x := (y : Int)) dX11_move_72 rfl ?_
    refine g_iload (pc := 74) (x := (M : Int)) dX11_move_74 rfl ?_
    refine g_callV0 (pc := 76) (as := [vI (u : Int), vI (y : Int), vI (M : Int)]) (b := x) (st := [vR (x + 9)]) lvX11_254 dX11_move_76 hx (Nat.le_of_ble_eq_true rfl) (by omega) (Nat.zero_le _) (Nat.zero_le _) (c_cellBehind (d := d) (X := u) (Y := y) hM hM2 (by omega) hy hx (hPw0.keep (hk _ (by omega) (by omega) (by omega))) rPw ecw s13 s14) ?_
    rintro r h1 ⟨e9, t13, t14, k1⟩
    subst e9
    have hx_1 := hx.keep (k1 _ (by omega) (by omega))
    have hPi_1 := hPi.keep (k1 _ (by omega) (by omega))
    have hmv_1 := hmv.keep (k1 _ (by omega) (by omega))
    refine g_aload_n (pc := 79) (r := .inl (some x)) dX11_move_79 rfl ?_
    refine g_getf (pc := 80) (v := vR (x + 8)) flX11_32 dX11_move_80 hx_1 rfl ?_
    refine g_sipush (pc := 83) dX11_move_83 (by decide +kernel) ?_
    refine g_iload_n (pc := 86) (x := (i : Int)) dX11_move_86 rfl ?_
    refine g_imul (pc := 87) dX11_move_87 ?_
    refine g_bipush (pc := 88) dX11_move_88 (by decide +kernel) ?_
    refine g_iload (pc := 90) (x := (y : Int)) dX11_move_90 rfl ?_
    refine g_imul (pc := 92) dX11_move_92 ?_
    refine g_iadd (pc := 93) dX11_move_93 ?_
    refine g_iload (pc := 94) (x := (u : Int)) dX11_move_94 rfl ?_
    refine g_iadd (pc := 96) dX11_move_96 ?_
    refine g_baldN (pc := 97) (j := ((4096 * i) + (64 * y)) + u) dX11_move_97 hPi_1 (by omega) (by omega) (by omega) ?_
    rw [hK u y (by omega) hy, ← hP2 u y (by omega) hy]
    refine g_bastN (pc := 98) (j := 64 * pY M A u y + pX M A u y) dX11_move_98 hmv_1 (by omega) (by omega) (by omega) ?_
    have hx_2 := hx_1.ne (e := eA 1 4096 (va_up mv9 (64 * pY M A u y + pX M A u y) ((Int32.ofInt (sb (P2 (pX M A u y) (pY M A u y)))).toInt8.toInt32.toInt))) (a := x + 9) (by omega)
    have hPi_2 := hPi_1.ne (e := eA 1 4096 (va_up mv9 (64 * pY M A u y + pX M A u y) ((Int32.ofInt (sb (P2 (pX M A u y) (pY M A u y)))).toInt8.toInt32.toInt))) (a := x + 9) (by omega)
    have hmv_2 := hmv_1.self (e := eA 1 4096 (va_up mv9 (64 * pY M A u y + pX M A u y) ((Int32.ofInt (sb (P2 (pX M A u y) (pY M A u y)))).toInt8.toInt32.toInt)))
    refine g_iinc (pc := 99) (x := (u : Int)) (lo2 := [(0, vR x), (1, vI (i : Int)), (2, vJ tt), (4, vI (M : Int)), (5, vI (y : Int)), (6, vI ((u : Int) + 1))]) dX11_move_99 rfl (by decide) rfl ?_
    refine g_goto (pc := 102) (tgt := 58) dX11_move_102 (by decide) ?_
    refine ih (u + 1) _ _ _ (by omega) (by omega) hmv_2 (t13.keep (va_up_ne _ _ (by omega))) (t14.keep (va_up_ne _ _ (by omega))) (fun x0 y0 q1 q2 q3 => ?_) (fun a z1 z2 z3 => ((va_up_ne _ _ z1).trans (k1 a z2 z3)).trans (hk a z1 z2 z3))
    have lX0 := pX_lt (A := A) (x := x0) (y := y0) (show 0 < M by omega)
    have lY0 := pY_lt (A := A) (x := x0) (y := y0) (show 0 < M by omega)
    by_cases eq : 64 * pY M A x0 y0 + pX M A x0 y0 = 64 * pY M A u y + pX M A u y
    · rw [eq, va_up_self, show pX M A x0 y0 = pX M A u y by omega, show pY M A x0 y0 = pY M A u y by omega]
      exact sb_idem (hP _ _)
    · rw [va_up_ne _ _ eq]
      refine iv x0 y0 q1 q2 ?_
      by_cases e2 : x0 = u ∧ y0 = y
      · rw [e2.1, e2.2] at eq
        exact absurd rfl eq
      · omega

theorem mmv_1 {N d x i M Ls : Nat} {tt : Int} {th wd pm fm mu um pr ts : Int} {sx Pi A Pw : Nat → Int} {P P2 : Nat → Nat → Int} {h0 : MH} (hM : 2 ≤ M) (hM2 : M ≤ 64) (hi : i < 6) (hP : ∀ x y, 0 ≤ P2 x y ∧ P2 x y ≤ 255) (hP2 : ∀ x y, x < M → y < M → P2 (pX M A x y) (pY M A x y) = P x y) (hsu : ∀ x y, x < M → y < M → ∃ x0 y0, x0 < M ∧ y0 < M ∧ pX M A x0 y0 = x ∧ pY M A x0 y0 = y) (hK : ∀ x y, x < M → y < M → Pi (4096 * i + 64 * y + x) = sb (P x y)) (hx0 : Hd (0, 0, N) h0 x (mdl x th wd pm fm mu um pr ts)) (hPw0 : Hd (0, 0, N) h0 (x + 11) (eA 0 25 Pw)) (rPw : rng Pw) (ecw : cw 3 Pw = A) (hPi0 : Hd (0, 0, N) h0 (x + 8) (eA 1 24576 Pi)) : ∀ (f y : Nat) (xy : Int) (mv9 : Nat → Int) (h : MH), y + f = M → xy = (y : Int) → Hd (0, 0, N) h (x + 9) (eA 1 4096 mv9) → Sc N h (x + 13) 4 → Sc N h (x + 14) 4 → (∀ x0 y0, x0 < M → y0 < M → (y0 < y ∨ (y0 = y ∧ x0 < 0)) → mv9 (64 * pY M A x0 y0 + pX M A x0 y0) = sb (P2 (pX M A x0 y0) (pY M A x0 y0))) → (∀ a, a ≠ x + 9 → a ≠ x + 13 → a ≠ x + 14 → h a = h0 a) → G mX11_move (d + 2, 0, 0, Ls, sx) 48 [(0, vR x), (1, vI (i : Int)), (2, vJ tt), (4, vI (M : Int)), (5, vI xy)] [] (0, 0, N) h (Pq mX11_move 0 0 (fun r h2 => r = some (vI 1) ∧ Sc N h2 (x + 13) 4 ∧ Sc N h2 (x + 14) 4 ∧ (∃ mv2, Hd (0, 0, N) h2 (x + 9) (eA 1 4096 mv2)) ∧ (∃ Pi2, Hd (0, 0, N) h2 (x + 8) (eA 1 24576 Pi2) ∧ (∀ x y, x < M → y < M → Pi2 (4096 * i + 64 * y + x) = sb (P2 x y)) ∧ ∀ k, (k < 4096 * i ∨ 4096 * i + 4096 ≤ k) → Pi2 k = Pi k) ∧ (∀ a, a ≠ x + 8 → a ≠ x + 9 → a ≠ x + 13 → a ≠ x + 14 → h2 a = h0 a))) := by
  intro f
  induction f with
  | zero =>
    intro y xy mv9 h hf ex hmv s13 s14 iv hk
    refine g_iload (pc := 48) (x := xy) dX11_move_48 rfl ?_
    refine g_iload (pc := 50) (x := (M : Int)) dX11_move_50 rfl ?_
    refine g_icmp_geT (pc := 52) (tgt := 111) dX11_move_52 (by decide) (by omega) (by omega) (by omega) ?_
    refine g_iconst (pc := 111) dX11_move_111 ?_
    refine g_istore (pc := 112) (lo2 := [(0, vR x), (1, vI (i : Int)), (2, vJ tt), (4, vI (M : Int)), (5, vI 0)]) dX11_move_112 (by decide) rfl ?_
    have hmd : (∀ x0 y0, x0 < M → y0 < M → mv9 (64 * y0 + x0) = sb (P2 x0 y0)) := fun x1 y1 q1 q2 => by
      obtain ⟨x0, y0, u1, u2, u3, u4⟩ := hsu x1 y1 q1 q2
      have := iv x0 y0 u1 u2 (by omega)
      rwa [u3, u4] at this
    exact mmv_3 hM hM2 hi hP hP2 hsu hK hx0 hmd M 0 _ Pi h (by omega) rfl (hPi0.keep (hk _ (by omega) (by omega) (by omega))) hmv s13 s14 (fun x0 y0 _ _ q => by omega) (fun _ _ => rfl) (fun a z1 z2 z3 z4 => hk a z2 z3 z4)
  | succ f ih =>
    intro y xy mv9 h hf ex hmv s13 s14 iv hk
    subst ex
    refine g_iload (pc := 48) (x := (y : Int)) dX11_move_48 rfl ?_
    refine g_iload (pc := 50) (x := (M : Int)) dX11_move_50 rfl ?_
    refine g_icmp_geF (pc := 52) (tgt := 111) dX11_move_52 (by decide) (by omega) (by omega) (by omega) ?_
    refine g_iconst (pc := 55) dX11_move_55 ?_
    refine g_istore (pc := 56) (lo2 := [(0, vR x), (1, vI (i : Int)), (2, vJ tt), (4, vI (M : Int)), (5, vI (y : Int)), (6, vI 0)]) dX11_move_56 (by decide) rfl ?_
    refine mmv_2 hM hM2 hi hP hP2 hsu hK hx0 hPw0 rPw ecw hPi0 (by omega) (fun mv2 h2 m2 t13 t14 iv2 k2 => ?_) M 0 _ mv9 h (by omega) rfl hmv s13 s14 iv hk
    refine g_iinc (pc := 105) (x := (y : Int)) (lo2 := [(0, vR x), (1, vI (i : Int)), (2, vJ tt), (4, vI (M : Int)), (5, vI ((y : Int) + 1))]) dX11_move_105 rfl (by decide) rfl ?_
    refine g_goto (pc := 108) (tgt := 48) dX11_move_108 (by decide) ?_
    exact ih (y + 1) _ mv2 h2 (by omega) (by omega) m2 t13 t14 iv2 k2

theorem ttl_1 {N d b M W D l Ls : Nat} {xi : Int} {T f sx : Nat → Int} {P : Nat → Nat → Int} {Q : Option MV → MR → MH → Prop} (hM : 2 ≤ M) (hM2 : M ≤ 64) (hD : isPer (pcs M T P) 0 D) (hPb : ∀ x y, 0 ≤ P x y ∧ P x y ≤ 255) (hP : ∀ x y, x < M → y < M → f (x * M + y) = P x y) (hl : 2 ≤ l) (hl2 : l ≤ 2147483647) : ∀ (t : Nat) (j : Nat) (xj : Int) (h : MH), xj = (j : Int) → 1 ≤ t → t < 2 ^ (63 - j) → j ≤ 63 → t ≤ 8000000000000000000 → D ∣ t → Hd (0, 0, N) h (b + 79) (eO 8 [vR (b + 12), vR (b + 7), vR (b + 80), vR (b + 82), vR (b + 84), vR (b + 90), vR (b + 91), vR (b + 92), vJ (W : Int)]) → PT N h (b + 12) M 2 T → Hd (0, 0, N) h (b + 5) (eO 5 [vR (b + 6), vI (M : Int)]) → Hd (0, 0, N) h (b + 6) (eA 0 4096 f) → Sc N h (b + 90) 20 → (∀ (t2 : Nat) (h2 : MH), 1 ≤ t2 → t2 ∣ t → D ∣ t2 → ¬ (l ∣ t2 ∧ D ∣ t2 / l) → PT N h2 (b + 12) M 2 T → Sc N h2 (b + 90) 20 → (∀ a, a ≠ b + 90 → (a < b + 12 ∨ b + 79 ≤ a) → h2 a = h a) → G mX8_turnsToLookAlike (d + 7, 0, 0, Ls, sx) 84 [(0, vR (b + 79)), (1, vR (b + 5)), (2, vJ ((t2 : Nat) : Int)), (4, vI xi), (5, vI (l : Int))] [] (0, 0, N) h2 Q) → G mX8_turnsToLookAlike (d + 7, 0, 0, Ls, sx) 39 [(0, vR (b + 79)), (1, vR (b + 5)), (2, vJ (t : Int)), (4, vI xi), (5, vI (l : Int)), (6, vI xj)] [] (0, 0, N) h Q := by
  intro t
  induction t using Nat.strongRecOn with
  | ind t ih =>
    intro j xj h ej t1 tj j63 tb hWt hr hw hp hf s90 hK
    have hj : j < 63 := by
      apply Nat.lt_of_not_le
      intro z
      rw [show 63 - j = 0 by omega] at tj
      omega
    have em := tmodN (rfl : (t : Int) = (t : Int)) (rfl : (l : Int) = (l : Int))
    have ed := tdivN (rfl : (t : Int) = (t : Int)) (rfl : (l : Int) = (l : Int))
    have hml := Nat.mod_lt t (show 0 < l by omega)
    have hdl : t / l ≤ t := Nat.div_le_self _ _
    by_cases hd : t % l = 0
    · have hlp : t = l * (t / l) := by have := Nat.div_add_mod t l; omega
      have hlt : t / l < t := Nat.div_lt_self t1 (by omega)
      have hl1 : 1 ≤ t / l := by
        apply Nat.pos_of_ne_zero
        intro z
        rw [z] at hlp
        omega
      have hl2 : t / l < 2 ^ (63 - (j + 1)) := by
        rw [show 63 - j = 63 - (j + 1) + 1 by omega, Nat.pow_succ] at tj
        have := Nat.mul_le_mul_right (t / l) hl
        omega
      obtain ⟨kn, F, hPX, hF⟩ := id hw
      refine g_iload (pc := 39) (x := xj) dX8_turnsToLookAlike_39 rfl ?_
      refine g_bipush (pc := 41) dX8_turnsToLookAlike_41 (by decide +kernel) ?_
      refine g_icmp_geF (pc := 43) (tgt := 84) dX8_turnsToLookAlike_43 (by decide) (by omega) (by omega) (by omega) ?_
      refine g_lload_n (pc := 46) (x := (t : Int)) dX8_turnsToLookAlike_46 rfl ?_
      refine g_iload (pc := 47) (x := (l : Int)) dX8_turnsToLookAlike_47 rfl ?_
      refine g_i2l (pc := 49) dX8_turnsToLookAlike_49 (by omega) ?_
      refine g_lrem (pc := 50) dX8_turnsToLookAlike_50 (by omega) (by omega) (by omega) ?_
      refine g_lconst0 (pc := 51) dX8_turnsToLookAlike_51 ?_
      refine g_lif_neF (pc := 52) (tgt := 84) dX8_turnsToLookAlike_52 dX8_turnsToLookAlike_53 (by decide) (by omega) (by omega) (by rw [em, hd]; rfl) ?_
      refine g_aload_n (pc := 56) (r := .inl (some (b + 5))) dX8_turnsToLookAlike_56 rfl ?_
      refine g_aload_n (pc := 57) (r := .inl (some (b + 79))) dX8_turnsToLookAlike_57 rfl ?_
      refine g_lload_n (pc := 58) (x := (t : Int)) dX8_turnsToLookAlike_58 rfl ?_
      refine g_iload (pc := 59) (x := (l : Int)) dX8_turnsToLookAlike_59 rfl ?_
      refine g_i2l (pc := 61) dX8_turnsToLookAlike_61 (by omega) ?_
      refine g_ldiv (pc := 62) dX8_turnsToLookAlike_62 (by omega) (by omega) (by omega) ?_
      rw [ed]
      refine g_callV0 (pc := 63) (as := [vJ ((t / l : Nat) : Int)]) (b := b + 79) (st := [vR (b + 5)]) lvX8_107 dX8_turnsToLookAlike_63 hr (Nat.le_of_ble_eq_true rfl) (by omega) (Nat.zero_le _) (Nat.zero_le _) (c_stepOf (d := d + 2) (n := 2) (by omega) hM (by omega) (by omega) hr hPX s90) ?_
      rintro r h3 ⟨e9, ⟨kn2, F2, w1, w2⟩, k1, Y, hY, rY, eY⟩
      subst e9
      rw [hF] at w2 eY
      have hr_1 := hr.keep (k1 _ (by omega) (by omega))
      have hp_1 := hp.keep (k1 _ (by omega) (by omega))
      refine g_callV0 (pc := 66) (as := [vR (b + 90)]) (b := b + 5) (st := []) lvX8_111 dX8_turnsToLookAlike_66 hp_1 (Nat.le_of_ble_eq_true rfl) (by omega) (Nat.zero_le _) (Nat.zero_le _) (c_looksAlike (d := d + 3) (A := stB M T (t / l)) hM hM2 (stp_of eY (mp_can (by omega) _)) hP hPb hp_1 (hf.keep (k1 _ (by omega) (by omega))) hY) ?_
      rintro r h4 ⟨e9, e8⟩
      subst e9
      have hiff := pcs_iff (t := t / l) hM hD
      rcases e8 with ⟨e8, hyes⟩ | ⟨e8, hno⟩ <;> subst e8
      · have hWd := hiff.mp hyes
        refine g_if_eqF (pc := 69) (tgt := 84) dX8_turnsToLookAlike_69 (by decide) (by omega) (by omega) ?_
        refine g_lload_n (pc := 72) (x := (t : Int)) dX8_turnsToLookAlike_72 rfl ?_
        refine g_iload (pc := 73) (x := (l : Int)) dX8_turnsToLookAlike_73 rfl ?_
        refine g_i2l (pc := 75) dX8_turnsToLookAlike_75 (by omega) ?_
        refine g_ldiv (pc := 76) dX8_turnsToLookAlike_76 (by omega) (by omega) (by omega) ?_
        refine g_lstore_n (pc := 77) (lo2 := [(0, vR (b + 79)), (1, vR (b + 5)), (2, vJ ((t : Int).tdiv (l : Int))), (4, vI xi), (5, vI (l : Int)), (6, vI xj)]) dX8_turnsToLookAlike_77 (by decide) rfl ?_
        refine g_iinc (pc := 78) (x := xj) (lo2 := [(0, vR (b + 79)), (1, vR (b + 5)), (2, vJ ((t : Int).tdiv (l : Int))), (4, vI xi), (5, vI (l : Int)), (6, vI (xj + 1))]) dX8_turnsToLookAlike_78 rfl (by decide) rfl ?_
        refine g_goto (pc := 81) (tgt := 39) dX8_turnsToLookAlike_81 (by decide) ?_
        rw [ed]
        refine ih (t / l) hlt (j + 1) _ h4 (by omega) hl1 hl2 (by omega) (by omega) hWd hr_1 ⟨kn2, F2, w1, w2⟩ hp_1 (hf.keep (k1 _ (by omega) (by omega))) ⟨Y, hY, rY⟩ (fun t2 h2 a1 a2 a3 a4 a5 a6 a7 => hK t2 h2 a1 (Nat.dvd_trans a2 ⟨l, by rw [Nat.mul_comm]; exact hlp⟩) a3 a4 a5 a6 (fun a z1 z2 => (a7 a z1 z2).trans (k1 a z1 z2)))
      · refine g_if_eqT (pc := 69) (tgt := 84) dX8_turnsToLookAlike_69 (by decide) (by omega) (by omega) ?_
        refine g_pick [0, 1, 2, 3, 4] (lo2 := [(0, vR (b + 79)), (1, vR (b + 5)), (2, vJ (t : Int)), (4, vI xi), (5, vI (l : Int))]) rfl ?_
        exact hK t h4 t1 (Nat.dvd_refl t) hWt (fun y => hno (hiff.mpr y.2)) ⟨kn2, F2, w1, w2⟩ ⟨Y, hY, rY⟩ k1
    · refine g_iload (pc := 39) (x := xj) dX8_turnsToLookAlike_39 rfl ?_
      refine g_bipush (pc := 41) dX8_turnsToLookAlike_41 (by decide +kernel) ?_
      refine g_icmp_geF (pc := 43) (tgt := 84) dX8_turnsToLookAlike_43 (by decide) (by omega) (by omega) (by omega) ?_
      refine g_lload_n (pc := 46) (x := (t : Int)) dX8_turnsToLookAlike_46 rfl ?_
      refine g_iload (pc := 47) (x := (l : Int)) dX8_turnsToLookAlike_47 rfl ?_
      refine g_i2l (pc := 49) dX8_turnsToLookAlike_49 (by omega) ?_
      refine g_lrem (pc := 50) dX8_turnsToLookAlike_50 (by omega) (by omega) (by omega) ?_
      refine g_lconst0 (pc := 51) dX8_turnsToLookAlike_51 ?_
      refine g_lif_neT (pc := 52) (tgt := 84) dX8_turnsToLookAlike_52 dX8_turnsToLookAlike_53 (by decide) (by omega) (by omega) (by rw [em]; omega) ?_
      refine g_pick [0, 1, 2, 3, 4] (lo2 := [(0, vR (b + 79)), (1, vR (b + 5)), (2, vJ (t : Int)), (4, vI xi), (5, vI (l : Int))]) rfl ?_
      exact hK t h t1 (Nat.dvd_refl t) hWt (fun y => hd (Nat.mod_eq_zero_of_dvd y.1)) hw s90 (fun _ _ _ => rfl)

theorem ttl_2 {N d b M W D Ls : Nat} {T f sx : Nat → Int} {P : Nat → Nat → Int} {ls : List Nat} {LL : Nat → Int} {h0 : MH} (hM : 2 ≤ M) (hM2 : M ≤ 64) (hD : isPer (pcs M T P) 0 D) (hPb : ∀ x y, 0 ≤ P x y ∧ P x y ≤ 255) (hP : ∀ x y, x < M → y < M → f (x * M + y) = P x y) (hLL : ∀ i, i < ls.length → LL i = ((ls.getD i 0 : Nat) : Int)) (hls16 : ls.length ≤ 16) (hlsP : ∀ x, x ∈ ls → prm x ∧ x ≤ 2147483647) (hlsW : ∀ x, prm x → x ∣ W → x ∈ ls) : ∀ (f9 i t : Nat) (xi : Int) (h : MH), i + f9 = ls.length → xi = (i : Int) → 1 ≤ t → t ∣ W → t ≤ 8000000000000000000 → D ∣ t → (∀ j, j < i → ¬ (ls.getD j 0 ∣ t ∧ D ∣ t / ls.getD j 0)) → Hd (0, 0, N) h (b + 79) (eO 8 [vR (b + 12), vR (b + 7), vR (b + 80), vR (b + 82), vR (b + 84), vR (b + 90), vR (b + 91), vR (b + 92), vJ (W : Int)]) → PT N h (b + 12) M 2 T → Hd (0, 0, N) h (b + 5) (eO 5 [vR (b + 6), vI (M : Int)]) → Hd (0, 0, N) h (b + 6) (eA 0 4096 f) → Sc N h (b + 90) 20 → Hd (0, 0, N) h (b + 80) (eO 7 [vR (b + 81), vI (ls.length : Int)]) → Hd (0, 0, N) h (b + 81) (eA 0 16 LL) → (∀ a, a ≠ b + 90 → (a < b + 12 ∨ b + 79 ≤ a) → h a = h0 a) → G mX8_turnsToLookAlike (d + 7, 0, 0, Ls, sx) 8 [(0, vR (b + 79)), (1, vR (b + 5)), (2, vJ (t : Int)), (4, vI xi)] [] (0, 0, N) h (Pq mX8_turnsToLookAlike 0 0 (fun r h2 => r = some (vJ (D : Int)) ∧ PT N h2 (b + 12) M 2 T ∧ Sc N h2 (b + 90) 20 ∧ ∀ a, a ≠ b + 90 → (a < b + 12 ∨ b + 79 ≤ a) → h2 a = h0 a)) := by
  intro f9
  induction f9 with
  | zero =>
    intro i t xi h hf9 ex t1 tE tb hWt hne hr hw hp hf s90 h80 h81 hk
    have hmem : ∀ j, j < ls.length → ls.getD j 0 ∈ ls := fun j hj => by simp [List.getD, hj]
    have eW : t = D := red_end t1 hWt (fun x x1 x2 x3 => by
      obtain ⟨j, j1, j2⟩ := List.mem_iff_getElem.mp (hlsW x x1 (Nat.dvd_trans x2 tE))
      refine hne j (by omega) ?_
      rw [show ls.getD j 0 = x by simp [List.getD, j1, j2]]
      exact ⟨x2, x3⟩)
    refine g_iload (pc := 8) (x := xi) dX8_turnsToLookAlike_8 rfl ?_
    refine g_aload_n (pc := 10) (r := .inl (some (b + 79))) dX8_turnsToLookAlike_10 rfl ?_
    refine g_getf (pc := 11) (v := vR (b + 80)) flX8_12 dX8_turnsToLookAlike_11 hr rfl ?_
    refine g_getf (pc := 14) (v := vI (ls.length : Int)) flX8_94 dX8_turnsToLookAlike_14 h80 rfl ?_
    refine g_icmp_geT (pc := 17) (tgt := 90) dX8_turnsToLookAlike_17 (by decide) (by omega) (by omega) (by omega) ?_
    refine g_lload_n (pc := 90) (x := (t : Int)) dX8_turnsToLookAlike_90 rfl ?_
    rw [eW]
    exact r_long (pc := 91) dX8_turnsToLookAlike_91 rfl rfl (Nat.le_refl _) ⟨rfl, hw, s90, hk⟩
  | succ f9 ih =>
    intro i t xi h hf9 ex t1 tE tb hWt hne hr hw hp hf s90 h80 h81 hk
    have hmem : ∀ j, j < ls.length → ls.getD j 0 ∈ ls := fun j hj => by simp [List.getD, hj]
    have hi : i < ls.length := by omega
    obtain ⟨hlp, hl2⟩ := hlsP _ (hmem i hi)
    have hLi := hLL i hi
    obtain ⟨l, el⟩ : ∃ l, l = ls.getD i 0 := ⟨_, rfl⟩
    rw [← el] at hlp hl2 hLi
    have hl := hlp.1
    refine g_iload (pc := 8) (x := xi) dX8_turnsToLookAlike_8 rfl ?_
    refine g_aload_n (pc := 10) (r := .inl (some (b + 79))) dX8_turnsToLookAlike_10 rfl ?_
    refine g_getf (pc := 11) (v := vR (b + 80)) flX8_12 dX8_turnsToLookAlike_11 hr rfl ?_
    refine g_getf (pc := 14) (v := vI (ls.length : Int)) flX8_94 dX8_turnsToLookAlike_14 h80 rfl ?_
    refine g_icmp_geF (pc := 17) (tgt := 90) dX8_turnsToLookAlike_17 (by decide) (by omega) (by omega) (by omega) ?_
    refine g_aload_n (pc := 20) (r := .inl (some (b + 79))) dX8_turnsToLookAlike_20 rfl ?_
    refine g_getf (pc := 21) (v := vR (b + 80)) flX8_12 dX8_turnsToLookAlike_21 hr rfl ?_
    refine g_getf (pc := 24) (v := vR (b + 81)) flX8_97 dX8_turnsToLookAlike_24 h80 rfl ?_
    refine g_iload (pc := 27) (x := xi) dX8_turnsToLookAlike_27 rfl ?_
    refine g_ialdN (pc := 29) (j := i) dX8_turnsToLookAlike_29 h81 (by omega) (by omega) (by omega) ?_
    rw [hLi]
    refine g_iconst (pc := 30) dX8_turnsToLookAlike_30 ?_
    refine g_callS0 (pc := 31) (as := [vI (l : Int), vI 2]) (st := []) lsX8_100 dX8_turnsToLookAlike_31 (Nat.le_of_ble_eq_true rfl) (by omega) (Nat.zero_le _) (Nat.zero_le _) (c_maxI (d := d + 6) (by omega) (by omega)) ?_
    rintro r h1 ⟨e9, e8⟩
    subst e9
    subst e8
    rw [show (if (l : Int) < 2 then (2 : Int) else (l : Int)) = (l : Int) from if_neg (by omega)]
    refine g_istore (pc := 34) (lo2 := [(0, vR (b + 79)), (1, vR (b + 5)), (2, vJ (t : Int)), (4, vI xi), (5, vI (l : Int))]) dX8_turnsToLookAlike_34 (by decide) rfl ?_
    refine g_iconst (pc := 36) dX8_turnsToLookAlike_36 ?_
    refine g_istore (pc := 37) (lo2 := [(0, vR (b + 79)), (1, vR (b + 5)), (2, vJ (t : Int)), (4, vI xi), (5, vI (l : Int)), (6, vI 0)]) dX8_turnsToLookAlike_37 (by decide) rfl ?_
    refine ttl_1 hM hM2 hD hPb hP hl hl2 t 0 _ h1 rfl t1 (show t < 9223372036854775808 by omega) (by omega) tb hWt hr hw hp hf s90 (fun t2 h2 a1 a2 a3 a4 a5 a6 a7 => ?_)
    have hr_1 := hr.keep (a7 _ (by omega) (by omega))
    have hp_1 := hp.keep (a7 _ (by omega) (by omega))
    have h80_1 := h80.keep (a7 _ (by omega) (by omega))
    have h81_1 := h81.keep (a7 _ (by omega) (by omega))
    have t2b := Nat.le_of_dvd t1 a2
    refine g_iinc (pc := 84) (x := xi) (lo2 := [(0, vR (b + 79)), (1, vR (b + 5)), (2, vJ ((t2 : Nat) : Int)), (4, vI (xi + 1)), (5, vI (l : Int))]) dX8_turnsToLookAlike_84 rfl (by decide) rfl ?_
    refine g_goto (pc := 87) (tgt := 8) dX8_turnsToLookAlike_87 (by decide) ?_
    refine g_pick [0, 1, 2, 3] (lo2 := [(0, vR (b + 79)), (1, vR (b + 5)), (2, vJ ((t2 : Nat) : Int)), (4, vI (xi + 1))]) rfl ?_
    refine ih (i + 1) t2 _ _ (by omega) (by omega) a1 (Nat.dvd_trans a2 tE) (by omega) a3 (fun j jj => ?_) hr_1 a5 hp_1 (hf.keep (a7 _ (by omega) (by omega))) a6 h80_1 h81_1 (fun a z1 z2 => (a7 a z1 z2).trans (hk a z1 z2))
    by_cases hj : j = i
    · rw [hj, ← el]
      exact a4
    · exact red_keep (by have := (hlsP _ (hmem j (by omega))).1.1; omega) a2 (hne j (by omega))

theorem c_turnsToLookAlike {N d b M W D : Nat} {T f : Nat → Int} {P : Nat → Nat → Int} {h : MH} (hM : 2 ≤ M) (hM2 : M ≤ 64) (hW : isPer (mp 3 M (au 2 T)) 32 W) (hWb : W ≤ 8000000000000000000) (hD : isPer (pcs M T P) 0 D) (hDW : D ∣ W) (hPb : ∀ x y, 0 ≤ P x y ∧ P x y ≤ 255) (hP : ∀ x y, x < M → y < M → f (x * M + y) = P x y) (hpc : PC N h b M) (hw : PT N h (b + 12) M 2 T) (hd : RD N h b M 2 T) (hp : Hd (0, 0, N) h (b + 5) (eO 5 [vR (b + 6), vI (M : Int)])) (hf : Hd (0, 0, N) h (b + 6) (eA 0 4096 f)) : Ok mX8_turnsToLookAlike (d + 7) 0 0 [vR (b + 79), vR (b + 5)] N h (fun r h2 => r = some (vJ (D : Int)) ∧ PT N h2 (b + 12) M 2 T ∧ RD N h2 b M 2 T ∧ ∀ a, (a < b + 12 ∨ b + 93 ≤ a) → h2 a = h a) := by
  refine Ok.of pfX8_turnsToLookAlike rfl (Nat.le_of_ble_eq_true rfl) (fun Ls sx => ?_)
  show G mX8_turnsToLookAlike (d + 7, 0, 0, Ls, sx) 0 [(0, vR (b + 79)), (1, vR (b + 5))] [] (0, 0, N) h _
  obtain ⟨wh, r0, -⟩ := id hd
  have hW1 := hW.1
  refine g_aload_n (pc := 0) (r := .inl (some (b + 79))) dX8_turnsToLookAlike_0 rfl ?_
  refine g_callV0 (pc := 1) (as := []) (b := b + 79) (st := []) lvX8_76 dX8_turnsToLookAlike_1 r0 (Nat.le_of_ble_eq_true rfl) (by omega) (Nat.zero_le _) (Nat.zero_le _) (c_whole (d := d) (n := 2) (by omega) (by omega) hM (by omega) hW hpc hw hd) ?_
  rintro r h1 ⟨rfl, c1, c2, c3⟩
  obtain ⟨r1, r2, r3, r4, r5, r6, r7⟩ := id c2
  obtain ⟨ls, LL, a1, a2, a3, a4, a5, a6⟩ := id r2
  have hls : ls.length ≤ 16 := Nat.le_trans (a4.length_le_of_subset (fun x hx => a5 x hx)) (BM_len hM (by omega))
  refine g_lstore_n (pc := 4) (lo2 := [(0, vR (b + 79)), (1, vR (b + 5)), (2, vJ (W : Int))]) dX8_turnsToLookAlike_4 (by decide) rfl ?_
  refine g_iconst (pc := 5) dX8_turnsToLookAlike_5 ?_
  refine g_istore (pc := 6) (lo2 := [(0, vR (b + 79)), (1, vR (b + 5)), (2, vJ (W : Int)), (4, vI 0)]) dX8_turnsToLookAlike_6 (by decide) rfl ?_
  refine Q_mono (ttl_2 (h0 := h1) hM hM2 hD hPb hP a3 hls (fun x hx => ⟨((a6 x).mp hx).1, by have := (BM_mem (a5 x hx)).2.2; omega⟩) (fun x x1 x2 => (a6 x).mpr ⟨x1, x2⟩) ls.length 0 W _ h1 (by omega) rfl hW1 (Nat.dvd_refl W) hWb hDW (fun j jj => absurd jj (Nat.not_lt_zero j)) r1 c1 (hp.keep (c3 _ (by omega) (by omega))) (hf.keep (c3 _ (by omega) (by omega))) r4 a1 a2 (fun _ _ _ => rfl)) ?_
  rintro r h4 ⟨g1, g2, g3, g4⟩
  refine ⟨g1, g2, ?_, fun a ha => (g4 a (by omega) (by omega)).trans (c3 a (by omega) (by omega))⟩
  exact RDW.rd hW ⟨r1.keep (g4 _ (by omega) (by omega)), r2.keep (g4 _ (by omega) (by omega)) (g4 _ (by omega) (by omega)), r3.keep (g4 _ (by omega) (by omega)) (g4 _ (by omega) (by omega)), g3, r5.keep (g4 _ (by omega) (by omega)), r6.keep (g4 _ (by omega) (by omega)), r7.keep (fun a z1 z2 => g4 a (by omega) (by omega))⟩
