/-! ===== the reference: fixedBy ===== -/
theorem fxb_l1 {N d x i t n q Ls : Nat} {K xk : Int} {th wd pm fm mu um pr ts : Int} {sx P2 : Nat → Int} {h0 : MH} {E0 : Nat → Int} {r : Nat} {Q : Option MV → MR → MH → Prop} (hn : n ≤ 4) (hq : 0 < q) (hq2 : q ≤ 500) (hr : r < n) (rP : rng P2) (hx0 : Hd (0, 0, N) h0 x (mdl x th wd pm fm mu um pr ts)) (hP0 : Hd (0, 0, N) h0 (x + 11) (eA 0 25 P2)) (hK : ∀ (E : Nat → Int) (h2 : MH), Hd (0, 0, N) h2 (x + 19) (eA 0 20 E) → (∀ c2, c2 < n → E (5 * r + c2) = (P2 (5 * r + c2) - (if r = c2 then 1 else 0)) % (q : Int)) → (∀ j, ¬ (5 * r ≤ j ∧ j < 5 * r + n) → E j = E0 j) → (∀ a, a ≠ x + 19 → h2 a = h0 a) → G mX11_fixedBy (d + 3, 0, 0, Ls, sx) 119 [(0, vR x), (1, vI (i : Int)), (2, vJ (t : Int)), (4, vI (n : Int)), (5, vJ K), (7, vI xk), (8, vI (q : Int)), (9, vI (r : Int))] [] (0, 0, N) h2 Q) : ∀ (f c : Nat) (xc : Int) (E : Nat → Int) (h : MH), c + f = n → xc = (c : Int) → Hd (0, 0, N) h (x + 19) (eA 0 20 E) → (∀ c2, c2 < c → E (5 * r + c2) = (P2 (5 * r + c2) - (if r = c2 then 1 else 0)) % (q : Int)) → (∀ j, ¬ (5 * r ≤ j ∧ j < 5 * r + c) → E j = E0 j) → (∀ a, a ≠ x + 19 → h a = h0 a) → G mX11_fixedBy (d + 3, 0, 0, Ls, sx) 63 [(0, vR x), (1, vI (i : Int)), (2, vJ (t : Int)), (4, vI (n : Int)), (5, vJ K), (7, vI xk), (8, vI (q : Int)), (9, vI (r : Int)), (10, vI xc)] [] (0, 0, N) h Q := by
  intro f
  induction f with
  | zero =>
    intro c xc E h hf ex hE f1 f2 hk
    have hx := hx0.keep (hk x (by omega))
    have hP := hP0.keep (hk (x + 11) (by omega))
    have ec : c = n := by omega
    rw [ec] at f1 f2
    refine g_iload (pc := 63) (x := xc) dX11_fixedBy_63 rfl ?_
    refine g_iload (pc := 65) (x := (n : Int)) dX11_fixedBy_65 rfl ?_
    refine g_icmp_geT (pc := 67) (tgt := 119) dX11_fixedBy_67 (by decide) (by omega) (by omega) (by omega) ?_
    refine g_pick [0, 1, 2, 3, 4, 5, 6, 7] (lo2 := [(0, vR x), (1, vI (i : Int)), (2, vJ (t : Int)), (4, vI (n : Int)), (5, vJ K), (7, vI xk), (8, vI (q : Int)), (9, vI (r : Int))]) rfl ?_
    exact hK E h hE f1 f2 hk
  | succ f ih =>
    intro c xc E h hf ex hE f1 f2 hk
    have hx := hx0.keep (hk x (by omega))
    have hP := hP0.keep (hk (x + 11) (by omega))
    have b1 := rP (5 * r + c)
    refine g_iload (pc := 63) (x := xc) dX11_fixedBy_63 rfl ?_
    refine g_iload (pc := 65) (x := (n : Int)) dX11_fixedBy_65 rfl ?_
    refine g_icmp_geF (pc := 67) (tgt := 119) dX11_fixedBy_67 (by decide) (by omega) (by omega) (by omega) ?_
    refine g_aload_n (pc := 70) (r := .inl (some x)) dX11_fixedBy_70 rfl ?_
    refine g_getf (pc := 71) (v := vR (x + 19)) flX11_67 dX11_fixedBy_71 hx rfl ?_
    refine g_iconst (pc := 74) dX11_fixedBy_74 ?_
    refine g_iload (pc := 75) (x := (r : Int)) dX11_fixedBy_75 rfl ?_
    refine g_imul (pc := 77) dX11_fixedBy_77 ?_
    refine g_iload (pc := 78) (x := xc) dX11_fixedBy_78 rfl ?_
    refine g_iadd (pc := 80) dX11_fixedBy_80 ?_
    refine g_aload_n (pc := 81) (r := .inl (some x)) dX11_fixedBy_81 rfl ?_
    refine g_getf (pc := 82) (v := vR (x + 11)) flX11_42 dX11_fixedBy_82 hx rfl ?_
    refine g_iconst (pc := 85) dX11_fixedBy_85 ?_
    refine g_iload (pc := 86) (x := (r : Int)) dX11_fixedBy_86 rfl ?_
    refine g_imul (pc := 88) dX11_fixedBy_88 ?_
    refine g_iload (pc := 89) (x := xc) dX11_fixedBy_89 rfl ?_
    refine g_iadd (pc := 91) dX11_fixedBy_91 ?_
    refine g_ialdN (pc := 92) (j := 5 * r + c) dX11_fixedBy_92 hP (by omega) (by omega) (by omega) ?_
    refine g_iload (pc := 93) (x := (r : Int)) dX11_fixedBy_93 rfl ?_
    refine g_iload (pc := 95) (x := xc) dX11_fixedBy_95 rfl ?_
    refine g_icmp_ne (pc := 97) (tgt := 104) dX11_fixedBy_97 (by decide) (by omega) (by omega) (fun h7 => ?_) (fun h7 => ?_)
    · refine g_iconst (pc := 104) dX11_fixedBy_104 ?_
      refine g_isub (pc := 105) dX11_fixedBy_105 ?_
      refine g_i2l (pc := 106) dX11_fixedBy_106 (by omega) ?_
      refine g_iload (pc := 107) (x := (q : Int)) dX11_fixedBy_107 rfl ?_
      refine g_callS0 (pc := 109) (as := [vJ ((P2 (5 * r + c)) - 0), vI (q : Int)]) (st := [vI ((5 * (r : Int)) + xc), vR (x + 19)]) lsX11_116 dX11_fixedBy_109 (Nat.le_of_ble_eq_true rfl) (by omega) (Nat.zero_le _) (Nat.zero_le _) (c_mrestOf (d := d + 2) (by omega) (by omega) (by omega)) ?_
      rintro r8 h2 ⟨e9, rfl⟩
      subst e9
      refine g_iastN (pc := 112) (j := 5 * r + c) dX11_fixedBy_112 hE (by omega) (by omega) (by omega) ?_
      have hE_1 := hE.self (e := eA 0 20 (va_up E (5 * r + c) ((P2 (5 * r + c) - 0) % (q : Int))))
      refine g_iinc (pc := 113) (x := xc) (lo2 := [(0, vR x), (1, vI (i : Int)), (2, vJ (t : Int)), (4, vI (n : Int)), (5, vJ K), (7, vI xk), (8, vI (q : Int)), (9, vI (r : Int)), (10, vI (xc + 1))]) dX11_fixedBy_113 rfl (by decide) rfl ?_
      refine g_goto (pc := 116) (tgt := 63) dX11_fixedBy_116 (by decide) ?_
      refine ih (c + 1) _ _ _ (by omega) (by omega) hE_1 (fun c2 z1 => ?_) (fun j z1 => ?_) (fun a z1 => (va_up_ne _ _ z1).trans (hk a z1))
      · by_cases hcc : c2 = c
        · subst hcc
          rw [va_up_self, if_neg (show ¬ r = c2 by omega)]
        · rw [va_up_ne _ _ (by omega)]
          exact f1 c2 (by omega)
      · rw [va_up_ne _ _ (by omega)]
        exact f2 j (by omega)
    · refine g_iconst (pc := 100) dX11_fixedBy_100 ?_
      refine g_goto (pc := 101) (tgt := 105) dX11_fixedBy_101 (by decide) ?_
      refine g_isub (pc := 105) dX11_fixedBy_105 ?_
      refine g_i2l (pc := 106) dX11_fixedBy_106 (by omega) ?_
      refine g_iload (pc := 107) (x := (q : Int)) dX11_fixedBy_107 rfl ?_
      refine g_callS0 (pc := 109) (as := [vJ ((P2 (5 * r + c)) - 1), vI (q : Int)]) (st := [vI ((5 * (r : Int)) + xc), vR (x + 19)]) lsX11_116 dX11_fixedBy_109 (Nat.le_of_ble_eq_true rfl) (by omega) (Nat.zero_le _) (Nat.zero_le _) (c_mrestOf (d := d + 2) (by omega) (by omega) (by omega)) ?_
      rintro r8 h2 ⟨e9, rfl⟩
      subst e9
      refine g_iastN (pc := 112) (j := 5 * r + c) dX11_fixedBy_112 hE (by omega) (by omega) (by omega) ?_
      have hE_1 := hE.self (e := eA 0 20 (va_up E (5 * r + c) ((P2 (5 * r + c) - 1) % (q : Int))))
      refine g_iinc (pc := 113) (x := xc) (lo2 := [(0, vR x), (1, vI (i : Int)), (2, vJ (t : Int)), (4, vI (n : Int)), (5, vJ K), (7, vI xk), (8, vI (q : Int)), (9, vI (r : Int)), (10, vI (xc + 1))]) dX11_fixedBy_113 rfl (by decide) rfl ?_
      refine g_goto (pc := 116) (tgt := 63) dX11_fixedBy_116 (by decide) ?_
      refine ih (c + 1) _ _ _ (by omega) (by omega) hE_1 (fun c2 z1 => ?_) (fun j z1 => ?_) (fun a z1 => (va_up_ne _ _ z1).trans (hk a z1))
      · by_cases hcc : c2 = c
        · subst hcc
          rw [va_up_self, if_pos (show r = c2 by omega)]
        · rw [va_up_ne _ _ (by omega)]
          exact f1 c2 (by omega)
      · rw [va_up_ne _ _ (by omega)]
        exact f2 j (by omega)

theorem fxb_l2 {N d x i t n q Ls : Nat} {K xk : Int} {th wd pm fm mu um pr ts : Int} {sx P2 : Nat → Int} {h0 : MH} {Q : Option MV → MR → MH → Prop} (hn : n ≤ 4) (hq : 0 < q) (hq2 : q ≤ 500) (rP : rng P2) (hx0 : Hd (0, 0, N) h0 x (mdl x th wd pm fm mu um pr ts)) (hP0 : Hd (0, 0, N) h0 (x + 11) (eA 0 25 P2)) (hK : ∀ (E : Nat → Int) (h2 : MH), Hd (0, 0, N) h2 (x + 19) (eA 0 20 E) → (∀ r2, r2 < n → (∀ c2, c2 < n → E (5 * r2 + c2) = (P2 (5 * r2 + c2) - (if r2 = c2 then 1 else 0)) % (q : Int)) ∧ E (5 * r2 + n) = (-(P2 (5 * r2 + n))) % (q : Int)) → (∀ a, a ≠ x + 19 → h2 a = h0 a) → G mX11_fixedBy (d + 3, 0, 0, Ls, sx) 156 [(0, vR x), (1, vI (i : Int)), (2, vJ (t : Int)), (4, vI (n : Int)), (5, vJ K), (7, vI xk), (8, vI (q : Int))] [] (0, 0, N) h2 Q) : ∀ (f r : Nat) (xr : Int) (E : Nat → Int) (h : MH), r + f = n → xr = (r : Int) → Hd (0, 0, N) h (x + 19) (eA 0 20 E) → (∀ r2, r2 < r → (∀ c2, c2 < n → E (5 * r2 + c2) = (P2 (5 * r2 + c2) - (if r2 = c2 then 1 else 0)) % (q : Int)) ∧ E (5 * r2 + n) = (-(P2 (5 * r2 + n))) % (q : Int)) → (∀ a, a ≠ x + 19 → h a = h0 a) → G mX11_fixedBy (d + 3, 0, 0, Ls, sx) 53 [(0, vR x), (1, vI (i : Int)), (2, vJ (t : Int)), (4, vI (n : Int)), (5, vJ K), (7, vI xk), (8, vI (q : Int)), (9, vI xr)] [] (0, 0, N) h Q := by
  intro f
  induction f with
  | zero =>
    intro r xr E h hf ex hE f1 hk
    have hx := hx0.keep (hk x (by omega))
    have hP := hP0.keep (hk (x + 11) (by omega))
    refine g_iload (pc := 53) (x := xr) dX11_fixedBy_53 rfl ?_
    refine g_iload (pc := 55) (x := (n : Int)) dX11_fixedBy_55 rfl ?_
    refine g_icmp_geT (pc := 57) (tgt := 156) dX11_fixedBy_57 (by decide) (by omega) (by omega) (by omega) ?_
    refine g_pick [0, 1, 2, 3, 4, 5, 6] (lo2 := [(0, vR x), (1, vI (i : Int)), (2, vJ (t : Int)), (4, vI (n : Int)), (5, vJ K), (7, vI xk), (8, vI (q : Int))]) rfl ?_
    exact hK E h hE (fun r2 z1 => f1 r2 (by omega)) hk
  | succ f ih =>
    intro r xr E h hf ex hE f1 hk
    have hx := hx0.keep (hk x (by omega))
    have hP := hP0.keep (hk (x + 11) (by omega))
    have b1 := rP (5 * r + n)
    refine g_iload (pc := 53) (x := xr) dX11_fixedBy_53 rfl ?_
    refine g_iload (pc := 55) (x := (n : Int)) dX11_fixedBy_55 rfl ?_
    refine g_icmp_geF (pc := 57) (tgt := 156) dX11_fixedBy_57 (by decide) (by omega) (by omega) (by omega) ?_
    refine g_iconst (pc := 60) dX11_fixedBy_60 ?_
    refine g_istore (pc := 61) (lo2 := [(0, vR x), (1, vI (i : Int)), (2, vJ (t : Int)), (4, vI (n : Int)), (5, vJ K), (7, vI xk), (8, vI (q : Int)), (9, vI xr), (10, vI 0)]) dX11_fixedBy_61 (by decide) rfl ?_
    subst ex
    refine fxb_l1 (h0 := h0) (E0 := E) hn hq hq2 (show r < n by omega) rP hx0 hP0 (fun E3 h3 hE3 u1 u2 k3 => ?_) n 0 _ E h (by omega) rfl hE (fun c2 z => absurd z (Nat.not_lt_zero c2)) (fun _ _ => rfl) hk
    have hx3 := hx0.keep (k3 x (by omega))
    have hP3 := hP0.keep (k3 (x + 11) (by omega))
    refine g_aload_n (pc := 119) (r := .inl (some x)) dX11_fixedBy_119 rfl ?_
    refine g_getf (pc := 120) (v := vR (x + 19)) flX11_67 dX11_fixedBy_120 hx3 rfl ?_
    refine g_iconst (pc := 123) dX11_fixedBy_123 ?_
    refine g_iload (pc := 124) (x := (r : Int)) dX11_fixedBy_124 rfl ?_
    refine g_imul (pc := 126) dX11_fixedBy_126 ?_
    refine g_iload (pc := 127) (x := (n : Int)) dX11_fixedBy_127 rfl ?_
    refine g_iadd (pc := 129) dX11_fixedBy_129 ?_
    refine g_aload_n (pc := 130) (r := .inl (some x)) dX11_fixedBy_130 rfl ?_
    refine g_getf (pc := 131) (v := vR (x + 11)) flX11_42 dX11_fixedBy_131 hx3 rfl ?_
    refine g_iconst (pc := 134) dX11_fixedBy_134 ?_
    refine g_iload (pc := 135) (x := (r : Int)) dX11_fixedBy_135 rfl ?_
    refine g_imul (pc := 137) dX11_fixedBy_137 ?_
    refine g_iload (pc := 138) (x := (n : Int)) dX11_fixedBy_138 rfl ?_
    refine g_iadd (pc := 140) dX11_fixedBy_140 ?_
    refine g_ialdN (pc := 141) (j := 5 * r + n) dX11_fixedBy_141 hP3 (by omega) (by omega) (by omega) ?_
    refine g_ineg (pc := 142) dX11_fixedBy_142 ?_
    refine g_i2l (pc := 143) dX11_fixedBy_143 (by omega) ?_
    refine g_iload (pc := 144) (x := (q : Int)) dX11_fixedBy_144 rfl ?_
    refine g_callS0 (pc := 146) (as := [vJ (-(P2 (5 * r + n))), vI (q : Int)]) (st := [vI ((5 * (r : Int)) + (n : Int)), vR (x + 19)]) lsX11_116 dX11_fixedBy_146 (Nat.le_of_ble_eq_true rfl) (by omega) (Nat.zero_le _) (Nat.zero_le _) (c_mrestOf (d := d + 2) (by omega) (by omega) (by omega)) ?_
    rintro r8 h2 ⟨e9, rfl⟩
    subst e9
    refine g_iastN (pc := 149) (j := 5 * r + n) dX11_fixedBy_149 hE3 (by omega) (by omega) (by omega) ?_
    have hE3_1 := hE3.self (e := eA 0 20 (va_up E3 (5 * r + n) ((-(P2 (5 * r + n))) % (q : Int))))
    refine g_iinc (pc := 150) (x := (r : Int)) (lo2 := [(0, vR x), (1, vI (i : Int)), (2, vJ (t : Int)), (4, vI (n : Int)), (5, vJ K), (7, vI xk), (8, vI (q : Int)), (9, vI ((r : Int) + 1))]) dX11_fixedBy_150 rfl (by decide) rfl ?_
    refine g_goto (pc := 153) (tgt := 53) dX11_fixedBy_153 (by decide) ?_
    refine ih (r + 1) _ _ _ (by omega) (by omega) hE3_1 (fun r2 z1 => ?_) (fun a z1 => (va_up_ne _ _ z1).trans (k3 a z1))
    by_cases hrr : r2 = r
    · subst hrr
      refine ⟨fun c2 z2 => ?_, va_up_self _ _ _⟩
      rw [va_up_ne _ _ (by omega)]
      exact u1 c2 z2
    · obtain ⟨y1, y2⟩ := f1 r2 (by omega)
      refine ⟨fun c2 z2 => ?_, ?_⟩
      · rw [va_up_ne _ _ (by omega), u2 _ (by omega)]
        exact y1 c2 z2
      · rw [va_up_ne _ _ (by omega), u2 _ (by omega)]
        exact y2

/-- what the count of solutions uses besides -/
def SC2 (N : Nat) (h : MH) (x : Nat) : Prop := (∃ P, Hd (0, 0, N) h (x + 19) (eA 0 20 P)) ∧ (∃ P, Hd (0, 0, N) h (x + 20) (eA 2 4 P)) ∧ ∃ P, Hd (0, 0, N) h (x + 21) (eA 2 4 P)
theorem SC2.keep {N : Nat} {h h2 : MH} {x : Nat} (s : SC2 N h x) (k : ∀ a, x + 19 ≤ a → a ≤ x + 21 → h2 a = h a) : SC2 N h2 x := by
  obtain ⟨⟨p1, a1⟩, ⟨p2, a2⟩, p3, a3⟩ := s
  exact ⟨⟨p1, a1.keep (k _ (by omega) (by omega))⟩, ⟨p2, a2.keep (k _ (by omega) (by omega))⟩, p3, a3.keep (k _ (by omega) (by omega))⟩

theorem fxb_l3 {N d x i n M t Ls : Nat} {th fm mu um pr ts : Int} {T Sz Tb Mo S2 sx : Nat → Int} {h0 : MH} (n1 : 1 ≤ n) (hn : n ≤ 4) (hM : 2 ≤ M) (hM2 : M ≤ 500) (hi : i < 6) (ht : t < 9223372036854775808) (rT : rng Tb) (rM : rng Mo) (hz : Sz i = (n : Int)) (h1 : ∀ r c, r < n → c < n → Tb (16 * i + 4 * r + c) = T (5 * r + c)) (h2 : ∀ r, r < n → Mo (4 * i + r) = T (5 * r + 4)) (hfac : ∀ j, j < (fcs M).length → S2 j = (((pe M j).1 ^ (pe M j).2 : Nat) : Int)) (hZ0 : Hd (0, 0, N) h0 (x + 4) (eA 0 6 Sz)) (hTb0 : Hd (0, 0, N) h0 (x + 5) (eA 0 96 Tb)) (hMo0 : Hd (0, 0, N) h0 (x + 6) (eA 0 24 Mo)) : ∀ (f k K : Nat) (xk wd : Int) (h : MH), k + f = (fcs M).length → xk = (k : Int) → K = prI (fun j => nfx n ((pe M j).1 ^ (pe M j).2) (au n T) t) k → Hd (0, 0, N) h x (mdl x th wd ((fcs M).length : Int) fm mu um pr ts) → SCR N h x → SC2 N h x → Hd (0, 0, N) h (x + 16) (eA 0 5 S2) → (∀ a, a ≠ x → (a < x + 10 ∨ x + 21 < a) → h a = h0 a) → G mX11_fixedBy (d + 3, 0, 0, Ls, sx) 24 [(0, vR x), (1, vI (i : Int)), (2, vJ (t : Int)), (4, vI (n : Int)), (5, vJ (K : Int)), (7, vI xk)] [] (0, 0, N) h (Pq mX11_fixedBy 0 0 (fun r9 h2 => r9 = some (vJ ((nfM n M (au n T) t : Nat) : Int)) ∧ (∃ th wd pm fm mu : Int, Hd (0, 0, N) h2 x (mdl x th wd pm fm mu um pr ts)) ∧ SCR N h2 x ∧ SC2 N h2 x ∧ ∀ a, a ≠ x → (a < x + 10 ∨ x + 21 < a) → h2 a = h0 a)) := by
  intro f
  induction f with
  | zero =>
    intro k K xk wd h hf ex eK hx hs hs2 hS2 hk
    have hlen := (fcs_ok hM hM2).1
    have ek : k = (fcs M).length := by omega
    have eK2 : K = nfM n M (au n T) t := by rw [eK, ek]; rfl
    refine g_iload (pc := 24) (x := xk) dX11_fixedBy_24 rfl ?_
    refine g_aload_n (pc := 26) (r := .inl (some x)) dX11_fixedBy_26 rfl ?_
    refine g_getf (pc := 27) (v := vI ((fcs M).length : Int)) flX11_158 dX11_fixedBy_27 hx rfl ?_
    refine g_icmp_geT (pc := 30) (tgt := 175) dX11_fixedBy_30 (by decide) (by omega) (by omega) (by omega) ?_
    refine g_lload (pc := 175) (x := (K : Int)) dX11_fixedBy_175 rfl ?_
    rw [eK2]
    exact r_long (pc := 177) dX11_fixedBy_177 rfl rfl (Nat.le_refl _) ⟨rfl, ⟨th, wd, _, fm, mu, hx⟩, hs, hs2, hk⟩
  | succ f ih =>
    intro k K xk wd h hf ex eK hx hs hs2 hS2 hk
    have hlen := (fcs_ok hM hM2).1
    have hkl : k < (fcs M).length := by omega
    obtain ⟨b1, b2, b3, b4⟩ := (fcs_ok hM hM2).2.1 _ (pe_mem hkl)
    have f2 := hfac k hkl
    have hqb : (pe M k).1 ^ (pe M k).2 ≤ 500 := Nat.le_trans (Nat.le_of_dvd (by omega) b4) hM2
    have hq2 : 2 ≤ (pe M k).1 ^ (pe M k).2 := by
      have := Nat.pow_le_pow_right (show 0 < (pe M k).1 by have := b1.1; omega) b3
      rw [Nat.pow_one] at this
      have := b1.1
      omega
    obtain ⟨q, eq⟩ : ∃ q, q = (pe M k).1 ^ (pe M k).2 := ⟨_, rfl⟩
    rw [← eq] at hqb hq2 f2
    obtain ⟨⟨f10, s10, r10⟩, ⟨f11, s11, r11⟩, ⟨f12, s12, r12⟩, s13, s14, s15, s16, s17, s18⟩ := id hs
    obtain ⟨⟨f19, s19⟩, ⟨f20, s20⟩, f21, s21⟩ := id hs2
    refine g_iload (pc := 24) (x := xk) dX11_fixedBy_24 rfl ?_
    refine g_aload_n (pc := 26) (r := .inl (some x)) dX11_fixedBy_26 rfl ?_
    refine g_getf (pc := 27) (v := vI ((fcs M).length : Int)) flX11_158 dX11_fixedBy_27 hx rfl ?_
    refine g_icmp_geF (pc := 30) (tgt := 175) dX11_fixedBy_30 (by decide) (by omega) (by omega) (by omega) ?_
    refine g_aload_n (pc := 33) (r := .inl (some x)) dX11_fixedBy_33 rfl ?_
    refine g_getf (pc := 34) (v := vR (x + 16)) flX11_57 dX11_fixedBy_34 hx rfl ?_
    refine g_iload (pc := 37) (x := xk) dX11_fixedBy_37 rfl ?_
    refine g_ialdN (pc := 39) (j := k) dX11_fixedBy_39 hS2 (by omega) (by omega) (by omega) ?_
    rw [f2]
    refine g_istore (pc := 40) (lo2 := [(0, vR x), (1, vI (i : Int)), (2, vJ (t : Int)), (4, vI (n : Int)), (5, vJ (K : Int)), (7, vI xk), (8, vI (q : Int))]) dX11_fixedBy_40 (by decide) rfl ?_
    refine g_aload_n (pc := 42) (r := .inl (some x)) dX11_fixedBy_42 rfl ?_
    refine g_iload_n (pc := 43) (x := (i : Int)) dX11_fixedBy_43 rfl ?_
    refine g_lload_n (pc := 44) (x := (t : Int)) dX11_fixedBy_44 rfl ?_
    refine g_iload (pc := 45) (x := (q : Int)) dX11_fixedBy_45 rfl ?_
    refine g_callV0 (pc := 47) (as := [vI (i : Int), vJ (t : Int), vI (q : Int)]) (b := x) (st := []) lvX11_133 dX11_fixedBy_47 hx (Nat.le_of_ble_eq_true rfl) (by omega) (Nat.zero_le _) (Nat.zero_le _) (c_powers (d := d + 1) (t := t) (q := q) hn hi (by omega) hqb rT rM hz (by omega) r10 r11 r12 hx (hZ0.keep (hk _ (by omega) (by omega))) (hTb0.keep (hk _ (by omega) (by omega))) (hMo0.keep (hk _ (by omega) (by omega))) s10 s11 s12) ?_
    rintro r8 g1 ⟨rfl, k1, o1, ⟨B2, e10, q10⟩, ⟨T2, e12, q12⟩, P2, e11, q11, eP⟩
    have hx1 : Hd (0, 0, N) g1 x (mdl x th ((n + 1 : Nat) : Int) ((fcs M).length : Int) fm mu um pr ts) := ⟨hx.1, o1⟩
    have hP1 : Hd (0, 0, N) g1 (x + 11) (eA 0 25 P2) := ⟨s11.1, e11⟩
    have eP2 : ∀ r c, r < n + 1 → c < n + 1 → P2 (5 * r + c) = mp (n + 1) q (au n T) t (5 * r + c) := fun r c hr hc => by
      have h9 := congrFun eP (5 * r + c)
      obtain ⟨d1, d2⟩ := dm5 (w := n + 1) (r := r) (by omega) hc
      unfold cw at h9
      rw [d1, d2, if_pos ⟨hr, hc⟩, ba_au hn h1 h2] at h9
      exact h9
    refine g_iconst (pc := 50) dX11_fixedBy_50 ?_
    refine g_istore (pc := 51) (lo2 := [(0, vR x), (1, vI (i : Int)), (2, vJ (t : Int)), (4, vI (n : Int)), (5, vJ (K : Int)), (7, vI xk), (8, vI (q : Int)), (9, vI 0)]) dX11_fixedBy_51 (by decide) rfl ?_
    refine fxb_l2 (h0 := g1) hn (by omega) hqb q11 hx1 hP1 (fun E g2 hE u1 k2 => ?_) n 0 _ f19 g1 (by omega) rfl (s19.keep (k1 _ (by omega) (by omega) (by omega) (by omega))) (fun r2 z => absurd z (Nat.not_lt_zero r2)) (fun _ _ => rfl)
    have hEr : ∀ r c, r < n → c ≤ n → 0 ≤ E (5 * r + c) ∧ E (5 * r + c) < q := fun r c hr hc => by
      obtain ⟨y1, y2⟩ := u1 r hr
      by_cases hcn : c = n
      · rw [hcn, y2]
        exact ⟨Int.emod_nonneg _ (by omega), Int.emod_lt_of_pos _ (by omega)⟩
      · rw [y1 c (by omega)]
        exact ⟨Int.emod_nonneg _ (by omega), Int.emod_lt_of_pos _ (by omega)⟩
    have hSS : SS q 0 n (fun r c => E (5 * r + c)) = nfx n q (au n T) t := by
      refine SS_ext (fun r c hr hc => ?_)
      obtain ⟨y1, y2⟩ := u1 r hr
      unfold fixM
      by_cases hcn : c = n
      · rw [if_pos hcn, hcn, y2, eP2 r n (by omega) (by omega)]
      · rw [if_neg hcn, y1 c (by omega), eP2 r c (by omega) (by omega)]
    have hx2 := hx1.keep (k2 x (by omega))
    refine g_lload (pc := 156) (x := (K : Int)) dX11_fixedBy_156 rfl ?_
    refine g_aload_n (pc := 158) (r := .inl (some x)) dX11_fixedBy_158 rfl ?_
    refine g_iload (pc := 159) (x := (n : Int)) dX11_fixedBy_159 rfl ?_
    refine g_iload (pc := 161) (x := (q : Int)) dX11_fixedBy_161 rfl ?_
    refine g_callV0 (pc := 163) (as := [vI (n : Int), vI (q : Int)]) (b := x) (st := [vJ (K : Int)]) lvX11_222 dX11_fixedBy_163 hx2 (Nat.le_of_ble_eq_true rfl) (by omega) (Nat.zero_le _) (Nat.zero_le _) (c_solutions (d := d) (p := (pe M k).1) (k := (pe M k).2) n1 hn b1 eq hq2 hqb hEr hx2 hE (s20.keep ((k2 _ (by omega)).trans (k1 _ (by omega) (by omega) (by omega) (by omega)))) (s21.keep ((k2 _ (by omega)).trans (k1 _ (by omega) (by omega) (by omega) (by omega))))) ?_
    rintro r8 g3 ⟨e9, ⟨E3, v19⟩, ⟨R3, v20⟩, ⟨P3, v21⟩, k3⟩
    subst e9
    rw [hSS]
    refine g_lmul (pc := 166) dX11_fixedBy_166 ?_
    refine g_lstore (pc := 167) (lo2 := [(0, vR x), (1, vI (i : Int)), (2, vJ (t : Int)), (4, vI (n : Int)), (5, vJ ((K : Int) * ((nfx n q (au n T) t : Nat) : Int))), (7, vI xk), (8, vI (q : Int))]) dX11_fixedBy_167 (by decide) rfl ?_
    refine g_iinc (pc := 169) (x := xk) (lo2 := [(0, vR x), (1, vI (i : Int)), (2, vJ (t : Int)), (4, vI (n : Int)), (5, vJ ((K : Int) * ((nfx n q (au n T) t : Nat) : Int))), (7, vI (xk + 1)), (8, vI (q : Int))]) dX11_fixedBy_169 rfl (by decide) rfl ?_
    refine g_goto (pc := 172) (tgt := 24) dX11_fixedBy_172 (by decide) ?_
    rw [← Int.natCast_mul]
    refine g_pick [0, 1, 2, 3, 4, 5] (lo2 := [(0, vR x), (1, vI (i : Int)), (2, vJ (t : Int)), (4, vI (n : Int)), (5, vJ ((K : Int) * ((nfx n q (au n T) t : Nat) : Int))), (7, vI (xk + 1))]) rfl ?_
    exact ih (k + 1) (K * nfx n q (au n T) t) _ _ g3 (by omega) (by omega) (by rw [eK, eq]; rfl) (hx2.keep (k3 x (by omega) (by omega) (by omega))) ⟨⟨B2, ⟨s10.1, ((k3 (x + 10) (by omega) (by omega) (by omega)).trans (k2 (x + 10) (by omega))).trans e10⟩, q10⟩, ⟨P2, ⟨s11.1, ((k3 (x + 11) (by omega) (by omega) (by omega)).trans (k2 (x + 11) (by omega))).trans e11⟩, q11⟩, ⟨T2, ⟨s12.1, ((k3 (x + 12) (by omega) (by omega) (by omega)).trans (k2 (x + 12) (by omega))).trans e12⟩, q12⟩, s13.keep (((k3 (x + 13) (by omega) (by omega) (by omega)).trans (k2 (x + 13) (by omega))).trans (k1 (x + 13) (by omega) (by omega) (by omega) (by omega))), s14.keep (((k3 (x + 14) (by omega) (by omega) (by omega)).trans (k2 (x + 14) (by omega))).trans (k1 (x + 14) (by omega) (by omega) (by omega) (by omega))), s15.elim (fun p hp => ⟨p, hp.keep (((k3 (x + 15) (by omega) (by omega) (by omega)).trans (k2 (x + 15) (by omega))).trans (k1 (x + 15) (by omega) (by omega) (by omega) (by omega)))⟩), s16.elim (fun p hp => ⟨p, hp.keep (((k3 (x + 16) (by omega) (by omega) (by omega)).trans (k2 (x + 16) (by omega))).trans (k1 (x + 16) (by omega) (by omega) (by omega) (by omega)))⟩), s17.elim (fun p hp => ⟨p, hp.keep (((k3 (x + 17) (by omega) (by omega) (by omega)).trans (k2 (x + 17) (by omega))).trans (k1 (x + 17) (by omega) (by omega) (by omega) (by omega)))⟩), s18.elim (fun p hp => ⟨p, hp.keep (((k3 (x + 18) (by omega) (by omega) (by omega)).trans (k2 (x + 18) (by omega))).trans (k1 (x + 18) (by omega) (by omega) (by omega) (by omega)))⟩)⟩ ⟨⟨E3, s19.1, v19⟩, ⟨R3, s20.1, v20⟩, P3, s21.1, v21⟩ (hS2.keep (((k3 (x + 16) (by omega) (by omega) (by omega)).trans (k2 (x + 16) (by omega))).trans (k1 (x + 16) (by omega) (by omega) (by omega) (by omega)))) (fun a a1 a2 => (k3 a (by omega) (by omega) (by omega)).trans ((k2 a (by omega)).trans ((k1 a a1 (by omega) (by omega) (by omega)).trans (hk a a1 a2))))

theorem c_fixedU {N d x i n M t : Nat} {th wd pm fm mu um pr ts : Int} {T Y : Nat → Int} {h : MH} (n1 : 1 ≤ n) (hn : n ≤ 4) (hM : 2 ≤ M) (hM2 : M ≤ 500) (hi : i < 6) (ht : t < 9223372036854775808) (hx : Hd (0, 0, N) h x (mdl x th wd pm fm mu um pr ts)) (hr : MRw N h x i n M T Y) (hs : SCR N h x) (hs2 : SC2 N h x) : Ok mX11_fixedBy (d + 3) 0 0 [vR x, vI (i : Int), vJ (t : Int)] N h (fun r9 h2 => r9 = some (vJ ((nfM n M (au n T) t : Nat) : Int)) ∧ (∃ th wd pm fm mu : Int, Hd (0, 0, N) h2 x (mdl x th wd pm fm mu um pr ts)) ∧ SCR N h2 x ∧ SC2 N h2 x ∧ ∀ a, a ≠ x → (a < x + 10 ∨ x + 21 < a) → h2 a = h a) := by
  refine Ok.of pfX11_fixedBy rfl (Nat.le_of_ble_eq_true rfl) (fun Ls sx => ?_)
  show G mX11_fixedBy (d + 3, 0, 0, Ls, sx) 0 [(0, vR x), (1, vI (i : Int)), (2, vJ (t : Int))] [] (0, 0, N) h _
  obtain ⟨Ms, Sz, Tb, Mo, Pl, m3, m4, m5, m6, m7, rT, rM, rP, hm, hz, h1, h2, h3⟩ := hr
  obtain ⟨s10, s11, s12, s13, s14, ⟨p15, s15⟩, ⟨p16, s16⟩, ⟨p17, s17⟩, p18, s18⟩ := id hs
  refine g_aload_n (pc := 0) (r := .inl (some x)) dX11_fixedBy_0 rfl ?_
  refine g_getf (pc := 1) (v := vR (x + 4)) flX11_20 dX11_fixedBy_1 hx rfl ?_
  refine g_iload_n (pc := 4) (x := (i : Int)) dX11_fixedBy_4 rfl ?_
  refine g_ialdN (pc := 5) (j := i) dX11_fixedBy_5 m4 (by omega) (by omega) (by omega) ?_
  rw [hz]
  refine g_istore (pc := 6) (lo2 := [(0, vR x), (1, vI (i : Int)), (2, vJ (t : Int)), (4, vI (n : Int))]) dX11_fixedBy_6 (by decide) rfl ?_
  refine g_aload_n (pc := 8) (r := .inl (some x)) dX11_fixedBy_8 rfl ?_
  refine g_aload_n (pc := 9) (r := .inl (some x)) dX11_fixedBy_9 rfl ?_
  refine g_getf (pc := 10) (v := vR (x + 3)) flX11_17 dX11_fixedBy_10 hx rfl ?_
  refine g_iload_n (pc := 13) (x := (i : Int)) dX11_fixedBy_13 rfl ?_
  refine g_ialdN (pc := 14) (j := i) dX11_fixedBy_14 m3 (by omega) (by omega) (by omega) ?_
  rw [hm]
  refine g_callV0 (pc := 15) (as := [vI (M : Int)]) (b := x) (st := []) lvX11_164 dX11_fixedBy_15 hx (Nat.le_of_ble_eq_true rfl) (by omega) (Nat.zero_le _) (Nat.zero_le _) (c_parts (d := d + 2) hM hM2 hx s15 s16 s17) ?_
  rintro r8 g1 ⟨rfl, o1, ⟨P2, S2, O2, e1, e2, e3, hfac⟩, k1⟩
  refine g_lconst1 (pc := 18) dX11_fixedBy_18 ?_
  refine g_lstore (pc := 19) (lo2 := [(0, vR x), (1, vI (i : Int)), (2, vJ (t : Int)), (4, vI (n : Int)), (5, vJ 1)]) dX11_fixedBy_19 (by decide) rfl ?_
  refine g_iconst (pc := 21) dX11_fixedBy_21 ?_
  refine g_istore (pc := 22) (lo2 := [(0, vR x), (1, vI (i : Int)), (2, vJ (t : Int)), (4, vI (n : Int)), (5, vJ 1), (7, vI 0)]) dX11_fixedBy_22 (by decide) rfl ?_
  refine Q_mono (fxb_l3 (h0 := g1) (T := T) n1 hn hM hM2 hi ht rT rM hz h1 h2 (fun j hj => (hfac j hj).2.1) (m4.keep (k1 _ (by omega) (by omega) (by omega) (by omega))) (m5.keep (k1 _ (by omega) (by omega) (by omega) (by omega))) (m6.keep (k1 _ (by omega) (by omega) (by omega) (by omega))) (fcs M).length 0 1 _ _ g1 (by omega) rfl rfl ⟨hx.1, o1⟩ ⟨s10.keep (k1 _ (by omega) (by omega) (by omega) (by omega)), s11.keep (k1 _ (by omega) (by omega) (by omega) (by omega)), s12.keep (k1 _ (by omega) (by omega) (by omega) (by omega)), s13.keep (k1 _ (by omega) (by omega) (by omega) (by omega)), s14.keep (k1 _ (by omega) (by omega) (by omega) (by omega)), ⟨P2, s15.1, e1⟩, ⟨S2, s16.1, e2⟩, ⟨O2, s17.1, e3⟩, p18, s18.keep (k1 _ (by omega) (by omega) (by omega) (by omega))⟩ (hs2.keep (fun a z1 z2 => k1 a (by omega) (by omega) (by omega) (by omega))) ⟨s16.1, e2⟩ (fun _ _ _ => rfl)) ?_
  rintro r9 g2 ⟨f1, f2, f3, f5, f4⟩
  exact ⟨f1, f2, f3, f5, fun a a1 a2 => (f4 a a1 a2).trans (k1 a a1 (by omega) (by omega) (by omega))⟩

theorem c_fixedBy {N d x i n M t : Nat} {pr ts : Int} {T Y : Nat → Int} {h : MH} (n1 : 1 ≤ n) (hn : n ≤ 4) (hM : 2 ≤ M) (hM2 : M ≤ 500) (hi : i < 6) (ht : t < 9223372036854775808) (hx : MO N h x pr ts) (hr : MRw N h x i n M T Y) (hs : SCR N h x) (hs2 : SC2 N h x) : Ok mX11_fixedBy (d + 3) 0 0 [vR x, vI (i : Int), vJ (t : Int)] N h (fun r9 h2 => r9 = some (vJ ((nfM n M (au n T) t : Nat) : Int)) ∧ MO N h2 x pr ts ∧ SCR N h2 x ∧ SC2 N h2 x ∧ ∀ a, a ≠ x → (a < x + 10 ∨ x + 21 < a) → h2 a = h a) := by
  obtain ⟨th, wd, pm, fm, mu, um, hx⟩ := hx
  refine Ok.mono (c_fixedU n1 hn hM hM2 hi ht hx hr hs hs2) ?_
  rintro r9 h2 ⟨e1, ⟨th2, wd2, pm2, fm2, mu2, hx2⟩, e3⟩
  exact ⟨e1, ⟨_, _, _, _, _, _, hx2⟩, e3⟩
