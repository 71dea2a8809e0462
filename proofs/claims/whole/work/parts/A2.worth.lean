/-! ===== the reference: worth ===== -/
def orN (u c : Nat) : Nat := if u / 2 ^ c % 2 = 1 then u else u + 2 ^ c
theorem bit_all : ∀ u : Nat, u < 16 → ∀ k : Nat, k < 4 → (Int32.ofInt (Int32.ofInt (u : Int) >>> (Int32.ofInt (k : Int) &&& 31)).toInt &&& Int32.ofInt 1).toInt = ((u / 2 ^ k % 2 : Nat) : Int) := by decide +kernel
theorem or_all : ∀ u : Nat, u < 16 → ∀ k : Nat, k < 4 → (Int32.ofInt (u : Int) ||| Int32.ofInt (Int32.ofInt 1 <<< (Int32.ofInt (k : Int) &&& 31)).toInt).toInt = ((orN u k : Nat) : Int) ∧ orN u k < 16 := by decide +kernel
def swk (u : Nat) : Nat → Nat → Nat
  | _, 0 => 0
  | k, m + 1 => u / 2 ^ k % 2 + swk u (k + 1) m
theorem swk_le (u : Nat) : ∀ m k, swk u k m ≤ m
  | 0, _ => Nat.le_refl _
  | m + 1, k => by
    have := swk_le u m (k + 1)
    have := Nat.mod_lt (u / 2 ^ k) (show 0 < 2 by omega)
    show u / 2 ^ k % 2 + swk u (k + 1) m ≤ m + 1
    omega
/-- a product of the sum, with its sign -/
def wst (n : Nat) (T : Nat → Int) : Nat → Nat → Int → Nat → Nat → Nat → Int
  | 0, _, p, _, _, s => if s % 2 = 0 then p else -p
  | f + 1, r, p, rest, u, s => wst n T f (r + 1) (if u / 2 ^ (rest % n) % 2 = 1 then 0 else p * T (5 * r + rest % n)) (rest / n) (orN u (rest % n)) (s + swk u (rest % n + 1) (n - 1 - rest % n))

theorem wor_l1 {κ : KX} {ρ : MR} {Q : Option MV → MR → MH → Prop} {x i n u c : Nat} {sm al xx p rs xr : Int} {h : MH} (hn : n ≤ 4) (hu : u < 16) : ∀ (m k : Nat) (xk xs : Int), k + m = n → xk = (k : Int) → (∀ e2 : Int, e2 = xs + ((swk u k m : Nat) : Int) → G mX11_worth κ 107 [(0, vR x), (1, vI (i : Int)), (2, vI (n : Int)), (3, vJ sm), (5, vI al), (6, vI xx), (7, vJ p), (9, vI rs), (10, vI (u : Int)), (11, vI e2), (12, vI xr), (13, vI (c : Int))] [] ρ h Q) → G mX11_worth κ 83 [(0, vR x), (1, vI (i : Int)), (2, vI (n : Int)), (3, vJ sm), (5, vI al), (6, vI xx), (7, vJ p), (9, vI rs), (10, vI (u : Int)), (11, vI xs), (12, vI xr), (13, vI (c : Int)), (14, vI xk)] [] ρ h Q := by
  intro m
  induction m with
  | zero =>
    intro k xk xs hm ek hK
    refine g_iload (pc := 83) (x := xk) dX11_worth_83 rfl ?_
    refine g_iload_n (pc := 85) (x := (n : Int)) dX11_worth_85 rfl ?_
    refine g_icmp_geT (pc := 86) (tgt := 107) dX11_worth_86 (by decide) (by omega) (by omega) (by omega) ?_
    refine g_pick [0, 1, 2, 3, 4, 5, 6, 7, 8, 9, 10, 11] (lo2 := [(0, vR x), (1, vI (i : Int)), (2, vI (n : Int)), (3, vJ sm), (5, vI al), (6, vI xx), (7, vJ p), (9, vI rs), (10, vI (u : Int)), (11, vI xs), (12, vI xr), (13, vI (c : Int))]) rfl ?_
    exact hK _ (by show xs = xs + 0; omega)
  | succ m ih =>
    intro k xk xs hm ek hK
    have hb := bit_all u hu k (by omega)
    refine g_iload (pc := 83) (x := xk) dX11_worth_83 rfl ?_
    refine g_iload_n (pc := 85) (x := (n : Int)) dX11_worth_85 rfl ?_
    refine g_icmp_geF (pc := 86) (tgt := 107) dX11_worth_86 (by decide) (by omega) (by omega) (by omega) ?_
    refine g_iload (pc := 89) (x := xs) dX11_worth_89 rfl ?_
    refine g_iload (pc := 91) (x := (u : Int)) dX11_worth_91 rfl ?_
    refine g_iload (pc := 93) (x := xk) dX11_worth_93 rfl ?_
    refine g_ishr (pc := 95) dX11_worth_95 ?_
    refine g_iconst (pc := 96) dX11_worth_96 ?_
    refine g_iand (pc := 97) dX11_worth_97 ?_
    refine g_iadd (pc := 98) dX11_worth_98 ?_
    refine g_istore (pc := 99) (lo2 := [(0, vR x), (1, vI (i : Int)), (2, vI (n : Int)), (3, vJ sm), (5, vI al), (6, vI xx), (7, vJ p), (9, vI rs), (10, vI (u : Int)), (11, vI (xs + ((Int32.ofInt ((Int32.ofInt (u : Int) >>> (Int32.ofInt xk &&& 31)).toInt) &&& Int32.ofInt 1).toInt))), (12, vI xr), (13, vI (c : Int)), (14, vI xk)]) dX11_worth_99 (by decide) rfl ?_
    refine g_iinc (pc := 101) (x := xk) (lo2 := [(0, vR x), (1, vI (i : Int)), (2, vI (n : Int)), (3, vJ sm), (5, vI al), (6, vI xx), (7, vJ p), (9, vI rs), (10, vI (u : Int)), (11, vI (xs + ((Int32.ofInt ((Int32.ofInt (u : Int) >>> (Int32.ofInt xk &&& 31)).toInt) &&& Int32.ofInt 1).toInt))), (12, vI xr), (13, vI (c : Int)), (14, vI (xk + 1))]) dX11_worth_101 rfl (by decide) rfl ?_
    refine g_goto (pc := 104) (tgt := 83) dX11_worth_104 (by decide) ?_
    rw [ek] at *
    rw [hb]
    refine ih (k + 1) _ _ (by omega) (by omega) (fun e2 he => hK e2 ?_)
    rw [he]
    show _ = xs + ((u / 2 ^ k % 2 + swk u (k + 1) m : Nat) : Int)
    omega

theorem wor_l2 {κ : KX} {N x i n : Nat} {Q : Option MV → MR → MH → Prop} {th wd pm fm mu um pr ts : Int} {sm al xx : Int} {T Tb : Nat → Int} {h : MH} (n1 : 1 ≤ n) (hn : n ≤ 4) (hi : i < 6) (rT : rng Tb) (h1 : ∀ r c, r < n → c < n → Tb (16 * i + 4 * r + c) = T (5 * r + c)) (hx : Hd (0, 0, N) h x (mdl x th wd pm fm mu um pr ts)) (hTb : Hd (0, 0, N) h (x + 5) (eA 0 96 Tb)) : ∀ (f r rs u s : Nat) (xr p : Int), r + f = n → xr = (r : Int) → rs ≤ 1000 → u < 16 → s ≤ 4 * r → (∀ (p2 : Int) (s2 : Nat), s2 ≤ 16 → wst n T f r p rs u s = (if s2 % 2 = 0 then p2 else -p2) → G mX11_worth κ 160 [(0, vR x), (1, vI (i : Int)), (2, vI (n : Int)), (3, vJ sm), (5, vI al), (6, vI xx), (7, vJ p2), (11, vI ((s2 : Nat) : Int))] [] (0, 0, N) h Q) → G mX11_worth κ 59 [(0, vR x), (1, vI (i : Int)), (2, vI (n : Int)), (3, vJ sm), (5, vI al), (6, vI xx), (7, vJ p), (9, vI (rs : Int)), (10, vI (u : Int)), (11, vI (s : Int)), (12, vI xr)] [] (0, 0, N) h Q := by
  intro f
  induction f with
  | zero =>
    intro r rs u s xr p hf er hrs hu hs hK
    refine g_iload (pc := 59) (x := xr) dX11_worth_59 rfl ?_
    refine g_iload_n (pc := 61) (x := (n : Int)) dX11_worth_61 rfl ?_
    refine g_icmp_geT (pc := 62) (tgt := 160) dX11_worth_62 (by decide) (by omega) (by omega) (by omega) ?_
    refine g_pick [0, 1, 2, 3, 4, 5, 6, 9] (lo2 := [(0, vR x), (1, vI (i : Int)), (2, vI (n : Int)), (3, vJ sm), (5, vI al), (6, vI xx), (7, vJ p), (11, vI (s : Int))]) rfl ?_
    exact hK p s (by omega) rfl
  | succ f ih =>
    intro r rs u s xr p hf er hrs hu hs hK
    have em := tmodN (rfl : (rs : Int) = (rs : Int)) (rfl : (n : Int) = (n : Int))
    have ed := tdivN (rfl : (rs : Int) = (rs : Int)) (rfl : (n : Int) = (n : Int))
    have hc := Nat.mod_lt rs n1
    have hd := Nat.div_le_self rs n
    have hT := h1 r (rs % n) (by omega) hc
    have hrg := rT (16 * i + 4 * r + rs % n)
    have hsw := swk_le u (n - 1 - rs % n) (rs % n + 1)
    have hstep : wst n T (f + 1) r p rs u s = wst n T f (r + 1) (if u / 2 ^ (rs % n) % 2 = 1 then 0 else p * T (5 * r + rs % n)) (rs / n) (orN u (rs % n)) (s + swk u (rs % n + 1) (n - 1 - rs % n)) := rfl
    rw [hstep] at hK
    obtain ⟨c, ec⟩ : ∃ c, c = rs % n := ⟨_, rfl⟩
    rw [← ec] at em hc hT hrg hsw hK
    obtain ⟨ho1, ho2⟩ := or_all u hu c (by omega)
    have hb := bit_all u hu c (by omega)
    refine g_iload (pc := 59) (x := xr) dX11_worth_59 rfl ?_
    refine g_iload_n (pc := 61) (x := (n : Int)) dX11_worth_61 rfl ?_
    refine g_icmp_geF (pc := 62) (tgt := 160) dX11_worth_62 (by decide) (by omega) (by omega) (by omega) ?_
    refine g_iload (pc := 65) (x := (rs : Int)) dX11_worth_65 rfl ?_
    refine g_iload_n (pc := 67) (x := (n : Int)) dX11_worth_67 rfl ?_
    refine g_irem (pc := 68) dX11_worth_68 (by omega) (by omega) (by omega) ?_
    refine g_istore (pc := 69) (lo2 := [(0, vR x), (1, vI (i : Int)), (2, vI (n : Int)), (3, vJ sm), (5, vI al), (6, vI xx), (7, vJ p), (9, vI (rs : Int)), (10, vI (u : Int)), (11, vI (s : Int)), (12, vI xr), (13, vI ((rs : Int).tmod (n : Int)))]) dX11_worth_69 (by decide) rfl ?_
    refine g_iload (pc := 71) (x := (rs : Int)) dX11_worth_71 rfl ?_
    refine g_iload_n (pc := 73) (x := (n : Int)) dX11_worth_73 rfl ?_
    refine g_idiv (pc := 74) dX11_worth_74 (by omega) (by omega) (by omega) ?_
    refine g_istore (pc := 75) (lo2 := [(0, vR x), (1, vI (i : Int)), (2, vI (n : Int)), (3, vJ sm), (5, vI al), (6, vI xx), (7, vJ p), (9, vI ((rs : Int).tdiv (n : Int))), (10, vI (u : Int)), (11, vI (s : Int)), (12, vI xr), (13, vI ((rs : Int).tmod (n : Int)))]) dX11_worth_75 (by decide) rfl ?_
    refine g_iload (pc := 77) (x := (rs : Int).tmod (n : Int)) dX11_worth_77 rfl ?_
    refine g_iconst (pc := 79) dX11_worth_79 ?_
    refine g_iadd (pc := 80) dX11_worth_80 ?_
    refine g_istore (pc := 81) (lo2 := [(0, vR x), (1, vI (i : Int)), (2, vI (n : Int)), (3, vJ sm), (5, vI al), (6, vI xx), (7, vJ p), (9, vI ((rs : Int).tdiv (n : Int))), (10, vI (u : Int)), (11, vI (s : Int)), (12, vI xr), (13, vI ((rs : Int).tmod (n : Int))), (14, vI (((rs : Int).tmod (n : Int)) + 1))]) dX11_worth_81 (by decide) rfl ?_
    rw [em, ed]
    refine wor_l1 hn hu (n - 1 - c) (c + 1) _ _ (by omega) rfl (fun e2 he2 => ?_)
    obtain ⟨s3, es3⟩ : ∃ s3 : Nat, s3 = s + swk u (c + 1) (n - 1 - c) := ⟨_, rfl⟩
    rw [← es3] at hK
    have e2s : e2 = (s3 : Int) := by omega
    subst e2s
    refine g_iload (pc := 107) (x := (u : Int)) dX11_worth_107 rfl ?_
    refine g_iload (pc := 109) (x := (c : Int)) dX11_worth_109 rfl ?_
    refine g_ishr (pc := 111) dX11_worth_111 ?_
    refine g_iconst (pc := 112) dX11_worth_112 ?_
    refine g_iand (pc := 113) dX11_worth_113 ?_
    refine g_iconst (pc := 114) dX11_worth_114 ?_
    rw [hb]
    have hb2 := Nat.mod_lt (u / 2 ^ c) (show 0 < 2 by omega)
    obtain ⟨bb, ebb⟩ : ∃ bb, bb = u / 2 ^ c % 2 := ⟨_, rfl⟩
    rw [← ebb] at hb2 hK ⊢
    refine g_icmp_ne (pc := 115) (tgt := 122) dX11_worth_115 (by decide) (by omega) (by omega) (fun h9 => ?_) (fun h9 => ?_)
    · refine g_lload (pc := 122) (x := p) dX11_worth_122 rfl ?_
      refine g_aload_n (pc := 124) (r := .inl (some x)) dX11_worth_124 rfl ?_
      refine g_getf (pc := 125) (v := vR (x + 5)) flX11_23 dX11_worth_125 hx rfl ?_
      refine g_bipush (pc := 128) dX11_worth_128 (by decide +kernel) ?_
      refine g_iload_n (pc := 130) (x := (i : Int)) dX11_worth_130 rfl ?_
      refine g_imul (pc := 131) dX11_worth_131 ?_
      refine g_iconst (pc := 132) dX11_worth_132 ?_
      refine g_iload (pc := 133) (x := xr) dX11_worth_133 rfl ?_
      refine g_imul (pc := 135) dX11_worth_135 ?_
      refine g_iadd (pc := 136) dX11_worth_136 ?_
      refine g_iload (pc := 137) (x := (c : Int)) dX11_worth_137 rfl ?_
      refine g_iadd (pc := 139) dX11_worth_139 ?_
      refine g_ialdN (pc := 140) (j := 16 * i + 4 * r + c) dX11_worth_140 hTb (by omega) (by omega) (by omega) ?_
      rw [hT]
      rw [hT] at hrg
      refine g_i2l (pc := 141) dX11_worth_141 (by omega) ?_
      refine g_lmul (pc := 142) dX11_worth_142 ?_
      refine g_lstore (pc := 143) (lo2 := [(0, vR x), (1, vI (i : Int)), (2, vI (n : Int)), (3, vJ sm), (5, vI al), (6, vI xx), (7, vJ (p * (T (5 * r + c)))), (9, vI ((rs / n : Nat) : Int)), (10, vI (u : Int)), (11, vI (s3 : Int)), (12, vI xr), (13, vI (c : Int))]) dX11_worth_143 (by decide) rfl ?_
      refine g_iload (pc := 145) (x := (u : Int)) dX11_worth_145 rfl ?_
      refine g_iconst (pc := 147) dX11_worth_147 ?_
      refine g_iload (pc := 148) (x := (c : Int)) dX11_worth_148 rfl ?_
      refine g_ishl (pc := 150) dX11_worth_150 ?_
      refine g_ior (pc := 151) dX11_worth_151 ?_
      refine g_istore (pc := 152) (lo2 := [(0, vR x), (1, vI (i : Int)), (2, vI (n : Int)), (3, vJ sm), (5, vI al), (6, vI xx), (7, vJ (p * (T (5 * r + c)))), (9, vI ((rs / n : Nat) : Int)), (10, vI ((Int32.ofInt (u : Int) ||| Int32.ofInt ((Int32.ofInt 1 <<< (Int32.ofInt (c : Int) &&& 31)).toInt)).toInt)), (11, vI (s3 : Int)), (12, vI xr), (13, vI (c : Int))]) dX11_worth_152 (by decide) rfl ?_
      refine g_iinc (pc := 154) (x := xr) (lo2 := [(0, vR x), (1, vI (i : Int)), (2, vI (n : Int)), (3, vJ sm), (5, vI al), (6, vI xx), (7, vJ (p * (T (5 * r + c)))), (9, vI ((rs / n : Nat) : Int)), (10, vI ((Int32.ofInt (u : Int) ||| Int32.ofInt ((Int32.ofInt 1 <<< (Int32.ofInt (c : Int) &&& 31)).toInt)).toInt)), (11, vI (s3 : Int)), (12, vI (xr + 1)), (13, vI (c : Int))]) dX11_worth_154 rfl (by decide) rfl ?_
      refine g_goto (pc := 157) (tgt := 59) dX11_worth_157 (by decide) ?_
      rw [ho1]
      refine g_pick [0, 1, 2, 3, 4, 5, 6, 7, 8, 9, 10] (lo2 := [(0, vR x), (1, vI (i : Int)), (2, vI (n : Int)), (3, vJ sm), (5, vI al), (6, vI xx), (7, vJ (p * (T (5 * r + c)))), (9, vI ((rs / n : Nat) : Int)), (10, vI ((orN u c : Nat) : Int)), (11, vI (s3 : Int)), (12, vI (xr + 1))]) rfl ?_
      refine ih (r + 1) (rs / n) (orN u c) s3 _ _ (by omega) (by omega) (by omega) ho2 (by omega) (fun p2 s2 z1 z2 => hK p2 s2 z1 ?_)
      rw [if_neg (show ¬ bb = 1 by omega)]
      exact z2
    · refine g_lconst0 (pc := 118) dX11_worth_118 ?_
      refine g_goto (pc := 119) (tgt := 143) dX11_worth_119 (by decide) ?_
      refine g_lstore (pc := 143) (lo2 := [(0, vR x), (1, vI (i : Int)), (2, vI (n : Int)), (3, vJ sm), (5, vI al), (6, vI xx), (7, vJ 0), (9, vI ((rs / n : Nat) : Int)), (10, vI (u : Int)), (11, vI (s3 : Int)), (12, vI xr), (13, vI (c : Int))]) dX11_worth_143 (by decide) rfl ?_
      refine g_iload (pc := 145) (x := (u : Int)) dX11_worth_145 rfl ?_
      refine g_iconst (pc := 147) dX11_worth_147 ?_
      refine g_iload (pc := 148) (x := (c : Int)) dX11_worth_148 rfl ?_
      refine g_ishl (pc := 150) dX11_worth_150 ?_
      refine g_ior (pc := 151) dX11_worth_151 ?_
      refine g_istore (pc := 152) (lo2 := [(0, vR x), (1, vI (i : Int)), (2, vI (n : Int)), (3, vJ sm), (5, vI al), (6, vI xx), (7, vJ 0), (9, vI ((rs / n : Nat) : Int)), (10, vI ((Int32.ofInt (u : Int) ||| Int32.ofInt ((Int32.ofInt 1 <<< (Int32.ofInt (c : Int) &&& 31)).toInt)).toInt)), (11, vI (s3 : Int)), (12, vI xr), (13, vI (c : Int))]) dX11_worth_152 (by decide) rfl ?_
      refine g_iinc (pc := 154) (x := xr) (lo2 := [(0, vR x), (1, vI (i : Int)), (2, vI (n : Int)), (3, vJ sm), (5, vI al), (6, vI xx), (7, vJ 0), (9, vI ((rs / n : Nat) : Int)), (10, vI ((Int32.ofInt (u : Int) ||| Int32.ofInt ((Int32.ofInt 1 <<< (Int32.ofInt (c : Int) &&& 31)).toInt)).toInt)), (11, vI (s3 : Int)), (12, vI (xr + 1)), (13, vI (c : Int))]) dX11_worth_154 rfl (by decide) rfl ?_
      refine g_goto (pc := 157) (tgt := 59) dX11_worth_157 (by decide) ?_
      rw [ho1]
      refine g_pick [0, 1, 2, 3, 4, 5, 6, 7, 8, 9, 10] (lo2 := [(0, vR x), (1, vI (i : Int)), (2, vI (n : Int)), (3, vJ sm), (5, vI al), (6, vI xx), (7, vJ 0), (9, vI ((rs / n : Nat) : Int)), (10, vI ((orN u c : Nat) : Int)), (11, vI (s3 : Int)), (12, vI (xr + 1))]) rfl ?_
      refine ih (r + 1) (rs / n) (orN u c) s3 _ _ (by omega) (by omega) (by omega) ho2 (by omega) (fun p2 s2 z1 z2 => hK p2 s2 z1 ?_)
      rw [if_pos (show bb = 1 by omega)]
      exact z2

theorem wor_l3 {N d x i n M al Ls : Nat} {th wd pm fm mu um pr ts : Int} {T Tb Ms sx : Nat → Int} {h : MH} (n1 : 1 ≤ n) (hn : n ≤ 4) (hi : i < 6) (hM : 2 ≤ M) (hM2 : M ≤ 500) (ha : al ≤ 256) (rT : rng Tb) (h1 : ∀ r c, r < n → c < n → Tb (16 * i + 4 * r + c) = T (5 * r + c)) (hm : Ms i = (M : Int)) (hdet : ss (fun x => wst n T n 0 1 x 0 0) 0 al = detF n T) (hdb : i64 (detF n T)) (hx : Hd (0, 0, N) h x (mdl x th wd pm fm mu um pr ts)) (hTb : Hd (0, 0, N) h (x + 5) (eA 0 96 Tb)) (hMs : Hd (0, 0, N) h (x + 3) (eA 0 6 Ms)) : ∀ (f j : Nat) (xx sm : Int), j + f = al → xx = (j : Int) → sm = ss (fun x => wst n T n 0 1 x 0 0) 0 j → G mX11_worth (d + 1, 0, 0, Ls, sx) 36 [(0, vR x), (1, vI (i : Int)), (2, vI (n : Int)), (3, vJ sm), (5, vI (al : Int)), (6, vI xx)] [] (0, 0, N) h (Pq mX11_worth 0 0 (fun r h2 => h2 = h ∧ r = some (vI (detF n T % (M : Int))))) := by
  intro f
  induction f with
  | zero =>
    intro j xx sm hf ex es
    have ej : j = al := by omega
    rw [ej, hdet] at es
    subst es
    refine g_iload (pc := 36) (x := xx) dX11_worth_36 rfl ?_
    refine g_iload (pc := 38) (x := (al : Int)) dX11_worth_38 rfl ?_
    refine g_icmp_geT (pc := 40) (tgt := 184) dX11_worth_40 (by decide) (by omega) (by omega) (by omega) ?_
    refine g_lload_n (pc := 184) (x := detF n T) dX11_worth_184 rfl ?_
    refine g_aload_n (pc := 185) (r := .inl (some x)) dX11_worth_185 rfl ?_
    refine g_getf (pc := 186) (v := vR (x + 3)) flX11_17 dX11_worth_186 hx rfl ?_
    refine g_iload_n (pc := 189) (x := (i : Int)) dX11_worth_189 rfl ?_
    refine g_ialdN (pc := 190) (j := i) dX11_worth_190 hMs (by omega) (by omega) (by omega) ?_
    rw [hm]
    refine g_callS0 (pc := 191) (as := [vJ (detF n T), vI (M : Int)]) (st := []) lsX11_116 dX11_worth_191 (Nat.le_of_ble_eq_true rfl) (by omega) (Nat.zero_le _) (Nat.zero_le _) (c_mrestOf (d := d) hdb (by omega) (by omega)) ?_
    rintro r h2 ⟨e9, rfl⟩
    subst e9
    exact r_int (pc := 194) dX11_worth_194 rfl rfl (Nat.le_refl _) ⟨rfl, rfl⟩
  | succ f ih =>
    intro j xx sm hf ex es
    refine g_iload (pc := 36) (x := xx) dX11_worth_36 rfl ?_
    refine g_iload (pc := 38) (x := (al : Int)) dX11_worth_38 rfl ?_
    refine g_icmp_geF (pc := 40) (tgt := 184) dX11_worth_40 (by decide) (by omega) (by omega) (by omega) ?_
    refine g_lconst1 (pc := 43) dX11_worth_43 ?_
    refine g_lstore (pc := 44) (lo2 := [(0, vR x), (1, vI (i : Int)), (2, vI (n : Int)), (3, vJ sm), (5, vI (al : Int)), (6, vI xx), (7, vJ 1)]) dX11_worth_44 (by decide) rfl ?_
    refine g_iload (pc := 46) (x := xx) dX11_worth_46 rfl ?_
    refine g_istore (pc := 48) (lo2 := [(0, vR x), (1, vI (i : Int)), (2, vI (n : Int)), (3, vJ sm), (5, vI (al : Int)), (6, vI xx), (7, vJ 1), (9, vI xx)]) dX11_worth_48 (by decide) rfl ?_
    refine g_iconst (pc := 50) dX11_worth_50 ?_
    refine g_istore (pc := 51) (lo2 := [(0, vR x), (1, vI (i : Int)), (2, vI (n : Int)), (3, vJ sm), (5, vI (al : Int)), (6, vI xx), (7, vJ 1), (9, vI xx), (10, vI 0)]) dX11_worth_51 (by decide) rfl ?_
    refine g_iconst (pc := 53) dX11_worth_53 ?_
    refine g_istore (pc := 54) (lo2 := [(0, vR x), (1, vI (i : Int)), (2, vI (n : Int)), (3, vJ sm), (5, vI (al : Int)), (6, vI xx), (7, vJ 1), (9, vI xx), (10, vI 0), (11, vI 0)]) dX11_worth_54 (by decide) rfl ?_
    refine g_iconst (pc := 56) dX11_worth_56 ?_
    refine g_istore (pc := 57) (lo2 := [(0, vR x), (1, vI (i : Int)), (2, vI (n : Int)), (3, vJ sm), (5, vI (al : Int)), (6, vI xx), (7, vJ 1), (9, vI xx), (10, vI 0), (11, vI 0), (12, vI 0)]) dX11_worth_57 (by decide) rfl ?_
    subst ex
    refine wor_l2 n1 hn hi rT h1 hx hTb n 0 j 0 0 _ _ (by omega) rfl (by omega) (by omega) (by omega) (fun p2 s2 z1 z2 => ?_)
    have em : ((s2 : Nat) : Int).tmod 2 = ((s2 % 2 : Nat) : Int) := tmodN rfl rfl
    have hm2 := Nat.mod_lt s2 (show 0 < 2 by omega)
    refine g_lload_n (pc := 160) (x := sm) dX11_worth_160 rfl ?_
    refine g_iload (pc := 161) (x := ((s2 : Nat) : Int)) dX11_worth_161 rfl ?_
    refine g_iconst (pc := 163) dX11_worth_163 ?_
    refine g_irem (pc := 164) dX11_worth_164 (by omega) (by omega) (by omega) ?_
    rw [em]
    refine g_if_ne (pc := 165) (tgt := 173) dX11_worth_165 (by decide) (by omega) (fun h9 => ?_) (fun h9 => ?_)
    · refine g_lload (pc := 173) (x := p2) dX11_worth_173 rfl ?_
      refine g_lneg (pc := 175) dX11_worth_175 ?_
      refine g_ladd (pc := 176) dX11_worth_176 ?_
      refine g_lstore_n (pc := 177) (lo2 := [(0, vR x), (1, vI (i : Int)), (2, vI (n : Int)), (3, vJ (sm + (-p2))), (5, vI (al : Int)), (6, vI (j : Int)), (7, vJ p2), (11, vI ((s2 : Nat) : Int))]) dX11_worth_177 (by decide) rfl ?_
      refine g_iinc (pc := 178) (x := (j : Int)) (lo2 := [(0, vR x), (1, vI (i : Int)), (2, vI (n : Int)), (3, vJ (sm + (-p2))), (5, vI (al : Int)), (6, vI ((j : Int) + 1)), (7, vJ p2), (11, vI ((s2 : Nat) : Int))]) dX11_worth_178 rfl (by decide) rfl ?_
      refine g_goto (pc := 181) (tgt := 36) dX11_worth_181 (by decide) ?_
      refine g_pick [0, 1, 2, 3, 4, 5] (lo2 := [(0, vR x), (1, vI (i : Int)), (2, vI (n : Int)), (3, vJ (sm + (-p2))), (5, vI (al : Int)), (6, vI ((j : Int) + 1))]) rfl ?_
      refine ih (j + 1) _ _ (by omega) (by omega) ?_
      rw [ss_last, ← es, Nat.zero_add, z2, if_neg (show ¬ s2 % 2 = 0 by omega)]
    · refine g_lload (pc := 168) (x := p2) dX11_worth_168 rfl ?_
      refine g_goto (pc := 170) (tgt := 176) dX11_worth_170 (by decide) ?_
      refine g_ladd (pc := 176) dX11_worth_176 ?_
      refine g_lstore_n (pc := 177) (lo2 := [(0, vR x), (1, vI (i : Int)), (2, vI (n : Int)), (3, vJ (sm + p2)), (5, vI (al : Int)), (6, vI (j : Int)), (7, vJ p2), (11, vI ((s2 : Nat) : Int))]) dX11_worth_177 (by decide) rfl ?_
      refine g_iinc (pc := 178) (x := (j : Int)) (lo2 := [(0, vR x), (1, vI (i : Int)), (2, vI (n : Int)), (3, vJ (sm + p2)), (5, vI (al : Int)), (6, vI ((j : Int) + 1)), (7, vJ p2), (11, vI ((s2 : Nat) : Int))]) dX11_worth_178 rfl (by decide) rfl ?_
      refine g_goto (pc := 181) (tgt := 36) dX11_worth_181 (by decide) ?_
      refine g_pick [0, 1, 2, 3, 4, 5] (lo2 := [(0, vR x), (1, vI (i : Int)), (2, vI (n : Int)), (3, vJ (sm + p2)), (5, vI (al : Int)), (6, vI ((j : Int) + 1))]) rfl ?_
      refine ih (j + 1) _ _ (by omega) (by omega) ?_
      rw [ss_last, ← es, Nat.zero_add, z2, if_pos (show s2 % 2 = 0 by omega)]

theorem det_1 (T : Nat → Int) : ss (fun x => wst 1 T 1 0 1 x 0 0) 0 1 = detF 1 T := by
  simp [ss, wst, swk, orN, detF, prF, sqF]
theorem det_2 (T : Nat → Int) : ss (fun x => wst 2 T 2 0 1 x 0 0) 0 4 = detF 2 T := by
  simp [ss, wst, swk, orN, detF, prF, sqF]
  grind
theorem det_3 (T : Nat → Int) : ss (fun x => wst 3 T 3 0 1 x 0 0) 0 27 = detF 3 T := by
  simp [ss, wst, swk, orN, detF, prF, sqF]
  grind
theorem ss_split (f : Nat → Int) (a : Nat) : ∀ b j, ss f j (b + a) = ss f j b + ss f (j + b) a
  | 0, j => by
    rw [Nat.zero_add, Nat.add_zero]
    show _ = 0 + _
    omega
  | b + 1, j => by
    rw [show b + 1 + a = (b + a) + 1 by omega]
    show f j + ss f (j + 1) (b + a) = f j + ss f (j + 1) b + ss f (j + (b + 1)) a
    rw [ss_split f a b (j + 1), show j + 1 + b = j + (b + 1) by omega]
    omega
