/-! ===== Equations: clear, countFixed ===== -/
theorem clr_l1 {N d b n q i L w Ls : Nat} {sx : Nat → Int} {pv lr lc : Int} {g : Nat → Nat} {F0 : Nat → Nat → Int} {h0 : MH} {Q : Option MV → MR → MH → Prop} (hn : n ≤ 4) (hq : 0 < q) (hq2 : q ≤ 500) (hi : i < n) (hw : w ≤ 500) (hrg : rgE n q F0) (hK : ∀ (F : Nat → Nat → Int) (h2 : MH), EGr N h2 b n q lr lc g F → (∀ r2, r2 ≠ i → F r2 = F0 r2) → (∀ c2, c2 < i → F i c2 = F0 i c2) → (∀ c2, i ≤ c2 → c2 < n + 1 → F i c2 = (F0 i c2 * (w : Int)) % (q : Int)) → (∀ a2, (a2 < b + 86 ∨ b + 90 ≤ a2) → h2 a2 = h0 a2) → G mX0_clear (d + 3, 0, 0, Ls, sx) 85 [(0, vR (b + 84)), (1, vI (i : Int)), (2, vI (L : Int)), (3, vI pv), (4, vI (w : Int))] [] (0, 0, N) h2 Q) : ∀ (f c : Nat) (xc : Int) (F : Nat → Nat → Int) (h : MH), c + f = n + 1 → xc = (c : Int) → i ≤ c → EGr N h b n q lr lc g F → (∀ r2, r2 ≠ i → F r2 = F0 r2) → (∀ c2, c2 < i → F i c2 = F0 i c2) → (∀ c2, i ≤ c2 → c2 < c → F i c2 = (F0 i c2 * (w : Int)) % (q : Int)) → (∀ c2, c ≤ c2 → F i c2 = F0 i c2) → (∀ a2, (a2 < b + 86 ∨ b + 90 ≤ a2) → h a2 = h0 a2) → G mX0_clear (d + 3, 0, 0, Ls, sx) 40 [(0, vR (b + 84)), (1, vI (i : Int)), (2, vI (L : Int)), (3, vI pv), (4, vI (w : Int)), (5, vI xc)] [] (0, 0, N) h Q := by
  intro f
  induction f with
  | zero =>
    intro c xc F h hf ex hic he f1 f4 f2 f3 hk
    refine g_iload (pc := 40) (x := xc) dX0_clear_40 rfl ?_
    refine g_aload_n (pc := 42) (r := .inl (some (b + 84))) dX0_clear_42 rfl ?_
    refine g_getf (pc := 43) (v := vI (n : Int)) flX0_16 dX0_clear_43 he.1 rfl ?_
    refine g_icmp_gtT (pc := 46) (tgt := 85) dX0_clear_46 (by decide) (by omega) (by omega) (by omega) ?_
    refine g_pick [0, 1, 2, 3, 4] (lo2 := [(0, vR (b + 84)), (1, vI (i : Int)), (2, vI (L : Int)), (3, vI pv), (4, vI (w : Int))]) rfl ?_
    exact hK F h he f1 f4 (fun c2 z1 z2 => f2 c2 z1 (by omega)) hk
  | succ f ih =>
    intro c xc F h hf ex hic he f1 f4 f2 f3 hk
    have g1 := he.2.2.2.1 i (by omega)
    have e1 := f3 c (Nat.le_refl _)
    have b1 := hrg i c hi (by omega)
    have zz := mul_bd (A := 500) (B := 500) (show -500 ≤ F0 i c ∧ F0 i c ≤ 500 by omega) (show -500 ≤ (w : Int) ∧ (w : Int) ≤ 500 by omega)
    refine g_iload (pc := 40) (x := xc) dX0_clear_40 rfl ?_
    refine g_aload_n (pc := 42) (r := .inl (some (b + 84))) dX0_clear_42 rfl ?_
    refine g_getf (pc := 43) (v := vI (n : Int)) flX0_16 dX0_clear_43 he.1 rfl ?_
    refine g_icmp_gtF (pc := 46) (tgt := 85) dX0_clear_46 (by decide) (by omega) (by omega) (by omega) ?_
    refine g_aload_n (pc := 49) (r := .inl (some (b + 84))) dX0_clear_49 rfl ?_
    refine g_getf (pc := 50) (v := vR (b + 85)) flX0_11 dX0_clear_50 he.1 rfl ?_
    refine g_iload_n (pc := 53) (x := (i : Int)) dX0_clear_53 rfl ?_
    refine g_aaldN (pc := 54) (j := i) dX0_clear_54 he.2.1 (by decide) (by omega) (by omega) (by omega) ?_
    rw [gqF_at (b := b + 86) (g := g) (i := i) (by omega)]
    refine g_iload (pc := 55) (x := xc) dX0_clear_55 rfl ?_
    refine g_aload_n (pc := 57) (r := .inl (some (b + 84))) dX0_clear_57 rfl ?_
    refine g_getf (pc := 58) (v := vR (b + 85)) flX0_11 dX0_clear_58 he.1 rfl ?_
    refine g_iload_n (pc := 61) (x := (i : Int)) dX0_clear_61 rfl ?_
    refine g_aaldN (pc := 62) (j := i) dX0_clear_62 he.2.1 (by decide) (by omega) (by omega) (by omega) ?_
    rw [gqF_at (b := b + 86) (g := g) (i := i) (by omega)]
    refine g_iload (pc := 63) (x := xc) dX0_clear_63 rfl ?_
    refine g_ialdN (pc := 65) (j := c) dX0_clear_65 (he.2.2.1 i (by omega)) (by omega) (by omega) (by omega) ?_
    rw [e1]
    refine g_i2l (pc := 66) dX0_clear_66 (by omega) ?_
    refine g_iload (pc := 67) (x := (w : Int)) dX0_clear_67 rfl ?_
    refine g_i2l (pc := 69) dX0_clear_69 (by omega) ?_
    refine g_lmul (pc := 70) dX0_clear_70 ?_
    refine g_aload_n (pc := 71) (r := .inl (some (b + 84))) dX0_clear_71 rfl ?_
    refine g_getf (pc := 72) (v := vI (q : Int)) flX0_20 dX0_clear_72 he.1 rfl ?_
    refine g_callS0 (pc := 75) (as := [vJ ((F0 i c) * (w : Int)), vI (q : Int)]) (st := [vI xc, vR (b + 86 + g i)]) lsX0_33 dX0_clear_75 (Nat.le_of_ble_eq_true rfl) (by omega) (Nat.zero_le _) (Nat.zero_le _) (c_restOf (d := d + 1) (by omega) (by omega) (by omega)) ?_
    rintro r8 h2 ⟨e9, rfl⟩
    subst e9
    refine g_iastN (pc := 78) (j := c) dX0_clear_78 (he.2.2.1 i (by omega)) (by omega) (by omega) (by omega) ?_
    have hw_1 := (he.2.2.1 i (by omega)).self (e := eA 0 5 (va_up (F i) c ((F0 i c * (w : Int)) % (q : Int))))
    refine g_iinc (pc := 79) (x := xc) (lo2 := [(0, vR (b + 84)), (1, vI (i : Int)), (2, vI (L : Int)), (3, vI pv), (4, vI (w : Int)), (5, vI (xc + 1))]) dX0_clear_79 rfl (by decide) rfl ?_
    refine g_goto (pc := 82) (tgt := 40) dX0_clear_82 (by decide) ?_
    refine ih (c + 1) _ _ _ (by omega) (by omega) (by omega) (he.set (show i < 4 by omega) _) (fun r2 a1 => ?_) (fun c2 a1 => ?_) (fun c2 a1 a2 => ?_) (fun c2 a1 => ?_) (fun a ha => (va_up_ne _ _ (by omega)).trans (hk a ha))
    · rw [va_up_ne _ _ a1]
      exact f1 r2 a1
    · rw [va_up_self, va_up_ne _ _ (by omega)]
      exact f4 c2 a1
    · rw [va_up_self]
      by_cases hcc : c2 = c
      · subst hcc
        rw [va_up_self]
      · rw [va_up_ne _ _ hcc]
        exact f2 c2 a1 (by omega)
    · rw [va_up_self, va_up_ne _ _ (by omega)]
      exact f3 c2 (by omega)

theorem clr_l2 {N d b n q i L w Ls : Nat} {sx : Nat → Int} {pv lr lc : Int} {g : Nat → Nat} {F0 : Nat → Nat → Int} {h0 : MH} {Q : Option MV → MR → MH → Prop} (hn : n ≤ 4) (hq : 0 < q) (hq2 : q ≤ 500) (hi : i < n) (hL : 0 < L) (hL5 : L ≤ 500) (hrg : rgE n q F0) (hK : ∀ (F : Nat → Nat → Int) (h2 : MH), EGr N h2 b n q lr lc g F → (F i = F0 i) → (∀ r2, i < r2 → r2 < n → ∀ c2, i ≤ c2 → c2 ≤ n → F r2 c2 = (F0 r2 c2 - (((F0 r2 i).toNat / L : Nat) : Int) * F0 i c2) % (q : Int)) → rgE n q F → (∀ a2, (a2 < b + 86 ∨ b + 90 ≤ a2) → h2 a2 = h0 a2) → G mX0_clear (d + 3, 0, 0, Ls, sx) 123 [(0, vR (b + 84)), (1, vI (i : Int)), (2, vI (L : Int)), (3, vI pv), (4, vI (w : Int))] [] (0, 0, N) h2 Q) : ∀ (f r : Nat) (xr : Int) (F : Nat → Nat → Int) (h : MH), r + f = n → xr = (r : Int) → i < r → EGr N h b n q lr lc g F → (F i = F0 i) → (∀ r2, i < r2 → r2 < r → ∀ c2, i ≤ c2 → c2 ≤ n → F r2 c2 = (F0 r2 c2 - (((F0 r2 i).toNat / L : Nat) : Int) * F0 i c2) % (q : Int)) → (∀ r2, r ≤ r2 → F r2 = F0 r2) → rgE n q F → (∀ a2, (a2 < b + 86 ∨ b + 90 ≤ a2) → h a2 = h0 a2) → G mX0_clear (d + 3, 0, 0, Ls, sx) 90 [(0, vR (b + 84)), (1, vI (i : Int)), (2, vI (L : Int)), (3, vI pv), (4, vI (w : Int)), (5, vI xr)] [] (0, 0, N) h Q := by
  intro f
  induction f with
  | zero =>
    intro r xr F h hf ex hir he f1 f2 f3 rF hk
    refine g_iload (pc := 90) (x := xr) dX0_clear_90 rfl ?_
    refine g_aload_n (pc := 92) (r := .inl (some (b + 84))) dX0_clear_92 rfl ?_
    refine g_getf (pc := 93) (v := vI (n : Int)) flX0_16 dX0_clear_93 he.1 rfl ?_
    refine g_icmp_geT (pc := 96) (tgt := 123) dX0_clear_96 (by decide) (by omega) (by omega) (by omega) ?_
    refine g_pick [0, 1, 2, 3, 4] (lo2 := [(0, vR (b + 84)), (1, vI (i : Int)), (2, vI (L : Int)), (3, vI pv), (4, vI (w : Int))]) rfl ?_
    exact hK F h he f1 (fun r2 z1 z2 => f2 r2 z1 (by omega)) rF hk
  | succ f ih =>
    intro r xr F h hf ex hir he f1 f2 f3 rF hk
    have g1 := he.2.2.2.1 r (by omega)
    have e1 : F r i = F0 r i := by rw [f3 r (Nat.le_refl _)]
    have b1 := hrg r i (by omega) (by omega)
    obtain ⟨v, ev⟩ : ∃ v : Nat, F0 r i = (v : Int) := ⟨(F0 r i).toNat, by omega⟩
    have ed := tdivN (rfl : (v : Int) = (v : Int)) (rfl : (L : Int) = (L : Int))
    have hvL := Nat.div_le_self v L
    have etn : (F0 r i).toNat = v := by omega
    subst ex
    refine g_iload (pc := 90) (x := (r : Int)) dX0_clear_90 rfl ?_
    refine g_aload_n (pc := 92) (r := .inl (some (b + 84))) dX0_clear_92 rfl ?_
    refine g_getf (pc := 93) (v := vI (n : Int)) flX0_16 dX0_clear_93 he.1 rfl ?_
    refine g_icmp_geF (pc := 96) (tgt := 123) dX0_clear_96 (by decide) (by omega) (by omega) (by omega) ?_
    refine g_aload_n (pc := 99) (r := .inl (some (b + 84))) dX0_clear_99 rfl ?_
    refine g_iload_n (pc := 100) (x := (i : Int)) dX0_clear_100 rfl ?_
    refine g_iload (pc := 101) (x := (r : Int)) dX0_clear_101 rfl ?_
    refine g_aload_n (pc := 103) (r := .inl (some (b + 84))) dX0_clear_103 rfl ?_
    refine g_getf (pc := 104) (v := vR (b + 85)) flX0_11 dX0_clear_104 he.1 rfl ?_
    refine g_iload (pc := 107) (x := (r : Int)) dX0_clear_107 rfl ?_
    refine g_aaldN (pc := 109) (j := r) dX0_clear_109 he.2.1 (by decide) (by omega) (by omega) (by omega) ?_
    rw [gqF_at (b := b + 86) (g := g) (i := r) (by omega)]
    refine g_iload_n (pc := 110) (x := (i : Int)) dX0_clear_110 rfl ?_
    refine g_ialdN (pc := 111) (j := i) dX0_clear_111 (he.2.2.1 r (by omega)) (by omega) (by omega) (by omega) ?_
    rw [e1, ev]
    refine g_iload_n (pc := 112) (x := (L : Int)) dX0_clear_112 rfl ?_
    refine g_idiv (pc := 113) dX0_clear_113 (by omega) (by omega) (by omega) ?_
    rw [ed]
    refine g_callV0 (pc := 114) (as := [vI (i : Int), vI (r : Int), vI ((v / L : Nat) : Int)]) (b := b + 84) (st := []) lvX0_50 dX0_clear_114 he.1 (Nat.le_of_ble_eq_true rfl) (by omega) (Nat.zero_le _) (Nat.zero_le _) (c_takeOff (d := d) (t := v / L) hn hq hq2 hi (show r < n by omega) (by omega) (by omega) rF he) ?_
    rintro r8 h2 ⟨rfl, ⟨F2, he2, u1, u2, u3⟩, k2⟩
    refine g_iinc (pc := 117) (x := (r : Int)) (lo2 := [(0, vR (b + 84)), (1, vI (i : Int)), (2, vI (L : Int)), (3, vI pv), (4, vI (w : Int)), (5, vI ((r : Int) + 1))]) dX0_clear_117 rfl (by decide) rfl ?_
    refine g_goto (pc := 120) (tgt := 90) dX0_clear_120 (by decide) ?_
    refine ih (r + 1) _ F2 h2 (by omega) (by omega) (by omega) he2 ((u1 i (by omega)).trans f1) (fun r2 z1 z2 c2 z3 z4 => ?_) (fun r2 z1 => (u1 r2 (by omega)).trans (f3 r2 (by omega))) (fun r2 c2 z1 z2 => ?_) (fun a ha => (k2 a ha).trans (hk a ha))
    · by_cases hrr : r2 = r
      · subst hrr
        rw [u2 c2 z3 z4, etn, f3 r2 (Nat.le_refl _), f1]
      · rw [u1 r2 hrr]
        exact f2 r2 z1 (by omega) c2 z3 z4
    · by_cases hrr : r2 = r
      · subst hrr
        by_cases hc : i ≤ c2
        · rw [u2 c2 hc z2]
          exact ⟨Int.emod_nonneg _ (by omega), Int.emod_lt_of_pos _ (by omega)⟩
        · rw [u3 c2 (by omega)]
          exact rF r2 c2 z1 z2
      · rw [u1 r2 hrr]
        exact rF r2 c2 z1 z2

theorem shr_dvd {p k q n i L a c : Nat} {F : Nat → Nat → Int} (hp : prm p) (hq : q = p ^ k) (hrg : rgE n q F) (hL : L = shr q F a c) (hmin : ∀ r2 c2, (i ≤ r2 ∧ r2 < n) → (i ≤ c2 ∧ c2 < n) → L ≤ shr q F r2 c2) {r2 c2 : Nat} (h1 : i ≤ r2 ∧ r2 < n) (h2 : i ≤ c2 ∧ c2 < n) : (L : Int) ∣ F r2 c2 := by
  have hd : L ∣ shr q F r2 c2 := by
    refine ppow_le hp (k := k) ?_ ?_ (hmin r2 c2 h1 h2)
    · rw [hL, ← hq]
      exact Nat.gcd_dvd_left _ _
    · rw [← hq]
      exact Nat.gcd_dvd_left _ _
  have hd2 : L ∣ (F r2 c2).toNat := Nat.dvd_trans hd (Nat.gcd_dvd_right _ _)
  have b1 := hrg r2 c2 h1.2 (by omega)
  have := Int.ofNat_dvd.mpr hd2
  rw [show (((F r2 c2).toNat : Nat) : Int) = F r2 c2 by omega] at this
  exact this
theorem tsp_l (i a : Nat) : tsp i a i = a := if_pos rfl

theorem c_clear {N d b n q i p k : Nat} {lr lc : Int} {g : Nat → Nat} {F : Nat → Nat → Int} {h : MH} (hn : n ≤ 4) (hp : prm p) (eq : q = p ^ k) (hq1 : 2 ≤ q) (hq2 : q ≤ 500) (hi : i < n) (hrg : rgE n q F) (he : EGr N h b n q lr lc g F) : Ok mX0_clear (d + 3) 0 0 [vR (b + 84), vI (i : Int)] N h (fun r9 h2 => ∃ (K : Nat) (g2 : Nat → Nat) (F2 : Nat → Nat → Int) (lr2 lc2 : Int), r9 = some (vI (K : Int)) ∧ K ≤ 500 ∧ EGr N h2 b n q lr2 lc2 g2 F2 ∧ rgE n q F2 ∧ SS q i n F = K * SS q (i + 1) n F2 ∧ ∀ a2, (a2 < b + 84 ∨ b + 90 ≤ a2) → h2 a2 = h a2) := by
  refine Ok.of pfX0_clear rfl (Nat.le_of_ble_eq_true rfl) (fun Ls sx => ?_)
  show G mX0_clear (d + 3, 0, 0, Ls, sx) 0 [(0, vR (b + 84)), (1, vI (i : Int))] [] (0, 0, N) h _
  refine g_aload_n (pc := 0) (r := .inl (some (b + 84))) dX0_clear_0 rfl ?_
  refine g_iload_n (pc := 1) (x := (i : Int)) dX0_clear_1 rfl ?_
  refine g_callV0 (pc := 2) (as := [vI (i : Int)]) (b := b + 84) (st := []) lvX0_39 dX0_clear_2 he.1 (Nat.le_of_ble_eq_true rfl) (by omega) (Nat.zero_le _) (Nat.zero_le _) (c_findLeast (d := d + 1) hn (by omega) hq2 hi hrg he) ?_
  rintro r8 h1 ⟨L, a, c, rfl, ha, hc, eL, hmin, he1, k1⟩
  refine g_istore_n (pc := 5) (lo2 := [(0, vR (b + 84)), (1, vI (i : Int)), (2, vI (L : Int))]) dX0_clear_5 (by decide) rfl ?_
  refine g_aload_n (pc := 6) (r := .inl (some (b + 84))) dX0_clear_6 rfl ?_
  refine g_iload_n (pc := 7) (x := (i : Int)) dX0_clear_7 rfl ?_
  refine g_callV0 (pc := 8) (as := [vI (i : Int)]) (b := b + 84) (st := []) lvX0_42 dX0_clear_8 he1.1 (Nat.le_of_ble_eq_true rfl) (by omega) (Nat.zero_le _) (Nat.zero_le _) (c_eswap (d := d + 2) hn hi ha.2 hc.2 he1) ?_
  rintro r8 h2 ⟨rfl, ⟨g2, F2, he2, hF2⟩, k2⟩
  have hrg2 : rgE n q F2 := fun r c2 z1 z2 => by
    rw [hF2 r z1 c2]
    have t1 := tsp_in (i := 0) (n := n) ⟨Nat.zero_le _, hi⟩ ⟨Nat.zero_le _, ha.2⟩ ⟨Nat.zero_le _, z1⟩
    have t2 := tsp_in (i := 0) (n := n + 1) (a := i) (b := c) (k := c2) ⟨Nat.zero_le _, by omega⟩ ⟨Nat.zero_le _, by omega⟩ ⟨Nat.zero_le _, by omega⟩
    exact hrg _ _ t1.2 (by omega)
  have hS1 : SS q i n F2 = SS q i n F := SS_swap ha hc hi (fun r c2 z1 _ => hF2 r z1 c2)
  have hii : i ≤ i ∧ i < n := ⟨Nat.le_refl _, hi⟩
  have hdv : ∀ r2 c2, (i ≤ r2 ∧ r2 < n) → (i ≤ c2 ∧ c2 < n) → (L : Int) ∣ F2 r2 c2 := fun r2 c2 z1 z2 => by
    rw [hF2 r2 z1.2 c2]
    exact shr_dvd hp eq hrg eL hmin (tsp_in hii ha z1) (tsp_in hii hc z2)
  have epv : F2 i i = F a c := by rw [hF2 i hi i, tsp_l, tsp_l]
  have b1 := hrg a c ha.2 (by omega)
  obtain ⟨v, ev⟩ : ∃ v : Nat, F a c = (v : Int) := ⟨(F a c).toNat, by omega⟩
  have eLv : L = Nat.gcd q v := by rw [eL]; unfold shr; rw [ev, Int.toNat_natCast]
  have L1 : 0 < L := by rw [eLv]; exact Nat.gcd_pos_of_pos_left _ (by omega)
  have Lq : L ≤ q := by rw [eLv]; exact Nat.gcd_le_left _ (by omega)
  have Ldq : L ∣ q := by rw [eLv]; exact Nat.gcd_dvd_left _ _
  have Ldv : L ∣ v := by rw [eLv]; exact Nat.gcd_dvd_right _ _
  have ed := tdivN (rfl : (v : Int) = (v : Int)) (rfl : (L : Int) = (L : Int))
  have hvL := Nat.div_le_self v L
  have hi32 : i32 ((v / L : Nat) : Int) := by
    generalize v / L = t9 at hvL
    exact ⟨by omega, by omega⟩
  have hg4 := he2.2.2.2.1 i (by omega)
  refine g_aload_n (pc := 11) (r := .inl (some (b + 84))) dX0_clear_11 rfl ?_
  refine g_getf (pc := 12) (v := vR (b + 85)) flX0_11 dX0_clear_12 he2.1 rfl ?_
  refine g_iload_n (pc := 15) (x := (i : Int)) dX0_clear_15 rfl ?_
  refine g_aaldN (pc := 16) (j := i) dX0_clear_16 he2.2.1 (by decide) (by omega) (by omega) (by omega) ?_
  rw [gqF_at (b := b + 86) (g := g2) (i := i) (by omega)]
  refine g_iload_n (pc := 17) (x := (i : Int)) dX0_clear_17 rfl ?_
  refine g_ialdN (pc := 18) (j := i) dX0_clear_18 (he2.2.2.1 i (by omega)) (by omega) (by omega) (by omega) ?_
  rw [epv, ev]
  refine g_istore_n (pc := 19) (lo2 := [(0, vR (b + 84)), (1, vI (i : Int)), (2, vI (L : Int)), (3, vI (v : Int))]) dX0_clear_19 (by decide) rfl ?_
  refine g_iload_n (pc := 20) (x := (v : Int)) dX0_clear_20 rfl ?_
  refine g_iload_n (pc := 21) (x := (L : Int)) dX0_clear_21 rfl ?_
  refine g_idiv (pc := 22) dX0_clear_22 (by omega) (by omega) (by omega) ?_
  refine g_aload_n (pc := 23) (r := .inl (some (b + 84))) dX0_clear_23 rfl ?_
  refine g_getf (pc := 24) (v := vI (q : Int)) flX0_20 dX0_clear_24 he2.1 rfl ?_
  rw [ed]
  refine g_callS0 (pc := 27) (as := [vI ((v / L : Nat) : Int), vI (q : Int)]) (st := []) lsX0_46 dX0_clear_27 (Nat.le_of_ble_eq_true rfl) (by omega) (Nat.zero_le _) (Nat.zero_le _) (c_inverse (d := d) (m := q) (v := ((v / L : Nat) : Int)) hi32 (by omega) (by omega)) ?_
  rintro r8 h3 ⟨e9, y, e8, y1, y2⟩
  subst e9
  subst e8
  have emod : (((v / L : Nat) : Int) % (q : Int)).toNat = v / L := by
    rw [show ((v / L : Nat) : Int) % (q : Int) = ((v / L % q : Nat) : Int) from rfl, Int.toNat_natCast]
    exact Nat.mod_eq_of_lt (by omega)
  rw [emod] at y1 y2
  by_cases v0 : v = 0
  · have eLq : L = q := by rw [eLv, v0, Nat.gcd_zero_right]
    have ey : y = 0 := y2 (by rw [v0, Nat.zero_div, Nat.gcd_zero_right]; omega)
    subst ey
    refine g_istore (pc := 30) (lo2 := [(0, vR (b + 84)), (1, vI (i : Int)), (2, vI (L : Int)), (3, vI (v : Int)), (4, vI 0)]) dX0_clear_30 (by decide) rfl ?_
    refine g_iload (pc := 32) (x := 0) dX0_clear_32 rfl ?_
    refine g_if_eqT (pc := 34) (tgt := 123) dX0_clear_34 (by decide) (by omega) (by omega) ?_
    have hpiv : SS q i n F = (if (L : Int) ∣ F2 i n then L else 0) * SS q (i + 1) n F2 := by
      rw [← hS1]
      refine SS_pivot (g := L) (m := 1) (u := 0) (w := 0) hi (by omega) L1 (by omega) ⟨-1, by omega⟩ (by rw [epv, ev, v0]; simp) (fun c2 z1 z2 => hdv i c2 hii ⟨by omega, z2⟩) (fun r2 z1 z2 => ?_)
      obtain ⟨x9, hx9⟩ := hdv r2 i ⟨by omega, z2⟩ hii
      have bb := hrg2 r2 i z2 (by omega)
      rw [eLq] at hx9
      exact eq_of_dvd (p := q) bb ⟨by omega, by omega⟩ ⟨x9, by rw [hx9]; omega⟩
    refine g_pick [0, 1, 2, 3] (lo2 := [(0, vR (b + 84)), (1, vI (i : Int)), (2, vI (L : Int)), (3, vI (v : Int))]) rfl ?_
    have bN := hrg2 i n hi (Nat.le_refl _)
    obtain ⟨z9, ez⟩ : ∃ z9 : Nat, F2 i n = (z9 : Int) := ⟨(F2 i n).toNat, by omega⟩
    have em := tmodN (rfl : (z9 : Int) = (z9 : Int)) (rfl : (L : Int) = (L : Int))
    have hm9 := Nat.mod_lt z9 L1
    have hg9 := he2.2.2.2.1 i (by omega)
    refine g_aload_n (pc := 123) (r := .inl (some (b + 84))) dX0_clear_123 rfl ?_
    refine g_getf (pc := 124) (v := vR (b + 85)) flX0_11 dX0_clear_124 he2.1 rfl ?_
    refine g_iload_n (pc := 127) (x := (i : Int)) dX0_clear_127 rfl ?_
    refine g_aaldN (pc := 128) (j := i) dX0_clear_128 he2.2.1 (by decide) (by omega) (by omega) (by omega) ?_
    rw [gqF_at (b := b + 86) (g := g2) (i := i) (by omega)]
    refine g_aload_n (pc := 129) (r := .inl (some (b + 84))) dX0_clear_129 rfl ?_
    refine g_getf (pc := 130) (v := vI (n : Int)) flX0_16 dX0_clear_130 he2.1 rfl ?_
    refine g_ialdN (pc := 133) (j := n) dX0_clear_133 (he2.2.2.1 i (by omega)) (by omega) (by omega) (by omega) ?_
    rw [ez]
    refine g_iload_n (pc := 134) (x := (L : Int)) dX0_clear_134 rfl ?_
    refine g_irem (pc := 135) dX0_clear_135 (by omega) (by omega) (by omega) ?_
    rw [em]
    refine g_if_ne (pc := 136) (tgt := 143) dX0_clear_136 (by decide) (by omega) (fun h9 => ?_) (fun h9 => ?_)
    · refine g_iconst (pc := 143) dX0_clear_143 ?_
      have hnd : ¬ (L : Int) ∣ F2 i n := fun y => by
        rw [ez] at y
        have := Nat.mod_eq_zero_of_dvd (Int.ofNat_dvd.mp y)
        omega
      rw [if_neg hnd] at hpiv
      exact r_int (pc := 144) dX0_clear_144 rfl rfl (Nat.le_refl _) ⟨0, g2, F2, _, _, rfl, by omega, he2, hrg2, hpiv, fun a2 z1 => (k2 a2 (by omega)).trans (k1 a2 (by omega))⟩
    · refine g_iload_n (pc := 139) (x := (L : Int)) dX0_clear_139 rfl ?_
      refine g_goto (pc := 140) (tgt := 144) dX0_clear_140 (by decide) ?_
      have hnd : (L : Int) ∣ F2 i n := by
        rw [ez]
        exact Int.ofNat_dvd.mpr (Nat.dvd_of_mod_eq_zero (by omega))
      rw [if_pos hnd] at hpiv
      exact r_int (pc := 144) dX0_clear_144 rfl rfl (Nat.le_refl _) ⟨L, g2, F2, _, _, rfl, by omega, he2, hrg2, hpiv, fun a2 z1 => (k2 a2 (by omega)).trans (k1 a2 (by omega))⟩
  · have hcop : Nat.gcd q (v / L) = 1 := by
      rw [eLv, eq]
      exact ppow_cop hp (by omega) (by rw [← eq]; omega)
    obtain ⟨ya, yb, yc⟩ := y1 hcop
    obtain ⟨w, rfl⟩ : ∃ w : Nat, y = (w : Int) := ⟨y.toNat, by omega⟩
    have w0 : w ≠ 0 := fun z => by
      rw [z] at yc
      obtain ⟨s9, hs9⟩ := yc
      rw [show ((0 : Nat) : Int) * ((v / L : Nat) : Int) - 1 = -1 by omega] at hs9
      have h9 : q ∣ 1 := Int.ofNat_dvd.mp (Int.dvd_neg.mp ⟨s9, hs9⟩)
      have := Nat.le_of_dvd (by omega) h9
      omega
    obtain ⟨u, eu⟩ : ∃ u, u = v / L := ⟨_, rfl⟩
    rw [← eu] at yc hvL
    have evu : v = L * u := by rw [eu]; exact (Nat.mul_div_cancel' Ldv).symm
    refine g_istore (pc := 30) (lo2 := [(0, vR (b + 84)), (1, vI (i : Int)), (2, vI (L : Int)), (3, vI (v : Int)), (4, vI (w : Int))]) dX0_clear_30 (by decide) rfl ?_
    refine g_iload (pc := 32) (x := (w : Int)) dX0_clear_32 rfl ?_
    refine g_if_eqF (pc := 34) (tgt := 123) dX0_clear_34 (by decide) (by omega) (by omega) ?_
    refine g_iload_n (pc := 37) (x := (i : Int)) dX0_clear_37 rfl ?_
    refine g_istore (pc := 38) (lo2 := [(0, vR (b + 84)), (1, vI (i : Int)), (2, vI (L : Int)), (3, vI (v : Int)), (4, vI (w : Int)), (5, vI (i : Int))]) dX0_clear_38 (by decide) rfl ?_
    refine clr_l1 (h0 := h3) hn (by omega) hq2 hi (by omega) hrg2 (fun F3 h4 he3 s1 s4 s2 k3 => ?_) (n + 1 - i) i _ F2 h3 (by omega) rfl (Nat.le_refl _) he2 (fun _ _ => rfl) (fun _ _ => rfl) (fun c2 z1 z2 => by omega) (fun _ _ => rfl) (fun _ _ => rfl)
    have hrg3 : rgE n q F3 := fun r c2 z1 z2 => by
      by_cases hri : r = i
      · subst hri
        by_cases hc2 : r ≤ c2
        · rw [s2 c2 hc2 (by omega)]
          exact ⟨Int.emod_nonneg _ (by omega), Int.emod_lt_of_pos _ (by omega)⟩
        · rw [s4 c2 (by omega)]
          exact hrg2 r c2 z1 z2
      · rw [s1 r hri]
        exact hrg2 r c2 z1 z2
    refine g_iload_n (pc := 85) (x := (i : Int)) dX0_clear_85 rfl ?_
    refine g_iconst (pc := 86) dX0_clear_86 ?_
    refine g_iadd (pc := 87) dX0_clear_87 ?_
    refine g_istore (pc := 88) (lo2 := [(0, vR (b + 84)), (1, vI (i : Int)), (2, vI (L : Int)), (3, vI (v : Int)), (4, vI (w : Int)), (5, vI ((i : Int) + 1))]) dX0_clear_88 (by decide) rfl ?_
    refine clr_l2 (h0 := h4) hn (by omega) hq2 hi L1 (by omega) hrg3 (fun F4 h5 he4 v1 v2 hrg4 k4 => ?_) (n - (i + 1)) (i + 1) _ F3 h4 (by omega) (by omega) (by omega) he3 rfl (fun r2 z1 z2 => by omega) (fun _ _ => rfl) hrg3 (fun _ _ => rfl)
    have hw2 : (q : Int) ∣ ((u : Nat) : Int) * (w : Int) - 1 := by rw [Int.mul_comm]; exact yc
    have hS2 : SS q i n F4 = SS q i n F2 := by
      refine SS_rows (w := (w : Int)) (w2 := ((u : Nat) : Int)) (t := fun r2 => (((F3 r2 i).toNat / L : Nat) : Int)) hi hw2 (fun c2 z1 z2 => ?_) (fun r2 z1 z2 c2 z3 z4 => ?_)
      · rw [v1, s2 c2 z1 (by omega), Int.mul_comm (w : Int)]
        have := Int.mul_ediv_add_emod (F2 i c2 * (w : Int)) (q : Int)
        exact ⟨-((F2 i c2 * (w : Int)) / (q : Int)), by grind⟩
      · rw [v2 r2 z1 z2 c2 z3 z4, v1, ← s1 r2 (by omega)]
        have := Int.mul_ediv_add_emod (F3 r2 c2 - (((F3 r2 i).toNat / L : Nat) : Int) * F3 i c2) (q : Int)
        exact ⟨-((F3 r2 c2 - (((F3 r2 i).toNat / L : Nat) : Int) * F3 i c2) / (q : Int)), by grind⟩
    have LqI : (L : Int) ∣ (q : Int) := Int.ofNat_dvd.mpr Ldq
    have Llt : L < q := by
      have := Nat.le_of_dvd (by omega) Ldv
      omega
    have e3ii : F3 i i = (L : Int) := by
      rw [s2 i (Nat.le_refl _) (by omega), epv, ev]
      refine eq_of_dvd (p := q) ⟨Int.emod_nonneg _ (by omega), Int.emod_lt_of_pos _ (by omega)⟩ ⟨by omega, by omega⟩ ?_
      have h8 := Int.mul_ediv_add_emod ((v : Int) * (w : Int)) (q : Int)
      obtain ⟨s8, hs8⟩ := hw2
      refine ⟨(L : Int) * s8 - (v : Int) * (w : Int) / (q : Int), ?_⟩
      have evI : (v : Int) = (L : Int) * (u : Int) := by rw [evu, Int.natCast_mul]
      generalize (v : Int) * (w : Int) / (q : Int) = dd at *
      generalize (v : Int) * (w : Int) % (q : Int) = rr at *
      grind
    have hpiv : SS q i n F = (if (L : Int) ∣ F4 i n then L else 0) * SS q (i + 1) n F4 := by
      rw [← hS1, ← hS2]
      refine SS_pivot (g := L) (m := q / L) (u := 1) (w := 1) hi (Nat.mul_div_cancel' Ldq).symm L1 (Nat.div_pos Lq L1) ⟨0, by omega⟩ (by rw [v1, e3ii, Int.mul_one]) (fun c2 z1 z2 => ?_) (fun r2 z1 z2 => ?_)
      · rw [v1, s2 c2 (by omega) (by omega)]
        have h8 := Int.mul_ediv_add_emod (F2 i c2 * (w : Int)) (q : Int)
        have h7 : F2 i c2 * (w : Int) % (q : Int) = F2 i c2 * (w : Int) - (q : Int) * (F2 i c2 * (w : Int) / (q : Int)) := by omega
        rw [h7]
        exact Int.dvd_sub (Int.dvd_mul_of_dvd_left (hdv i c2 hii ⟨by omega, z2⟩)) (Int.dvd_mul_of_dvd_left LqI)
      · rw [v2 r2 z1 z2 i (Nat.le_refl _) (by omega), e3ii]
        have hdr : (L : Int) ∣ F3 r2 i := by
          rw [s1 r2 (by omega)]
          exact hdv r2 i ⟨by omega, z2⟩ hii
        have bb := hrg3 r2 i z2 (by omega)
        obtain ⟨x9, ex9⟩ : ∃ x9 : Nat, F3 r2 i = (x9 : Int) := ⟨(F3 r2 i).toNat, by omega⟩
        rw [ex9] at hdr ⊢
        rw [Int.toNat_natCast]
        have h6 := Nat.div_mul_cancel (Int.ofNat_dvd.mp hdr)
        rw [show ((x9 / L : Nat) : Int) * (L : Int) = ((x9 / L * L : Nat) : Int) from (Int.natCast_mul _ _).symm, h6, Int.sub_self]
        rfl
    refine g_pick [0, 1, 2] (lo2 := [(0, vR (b + 84)), (1, vI (i : Int)), (2, vI (L : Int))]) rfl ?_
    have bN := hrg4 i n hi (Nat.le_refl _)
    obtain ⟨z9, ez⟩ : ∃ z9 : Nat, F4 i n = (z9 : Int) := ⟨(F4 i n).toNat, by omega⟩
    have em := tmodN (rfl : (z9 : Int) = (z9 : Int)) (rfl : (L : Int) = (L : Int))
    have hm9 := Nat.mod_lt z9 L1
    have hg9 := he4.2.2.2.1 i (by omega)
    refine g_aload_n (pc := 123) (r := .inl (some (b + 84))) dX0_clear_123 rfl ?_
    refine g_getf (pc := 124) (v := vR (b + 85)) flX0_11 dX0_clear_124 he4.1 rfl ?_
    refine g_iload_n (pc := 127) (x := (i : Int)) dX0_clear_127 rfl ?_
    refine g_aaldN (pc := 128) (j := i) dX0_clear_128 he4.2.1 (by decide) (by omega) (by omega) (by omega) ?_
    rw [gqF_at (b := b + 86) (g := g2) (i := i) (by omega)]
    refine g_aload_n (pc := 129) (r := .inl (some (b + 84))) dX0_clear_129 rfl ?_
    refine g_getf (pc := 130) (v := vI (n : Int)) flX0_16 dX0_clear_130 he4.1 rfl ?_
    refine g_ialdN (pc := 133) (j := n) dX0_clear_133 (he4.2.2.1 i (by omega)) (by omega) (by omega) (by omega) ?_
    rw [ez]
    refine g_iload_n (pc := 134) (x := (L : Int)) dX0_clear_134 rfl ?_
    refine g_irem (pc := 135) dX0_clear_135 (by omega) (by omega) (by omega) ?_
    rw [em]
    refine g_if_ne (pc := 136) (tgt := 143) dX0_clear_136 (by decide) (by omega) (fun h9 => ?_) (fun h9 => ?_)
    · refine g_iconst (pc := 143) dX0_clear_143 ?_
      have hnd : ¬ (L : Int) ∣ F4 i n := fun y => by
        rw [ez] at y
        have := Nat.mod_eq_zero_of_dvd (Int.ofNat_dvd.mp y)
        omega
      rw [if_neg hnd] at hpiv
      exact r_int (pc := 144) dX0_clear_144 rfl rfl (Nat.le_refl _) ⟨0, g2, F4, _, _, rfl, by omega, he4, hrg4, hpiv, fun a2 z1 => (k4 a2 (by omega)).trans ((k3 a2 (by omega)).trans ((k2 a2 (by omega)).trans (k1 a2 (by omega))))⟩
    · refine g_iload_n (pc := 139) (x := (L : Int)) dX0_clear_139 rfl ?_
      refine g_goto (pc := 140) (tgt := 144) dX0_clear_140 (by decide) ?_
      have hnd : (L : Int) ∣ F4 i n := by
        rw [ez]
        exact Int.ofNat_dvd.mpr (Nat.dvd_of_mod_eq_zero (by omega))
      rw [if_pos hnd] at hpiv
      exact r_int (pc := 144) dX0_clear_144 rfl rfl (Nat.le_refl _) ⟨L, g2, F4, _, _, rfl, by omega, he4, hrg4, hpiv, fun a2 z1 => (k4 a2 (by omega)).trans ((k3 a2 (by omega)).trans ((k2 a2 (by omega)).trans (k1 a2 (by omega))))⟩

theorem cf_l {N d b n q p k tot Ls : Nat} {sx : Nat → Int} {h0 : MH} (hn : n ≤ 4) (hp : prm p) (eq : q = p ^ k) (hq1 : 2 ≤ q) (hq2 : q ≤ 500) : ∀ (f i K : Nat) (xi lr lc : Int) (g : Nat → Nat) (F : Nat → Nat → Int) (h : MH), i + f = n → xi = (i : Int) → K ≤ 500 ^ i → K * SS q i n F = tot → rgE n q F → EGr N h b n q lr lc g F → (∀ a2, (a2 < b + 84 ∨ b + 90 ≤ a2) → h a2 = h0 a2) → G mX0_countFixed (d + 4, 0, 0, Ls, sx) 21 [(0, vR (b + 84)), (1, vR (b + 90)), (2, vI (n : Int)), (3, vI (q : Int)), (4, vJ (K : Int)), (6, vI xi)] [] (0, 0, N) h (Pq mX0_countFixed 0 0 (fun r9 h2 => r9 = some (vJ (tot : Int)) ∧ EQ N h2 b ∧ ∀ a2, (a2 < b + 84 ∨ b + 90 ≤ a2) → h2 a2 = h0 a2)) := by
  intro f
  induction f with
  | zero =>
    intro i K xi lr lc g F h hf ex hK ht hrg he hk
    have hKb : K ≤ 62500000000 := Nat.le_trans hK (Nat.pow_le_pow_right (by omega) (show i ≤ 4 by omega))
    have ei : i = n := by omega
    rw [ei, SS_end, Nat.mul_one] at ht
    refine g_iload (pc := 21) (x := xi) dX0_countFixed_21 rfl ?_
    refine g_aload_n (pc := 23) (r := .inl (some (b + 84))) dX0_countFixed_23 rfl ?_
    refine g_getf (pc := 24) (v := vI (n : Int)) flX0_16 dX0_countFixed_24 he.1 rfl ?_
    refine g_icmp_geT (pc := 27) (tgt := 55) dX0_countFixed_27 (by decide) (by omega) (by omega) (by omega) ?_
    refine g_lload (pc := 55) (x := (K : Int)) dX0_countFixed_55 rfl ?_
    rw [ht]
    exact r_long (pc := 57) dX0_countFixed_57 rfl rfl (Nat.le_refl _) ⟨rfl, he.eq, hk⟩
  | succ f ih =>
    intro i K xi lr lc g F h hf ex hK ht hrg he hk
    have hKb : K ≤ 62500000000 := Nat.le_trans hK (Nat.pow_le_pow_right (by omega) (show i ≤ 4 by omega))
    refine g_iload (pc := 21) (x := xi) dX0_countFixed_21 rfl ?_
    refine g_aload_n (pc := 23) (r := .inl (some (b + 84))) dX0_countFixed_23 rfl ?_
    refine g_getf (pc := 24) (v := vI (n : Int)) flX0_16 dX0_countFixed_24 he.1 rfl ?_
    refine g_icmp_geF (pc := 27) (tgt := 55) dX0_countFixed_27 (by decide) (by omega) (by omega) (by omega) ?_
    refine g_lload (pc := 30) (x := (K : Int)) dX0_countFixed_30 rfl ?_
    refine g_lconst0 (pc := 32) dX0_countFixed_32 ?_
    refine g_lif_le (pc := 33) (tgt := 55) dX0_countFixed_33 dX0_countFixed_34 (by decide) (by omega) (by omega) (fun h9 => ?_) (fun h9 => ?_)
    · have K0 : K = 0 := by omega
      rw [K0, Nat.zero_mul] at ht
      refine g_lload (pc := 55) (x := (K : Int)) dX0_countFixed_55 rfl ?_
      rw [show (K : Int) = (tot : Int) by omega]
      exact r_long (pc := 57) dX0_countFixed_57 rfl rfl (Nat.le_refl _) ⟨rfl, he.eq, hk⟩
    · subst ex
      refine g_lload (pc := 37) (x := (K : Int)) dX0_countFixed_37 rfl ?_
      refine g_aload_n (pc := 39) (r := .inl (some (b + 84))) dX0_countFixed_39 rfl ?_
      refine g_iload (pc := 40) (x := (i : Int)) dX0_countFixed_40 rfl ?_
      refine g_callV0 (pc := 42) (as := [vI (i : Int)]) (b := b + 84) (st := [vJ (K : Int)]) lvX0_27 dX0_countFixed_42 he.1 (Nat.le_of_ble_eq_true rfl) (by omega) (Nat.zero_le _) (Nat.zero_le _) (c_clear (d := d) hn hp eq hq1 hq2 (show i < n by omega) hrg he) ?_
      rintro r8 h2 ⟨K2, g2, F2, lr2, lc2, rfl, K5, he2, hrg2, hS, k2⟩
      refine g_i2l (pc := 45) dX0_countFixed_45 (by omega) ?_
      refine g_lmul (pc := 46) dX0_countFixed_46 ?_
      refine g_lstore (pc := 47) (lo2 := [(0, vR (b + 84)), (1, vR (b + 90)), (2, vI (n : Int)), (3, vI (q : Int)), (4, vJ ((K : Int) * (K2 : Int))), (6, vI (i : Int))]) dX0_countFixed_47 (by decide) rfl ?_
      refine g_iinc (pc := 49) (x := (i : Int)) (lo2 := [(0, vR (b + 84)), (1, vR (b + 90)), (2, vI (n : Int)), (3, vI (q : Int)), (4, vJ ((K : Int) * (K2 : Int))), (6, vI ((i : Int) + 1))]) dX0_countFixed_49 rfl (by decide) rfl ?_
      refine g_goto (pc := 52) (tgt := 21) dX0_countFixed_52 (by decide) ?_
      rw [← Int.natCast_mul]
      refine ih (i + 1) (K * K2) _ lr2 lc2 g2 F2 h2 (by omega) (by omega) (by rw [Nat.pow_succ]; exact Nat.mul_le_mul hK K5) (by rw [← ht, hS, Nat.mul_assoc]) hrg2 he2 (fun a2 z1 => (k2 a2 z1).trans (hk a2 z1))

theorem c_countFixed {N d b n q p k : Nat} {S : Nat → Int} {h : MH} (hn : n ≤ 4) (hp : prm p) (eq : q = p ^ k) (hq1 : 2 ≤ q) (hq2 : q ≤ 500) (rS : rng S) (he : EQ N h b) (hS : Hd (0, 0, N) h (b + 90) (eA 0 20 S)) : Ok mX0_countFixed (d + 4) 0 0 [vR (b + 84), vR (b + 90), vI (n : Int), vI (q : Int)] N h (fun r9 h2 => r9 = some (vJ ((SS q 0 n (fun r c => if c = n then (-(S (5 * r + 4))) % (q : Int) else (S (5 * r + c) - (if r = c then 1 else 0)) % (q : Int)) : Nat) : Int)) ∧ EQ N h2 b ∧ ∀ a2, (a2 < b + 84 ∨ b + 90 ≤ a2) → h2 a2 = h a2) := by
  refine Ok.of pfX0_countFixed rfl (Nat.le_of_ble_eq_true rfl) (fun Ls sx => ?_)
  show G mX0_countFixed (d + 4, 0, 0, Ls, sx) 0 [(0, vR (b + 84)), (1, vR (b + 90)), (2, vI (n : Int)), (3, vI (q : Int))] [] (0, 0, N) h _
  obtain ⟨⟨s0, p0, lr, lc, a1⟩, g, a4, a5, a2, a3⟩ := he
  obtain ⟨F0, hF0⟩ : ∃ F0 : Nat → Nat → Int, ∀ i, i < 4 → Hd (0, 0, N) h (b + 86 + g i) (eA 0 5 (F0 i)) := by
    have hex : ∀ i, ∃ f, i < 4 → Hd (0, 0, N) h (b + 86 + g i) (eA 0 5 f) := fun i => by
      by_cases hi : i < 4
      · obtain ⟨f, hf⟩ := a3 (g i) (a4 i hi)
        exact ⟨f, fun _ => hf⟩
      · exact ⟨fun _ => 0, fun z => absurd z hi⟩
    exact ⟨fun i => Classical.choose (hex i), fun i hi => Classical.choose_spec (hex i) hi⟩
  refine g_aload_n (pc := 0) (r := .inl (some (b + 84))) dX0_countFixed_0 rfl ?_
  refine g_iload_n (pc := 1) (x := (n : Int)) dX0_countFixed_1 rfl ?_
  refine g_putf (pc := 2) fpX0_16 dX0_countFixed_2 a1 (okv_int _) (Nat.le_of_ble_eq_true rfl) ?_
  have a1_1 := a1.self (e := eO 0 [vR (b + 85), vI (n : Int), vI p0, vI lr, vI lc])
  refine g_aload_n (pc := 5) (r := .inl (some (b + 84))) dX0_countFixed_5 rfl ?_
  refine g_iload_n (pc := 6) (x := (q : Int)) dX0_countFixed_6 rfl ?_
  refine g_putf (pc := 7) fpX0_20 dX0_countFixed_7 a1_1 (okv_int _) (Nat.le_of_ble_eq_true rfl) ?_
  have a1_2 := a1_1.self (e := eO 0 [vR (b + 85), vI (n : Int), vI (q : Int), vI lr, vI lc])
  refine g_aload_n (pc := 10) (r := .inl (some (b + 84))) dX0_countFixed_10 rfl ?_
  refine g_aload_n (pc := 11) (r := .inl (some (b + 90))) dX0_countFixed_11 rfl ?_
  have he : EGr N (va_up (va_up h (b + 84) (eO 0 [vR (b + 85), vI (n : Int), vI p0, vI lr, vI lc])) (b + 84) (eO 0 [vR (b + 85), vI (n : Int), vI (q : Int), vI lr, vI lc])) b n q lr lc g F0 := ⟨a1_2, (a2.ne (by omega)).ne (by omega), fun i hi => ((hF0 i hi).ne (by omega)).ne (by omega), a4, a5⟩
  have hS2 := (hS.ne (a := b + 84) (e := eO 0 [vR (b + 85), vI (n : Int), vI p0, vI lr, vI lc]) (by omega)).ne (a := b + 84) (e := eO 0 [vR (b + 85), vI (n : Int), vI (q : Int), vI lr, vI lc]) (by omega)
  refine g_callV0 (pc := 12) (as := [vR (b + 90)]) (b := b + 84) (st := []) lvX0_23 dX0_countFixed_12 a1_2 (Nat.le_of_ble_eq_true rfl) (by omega) (Nat.zero_le _) (Nat.zero_le _) (c_load (d := d + 1) hn (by omega) hq2 rS he hS2) ?_
  rintro r8 h2 ⟨rfl, ⟨F2, he2, hrow⟩, k2⟩
  have hrg : rgE n q F2 := fun r c z1 z2 => by
    obtain ⟨y1, y2⟩ := hrow r z1
    by_cases hc : c = n
    · rw [hc, y2]
      exact ⟨Int.emod_nonneg _ (by omega), Int.emod_lt_of_pos _ (by omega)⟩
    · rw [y1 c (by omega)]
      exact ⟨Int.emod_nonneg _ (by omega), Int.emod_lt_of_pos _ (by omega)⟩
  have hSS : SS q 0 n F2 = SS q 0 n (fun r c => if c = n then (-(S (5 * r + 4))) % (q : Int) else (S (5 * r + c) - (if r = c then 1 else 0)) % (q : Int)) := by
    refine SS_congr (fun y => forall_congr' fun r => imp_congr_right fun z1 => imp_congr_right fun z2 => ?_)
    obtain ⟨y1, y2⟩ := hrow r z2
    unfold eqn
    dsimp only
    rw [if_pos rfl, y2, ss_congr (f := fun c => F2 r c * y c) (g := fun c => (if c = n then (-(S (5 * r + 4))) % (q : Int) else (S (5 * r + c) - (if r = c then 1 else 0)) % (q : Int)) * y c) (n - 0) 0 (fun c c1 c2 => by rw [if_neg (by omega), y1 c (by omega)])]
  refine g_lconst1 (pc := 15) dX0_countFixed_15 ?_
  refine g_lstore (pc := 16) (lo2 := [(0, vR (b + 84)), (1, vR (b + 90)), (2, vI (n : Int)), (3, vI (q : Int)), (4, vJ 1)]) dX0_countFixed_16 (by decide) rfl ?_
  refine g_iconst (pc := 18) dX0_countFixed_18 ?_
  refine g_istore (pc := 19) (lo2 := [(0, vR (b + 84)), (1, vR (b + 90)), (2, vI (n : Int)), (3, vI (q : Int)), (4, vJ 1), (6, vI 0)]) dX0_countFixed_19 (by decide) rfl ?_
  rw [← hSS]
  refine Q_mono (cf_l (h0 := h2) hn hp eq hq1 hq2 n 0 1 _ lr lc g F2 h2 (by omega) rfl (by omega) (Nat.one_mul _) hrg he2 (fun _ _ => rfl)) ?_
  rintro r9 h3 ⟨e1, e2, e3⟩
  exact ⟨e1, e2, fun a2 z => (e3 a2 z).trans ((k2 a2 (by omega)).trans ((va_up_ne _ _ (by omega)).trans (va_up_ne _ _ (by omega))))⟩
