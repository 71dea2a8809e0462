/-! ===== Equations: findLeast, swap ===== -/
/-- what a cell shares with the power -/
def shr (q : Nat) (F : Nat → Nat → Int) (r c : Nat) : Nat := Nat.gcd q (F r c).toNat
/-- the least that was found so far -/
def bst (q i n : Nat) (F : Nat → Nat → Int) (L : Nat) (lr lc : Int) : Prop := L = q + 1 ∨ ∃ a c : Nat, (i ≤ a ∧ a < n) ∧ (i ≤ c ∧ c < n) ∧ lr = (a : Int) ∧ lc = (c : Int) ∧ L = shr q F a c

theorem fl9_l1 {N d b n q i : Nat} {g : Nat → Nat} {F : Nat → Nat → Int} (hn : n ≤ 4) (hq : 0 < q) (hq2 : q ≤ 500) (hi : i < n) (hrg : rgE n q F) {r Ls : Nat} {sx : Nat → Int} {h0 : MH} {Q : Option MV → MR → MH → Prop} (hir : i ≤ r) (hr : r < n) (hK : ∀ (L2 : Nat) (lr lc : Int) (h2 : MH), EGr N h2 b n q lr lc g F → bst q i n F L2 lr lc → (∀ r2 c2, (i ≤ r2 ∧ r2 < n) → (i ≤ c2 ∧ c2 < n) → (r2 < r + 1) → L2 ≤ shr q F r2 c2) → (∀ a, a ≠ b + 84 → h2 a = h0 a) → G mX0_findLeast (d + 1, 0, 0, Ls, sx) 76 [(0, vR (b + 84)), (1, vI (i : Int)), (2, vI ((L2 : Nat) : Int)), (3, vI (r : Int))] [] (0, 0, N) h2 Q) : ∀ (f c L : Nat) (xc lr lc : Int) (h : MH), c + f = n → xc = (c : Int) → i ≤ c → L ≤ q + 1 → EGr N h b n q lr lc g F → bst q i n F L lr lc → (∀ r2 c2, (i ≤ r2 ∧ r2 < n) → (i ≤ c2 ∧ c2 < n) → (r2 < r ∨ (r2 = r ∧ c2 < c)) → L ≤ shr q F r2 c2) → (∀ a, a ≠ b + 84 → h a = h0 a) → G mX0_findLeast (d + 1, 0, 0, Ls, sx) 20 [(0, vR (b + 84)), (1, vI (i : Int)), (2, vI (L : Int)), (3, vI (r : Int)), (4, vI xc)] [] (0, 0, N) h Q := by
  intro f
  induction f with
  | zero =>
    intro c L xc lr lc h hf ex hic hLq he hb hp hk
    refine g_iload (pc := 20) (x := xc) dX0_findLeast_20 rfl ?_
    refine g_aload_n (pc := 22) (r := .inl (some (b + 84))) dX0_findLeast_22 rfl ?_
    refine g_getf (pc := 23) (v := vI (n : Int)) flX0_16 dX0_findLeast_23 he.1 rfl ?_
    refine g_icmp_geT (pc := 26) (tgt := 76) dX0_findLeast_26 (by decide) (by omega) (by omega) (by omega) ?_
    refine g_pick [0, 1, 2, 3] (lo2 := [(0, vR (b + 84)), (1, vI (i : Int)), (2, vI (L : Int)), (3, vI (r : Int))]) rfl ?_
    exact hK L lr lc h he hb (fun r2 c2 z1 z2 z3 => hp r2 c2 z1 z2 (by omega)) hk
  | succ f ih =>
    intro c L xc lr lc h hf ex hic hLq he hb hp hk
    have b1 := hrg r c hr (by omega)
    obtain ⟨v, ev⟩ : ∃ v : Nat, F r c = (v : Int) := ⟨(F r c).toNat, by omega⟩
    have es : shr q F r c = Nat.gcd q v := by unfold shr; rw [ev, Int.toNat_natCast]
    have g1 := Nat.gcd_le_left v hq
    refine g_iload (pc := 20) (x := xc) dX0_findLeast_20 rfl ?_
    refine g_aload_n (pc := 22) (r := .inl (some (b + 84))) dX0_findLeast_22 rfl ?_
    refine g_getf (pc := 23) (v := vI (n : Int)) flX0_16 dX0_findLeast_23 he.1 rfl ?_
    refine g_icmp_geF (pc := 26) (tgt := 76) dX0_findLeast_26 (by decide) (by omega) (by omega) (by omega) ?_
    refine g_aload_n (pc := 29) (r := .inl (some (b + 84))) dX0_findLeast_29 rfl ?_
    refine g_getf (pc := 30) (v := vI (q : Int)) flX0_20 dX0_findLeast_30 he.1 rfl ?_
    refine g_i2l (pc := 33) dX0_findLeast_33 (by omega) ?_
    refine g_aload_n (pc := 34) (r := .inl (some (b + 84))) dX0_findLeast_34 rfl ?_
    refine g_getf (pc := 35) (v := vR (b + 85)) flX0_11 dX0_findLeast_35 he.1 rfl ?_
    refine g_iload_n (pc := 38) (x := (r : Int)) dX0_findLeast_38 rfl ?_
    refine g_aaldN (pc := 39) (j := r) dX0_findLeast_39 he.2.1 (by decide) (by omega) (by omega) (by omega) ?_
    rw [gqF_at (b := b + 86) (g := g) (i := r) (by omega)]
    refine g_iload (pc := 40) (x := xc) dX0_findLeast_40 rfl ?_
    refine g_ialdN (pc := 42) (j := c) dX0_findLeast_42 (he.2.2.1 r (by omega)) (by omega) (by omega) (by omega) ?_
    rw [ev]
    refine g_i2l (pc := 43) dX0_findLeast_43 (by omega) ?_
    refine g_callS0 (pc := 44) (as := [vJ (q : Int), vJ (v : Int)]) (st := []) lsX0_54 dX0_findLeast_44 (Nat.le_of_ble_eq_true rfl) (by omega) (Nat.zero_le _) (Nat.zero_le _) (c_commonDivisor (d := d) (x := q) (y := v) (by omega) (by omega)) ?_
    rintro r8 h2 ⟨e9, e8⟩
    subst e9
    subst e8
    rw [← es] at g1 ⊢
    refine g_l2i (pc := 47) dX0_findLeast_47 ?_
    refine g_istore (pc := 48) (lo2 := [(0, vR (b + 84)), (1, vI (i : Int)), (2, vI (L : Int)), (3, vI (r : Int)), (4, vI xc), (5, vI ((shr q F r c : Nat) : Int))]) dX0_findLeast_48 (by decide) rfl ?_
    refine g_iload (pc := 50) (x := ((shr q F r c : Nat) : Int)) dX0_findLeast_50 rfl ?_
    refine g_iload_n (pc := 52) (x := (L : Int)) dX0_findLeast_52 rfl ?_
    refine g_icmp_ge (pc := 53) (tgt := 70) dX0_findLeast_53 (by decide) (by omega) (by omega) (fun h9 => ?_) (fun h9 => ?_)
    · refine g_iinc (pc := 70) (x := xc) (lo2 := [(0, vR (b + 84)), (1, vI (i : Int)), (2, vI (L : Int)), (3, vI (r : Int)), (4, vI (xc + 1)), (5, vI ((shr q F r c : Nat) : Int))]) dX0_findLeast_70 rfl (by decide) rfl ?_
      refine g_goto (pc := 73) (tgt := 20) dX0_findLeast_73 (by decide) ?_
      refine g_pick [0, 1, 2, 3, 4] (lo2 := [(0, vR (b + 84)), (1, vI (i : Int)), (2, vI (L : Int)), (3, vI (r : Int)), (4, vI (xc + 1))]) rfl ?_
      refine ih (c + 1) L _ lr lc h2 (by omega) (by omega) (by omega) hLq he hb (fun r2 c2 z1 z2 z3 => ?_) hk
      by_cases hcc : r2 = r ∧ c2 = c
      · rw [hcc.1, hcc.2]
        omega
      · exact hp r2 c2 z1 z2 (by omega)
    · refine g_iload (pc := 56) (x := ((shr q F r c : Nat) : Int)) dX0_findLeast_56 rfl ?_
      refine g_istore_n (pc := 58) (lo2 := [(0, vR (b + 84)), (1, vI (i : Int)), (2, vI ((shr q F r c : Nat) : Int)), (3, vI (r : Int)), (4, vI xc), (5, vI ((shr q F r c : Nat) : Int))]) dX0_findLeast_58 (by decide) rfl ?_
      refine g_aload_n (pc := 59) (r := .inl (some (b + 84))) dX0_findLeast_59 rfl ?_
      refine g_iload_n (pc := 60) (x := (r : Int)) dX0_findLeast_60 rfl ?_
      refine g_putf (pc := 61) fpX0_58 dX0_findLeast_61 he.1 (okv_int _) (Nat.le_of_ble_eq_true rfl) ?_
      have ho_1 := he.1.self (e := eO 0 [vR (b + 85), vI (n : Int), vI (q : Int), vI (r : Int), vI lc])
      refine g_aload_n (pc := 64) (r := .inl (some (b + 84))) dX0_findLeast_64 rfl ?_
      refine g_iload (pc := 65) (x := xc) dX0_findLeast_65 rfl ?_
      refine g_putf (pc := 67) fpX0_61 dX0_findLeast_67 ho_1 (okv_int _) (Nat.le_of_ble_eq_true rfl) ?_
      have ho_2 := ho_1.self (e := eO 0 [vR (b + 85), vI (n : Int), vI (q : Int), vI (r : Int), vI xc])
      refine g_iinc (pc := 70) (x := xc) (lo2 := [(0, vR (b + 84)), (1, vI (i : Int)), (2, vI ((shr q F r c : Nat) : Int)), (3, vI (r : Int)), (4, vI (xc + 1)), (5, vI ((shr q F r c : Nat) : Int))]) dX0_findLeast_70 rfl (by decide) rfl ?_
      refine g_goto (pc := 73) (tgt := 20) dX0_findLeast_73 (by decide) ?_
      refine g_pick [0, 1, 2, 3, 4] (lo2 := [(0, vR (b + 84)), (1, vI (i : Int)), (2, vI ((shr q F r c : Nat) : Int)), (3, vI (r : Int)), (4, vI (xc + 1))]) rfl ?_
      refine ih (c + 1) (shr q F r c) _ _ _ _ (by omega) (by omega) (by omega) (by omega) (he.setO.setO) (Or.inr ⟨r, c, by omega, by omega, rfl, by omega, rfl⟩) (fun r2 c2 z1 z2 z3 => ?_) (fun a ha => (va_up_ne _ _ ha).trans ((va_up_ne _ _ ha).trans (hk a ha)))
      by_cases hcc : r2 = r ∧ c2 = c
      · rw [hcc.1, hcc.2]
        exact Nat.le_refl _
      · have := hp r2 c2 z1 z2 (by omega)
        omega

theorem fl9_l2 {N d b n q i : Nat} {g : Nat → Nat} {F : Nat → Nat → Int} (hn : n ≤ 4) (hq : 0 < q) (hq2 : q ≤ 500) (hi : i < n) (hrg : rgE n q F) {Ls : Nat} {sx : Nat → Int} {h0 : MH} : ∀ (f r L : Nat) (xr lr lc : Int) (h : MH), r + f = n → xr = (r : Int) → i ≤ r → L ≤ q + 1 → EGr N h b n q lr lc g F → bst q i n F L lr lc → (∀ r2 c2, (i ≤ r2 ∧ r2 < n) → (i ≤ c2 ∧ c2 < n) → (r2 < r) → L ≤ shr q F r2 c2) → (∀ a, a ≠ b + 84 → h a = h0 a) → G mX0_findLeast (d + 1, 0, 0, Ls, sx) 9 [(0, vR (b + 84)), (1, vI (i : Int)), (2, vI (L : Int)), (3, vI xr)] [] (0, 0, N) h (Pq mX0_findLeast 0 0 (fun r9 h2 => ∃ (L a c : Nat), r9 = some (vI (L : Int)) ∧ (i ≤ a ∧ a < n) ∧ (i ≤ c ∧ c < n) ∧ L = shr q F a c ∧ (∀ r2 c2, (i ≤ r2 ∧ r2 < n) → (i ≤ c2 ∧ c2 < n) → L ≤ shr q F r2 c2) ∧ EGr N h2 b n q (a : Int) (c : Int) g F ∧ ∀ a2, a2 ≠ b + 84 → h2 a2 = h0 a2)) := by
  intro f
  induction f with
  | zero =>
    intro r L xr lr lc h hf ex hir hLq he hb hp hk
    have hl := hp i i ⟨Nat.le_refl _, hi⟩ ⟨Nat.le_refl _, hi⟩ (by omega)
    have hg := Nat.gcd_le_left (F i i).toNat hq
    have hl2 : L ≤ q := Nat.le_trans hl hg
    obtain ⟨a, c, a1, a2, rfl, rfl, rfl⟩ := hb.resolve_left (by omega)
    have hL1 : 1 ≤ shr q F a c := Nat.gcd_pos_of_pos_left _ hq
    refine g_iload_n (pc := 9) (x := xr) dX0_findLeast_9 rfl ?_
    refine g_aload_n (pc := 10) (r := .inl (some (b + 84))) dX0_findLeast_10 rfl ?_
    refine g_getf (pc := 11) (v := vI (n : Int)) flX0_16 dX0_findLeast_11 he.1 rfl ?_
    refine g_icmp_geT (pc := 14) (tgt := 82) dX0_findLeast_14 (by decide) (by omega) (by omega) (by omega) ?_
    refine g_iload_n (pc := 82) (x := ((shr q F a c : Nat) : Int)) dX0_findLeast_82 rfl ?_
    refine g_iconst (pc := 83) dX0_findLeast_83 ?_
    refine g_callS0 (pc := 84) (as := [vI ((shr q F a c : Nat) : Int), vI 1]) (st := []) lsX0_64 dX0_findLeast_84 (Nat.le_of_ble_eq_true rfl) (by omega) (Nat.zero_le _) (Nat.zero_le _) (c_maxI (d := d) (by omega) (by omega)) ?_
    rintro r8 h2 ⟨e9, e8⟩
    subst e9
    subst e8
    rw [show (if ((shr q F a c : Nat) : Int) < 1 then (1 : Int) else ((shr q F a c : Nat) : Int)) = ((shr q F a c : Nat) : Int) from if_neg (by omega)]
    exact r_int (pc := 87) dX0_findLeast_87 rfl rfl (Nat.le_refl _) ⟨shr q F a c, a, c, rfl, a1, a2, rfl, fun r2 c2 z1 z2 => hp r2 c2 z1 z2 (by omega), he, hk⟩
  | succ f ih =>
    intro r L xr lr lc h hf ex hir hLq he hb hp hk
    refine g_iload_n (pc := 9) (x := xr) dX0_findLeast_9 rfl ?_
    refine g_aload_n (pc := 10) (r := .inl (some (b + 84))) dX0_findLeast_10 rfl ?_
    refine g_getf (pc := 11) (v := vI (n : Int)) flX0_16 dX0_findLeast_11 he.1 rfl ?_
    refine g_icmp_geF (pc := 14) (tgt := 82) dX0_findLeast_14 (by decide) (by omega) (by omega) (by omega) ?_
    refine g_iload_n (pc := 17) (x := (i : Int)) dX0_findLeast_17 rfl ?_
    refine g_istore (pc := 18) (lo2 := [(0, vR (b + 84)), (1, vI (i : Int)), (2, vI (L : Int)), (3, vI xr), (4, vI (i : Int))]) dX0_findLeast_18 (by decide) rfl ?_
    subst ex
    refine fl9_l1 (h0 := h0) hn hq hq2 hi hrg hir (show r < n by omega) (fun L2 lr2 lc2 h2 he2 hb2 hp2 hk2 => ?_) (n - i) i L _ lr lc h (by omega) rfl (Nat.le_refl _) hLq he hb (fun r2 c2 z1 z2 z3 => hp r2 c2 z1 z2 (by omega)) hk
    refine g_iinc (pc := 76) (x := (r : Int)) (lo2 := [(0, vR (b + 84)), (1, vI (i : Int)), (2, vI ((L2 : Nat) : Int)), (3, vI ((r : Int) + 1))]) dX0_findLeast_76 rfl (by decide) rfl ?_
    refine g_goto (pc := 79) (tgt := 9) dX0_findLeast_79 (by decide) ?_
    refine ih (r + 1) L2 _ lr2 lc2 h2 (by omega) (by omega) (by omega) ?_ he2 hb2 hp2 hk2
    exact Nat.le_trans (hp2 r i ⟨hir, by omega⟩ ⟨Nat.le_refl _, hi⟩ (by omega)) (Nat.le_trans (Nat.gcd_le_left _ hq) (by omega))

theorem c_findLeast {N d b n q i : Nat} {g : Nat → Nat} {F : Nat → Nat → Int} (hn : n ≤ 4) (hq : 0 < q) (hq2 : q ≤ 500) (hi : i < n) (hrg : rgE n q F) {lr lc : Int} {h : MH} (he : EGr N h b n q lr lc g F) : Ok mX0_findLeast (d + 1) 0 0 [vR (b + 84), vI (i : Int)] N h (fun r9 h2 => ∃ (L a c : Nat), r9 = some (vI (L : Int)) ∧ (i ≤ a ∧ a < n) ∧ (i ≤ c ∧ c < n) ∧ L = shr q F a c ∧ (∀ r2 c2, (i ≤ r2 ∧ r2 < n) → (i ≤ c2 ∧ c2 < n) → L ≤ shr q F r2 c2) ∧ EGr N h2 b n q (a : Int) (c : Int) g F ∧ ∀ a2, a2 ≠ b + 84 → h2 a2 = h a2) := by
  refine Ok.of pfX0_findLeast rfl (Nat.le_of_ble_eq_true rfl) (fun Ls sx => ?_)
  show G mX0_findLeast (d + 1, 0, 0, Ls, sx) 0 [(0, vR (b + 84)), (1, vI (i : Int))] [] (0, 0, N) h _
  refine g_aload_n (pc := 0) (r := .inl (some (b + 84))) dX0_findLeast_0 rfl ?_
  refine g_getf (pc := 1) (v := vI (q : Int)) flX0_20 dX0_findLeast_1 he.1 rfl ?_
  refine g_iconst (pc := 4) dX0_findLeast_4 ?_
  refine g_iadd (pc := 5) dX0_findLeast_5 ?_
  refine g_istore_n (pc := 6) (lo2 := [(0, vR (b + 84)), (1, vI (i : Int)), (2, vI ((q : Int) + 1))]) dX0_findLeast_6 (by decide) rfl ?_
  refine g_iload_n (pc := 7) (x := (i : Int)) dX0_findLeast_7 rfl ?_
  refine g_istore_n (pc := 8) (lo2 := [(0, vR (b + 84)), (1, vI (i : Int)), (2, vI ((q : Int) + 1)), (3, vI (i : Int))]) dX0_findLeast_8 (by decide) rfl ?_
  exact fl9_l2 hn hq hq2 hi hrg (n - i) i (q + 1) _ lr lc h (by omega) rfl (Nat.le_refl _) (Nat.le_refl _) he (Or.inl rfl) (fun r2 c2 z1 z2 z3 => by omega) (fun _ _ => rfl)

theorem gq_swap {b i a : Nat} {g : Nat → Nat} (hi : i < 4) (ha : a < 4) : va_up (va_up (gqF b g) i (some (b + g a))) a (some (b + g i)) = gqF b (fun k => g (tsp i a k)) := by
  funext k
  by_cases hka : k = a
  · subst hka
    have e : tsp i k k = i := by
      unfold tsp
      split
      · assumption
      · exact if_pos rfl
    rw [va_up_self, gqF_at ha, e]
  · rw [va_up_ne _ _ hka]
    by_cases hki : k = i
    · subst hki
      have e : tsp k a k = a := if_pos rfl
      rw [va_up_self, gqF_at hi, e]
    · have e : tsp i a k = k := by
        unfold tsp
        rw [if_neg hki, if_neg hka]
      rw [va_up_ne _ _ hki]
      show (if k < 4 then some (b + g k) else none) = if k < 4 then some (b + g (tsp i a k)) else none
      rw [e]
theorem EGr.swp {N : Nat} {h : MH} {b n q i a : Nat} {lr lc : Int} {g : Nat → Nat} {F : Nat → Nat → Int} (he : EGr N h b n q lr lc g F) (hi : i < 4) (ha : a < 4) : EGr N (va_up (va_up h (b + 85) (eQ 6 4 (va_up (gqF (b + 86) g) i (some (b + 86 + g a))))) (b + 85) (eQ 6 4 (va_up (va_up (gqF (b + 86) g) i (some (b + 86 + g a))) a (some (b + 86 + g i))))) b n q lr lc (fun k => g (tsp i a k)) (fun k => F (tsp i a k)) := by
  obtain ⟨a1, a2, a3, a4, a5⟩ := he
  have ht : ∀ k, k < 4 → tsp i a k < 4 := fun k hk => (tsp_in (i := 0) ⟨Nat.zero_le _, hi⟩ ⟨Nat.zero_le _, ha⟩ ⟨Nat.zero_le _, hk⟩).2
  refine ⟨(a1.ne (by omega)).ne (by omega), ?_, fun k hk => ((a3 _ (ht k hk)).ne (by omega)).ne (by omega), fun k hk => a4 _ (ht k hk), fun x y hx hy hxy => ?_⟩
  · rw [← gq_swap hi ha]
    exact (a2.self (e := eQ 6 4 (va_up (gqF (b + 86) g) i (some (b + 86 + g a))))).self
  · have := a5 _ _ (ht x hx) (ht y hy) hxy
    rw [← tsp_inv i a x, this, tsp_inv]
theorem up_tsp {f : Nat → Int} {i c : Nat} : va_up (va_up f i (f c)) c (f i) = fun k => f (tsp i c k) := by
  funext k
  unfold va_up tsp
  repeat' split
  all_goals first | rfl | (subst_vars; first | rfl | (exfalso; omega)) | (congr 1; omega)

theorem swp_l {κ : KX} {N b n q i a c x2 : Nat} {g : Nat → Nat} {F0 : Nat → Nat → Int} {h0 : MH} (hn : n ≤ 4) (hi : i < n) (hc : c < n) : ∀ (f r : Nat) (xr : Int) (F : Nat → Nat → Int) (h : MH), r + f = n → xr = (r : Int) → EGr N h b n q (a : Int) (c : Int) g F → (∀ r2, r2 < r → ∀ k, F r2 k = F0 r2 (tsp i c k)) → (∀ r2, r ≤ r2 → F r2 = F0 r2) → (∀ a2, (a2 < b + 86 ∨ b + 90 ≤ a2) → h a2 = h0 a2) → G mX0_swap κ 34 [(0, vR (b + 84)), (1, vI (i : Int)), (2, vR x2), (3, vI xr)] [] (0, 0, N) h (Pq mX0_swap 0 0 (fun r9 h2 => r9 = none ∧ (∃ F2, EGr N h2 b n q (a : Int) (c : Int) g F2 ∧ ∀ r, r < n → ∀ k, F2 r k = F0 r (tsp i c k)) ∧ ∀ a2, (a2 < b + 86 ∨ b + 90 ≤ a2) → h2 a2 = h0 a2)) := by
  intro f
  induction f with
  | zero =>
    intro r xr F h hf ex he f1 f2 hk
    refine g_iload_n (pc := 34) (x := xr) dX0_swap_34 rfl ?_
    refine g_aload_n (pc := 35) (r := .inl (some (b + 84))) dX0_swap_35 rfl ?_
    refine g_getf (pc := 36) (v := vI (n : Int)) flX0_16 dX0_swap_36 he.1 rfl ?_
    refine g_icmp_geT (pc := 39) (tgt := 90) dX0_swap_39 (by decide) (by omega) (by omega) (by omega) ?_
    exact r_void (pc := 90) dX0_swap_90 rfl rfl (Nat.le_refl _) ⟨rfl, ⟨F, he, fun r2 z1 => f1 r2 (by omega)⟩, hk⟩
  | succ f ih =>
    intro r xr F h hf ex he f1 f2 hk
    have g1 := he.2.2.2.1 r (by omega)
    refine g_iload_n (pc := 34) (x := xr) dX0_swap_34 rfl ?_
    refine g_aload_n (pc := 35) (r := .inl (some (b + 84))) dX0_swap_35 rfl ?_
    refine g_getf (pc := 36) (v := vI (n : Int)) flX0_16 dX0_swap_36 he.1 rfl ?_
    refine g_icmp_geF (pc := 39) (tgt := 90) dX0_swap_39 (by decide) (by omega) (by omega) (by omega) ?_
    refine g_aload_n (pc := 42) (r := .inl (some (b + 84))) dX0_swap_42 rfl ?_
    refine g_getf (pc := 43) (v := vR (b + 85)) flX0_11 dX0_swap_43 he.1 rfl ?_
    refine g_iload_n (pc := 46) (x := xr) dX0_swap_46 rfl ?_
    refine g_aaldN (pc := 47) (j := r) dX0_swap_47 he.2.1 (by decide) (by omega) (by omega) (by omega) ?_
    rw [gqF_at (b := b + 86) (g := g) (i := r) (by omega)]
    refine g_iload_n (pc := 48) (x := (i : Int)) dX0_swap_48 rfl ?_
    refine g_ialdN (pc := 49) (j := i) dX0_swap_49 (he.2.2.1 r (by omega)) (by omega) (by omega) (by omega) ?_
    refine g_istore (pc := 50) (lo2 := [(0, vR (b + 84)), (1, vI (i : Int)), (2, vR x2), (3, vI xr), (4, vI ((F r) i))]) dX0_swap_50 (by decide) rfl ?_
    refine g_aload_n (pc := 52) (r := .inl (some (b + 84))) dX0_swap_52 rfl ?_
    refine g_getf (pc := 53) (v := vR (b + 85)) flX0_11 dX0_swap_53 he.1 rfl ?_
    refine g_iload_n (pc := 56) (x := xr) dX0_swap_56 rfl ?_
    refine g_aaldN (pc := 57) (j := r) dX0_swap_57 he.2.1 (by decide) (by omega) (by omega) (by omega) ?_
    rw [gqF_at (b := b + 86) (g := g) (i := r) (by omega)]
    refine g_iload_n (pc := 58) (x := (i : Int)) dX0_swap_58 rfl ?_
    refine g_aload_n (pc := 59) (r := .inl (some (b + 84))) dX0_swap_59 rfl ?_
    refine g_getf (pc := 60) (v := vR (b + 85)) flX0_11 dX0_swap_60 he.1 rfl ?_
    refine g_iload_n (pc := 63) (x := xr) dX0_swap_63 rfl ?_
    refine g_aaldN (pc := 64) (j := r) dX0_swap_64 he.2.1 (by decide) (by omega) (by omega) (by omega) ?_
    rw [gqF_at (b := b + 86) (g := g) (i := r) (by omega)]
    refine g_aload_n (pc := 65) (r := .inl (some (b + 84))) dX0_swap_65 rfl ?_
    refine g_getf (pc := 66) (v := vI (c : Int)) flX0_61 dX0_swap_66 he.1 rfl ?_
    refine g_ialdN (pc := 69) (j := c) dX0_swap_69 (he.2.2.1 r (by omega)) (by omega) (by omega) (by omega) ?_
    refine g_iastN (pc := 70) (j := i) dX0_swap_70 (he.2.2.1 r (by omega)) (by omega) (by omega) (by omega) ?_
    have hw_1 := (he.2.2.1 r (by omega)).self (e := eA 0 5 (va_up (F r) i ((F r) c)))
    have he1 := he.set (show r < 4 by omega) (va_up (F r) i (F r c))
    refine g_aload_n (pc := 71) (r := .inl (some (b + 84))) dX0_swap_71 rfl ?_
    refine g_getf (pc := 72) (v := vR (b + 85)) flX0_11 dX0_swap_72 he1.1 rfl ?_
    refine g_iload_n (pc := 75) (x := xr) dX0_swap_75 rfl ?_
    refine g_aaldN (pc := 76) (j := r) dX0_swap_76 he1.2.1 (by decide) (by omega) (by omega) (by omega) ?_
    rw [gqF_at (b := b + 86) (g := g) (i := r) (by omega)]
    refine g_aload_n (pc := 77) (r := .inl (some (b + 84))) dX0_swap_77 rfl ?_
    refine g_getf (pc := 78) (v := vI (c : Int)) flX0_61 dX0_swap_78 he1.1 rfl ?_
    refine g_iload (pc := 81) (x := (F r) i) dX0_swap_81 rfl ?_
    refine g_iastN (pc := 83) (j := c) dX0_swap_83 hw_1 (by omega) (by omega) (by omega) ?_
    have hw_2 := hw_1.self (e := eA 0 5 (va_up (va_up (F r) i ((F r) c)) c ((F r) i)))
    refine g_iinc (pc := 84) (x := xr) (lo2 := [(0, vR (b + 84)), (1, vI (i : Int)), (2, vR x2), (3, vI (xr + 1)), (4, vI ((F r) i))]) dX0_swap_84 rfl (by decide) rfl ?_
    refine g_goto (pc := 87) (tgt := 34) dX0_swap_87 (by decide) ?_
    refine g_pick [0, 1, 2, 3] (lo2 := [(0, vR (b + 84)), (1, vI (i : Int)), (2, vR x2), (3, vI (xr + 1))]) rfl ?_
    have he2 := he1.set (show r < 4 by omega) (va_up (va_up (F r) i (F r c)) c (F r i))
    refine ih (r + 1) _ _ _ (by omega) (by omega) he2 (fun r2 z1 k => ?_) (fun r2 z1 => ?_) (fun a2 z1 => (va_up_ne _ _ (by omega)).trans ((va_up_ne _ _ (by omega)).trans (hk a2 z1)))
    · by_cases hrr : r2 = r
      · subst hrr
        rw [va_up_self, up_tsp, f2 r2 (Nat.le_refl _)]
      · rw [va_up_ne _ _ hrr, va_up_ne _ _ hrr]
        exact f1 r2 (by omega) k
    · rw [va_up_ne _ _ (by omega), va_up_ne _ _ (by omega)]
      exact f2 r2 (by omega)

theorem c_eswap {N d b n q i a c : Nat} {g : Nat → Nat} {F : Nat → Nat → Int} {h : MH} (hn : n ≤ 4) (hi : i < n) (ha : a < n) (hc : c < n) (he : EGr N h b n q (a : Int) (c : Int) g F) : Ok mX0_swap d 0 0 [vR (b + 84), vI (i : Int)] N h (fun r9 h2 => r9 = none ∧ (∃ g2 F2, EGr N h2 b n q (a : Int) (c : Int) g2 F2 ∧ ∀ r, r < n → ∀ k, F2 r k = F (tsp i a r) (tsp i c k)) ∧ ∀ a2, (a2 < b + 85 ∨ b + 90 ≤ a2) → h2 a2 = h a2) := by
  refine Ok.of pfX0_swap rfl (Nat.le_of_ble_eq_true rfl) (fun Ls sx => ?_)
  show G mX0_swap (d, 0, 0, Ls, sx) 0 [(0, vR (b + 84)), (1, vI (i : Int))] [] (0, 0, N) h _
  refine g_aload_n (pc := 0) (r := .inl (some (b + 84))) dX0_swap_0 rfl ?_
  refine g_getf (pc := 1) (v := vR (b + 85)) flX0_11 dX0_swap_1 he.1 rfl ?_
  refine g_iload_n (pc := 4) (x := (i : Int)) dX0_swap_4 rfl ?_
  refine g_aaldN (pc := 5) (j := i) dX0_swap_5 he.2.1 (by decide) (by omega) (by omega) (by omega) ?_
  rw [gqF_at (b := b + 86) (g := g) (i := i) (by omega)]
  refine g_astore_n (pc := 6) (r := .inl (some (b + 86 + g i))) (lo2 := [(0, vR (b + 84)), (1, vI (i : Int)), (2, vR (b + 86 + g i))]) dX0_swap_6 (by decide) rfl ?_
  refine g_aload_n (pc := 7) (r := .inl (some (b + 84))) dX0_swap_7 rfl ?_
  refine g_getf (pc := 8) (v := vR (b + 85)) flX0_11 dX0_swap_8 he.1 rfl ?_
  refine g_iload_n (pc := 11) (x := (i : Int)) dX0_swap_11 rfl ?_
  refine g_aload_n (pc := 12) (r := .inl (some (b + 84))) dX0_swap_12 rfl ?_
  refine g_getf (pc := 13) (v := vR (b + 85)) flX0_11 dX0_swap_13 he.1 rfl ?_
  refine g_aload_n (pc := 16) (r := .inl (some (b + 84))) dX0_swap_16 rfl ?_
  refine g_getf (pc := 17) (v := vI (a : Int)) flX0_58 dX0_swap_17 he.1 rfl ?_
  refine g_aaldN (pc := 20) (j := a) dX0_swap_20 he.2.1 (by decide) (by omega) (by omega) (by omega) ?_
  rw [gqF_at (b := b + 86) (g := g) (i := a) (by omega)]
  refine g_aastN (pc := 21) (j := i) dX0_swap_21 he.2.1 (Or.inr (Or.inr ⟨rfl, _, _, he.2.2.1 a (by omega)⟩)) (by omega) (by omega) (by omega) ?_
  have ho_1 := he.1.ne (e := eQ 6 4 (va_up (gqF (b + 86) g) i (some (b + 86 + g a)))) (a := b + 85) (by omega)
  have ha_1 := he.2.1.self (e := eQ 6 4 (va_up (gqF (b + 86) g) i (some (b + 86 + g a))))
  refine g_aload_n (pc := 22) (r := .inl (some (b + 84))) dX0_swap_22 rfl ?_
  refine g_getf (pc := 23) (v := vR (b + 85)) flX0_11 dX0_swap_23 ho_1 rfl ?_
  refine g_aload_n (pc := 26) (r := .inl (some (b + 84))) dX0_swap_26 rfl ?_
  refine g_getf (pc := 27) (v := vI (a : Int)) flX0_58 dX0_swap_27 ho_1 rfl ?_
  refine g_aload_n (pc := 30) (r := .inl (some (b + 86 + g i))) dX0_swap_30 rfl ?_
  refine g_aastN (pc := 31) (j := a) dX0_swap_31 ha_1 (Or.inr (Or.inr ⟨rfl, _, _, (he.2.2.1 i (by omega)).ne (by omega)⟩)) (by omega) (by omega) (by omega) ?_
  have ho_2 := ho_1.ne (e := eQ 6 4 (va_up (va_up (gqF (b + 86) g) i (some (b + 86 + g a))) a (some (b + 86 + g i)))) (a := b + 85) (by omega)
  have ha_2 := ha_1.self (e := eQ 6 4 (va_up (va_up (gqF (b + 86) g) i (some (b + 86 + g a))) a (some (b + 86 + g i))))
  refine g_iconst (pc := 32) dX0_swap_32 ?_
  refine g_istore_n (pc := 33) (lo2 := [(0, vR (b + 84)), (1, vI (i : Int)), (2, vR (b + 86 + g i)), (3, vI 0)]) dX0_swap_33 (by decide) rfl ?_
  have he1 := he.swp (show i < 4 by omega) (show a < 4 by omega)
  refine Q_mono (swp_l (F0 := fun k => F (tsp i a k)) (g := fun k => g (tsp i a k)) hn hi hc n 0 _ _ _ (by omega) rfl he1 (fun r2 z => absurd z (Nat.not_lt_zero r2)) (fun _ _ => rfl) (fun _ _ => rfl)) ?_
  rintro r9 h2 ⟨e1, ⟨F2, e2, e3⟩, e4⟩
  exact ⟨e1, ⟨_, F2, e2, e3⟩, fun a2 z => (e4 a2 (by omega)).trans ((va_up_ne _ _ (by omega)).trans (va_up_ne _ _ (by omega)))⟩
