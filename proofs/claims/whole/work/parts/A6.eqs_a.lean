/-! ===== Equations: load, takeOff, findLeast ===== -/
theorem perm4 {g : Nat → Nat} (h1 : ∀ i, i < 4 → g i < 4) (h2 : ∀ i j, i < 4 → j < 4 → g i = g j → i = j) (k : Nat) (hk : k < 4) : ∃ j, j < 4 ∧ g j = k := by
  have a0 := h1 0 (by omega)
  have a1 := h1 1 (by omega)
  have a2 := h1 2 (by omega)
  have a3 := h1 3 (by omega)
  have b01 := h2 0 1 (by omega) (by omega)
  have b02 := h2 0 2 (by omega) (by omega)
  have b03 := h2 0 3 (by omega) (by omega)
  have b12 := h2 1 2 (by omega) (by omega)
  have b13 := h2 1 3 (by omega) (by omega)
  have b23 := h2 2 3 (by omega) (by omega)
  by_cases c0 : g 0 = k
  · exact ⟨0, by omega, c0⟩
  by_cases c1 : g 1 = k
  · exact ⟨1, by omega, c1⟩
  by_cases c2 : g 2 = k
  · exact ⟨2, by omega, c2⟩
  · exact ⟨3, by omega, by omega⟩

def gqF (b : Nat) (g : Nat → Nat) (i : Nat) : Option Nat := if i < 4 then some (b + g i) else none
theorem gqF_at {b i : Nat} {g : Nat → Nat} (hi : i < 4) : gqF b g i = some (b + g i) := if_pos hi
/-- the equations object with the rows F -/
def EGr (N : Nat) (h : MH) (b n q : Nat) (lr lc : Int) (g : Nat → Nat) (F : Nat → Nat → Int) : Prop := Hd (0, 0, N) h (b + 84) (eO 0 [vR (b + 85), vI (n : Int), vI (q : Int), vI lr, vI lc]) ∧ Hd (0, 0, N) h (b + 85) (eQ 6 4 (gqF (b + 86) g)) ∧ (∀ i, i < 4 → Hd (0, 0, N) h (b + 86 + g i) (eA 0 5 (F i))) ∧ (∀ i, i < 4 → g i < 4) ∧ ∀ i j, i < 4 → j < 4 → g i = g j → i = j
theorem EGr.set {N : Nat} {h : MH} {b n q : Nat} {lr lc : Int} {g : Nat → Nat} {F : Nat → Nat → Int} (he : EGr N h b n q lr lc g F) {r : Nat} (hr : r < 4) (f : Nat → Int) : EGr N (va_up h (b + 86 + g r) (eA 0 5 f)) b n q lr lc g (va_up F r f) := by
  obtain ⟨a1, a2, a3, a4, a5⟩ := he
  have hg := a4 r hr
  refine ⟨a1.ne (by omega), a2.ne (by omega), fun i hi => ?_, a4, a5⟩
  by_cases hir : i = r
  · subst hir
    rw [va_up_self]
    exact (a3 i hi).self
  · rw [va_up_ne _ _ hir]
    exact (a3 i hi).ne (fun z => hir (a5 i r hi hr (by omega)))
theorem EGr.setO {N : Nat} {h : MH} {b n q : Nat} {lr lc lr2 lc2 : Int} {g : Nat → Nat} {F : Nat → Nat → Int} (he : EGr N h b n q lr lc g F) : EGr N (va_up h (b + 84) (eO 0 [vR (b + 85), vI (n : Int), vI (q : Int), vI lr2, vI lc2])) b n q lr2 lc2 g F := by
  obtain ⟨a1, a2, a3, a4, a5⟩ := he
  exact ⟨a1.self, a2.ne (by omega), fun i hi => (a3 i hi).ne (by have := a4 i hi; omega), a4, a5⟩
theorem EGr.keep {N : Nat} {h h2 : MH} {b n q : Nat} {lr lc : Int} {g : Nat → Nat} {F : Nat → Nat → Int} (he : EGr N h b n q lr lc g F) (k : ∀ a, b + 84 ≤ a → a < b + 90 → h2 a = h a) : EGr N h2 b n q lr lc g F := by
  obtain ⟨a1, a2, a3, a4, a5⟩ := he
  exact ⟨a1.keep (k _ (by omega) (by omega)), a2.keep (k _ (by omega) (by omega)), fun i hi => (a3 i hi).keep (k _ (by omega) (by have := a4 i hi; omega)), a4, a5⟩
theorem EGr.eq {N : Nat} {h : MH} {b n q : Nat} {lr lc : Int} {g : Nat → Nat} {F : Nat → Nat → Int} (he : EGr N h b n q lr lc g F) : EQ N h b := by
  obtain ⟨a1, a2, a3, a4, a5⟩ := he
  refine ⟨⟨_, _, _, _, a1⟩, g, a4, a5, a2, fun i hi => ?_⟩
  obtain ⟨j, hj, e⟩ := perm4 a4 a5 i hi
  exact ⟨F j, by rw [← e]; exact a3 j hj⟩
/-- the rows hold rests -/
def rgE (n q : Nat) (F : Nat → Nat → Int) : Prop := ∀ r c, r < n → c ≤ n → 0 ≤ F r c ∧ F r c < q

theorem tk_l {N d b n q i r t : Nat} {lr lc : Int} {g : Nat → Nat} {F0 : Nat → Nat → Int} (hn : n ≤ 4) (hq : 0 < q) (hq2 : q ≤ 500) (hi : i < n) (hr : r < n) (hir : i ≠ r) (ht : t ≤ 500) (hrg : rgE n q F0) {Ls : Nat} {sx : Nat → Int} {h0 : MH} : ∀ (f c : Nat) (xc : Int) (F : Nat → Nat → Int) (h : MH), c + f = n + 1 → xc = (c : Int) → i ≤ c → EGr N h b n q lr lc g F → (∀ r2, r2 ≠ r → F r2 = F0 r2) → (∀ c2, i ≤ c2 → c2 < c → F r c2 = (F0 r c2 - t * F0 i c2) % (q : Int)) → (∀ c2, ¬ (i ≤ c2 ∧ c2 < c) → F r c2 = F0 r c2) → (∀ a, (a < b + 86 ∨ b + 90 ≤ a) → h a = h0 a) → G mX0_takeOff (d + 2, 0, 0, Ls, sx) 3 [(0, vR (b + 84)), (1, vI (i : Int)), (2, vI (r : Int)), (3, vI (t : Int)), (4, vI xc)] [] (0, 0, N) h (Pq mX0_takeOff 0 0 (fun r9 h2 => r9 = none ∧ (∃ F2, EGr N h2 b n q lr lc g F2 ∧ (∀ r2, r2 ≠ r → F2 r2 = F0 r2) ∧ (∀ c, i ≤ c → c ≤ n → F2 r c = (F0 r c - t * F0 i c) % (q : Int)) ∧ ∀ c, c < i → F2 r c = F0 r c) ∧ ∀ a, (a < b + 86 ∨ b + 90 ≤ a) → h2 a = h0 a)) := by
  intro f
  induction f with
  | zero =>
    intro c xc F h hf ex hic he f1 f2 f3 hk
    refine g_iload (pc := 3) (x := xc) dX0_takeOff_3 rfl ?_
    refine g_aload_n (pc := 5) (r := .inl (some (b + 84))) dX0_takeOff_5 rfl ?_
    refine g_getf (pc := 6) (v := vI (n : Int)) flX0_16 dX0_takeOff_6 he.1 rfl ?_
    refine g_icmp_gtT (pc := 9) (tgt := 58) dX0_takeOff_9 (by decide) (by omega) (by omega) (by omega) ?_
    exact r_void (pc := 58) dX0_takeOff_58 rfl rfl (Nat.le_refl _) ⟨rfl, ⟨F, he, f1, fun c2 a1 a2 => f2 c2 a1 (by omega), fun c2 a1 => f3 c2 (by omega)⟩, hk⟩
  | succ f ih =>
    intro c xc F h hf ex hic he f1 f2 f3 hk
    have g1 := he.2.2.2.1 r (by omega)
    have e1 : F r c = F0 r c := f3 c (by omega)
    have e2 : F i c = F0 i c := by rw [f1 i hir]
    have b1 := hrg r c hr (by omega)
    have b2 := hrg i c hi (by omega)
    have zz := mul_bd (A := 500) (B := 500) (show -500 ≤ (t : Int) ∧ (t : Int) ≤ 500 by omega) (show -500 ≤ F0 i c ∧ F0 i c ≤ 500 by omega)
    refine g_iload (pc := 3) (x := xc) dX0_takeOff_3 rfl ?_
    refine g_aload_n (pc := 5) (r := .inl (some (b + 84))) dX0_takeOff_5 rfl ?_
    refine g_getf (pc := 6) (v := vI (n : Int)) flX0_16 dX0_takeOff_6 he.1 rfl ?_
    refine g_icmp_gtF (pc := 9) (tgt := 58) dX0_takeOff_9 (by decide) (by omega) (by omega) (by omega) ?_
    refine g_aload_n (pc := 12) (r := .inl (some (b + 84))) dX0_takeOff_12 rfl ?_
    refine g_getf (pc := 13) (v := vR (b + 85)) flX0_11 dX0_takeOff_13 he.1 rfl ?_
    refine g_iload_n (pc := 16) (x := (r : Int)) dX0_takeOff_16 rfl ?_
    refine g_aaldN (pc := 17) (j := r) dX0_takeOff_17 he.2.1 (by decide) (by omega) (by omega) (by omega) ?_
    rw [gqF_at (b := b + 86) (g := g) (i := r) (by omega)]
    refine g_iload (pc := 18) (x := xc) dX0_takeOff_18 rfl ?_
    refine g_aload_n (pc := 20) (r := .inl (some (b + 84))) dX0_takeOff_20 rfl ?_
    refine g_getf (pc := 21) (v := vR (b + 85)) flX0_11 dX0_takeOff_21 he.1 rfl ?_
    refine g_iload_n (pc := 24) (x := (r : Int)) dX0_takeOff_24 rfl ?_
    refine g_aaldN (pc := 25) (j := r) dX0_takeOff_25 he.2.1 (by decide) (by omega) (by omega) (by omega) ?_
    rw [gqF_at (b := b + 86) (g := g) (i := r) (by omega)]
    refine g_iload (pc := 26) (x := xc) dX0_takeOff_26 rfl ?_
    refine g_ialdN (pc := 28) (j := c) dX0_takeOff_28 (he.2.2.1 r (by omega)) (by omega) (by omega) (by omega) ?_
    rw [e1]
    refine g_i2l (pc := 29) dX0_takeOff_29 (by omega) ?_
    refine g_iload_n (pc := 30) (x := (t : Int)) dX0_takeOff_30 rfl ?_
    refine g_i2l (pc := 31) dX0_takeOff_31 (by omega) ?_
    refine g_aload_n (pc := 32) (r := .inl (some (b + 84))) dX0_takeOff_32 rfl ?_
    refine g_getf (pc := 33) (v := vR (b + 85)) flX0_11 dX0_takeOff_33 he.1 rfl ?_
    refine g_iload_n (pc := 36) (x := (i : Int)) dX0_takeOff_36 rfl ?_
    refine g_aaldN (pc := 37) (j := i) dX0_takeOff_37 he.2.1 (by decide) (by omega) (by omega) (by omega) ?_
    rw [gqF_at (b := b + 86) (g := g) (i := i) (by omega)]
    refine g_iload (pc := 38) (x := xc) dX0_takeOff_38 rfl ?_
    refine g_ialdN (pc := 40) (j := c) dX0_takeOff_40 (he.2.2.1 i (by omega)) (by omega) (by omega) (by omega) ?_
    rw [e2]
    refine g_i2l (pc := 41) dX0_takeOff_41 (by omega) ?_
    refine g_lmul (pc := 42) dX0_takeOff_42 ?_
    refine g_lsub (pc := 43) dX0_takeOff_43 ?_
    refine g_aload_n (pc := 44) (r := .inl (some (b + 84))) dX0_takeOff_44 rfl ?_
    refine g_getf (pc := 45) (v := vI (q : Int)) flX0_20 dX0_takeOff_45 he.1 rfl ?_
    refine g_callS0 (pc := 48) (as := [vJ ((F0 r c) - ((t : Int) * (F0 i c))), vI (q : Int)]) (st := [vI xc, vR (b + 86 + g r)]) lsX0_33 dX0_takeOff_48 (Nat.le_of_ble_eq_true rfl) (by omega) (Nat.zero_le _) (Nat.zero_le _) (c_restOf (d := d) (by omega) (by omega) (by omega)) ?_
    rintro r8 h2 ⟨e9, rfl⟩
    subst e9
    refine g_iastN (pc := 51) (j := c) dX0_takeOff_51 (he.2.2.1 r (by omega)) (by omega) (by omega) (by omega) ?_
    have hw_1 := (he.2.2.1 r (by omega)).self (e := eA 0 5 (va_up (F r) c ((F0 r c - (t : Int) * F0 i c) % (q : Int))))
    refine g_iinc (pc := 52) (x := xc) (lo2 := [(0, vR (b + 84)), (1, vI (i : Int)), (2, vI (r : Int)), (3, vI (t : Int)), (4, vI (xc + 1))]) dX0_takeOff_52 rfl (by decide) rfl ?_
    refine g_goto (pc := 55) (tgt := 3) dX0_takeOff_55 (by decide) ?_
    refine ih (c + 1) _ _ _ (by omega) (by omega) (by omega) (he.set (show r < 4 by omega) _) (fun r2 a1 => ?_) (fun c2 a1 a2 => ?_) (fun c2 a1 => ?_) (fun a ha => (va_up_ne _ _ (by omega)).trans (hk a ha))
    · rw [va_up_ne _ _ a1]
      exact f1 r2 a1
    · rw [va_up_self]
      by_cases hcc : c2 = c
      · subst hcc
        rw [va_up_self]
      · rw [va_up_ne _ _ hcc]
        exact f2 c2 a1 (by omega)
    · rw [va_up_self, va_up_ne _ _ (by omega)]
      exact f3 c2 (by omega)

theorem c_takeOff {N d b n q i r t : Nat} {lr lc : Int} {g : Nat → Nat} {F0 : Nat → Nat → Int} (hn : n ≤ 4) (hq : 0 < q) (hq2 : q ≤ 500) (hi : i < n) (hr : r < n) (hir : i ≠ r) (ht : t ≤ 500) (hrg : rgE n q F0) {h : MH} (he : EGr N h b n q lr lc g F0) : Ok mX0_takeOff (d + 2) 0 0 [vR (b + 84), vI (i : Int), vI (r : Int), vI (t : Int)] N h (fun r9 h2 => r9 = none ∧ (∃ F2, EGr N h2 b n q lr lc g F2 ∧ (∀ r2, r2 ≠ r → F2 r2 = F0 r2) ∧ (∀ c, i ≤ c → c ≤ n → F2 r c = (F0 r c - t * F0 i c) % (q : Int)) ∧ ∀ c, c < i → F2 r c = F0 r c) ∧ ∀ a, (a < b + 86 ∨ b + 90 ≤ a) → h2 a = h a) := by
  refine Ok.of pfX0_takeOff rfl (Nat.le_of_ble_eq_true rfl) (fun Ls sx => ?_)
  show G mX0_takeOff (d + 2, 0, 0, Ls, sx) 0 [(0, vR (b + 84)), (1, vI (i : Int)), (2, vI (r : Int)), (3, vI (t : Int))] [] (0, 0, N) h _
  refine g_iload_n (pc := 0) (x := (i : Int)) dX0_takeOff_0 rfl ?_
  refine g_istore (pc := 1) (lo2 := [(0, vR (b + 84)), (1, vI (i : Int)), (2, vI (r : Int)), (3, vI (t : Int)), (4, vI (i : Int))]) dX0_takeOff_1 (by decide) rfl ?_
  exact tk_l hn hq hq2 hi hr hir ht hrg (n + 1 - i) i _ F0 h (by omega) rfl (by omega) he (fun _ _ => rfl) (fun c2 a1 a2 => by omega) (fun _ _ => rfl) (fun _ _ => rfl)

theorem ld_l1 {N d b n q : Nat} {lr lc : Int} {g : Nat → Nat} {S : Nat → Int} {F0 : Nat → Nat → Int} (hn : n ≤ 4) (hq : 0 < q) (hq2 : q ≤ 500) (rS : rng S) {r Ls : Nat} {sx : Nat → Int} {h0 : MH} {Q : Option MV → MR → MH → Prop} (hr : r < n) (hS0 : Hd (0, 0, N) h0 (b + 90) (eA 0 20 S)) (hK : ∀ (F : Nat → Nat → Int) (h2 : MH), EGr N h2 b n q lr lc g F → (∀ r2, r2 ≠ r → F r2 = F0 r2) → (∀ c2, c2 < n → F r c2 = (S (5 * r + c2) - (if r = c2 then 1 else 0)) % (q : Int)) → (∀ a, (a < b + 86 ∨ b + 90 ≤ a) → h2 a = h0 a) → G mX0_load (d + 2, 0, 0, Ls, sx) 64 [(0, vR (b + 84)), (1, vR (b + 90)), (2, vI (r : Int))] [] (0, 0, N) h2 Q) : ∀ (f c : Nat) (xc : Int) (F : Nat → Nat → Int) (h : MH), c + f = n → xc = (c : Int) → EGr N h b n q lr lc g F → (∀ r2, r2 ≠ r → F r2 = F0 r2) → (∀ c2, c2 < c → F r c2 = (S (5 * r + c2) - (if r = c2 then 1 else 0)) % (q : Int)) → (∀ a, (a < b + 86 ∨ b + 90 ≤ a) → h a = h0 a) → G mX0_load (d + 2, 0, 0, Ls, sx) 12 [(0, vR (b + 84)), (1, vR (b + 90)), (2, vI (r : Int)), (3, vI xc)] [] (0, 0, N) h Q := by
  intro f
  induction f with
  | zero =>
    intro c xc F h hf ex he f1 f2 hk
    have hS := hS0.keep (hk (b + 90) (by omega))
    refine g_iload_n (pc := 12) (x := xc) dX0_load_12 rfl ?_
    refine g_aload_n (pc := 13) (r := .inl (some (b + 84))) dX0_load_13 rfl ?_
    refine g_getf (pc := 14) (v := vI (n : Int)) flX0_16 dX0_load_14 he.1 rfl ?_
    refine g_icmp_geT (pc := 17) (tgt := 64) dX0_load_17 (by decide) (by omega) (by omega) (by omega) ?_
    refine g_pick [0, 1, 2] (lo2 := [(0, vR (b + 84)), (1, vR (b + 90)), (2, vI (r : Int))]) rfl ?_
    exact hK F h he f1 (fun c2 a => f2 c2 (by omega)) hk
  | succ f ih =>
    intro c xc F h hf ex he f1 f2 hk
    have hS := hS0.keep (hk (b + 90) (by omega))
    have g1 := he.2.2.2.1 r (by omega)
    have b1 := rS (5 * r + c)
    refine g_iload_n (pc := 12) (x := xc) dX0_load_12 rfl ?_
    refine g_aload_n (pc := 13) (r := .inl (some (b + 84))) dX0_load_13 rfl ?_
    refine g_getf (pc := 14) (v := vI (n : Int)) flX0_16 dX0_load_14 he.1 rfl ?_
    refine g_icmp_geF (pc := 17) (tgt := 64) dX0_load_17 (by decide) (by omega) (by omega) (by omega) ?_
    refine g_iload_n (pc := 20) (x := (r : Int)) dX0_load_20 rfl ?_
    refine g_iload_n (pc := 21) (x := xc) dX0_load_21 rfl ?_
    refine g_icmp_ne (pc := 22) (tgt := 29) dX0_load_22 (by decide) (by omega) (by omega) (fun h7 => ?_) (fun h7 => ?_)
    · refine g_iconst (pc := 29) dX0_load_29 ?_
      refine g_istore (pc := 30) (lo2 := [(0, vR (b + 84)), (1, vR (b + 90)), (2, vI (r : Int)), (3, vI xc), (4, vI 0)]) dX0_load_30 (by decide) rfl ?_
      refine g_aload_n (pc := 32) (r := .inl (some (b + 84))) dX0_load_32 rfl ?_
      refine g_getf (pc := 33) (v := vR (b + 85)) flX0_11 dX0_load_33 he.1 rfl ?_
      refine g_iload_n (pc := 36) (x := (r : Int)) dX0_load_36 rfl ?_
      refine g_aaldN (pc := 37) (j := r) dX0_load_37 he.2.1 (by decide) (by omega) (by omega) (by omega) ?_
      rw [gqF_at (b := b + 86) (g := g) (i := r) (by omega)]
      refine g_iload_n (pc := 38) (x := xc) dX0_load_38 rfl ?_
      refine g_aload_n (pc := 39) (r := .inl (some (b + 90))) dX0_load_39 rfl ?_
      refine g_iload_n (pc := 40) (x := (r : Int)) dX0_load_40 rfl ?_
      refine g_iconst (pc := 41) dX0_load_41 ?_
      refine g_imul (pc := 42) dX0_load_42 ?_
      refine g_iload_n (pc := 43) (x := xc) dX0_load_43 rfl ?_
      refine g_iadd (pc := 44) dX0_load_44 ?_
      refine g_ialdN (pc := 45) (j := 5 * r + c) dX0_load_45 hS (by omega) (by omega) (by omega) ?_
      refine g_iload (pc := 46) (x := 0) dX0_load_46 rfl ?_
      refine g_isub (pc := 48) dX0_load_48 ?_
      refine g_i2l (pc := 49) dX0_load_49 (by omega) ?_
      refine g_aload_n (pc := 50) (r := .inl (some (b + 84))) dX0_load_50 rfl ?_
      refine g_getf (pc := 51) (v := vI (q : Int)) flX0_20 dX0_load_51 he.1 rfl ?_
      refine g_callS0 (pc := 54) (as := [vJ ((S (5 * r + c)) - 0), vI (q : Int)]) (st := [vI xc, vR (b + 86 + g r)]) lsX0_33 dX0_load_54 (Nat.le_of_ble_eq_true rfl) (by omega) (Nat.zero_le _) (Nat.zero_le _) (c_restOf (d := d) (by omega) (by omega) (by omega)) ?_
      rintro r8 h2 ⟨e9, rfl⟩
      subst e9
      refine g_iastN (pc := 57) (j := c) dX0_load_57 (he.2.2.1 r (by omega)) (by omega) (by omega) (by omega) ?_
      have hw_1 := (he.2.2.1 r (by omega)).self (e := eA 0 5 (va_up (F r) c ((S (5 * r + c) - 0) % (q : Int))))
      refine g_iinc (pc := 58) (x := xc) (lo2 := [(0, vR (b + 84)), (1, vR (b + 90)), (2, vI (r : Int)), (3, vI (xc + 1)), (4, vI 0)]) dX0_load_58 rfl (by decide) rfl ?_
      refine g_goto (pc := 61) (tgt := 12) dX0_load_61 (by decide) ?_
      refine g_pick [0, 1, 2, 3] (lo2 := [(0, vR (b + 84)), (1, vR (b + 90)), (2, vI (r : Int)), (3, vI (xc + 1))]) rfl ?_
      refine ih (c + 1) _ _ _ (by omega) (by omega) (he.set (show r < 4 by omega) _) (fun r2 a1 => ?_) (fun c2 a1 => ?_) (fun a ha => (va_up_ne _ _ (by omega)).trans (hk a ha))
      · rw [va_up_ne _ _ a1]
        exact f1 r2 a1
      · rw [va_up_self]
        by_cases hcc : c2 = c
        · subst hcc
          rw [va_up_self, if_neg (show ¬ r = c2 by omega)]
        · rw [va_up_ne _ _ hcc]
          exact f2 c2 (by omega)
    · refine g_iconst (pc := 25) dX0_load_25 ?_
      refine g_goto (pc := 26) (tgt := 30) dX0_load_26 (by decide) ?_
      refine g_istore (pc := 30) (lo2 := [(0, vR (b + 84)), (1, vR (b + 90)), (2, vI (r : Int)), (3, vI xc), (4, vI 1)]) dX0_load_30 (by decide) rfl ?_
      refine g_aload_n (pc := 32) (r := .inl (some (b + 84))) dX0_load_32 rfl ?_
      refine g_getf (pc := 33) (v := vR (b + 85)) flX0_11 dX0_load_33 he.1 rfl ?_
      refine g_iload_n (pc := 36) (x := (r : Int)) dX0_load_36 rfl ?_
      refine g_aaldN (pc := 37) (j := r) dX0_load_37 he.2.1 (by decide) (by omega) (by omega) (by omega) ?_
      rw [gqF_at (b := b + 86) (g := g) (i := r) (by omega)]
      refine g_iload_n (pc := 38) (x := xc) dX0_load_38 rfl ?_
      refine g_aload_n (pc := 39) (r := .inl (some (b + 90))) dX0_load_39 rfl ?_
      refine g_iload_n (pc := 40) (x := (r : Int)) dX0_load_40 rfl ?_
      refine g_iconst (pc := 41) dX0_load_41 ?_
      refine g_imul (pc := 42) dX0_load_42 ?_
      refine g_iload_n (pc := 43) (x := xc) dX0_load_43 rfl ?_
      refine g_iadd (pc := 44) dX0_load_44 ?_
      refine g_ialdN (pc := 45) (j := 5 * r + c) dX0_load_45 hS (by omega) (by omega) (by omega) ?_
      refine g_iload (pc := 46) (x := 1) dX0_load_46 rfl ?_
      refine g_isub (pc := 48) dX0_load_48 ?_
      refine g_i2l (pc := 49) dX0_load_49 (by omega) ?_
      refine g_aload_n (pc := 50) (r := .inl (some (b + 84))) dX0_load_50 rfl ?_
      refine g_getf (pc := 51) (v := vI (q : Int)) flX0_20 dX0_load_51 he.1 rfl ?_
      refine g_callS0 (pc := 54) (as := [vJ ((S (5 * r + c)) - 1), vI (q : Int)]) (st := [vI xc, vR (b + 86 + g r)]) lsX0_33 dX0_load_54 (Nat.le_of_ble_eq_true rfl) (by omega) (Nat.zero_le _) (Nat.zero_le _) (c_restOf (d := d) (by omega) (by omega) (by omega)) ?_
      rintro r8 h2 ⟨e9, rfl⟩
      subst e9
      refine g_iastN (pc := 57) (j := c) dX0_load_57 (he.2.2.1 r (by omega)) (by omega) (by omega) (by omega) ?_
      have hw_1 := (he.2.2.1 r (by omega)).self (e := eA 0 5 (va_up (F r) c ((S (5 * r + c) - 1) % (q : Int))))
      refine g_iinc (pc := 58) (x := xc) (lo2 := [(0, vR (b + 84)), (1, vR (b + 90)), (2, vI (r : Int)), (3, vI (xc + 1)), (4, vI 1)]) dX0_load_58 rfl (by decide) rfl ?_
      refine g_goto (pc := 61) (tgt := 12) dX0_load_61 (by decide) ?_
      refine g_pick [0, 1, 2, 3] (lo2 := [(0, vR (b + 84)), (1, vR (b + 90)), (2, vI (r : Int)), (3, vI (xc + 1))]) rfl ?_
      refine ih (c + 1) _ _ _ (by omega) (by omega) (he.set (show r < 4 by omega) _) (fun r2 a1 => ?_) (fun c2 a1 => ?_) (fun a ha => (va_up_ne _ _ (by omega)).trans (hk a ha))
      · rw [va_up_ne _ _ a1]
        exact f1 r2 a1
      · rw [va_up_self]
        by_cases hcc : c2 = c
        · subst hcc
          rw [va_up_self, if_pos (show r = c2 by omega)]
        · rw [va_up_ne _ _ hcc]
          exact f2 c2 (by omega)

theorem ld_l2 {N d b n q : Nat} {lr lc : Int} {g : Nat → Nat} {S : Nat → Int} (hn : n ≤ 4) (hq : 0 < q) (hq2 : q ≤ 500) (rS : rng S) {Ls : Nat} {sx : Nat → Int} {h0 : MH} (hS0 : Hd (0, 0, N) h0 (b + 90) (eA 0 20 S)) : ∀ (f r : Nat) (xr : Int) (F : Nat → Nat → Int) (h : MH), r + f = n → xr = (r : Int) → EGr N h b n q lr lc g F → (∀ r2, r2 < r → (∀ c2, c2 < n → F r2 c2 = (S (5 * r2 + c2) - (if r2 = c2 then 1 else 0)) % (q : Int)) ∧ F r2 n = (-(S (5 * r2 + 4))) % (q : Int)) → (∀ a, (a < b + 86 ∨ b + 90 ≤ a) → h a = h0 a) → G mX0_load (d + 2, 0, 0, Ls, sx) 2 [(0, vR (b + 84)), (1, vR (b + 90)), (2, vI xr)] [] (0, 0, N) h (Pq mX0_load 0 0 (fun r9 h2 => r9 = none ∧ (∃ F2, EGr N h2 b n q lr lc g F2 ∧ (∀ r2, r2 < n → (∀ c2, c2 < n → F2 r2 c2 = (S (5 * r2 + c2) - (if r2 = c2 then 1 else 0)) % (q : Int)) ∧ F2 r2 n = (-(S (5 * r2 + 4))) % (q : Int))) ∧ ∀ a, (a < b + 86 ∨ b + 90 ≤ a) → h2 a = h0 a)) := by
  intro f
  induction f with
  | zero =>
    intro r xr F h hf ex he f1 hk
    have hS := hS0.keep (hk (b + 90) (by omega))
    refine g_iload_n (pc := 2) (x := xr) dX0_load_2 rfl ?_
    refine g_aload_n (pc := 3) (r := .inl (some (b + 84))) dX0_load_3 rfl ?_
    refine g_getf (pc := 4) (v := vI (n : Int)) flX0_16 dX0_load_4 he.1 rfl ?_
    refine g_icmp_geT (pc := 7) (tgt := 97) dX0_load_7 (by decide) (by omega) (by omega) (by omega) ?_
    exact r_void (pc := 97) dX0_load_97 rfl rfl (Nat.le_refl _) ⟨rfl, ⟨F, he, fun r2 a => f1 r2 (by omega)⟩, hk⟩
  | succ f ih =>
    intro r xr F h hf ex he f1 hk
    have hS := hS0.keep (hk (b + 90) (by omega))
    refine g_iload_n (pc := 2) (x := xr) dX0_load_2 rfl ?_
    refine g_aload_n (pc := 3) (r := .inl (some (b + 84))) dX0_load_3 rfl ?_
    refine g_getf (pc := 4) (v := vI (n : Int)) flX0_16 dX0_load_4 he.1 rfl ?_
    refine g_icmp_geF (pc := 7) (tgt := 97) dX0_load_7 (by decide) (by omega) (by omega) (by omega) ?_
    refine g_iconst (pc := 10) dX0_load_10 ?_
    refine g_istore_n (pc := 11) (lo2 := [(0, vR (b + 84)), (1, vR (b + 90)), (2, vI xr), (3, vI 0)]) dX0_load_11 (by decide) rfl ?_
    subst ex
    refine ld_l1 (F0 := F) (h0 := h) hn hq hq2 rS (show r < n by omega) hS (fun F3 h3 he3 u1 u2 k3 => ?_) n 0 _ F h (by omega) rfl he (fun _ _ => rfl) (fun c2 a => absurd a (Nat.not_lt_zero c2)) (fun _ _ => rfl)
    have g1 := he3.2.2.2.1 r (by omega)
    have hS3 := hS.keep (k3 (b + 90) (by omega))
    have b1 := rS (5 * r + 4)
    refine g_aload_n (pc := 64) (r := .inl (some (b + 84))) dX0_load_64 rfl ?_
    refine g_getf (pc := 65) (v := vR (b + 85)) flX0_11 dX0_load_65 he3.1 rfl ?_
    refine g_iload_n (pc := 68) (x := (r : Int)) dX0_load_68 rfl ?_
    refine g_aaldN (pc := 69) (j := r) dX0_load_69 he3.2.1 (by decide) (by omega) (by omega) (by omega) ?_
    rw [gqF_at (b := b + 86) (g := g) (i := r) (by omega)]
    refine g_aload_n (pc := 70) (r := .inl (some (b + 84))) dX0_load_70 rfl ?_
    refine g_getf (pc := 71) (v := vI (n : Int)) flX0_16 dX0_load_71 he3.1 rfl ?_
    refine g_aload_n (pc := 74) (r := .inl (some (b + 90))) dX0_load_74 rfl ?_
    refine g_iload_n (pc := 75) (x := (r : Int)) dX0_load_75 rfl ?_
    refine g_iconst (pc := 76) dX0_load_76 ?_
    refine g_imul (pc := 77) dX0_load_77 ?_
    refine g_iconst (pc := 78) dX0_load_78 ?_
    refine g_iadd (pc := 79) dX0_load_79 ?_
    refine g_ialdN (pc := 80) (j := 5 * r + 4) dX0_load_80 hS3 (by omega) (by omega) (by omega) ?_
    refine g_ineg (pc := 81) dX0_load_81 ?_
    refine g_i2l (pc := 82) dX0_load_82 (by omega) ?_
    refine g_aload_n (pc := 83) (r := .inl (some (b + 84))) dX0_load_83 rfl ?_
    refine g_getf (pc := 84) (v := vI (q : Int)) flX0_20 dX0_load_84 he3.1 rfl ?_
    refine g_callS0 (pc := 87) (as := [vJ (-(S (5 * r + 4))), vI (q : Int)]) (st := [vI (n : Int), vR (b + 86 + g r)]) lsX0_33 dX0_load_87 (Nat.le_of_ble_eq_true rfl) (by omega) (Nat.zero_le _) (Nat.zero_le _) (c_restOf (d := d) (by omega) (by omega) (by omega)) ?_
    rintro r8 h2 ⟨e9, rfl⟩
    subst e9
    refine g_iastN (pc := 90) (j := n) dX0_load_90 (he3.2.2.1 r (by omega)) (by omega) (by omega) (by omega) ?_
    have hw_1 := (he3.2.2.1 r (by omega)).self (e := eA 0 5 (va_up (F3 r) n ((-(S (5 * r + 4))) % (q : Int))))
    refine g_iinc (pc := 91) (x := (r : Int)) (lo2 := [(0, vR (b + 84)), (1, vR (b + 90)), (2, vI ((r : Int) + 1))]) dX0_load_91 rfl (by decide) rfl ?_
    refine g_goto (pc := 94) (tgt := 2) dX0_load_94 (by decide) ?_
    refine ih (r + 1) _ _ _ (by omega) (by omega) (he3.set (show r < 4 by omega) _) (fun r2 a1 => ?_) (fun a ha => (va_up_ne _ _ (by omega)).trans ((k3 a ha).trans (hk a ha)))
    by_cases hrr : r2 = r
    · subst hrr
      rw [va_up_self]
      refine ⟨fun c2 a2 => ?_, va_up_self _ _ _⟩
      rw [va_up_ne _ _ (by omega)]
      exact u2 c2 a2
    · rw [va_up_ne _ _ hrr, u1 r2 hrr]
      exact f1 r2 (by omega)

theorem c_load {N d b n q : Nat} {lr lc : Int} {g : Nat → Nat} {S : Nat → Int} {F0 : Nat → Nat → Int} (hn : n ≤ 4) (hq : 0 < q) (hq2 : q ≤ 500) (rS : rng S) {h : MH} (he : EGr N h b n q lr lc g F0) (hS : Hd (0, 0, N) h (b + 90) (eA 0 20 S)) : Ok mX0_load (d + 2) 0 0 [vR (b + 84), vR (b + 90)] N h (fun r9 h2 => r9 = none ∧ (∃ F2, EGr N h2 b n q lr lc g F2 ∧ (∀ r2, r2 < n → (∀ c2, c2 < n → F2 r2 c2 = (S (5 * r2 + c2) - (if r2 = c2 then 1 else 0)) % (q : Int)) ∧ F2 r2 n = (-(S (5 * r2 + 4))) % (q : Int))) ∧ ∀ a, (a < b + 86 ∨ b + 90 ≤ a) → h2 a = h a) := by
  refine Ok.of pfX0_load rfl (Nat.le_of_ble_eq_true rfl) (fun Ls sx => ?_)
  show G mX0_load (d + 2, 0, 0, Ls, sx) 0 [(0, vR (b + 84)), (1, vR (b + 90))] [] (0, 0, N) h _
  refine g_iconst (pc := 0) dX0_load_0 ?_
  refine g_istore_n (pc := 1) (lo2 := [(0, vR (b + 84)), (1, vR (b + 90)), (2, vI 0)]) dX0_load_1 (by decide) rfl ?_
  exact ld_l2 hn hq hq2 rS hS n 0 _ F0 h (by omega) rfl he (fun r2 a => absurd a (Nat.not_lt_zero r2)) (fun _ _ => rfl)
