/-! ===== a step of the class as a table with its MORE; Powers.reach ===== -/
def au (n : Nat) (S : Nat → Int) (j : Nat) : Int := if j / 5 < n + 1 ∧ j % 5 < n + 1 then (if j / 5 = n then (if j % 5 = n then 1 else 0) else if j % 5 = n then S (5 * (j / 5) + 4) else S j) else 0
theorem au_at {n r c : Nat} {S : Nat → Int} (hn : n ≤ 4) (hr : r < n + 1) (hc : c < n + 1) : au n S (5 * r + c) = if r = n then (if c = n then 1 else 0) else if c = n then S (5 * r + 4) else S (5 * r + c) := by
  obtain ⟨h1, h2⟩ := dm5 (w := n + 1) (r := r) (by omega) hc
  unfold au
  rw [h1, h2, if_pos ⟨hr, hc⟩]
theorem au_out {n : Nat} {S : Nat → Int} : ∀ j, ¬ (j / 5 < n + 1 ∧ j % 5 < n + 1) → au n S j = 0 := fun _ hj => if_neg hj
theorem au_mm {n M : Nat} {O X T : Nat → Int} (hn : n ≤ 4) (hM : 2 ≤ M) : au n (coF n M O X T) = mm (n + 1) M (au n O) (au n X) := by
  refine ext5 au_out mm_out (fun r c hr hc => ?_)
  rw [au_at hn hr hc, mm_at (by omega) hr hc, ss_last, Nat.zero_add]
  by_cases e1 : r = n
  · subst e1
    rw [if_pos rfl, ss_congr (g := fun _ => 0) r 0 (fun i _ hi => by rw [au_at hn hr (by omega), if_pos rfl, if_neg (by omega), Int.zero_mul]), ss_zero, au_at hn hr hr, if_pos rfl, if_pos rfl, au_at hn hr hc, if_pos rfl, Int.zero_add, Int.one_mul]
    split
    · exact (Int.emod_eq_of_lt (by omega) (by omega)).symm
    · rfl
  · rw [if_neg e1]
    have s1 : ss (fun i => au n O (5 * r + i) * au n X (5 * i + c)) 0 n = ss (fun i => O (5 * r + i) * (if c = n then X (5 * i + 4) else X (5 * i + c))) 0 n := ss_congr n 0 (fun i _ hi => by
      rw [au_at hn hr (by omega), if_neg e1, if_neg (by omega), au_at hn (by omega) hc, if_neg (by omega)])
    rw [s1, au_at hn hr (show n < n + 1 by omega), if_neg e1, if_pos rfl, au_at hn (show n < n + 1 by omega) hc, if_pos rfl]
    by_cases e2 : c = n
    · rw [if_pos e2, if_pos e2, Int.mul_one]
      unfold coF
      rw [show (5 * r + 4) / 5 = r by omega, show (5 * r + 4) % 5 = 4 by omega, if_pos (show r < n by omega), if_pos rfl, Int.add_comm]
      simp only [e2, if_true]
    · rw [if_neg e2, if_neg e2, Int.mul_zero, Int.add_zero]
      unfold coF
      rw [show (5 * r + c) / 5 = r by omega, show (5 * r + c) % 5 = c by omega, if_pos (show r < n by omega), if_neg (show ¬ c = 4 by omega), if_pos (show c < n by omega)]
      simp only [e2, if_false]
theorem rng_co {n M : Nat} {O X T : Nat → Int} (hM : 0 < M) (hM2 : M ≤ 500) (rT : rng T) : rng (coF n M O X T) := by
  intro j
  unfold coF
  split
  · split
    · have h1 := Int.emod_nonneg (O (5 * (j / 5) + 4) + ss (fun i => O (5 * (j / 5) + i) * X (5 * i + 4)) 0 n) (show (M : Int) ≠ 0 by omega)
      have h2 := Int.emod_lt_of_pos (O (5 * (j / 5) + 4) + ss (fun i => O (5 * (j / 5) + i) * X (5 * i + 4)) 0 n) (show 0 < (M : Int) by omega)
      omega
    · split
      · have h1 := Int.emod_nonneg (ss (fun i => O (5 * (j / 5) + i) * X (5 * i + j % 5)) 0 n) (show (M : Int) ≠ 0 by omega)
        have h2 := Int.emod_lt_of_pos (ss (fun i => O (5 * (j / 5) + i) * X (5 * i + j % 5)) 0 n) (show 0 < (M : Int) by omega)
        omega
      · exact rT j
  · exact rT j
/-- a Powers object at p, with its grid of steps -/
def PW (N : Nat) (h : MH) (p kn M n : Nat) (F : Nat → Nat → Int) : Prop := Hd (0, 0, N) h p (eO 6 [vR (p + 1), vR (p + 65), vR (p + 66), vI (kn : Int), vI (M : Int), vI (n : Int)]) ∧ Hd (0, 0, N) h (p + 1) (eQ 6 63 (rwF (p + 2) 63)) ∧ (∀ i, i < 63 → Hd (0, 0, N) h (p + 2 + i) (eA 0 20 (F i))) ∧ ∀ i, i < 63 → rng (F i)
/-- step i is 2^i turns, for those that are known -/
def SP (kn M n : Nat) (F : Nat → Nat → Int) : Prop := ∀ i, i < kn → au n (F i) = mp (n + 1) M (au n (F 0)) (2 ^ i)

theorem reach_l {κ : KX} {Q : Option MV → MR → MH → Prop} {N d p kn M n L : Nat} {tt : Int} (hn : n ≤ 4) (hM : 2 ≤ M) (hM2 : M ≤ 500) (hL : L ≤ 63) (hk0 : d + 1 ≤ κ.1) : ∀ (k a : Nat) (xi : Int) (h : MH) (F : Nat → Nat → Int), L - (a + 1) = k → xi = ((a + 1 : Nat) : Int) → a < 63 → PW N h p kn M n F → SP (a + 1) M n F → (∀ h9 F9, PW N h9 p kn M n F9 → (∀ b, (b < p + 2 ∨ p + 65 ≤ b) → h9 b = h b) → (∀ i, i ≤ a → F9 i = F i) → SP L M n F9 → G mX6_reach κ 63 [(0, vR p), (1, vJ tt), (3, vI (L : Int))] [] (0, 0, N) h9 Q) → G mX6_reach κ 22 [(0, vR p), (1, vJ tt), (3, vI (L : Int)), (4, vI xi)] [] (0, 0, N) h Q := by
  intro k
  induction k with
  | zero =>
    intro a xi h F hk ex ha hw hs hK
    have h1 := hw.1
    refine g_iload (pc := 22) (x := xi) dX6_reach_22 rfl ?_
    refine g_iload_n (pc := 24) (x := (L : Int)) dX6_reach_24 rfl ?_
    refine g_icmp_geT (pc := 25) (tgt := 63) dX6_reach_25 (by decide) (by omega) (by omega) (by omega) ?_
    refine g_pick [0, 1, 2] (lo2 := [(0, vR p), (1, vJ tt), (3, vI (L : Int))]) rfl ?_
    exact hK h F hw (fun _ _ => rfl) (fun _ _ => rfl) (fun i hi => hs i (by omega))
  | succ k ih =>
    intro a xi h F hk ex ha hw hs hK
    have h1 := hw.1
    have h2 := hw.2.1
    have hr := hw.2.2.1
    have hg := hw.2.2.2
    refine g_iload (pc := 22) (x := xi) dX6_reach_22 rfl ?_
    refine g_iload_n (pc := 24) (x := (L : Int)) dX6_reach_24 rfl ?_
    refine g_icmp_geF (pc := 25) (tgt := 63) dX6_reach_25 (by decide) (by omega) (by omega) (by omega) ?_
    refine g_aload_n (pc := 28) (r := .inl (some p)) dX6_reach_28 rfl ?_
    refine g_aload_n (pc := 29) (r := .inl (some p)) dX6_reach_29 rfl ?_
    refine g_getf (pc := 30) (v := vR (p + 1)) flX6_13 dX6_reach_30 h1 rfl ?_
    refine g_iload (pc := 33) (x := xi) dX6_reach_33 rfl ?_
    refine g_iconst (pc := 35) dX6_reach_35 ?_
    refine g_isub (pc := 36) dX6_reach_36 ?_
    refine g_aaldN (pc := 37) (j := a) dX6_reach_37 h2 (by decide) (by omega) (by omega) (by omega) ?_
    rw [rwF_at (b := p + 2) (n := 63) (i := a) (by omega)]
    refine g_aload_n (pc := 38) (r := .inl (some p)) dX6_reach_38 rfl ?_
    refine g_getf (pc := 39) (v := vR (p + 1)) flX6_13 dX6_reach_39 h1 rfl ?_
    refine g_iload (pc := 42) (x := xi) dX6_reach_42 rfl ?_
    refine g_iconst (pc := 44) dX6_reach_44 ?_
    refine g_isub (pc := 45) dX6_reach_45 ?_
    refine g_aaldN (pc := 46) (j := a) dX6_reach_46 h2 (by decide) (by omega) (by omega) (by omega) ?_
    rw [rwF_at (b := p + 2) (n := 63) (i := a) (by omega)]
    refine g_aload_n (pc := 47) (r := .inl (some p)) dX6_reach_47 rfl ?_
    refine g_getf (pc := 48) (v := vR (p + 1)) flX6_13 dX6_reach_48 h1 rfl ?_
    refine g_iload (pc := 51) (x := xi) dX6_reach_51 rfl ?_
    refine g_aaldN (pc := 53) (j := a + 1) dX6_reach_53 h2 (by decide) (by omega) (by omega) (by omega) ?_
    rw [rwF_at (b := p + 2) (n := 63) (i := a + 1) (by omega)]
    refine g_callV0 (pc := 54) (as := [vR (p + 2 + a), vR (p + 2 + a), vR (p + 2 + (a + 1))]) (b := p) (st := []) lvX6_55 dX6_reach_54 h1 (Nat.le_of_ble_eq_true rfl) (by omega) (Nat.zero_le _) (Nat.zero_le _) (c_compose (d := d) hn (by omega) hM2 (hg a (by omega)) (hg a (by omega)) (by omega) (by omega) (by omega) h1 (hr a (by omega)) (hr a (by omega)) (hr (a + 1) (by omega))) ?_
    rintro r h3 ⟨rfl, c1, c2⟩
    have hw3 : PW N h3 p kn M n (va_up F (a + 1) (coF n M (F a) (F a) (F (a + 1)))) := by
      refine ⟨h1.keep (c1 _ (by omega)), h2.keep (c1 _ (by omega)), fun i hi => ?_, fun i hi => ?_⟩
      · by_cases e : i = a + 1
        · subst e
          rw [va_up_self]
          exact (hr _ hi).to c2
        · rw [va_up_ne _ _ e]
          exact (hr i hi).keep (c1 _ (by omega))
      · by_cases e : i = a + 1
        · subst e
          rw [va_up_self]
          exact rng_co (by omega) hM2 (hg _ hi)
        · rw [va_up_ne _ _ e]
          exact hg i hi
    have hs3 : SP (a + 1 + 1) M n (va_up F (a + 1) (coF n M (F a) (F a) (F (a + 1)))) := by
      intro i hi
      rw [va_up_ne (j := 0) _ _ (by omega)]
      by_cases e : i = a + 1
      · subst e
        rw [va_up_self, au_mm hn hM, hs a (by omega), ← mp_add (by omega) (by omega), Nat.pow_succ, Nat.mul_two]
      · rw [va_up_ne _ _ e]
        exact hs i (by omega)
    have h1 := hw3.1
    refine g_iinc (pc := 57) (x := xi) (lo2 := [(0, vR p), (1, vJ tt), (3, vI (L : Int)), (4, vI (xi + 1))]) dX6_reach_57 rfl (by decide) rfl ?_
    refine g_goto (pc := 60) (tgt := 22) dX6_reach_60 (by decide) ?_
    refine ih (a + 1) (xi + 1) h3 _ (by omega) (by omega) (by omega) hw3 hs3 (fun h9 F9 q1 q2 q3 q4 => hK h9 F9 q1 (fun b hb => (q2 b hb).trans (c1 b (by omega))) (fun i hi => (q3 i (by omega)).trans (va_up_ne _ _ (by omega))) q4)

theorem c_reach {N d p kn M n t : Nat} {h : MH} {F : Nat → Nat → Int} (hn : n ≤ 4) (hM : 2 ≤ M) (hM2 : M ≤ 500) (ht : t < 9223372036854775808) (k1 : 1 ≤ kn) (k2 : kn ≤ 63) (hw : PW N h p kn M n F) (hs : SP kn M n F) : Ok mX6_reach (d + 2) 0 0 [vR p, vJ (t : Int)] N h (fun r h2 => r = none ∧ ∃ kn2 F2, PW N h2 p kn2 M n F2 ∧ SP kn2 M n F2 ∧ kn ≤ kn2 ∧ kn2 ≤ 63 ∧ t < 2 ^ kn2 ∧ F2 0 = F 0 ∧ ∀ b, (b < p ∨ p + 65 ≤ b) → h2 b = h b) := by
  refine Ok.of pfX6_reach rfl (Nat.le_of_ble_eq_true rfl) (fun Ls sx => ?_)
  show G mX6_reach (d + 2, 0, 0, Ls, sx) 0 [(0, vR p), (1, vJ (t : Int))] [] (0, 0, N) h _
  have h1 := hw.1
  have h2 := hw.2.1
  refine g_bipush (pc := 0) dX6_reach_0 (by decide +kernel) ?_
  refine g_lload_n (pc := 2) (x := (t : Int)) dX6_reach_2 rfl ?_
  refine g_callS0 (pc := 3) (as := [vJ (t : Int)]) (st := [vI 64]) lsX6_64 dX6_reach_3 (Nat.le_of_ble_eq_true rfl) (by omega) (Nat.zero_le _) (Nat.zero_le _) (c_nlzL (d := d) ht) ?_
  rintro r h3 ⟨rfl, L, hL, rfl, hb1, hb2⟩
  
  refine g_isub (pc := 6) dX6_reach_6 ?_
  refine g_aload_n (pc := 7) (r := .inl (some p)) dX6_reach_7 rfl ?_
  refine g_getf (pc := 8) (v := vR (p + 1)) flX6_13 dX6_reach_8 h1 rfl ?_
  refine g_qlen (pc := 11) dX6_reach_11 h2 (by decide) ?_
  refine g_callS0 (pc := 12) (as := [vI (64 - (64 - (L : Int))), vI ((63 : Nat) : Int)]) (st := []) lsX6_70 dX6_reach_12 (Nat.le_of_ble_eq_true rfl) (by omega) (Nat.zero_le _) (Nat.zero_le _) (c_minI (d := d) (by omega) (by omega)) ?_
  rintro r h3 ⟨rfl, rfl⟩
  rw [show (if ((63 : Nat) : Int) < 64 - (64 - (L : Int)) then ((63 : Nat) : Int) else 64 - (64 - (L : Int))) = (L : Int) by rw [if_neg (by omega)]; omega]
  refine g_istore_n (pc := 15) (lo2 := [(0, vR p), (1, vJ (t : Int)), (3, vI (L : Int))]) dX6_reach_15 (by decide) rfl ?_
  refine g_aload_n (pc := 16) (r := .inl (some p)) dX6_reach_16 rfl ?_
  refine g_getf (pc := 17) (v := vI (kn : Int)) flX6_23 dX6_reach_17 h1 rfl ?_
  refine g_istore (pc := 20) (lo2 := [(0, vR p), (1, vJ (t : Int)), (3, vI (L : Int)), (4, vI (kn : Int))]) dX6_reach_20 (by decide) rfl ?_
  refine reach_l (d := d) hn hM hM2 hL (show d + 1 ≤ d + 2 by omega) _ (kn - 1) (kn : Int) _ F rfl (by omega) (by omega) hw (by rw [show kn - 1 + 1 = kn by omega]; exact hs) (fun h9 F9 q1 q2 q3 q4 => ?_)
  have h1 := q1.1
  refine g_aload_n (pc := 63) (r := .inl (some p)) dX6_reach_63 rfl ?_
  refine g_aload_n (pc := 64) (r := .inl (some p)) dX6_reach_64 rfl ?_
  refine g_getf (pc := 65) (v := vI (kn : Int)) flX6_23 dX6_reach_65 h1 rfl ?_
  refine g_iload_n (pc := 68) (x := (L : Int)) dX6_reach_68 rfl ?_
  refine g_callS0 (pc := 69) (as := [vI (kn : Int), vI (L : Int)]) (st := [vR p]) lsX6_76 dX6_reach_69 (Nat.le_of_ble_eq_true rfl) (by omega) (Nat.zero_le _) (Nat.zero_le _) (c_maxI (d := d + 1) (x := (kn : Int)) (y := (L : Int)) (by omega) (by omega)) ?_
  rintro r h4 ⟨rfl, rfl⟩
  rw [show (if (kn : Int) < (L : Int) then (L : Int) else (kn : Int)) = ((max kn L : Nat) : Int) by split <;> omega]
  refine g_putf (pc := 72) fpX6_23 dX6_reach_72 h1 (okv_int _) (Nat.le_of_ble_eq_true rfl) ?_
  have h1_1 := h1.self (e := eO 6 [vR (p + 1), vR (p + 65), vR (p + 66), vI ((max kn L : Nat) : Int), vI (M : Int), vI (n : Int)])
  refine r_void (pc := 75) dX6_reach_75 rfl rfl (Nat.le_refl _) ⟨rfl, max kn L, F9, ⟨h1_1, q1.2.1.ne (by omega), fun i hi => (q1.2.2.1 i hi).ne (by omega), q1.2.2.2⟩, ?_, by omega, by omega, ?_, q3 0 (by omega), fun b hb => (va_up_ne _ _ (by omega)).trans (q2 b (by omega))⟩
  · intro i hi
    by_cases e : i < L
    · exact q4 i e
    · rw [q3 i (by omega), q3 0 (by omega)]
      exact hs i (by omega)
  · exact Nat.lt_of_lt_of_le hb1 (Nat.pow_le_pow_right (by decide) (by omega))
