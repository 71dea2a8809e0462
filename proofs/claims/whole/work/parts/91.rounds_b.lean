/-! ===== Rounds: roundsModulo ===== -/
theorem E_bd {p n k : Nat} (p2 : 2 ≤ p) (n1 : 1 ≤ n) (n4 : n ≤ 4) (hb : p ^ (k + 1) ≤ 500) : Lf p n * Nf p n * p ^ k ≤ 8000000000000000000 := by
  have p5 : p ≤ 500 := by
    have := Nat.pow_le_pow_right (show 0 < p by omega) (show 1 ≤ k + 1 by omega)
    rw [Nat.pow_one] at this
    omega
  have hk : p ^ k ≤ 500 := Nat.le_trans (Nat.pow_le_pow_right (by omega) (by omega)) hb
  have hpp : p * p ≤ 250000 := by
    have := Nat.mul_le_mul p5 p5
    omega
  by_cases h5 : 5 ≤ p
  · have eN : Nf p n = p := by
      unfold Nf
      rw [if_neg (by omega)]
    have eP : Lf p n * Nf p n * p ^ k = Lf p n * p ^ (k + 1) := by
      rw [eN, Nat.pow_succ, Nat.mul_assoc, Nat.mul_comm p]
    have hL : Lf p n ≤ 499 * 501 * 250501 * 250001 := by
      unfold Lf
      refine Nat.mul_le_mul (Nat.mul_le_mul (Nat.mul_le_mul (by omega) ?_) ?_) ?_
      · split <;> omega
      · split <;> omega
      · split <;> omega
    rw [eP]
    have := Nat.mul_le_mul hL hb
    omega
  · have hL : Lf p n ≤ 3 * 5 * 21 * 17 := by
      have hpp4 : p * p ≤ 16 := by
        have := Nat.mul_le_mul (show p ≤ 4 by omega) (show p ≤ 4 by omega)
        omega
      unfold Lf
      refine Nat.mul_le_mul (Nat.mul_le_mul (Nat.mul_le_mul (by omega) ?_) ?_) ?_
      · split <;> omega
      · split <;> omega
      · split <;> omega
    have hN : Nf p n ≤ 64 := by
      have hpp4 : p * p ≤ 16 := by
        have := Nat.mul_le_mul (show p ≤ 4 by omega) (show p ≤ 4 by omega)
        omega
      have hppp : p * p * p ≤ 64 := by
        have := Nat.mul_le_mul hpp4 (show p ≤ 4 by omega)
        omega
      unfold Nf
      split
      · split <;> omega
      · omega
    have := Nat.mul_le_mul (Nat.mul_le_mul hL hN) hk
    omega
theorem E_prm {p n k x : Nat} (hp : prm p) (hx : prm x) (h : x ∣ Lf p n * Nf p n * p ^ k) : x ∣ Lf p n * p := by
  rcases prm_dvd_mul hx h with h | h
  · rcases prm_dvd_mul hx h with h | h
    · exact Nat.dvd_mul_right_of_dvd h p
    · have h2 : x ∣ p := by
        unfold Nf at h
        split at h
        · split at h
          · rcases prm_dvd_mul hx h with h | h
            · exact (prm_dvd_mul hx h).elim id id
            · exact h
          · exact (prm_dvd_mul hx h).elim id id
        · exact h
      exact Nat.dvd_mul_left_of_dvd h2 _
  · exact Nat.dvd_mul_left_of_dvd (prm_dvd_pow hx k h) _
/-- the powers at p hold the table T -/
def PT (N : Nat) (h : MH) (p M n : Nat) (T : Nat → Int) : Prop := ∃ kn F, PX N h p kn M n F ∧ F 0 = T
theorem PT.keep {N : Nat} {h h2 : MH} {p M n : Nat} {T : Nat → Int} (hw : PT N h p M n T) (k : ∀ a, p ≤ a → a < p + 67 → h2 a = h a) : PT N h2 p M n T := by
  obtain ⟨kn, F, a, b⟩ := hw
  exact ⟨kn, F, PX_keep a k, b⟩
theorem PT.obj {N : Nat} {h : MH} {p M n : Nat} {T : Nat → Int} (hw : PT N h p M n T) : ∃ kn : Nat, Hd (0, 0, N) h p (eO 6 [vR (p + 1), vR (p + 65), vR (p + 66), vI (kn : Int), vI (M : Int), vI (n : Int)]) := by
  obtain ⟨kn, F, a, b⟩ := hw
  exact ⟨kn, a.1.1⟩

theorem rmod_l1 {N d b q p k n M W l : Nat} {o wh xi : Int} {T : Nat → Int} {Ls : Nat} {sx : Nat → Int} {Q : Option MV → MR → MH → Prop} (hn : n ≤ 4) (hM : 2 ≤ M) (hM2 : M ≤ 500) (hpp : prm p) (hb : p ^ (k + 1) ≤ 500) (hqM : p ^ (k + 1) ∣ M) (hT : aff n (au n T)) (hW : isPer (mp (n + 1) (p ^ (k + 1)) (au n T)) 32 W) (hl : 2 ≤ l) (hl2 : l ≤ 2147483647) (hqb : b + 8 ≤ q ∧ q < b + 12) : ∀ (t : Nat) (j : Nat) (xj : Int) (h : MH), xj = (j : Int) → 1 ≤ t → t < 2 ^ (63 - j) → j ≤ 63 → t ≤ 8000000000000000000 → W ∣ t → Hd (0, 0, N) h (b + 79) (eO 8 [vR (b + 12), vR (b + 7), vR (b + 80), vR (b + 82), vR (b + 84), vR (b + 90), vR (b + 91), vR (b + 92), vJ wh]) → Hd (0, 0, N) h q (eO 4 [vI (p : Int), vI ((p ^ (k + 1) : Nat) : Int), vI o]) → PT N h (b + 12) M n T → Sc N h (b + 90) 20 → (∀ (t2 : Nat) (h2 : MH), 1 ≤ t2 → t2 ∣ t → W ∣ t2 → ¬ (l ∣ t2 ∧ W ∣ t2 / l) → PT N h2 (b + 12) M n T → Sc N h2 (b + 90) 20 → (∀ a, a ≠ b + 90 → (a < b + 12 ∨ b + 79 ≤ a) → h2 a = h a) → G mX8_roundsModulo (d + 5, 0, 0, Ls, sx) 106 [(0, vR (b + 79)), (1, vR q), (2, vJ ((t2 : Nat) : Int)), (4, vI xi), (5, vI (l : Int))] [] (0, 0, N) h2 Q) → G mX8_roundsModulo (d + 5, 0, 0, Ls, sx) 61 [(0, vR (b + 79)), (1, vR q), (2, vJ (t : Int)), (4, vI xi), (5, vI (l : Int)), (6, vI xj)] [] (0, 0, N) h Q := by
  intro t
  induction t using Nat.strongRecOn with
  | ind t ih =>
    intro j xj h ej t1 tj j63 tb hWt hr hq hw s90 hK
    have hj : j < 63 := by
      apply Nat.lt_of_not_le
      intro z
      rw [show 63 - j = 0 by omega] at tj
      omega
    have em := tmodN (rfl : (t : Int) = (t : Int)) (rfl : (l : Int) = (l : Int))
    have ed := tdivN (rfl : (t : Int) = (t : Int)) (rfl : (l : Int) = (l : Int))
    have hml := Nat.mod_lt t (show 0 < l by omega)
    have hq0 : 0 < p ^ (k + 1) := Nat.pow_pos (by have := hpp.1; omega)
    have hdl : t / l ≤ t := Nat.div_le_self _ _
    by_cases hd : t % l = 0
    · have hlp : t = l * (t / l) := by have := Nat.div_add_mod t l; omega
      have hlt : t / l < t := Nat.div_lt_self t1 (by omega)
      have hl1 : 1 ≤ t / l := by
        apply Nat.pos_of_ne_zero
        intro z
        rw [z] at hlp
        omega
      have hl2 : t / l < 2 ^ (63 - (j + 1)) := by
        rw [show 63 - j = 63 - (j + 1) + 1 by omega, Nat.pow_succ] at tj
        have := Nat.mul_le_mul_right (t / l) hl
        omega
      obtain ⟨kn, F, hPX, hF⟩ := id hw
      refine g_iload (pc := 61) (x := xj) dX8_roundsModulo_61 rfl ?_
      refine g_bipush (pc := 63) dX8_roundsModulo_63 (by decide +kernel) ?_
      refine g_icmp_geF (pc := 65) (tgt := 106) dX8_roundsModulo_65 (by decide) (by omega) (by omega) (by omega) ?_
      refine g_lload_n (pc := 68) (x := (t : Int)) dX8_roundsModulo_68 rfl ?_
      refine g_iload (pc := 69) (x := (l : Int)) dX8_roundsModulo_69 rfl ?_
      refine g_i2l (pc := 71) dX8_roundsModulo_71 (by omega) ?_
      refine g_lrem (pc := 72) dX8_roundsModulo_72 (by omega) (by omega) (by omega) ?_
      refine g_lconst0 (pc := 73) dX8_roundsModulo_73 ?_
      refine g_lif_neF (pc := 74) (tgt := 106) dX8_roundsModulo_74 dX8_roundsModulo_75 (by decide) (by omega) (by omega) (by rw [em, hd]; rfl) ?_
      refine g_aload_n (pc := 78) (r := .inl (some (b + 79))) dX8_roundsModulo_78 rfl ?_
      refine g_lload_n (pc := 79) (x := (t : Int)) dX8_roundsModulo_79 rfl ?_
      refine g_iload (pc := 80) (x := (l : Int)) dX8_roundsModulo_80 rfl ?_
      refine g_i2l (pc := 82) dX8_roundsModulo_82 (by omega) ?_
      refine g_ldiv (pc := 83) dX8_roundsModulo_83 (by omega) (by omega) (by omega) ?_
      refine g_aload_n (pc := 84) (r := .inl (some q)) dX8_roundsModulo_84 rfl ?_
      refine g_getf (pc := 85) (v := vI ((p ^ (k + 1) : Nat) : Int)) flX8_55 dX8_roundsModulo_85 hq rfl ?_
      rw [ed]
      refine g_callV0 (pc := 88) (as := [vJ ((t / l : Nat) : Int), vI ((p ^ (k + 1) : Nat) : Int)]) (b := b + 79) (st := []) lvX8_157 dX8_roundsModulo_88 hr (Nat.le_of_ble_eq_true rfl) (by omega) (Nat.zero_le _) (Nat.zero_le _) (c_settledComeBack (d := d) (pw := p ^ (k + 1)) hn hM hM2 hq0 hb (by omega) hr hPX s90) ?_
      rintro r h3 ⟨⟨kn2, F2, w1, w2⟩, k1, s1, A, B, eA, eB, hres⟩
      rw [hF] at w2 eA eB
      have hiff := sett_iff hn hq0 hM hqM hT eA eB
      rw [hW.2] at hiff
      have hr_1 := hr.keep (k1 _ (by omega) (by omega))
      have hq_1 := hq.keep (k1 _ (by omega) (by omega))
      rcases hres with ⟨rfl, hyes⟩ | ⟨rfl, hno⟩
      · have hWd := hiff.mp hyes
        refine g_if_eqF (pc := 91) (tgt := 106) dX8_roundsModulo_91 (by decide) (by omega) (by omega) ?_
        refine g_lload_n (pc := 94) (x := (t : Int)) dX8_roundsModulo_94 rfl ?_
        refine g_iload (pc := 95) (x := (l : Int)) dX8_roundsModulo_95 rfl ?_
        refine g_i2l (pc := 97) dX8_roundsModulo_97 (by omega) ?_
        refine g_ldiv (pc := 98) dX8_roundsModulo_98 (by omega) (by omega) (by omega) ?_
        refine g_lstore_n (pc := 99) (lo2 := [(0, vR (b + 79)), (1, vR q), (2, vJ ((t : Int).tdiv (l : Int))), (4, vI xi), (5, vI (l : Int)), (6, vI xj)]) dX8_roundsModulo_99 (by decide) rfl ?_
        refine g_iinc (pc := 100) (x := xj) (lo2 := [(0, vR (b + 79)), (1, vR q), (2, vJ ((t : Int).tdiv (l : Int))), (4, vI xi), (5, vI (l : Int)), (6, vI (xj + 1))]) dX8_roundsModulo_100 rfl (by decide) rfl ?_
        refine g_goto (pc := 103) (tgt := 61) dX8_roundsModulo_103 (by decide) ?_
        rw [ed]
        refine ih (t / l) hlt (j + 1) _ h3 (by omega) hl1 hl2 (by omega) (by omega) hWd hr_1 hq_1 ⟨kn2, F2, w1, w2⟩ s1 (fun t2 h2 a1 a2 a3 a4 a5 a6 a7 => hK t2 h2 a1 (Nat.dvd_trans a2 ⟨l, by rw [Nat.mul_comm]; exact hlp⟩) a3 a4 a5 a6 (fun a z1 z2 => (a7 a z1 z2).trans (k1 a z1 z2)))
      · refine g_if_eqT (pc := 91) (tgt := 106) dX8_roundsModulo_91 (by decide) (by omega) (by omega) ?_
        refine g_pick [0, 1, 2, 3, 4] (lo2 := [(0, vR (b + 79)), (1, vR q), (2, vJ (t : Int)), (4, vI xi), (5, vI (l : Int))]) rfl ?_
        exact hK t h3 t1 (Nat.dvd_refl t) hWt (fun y => hno (hiff.mpr y.2)) ⟨kn2, F2, w1, w2⟩ s1 k1
    · refine g_iload (pc := 61) (x := xj) dX8_roundsModulo_61 rfl ?_
      refine g_bipush (pc := 63) dX8_roundsModulo_63 (by decide +kernel) ?_
      refine g_icmp_geF (pc := 65) (tgt := 106) dX8_roundsModulo_65 (by decide) (by omega) (by omega) (by omega) ?_
      refine g_lload_n (pc := 68) (x := (t : Int)) dX8_roundsModulo_68 rfl ?_
      refine g_iload (pc := 69) (x := (l : Int)) dX8_roundsModulo_69 rfl ?_
      refine g_i2l (pc := 71) dX8_roundsModulo_71 (by omega) ?_
      refine g_lrem (pc := 72) dX8_roundsModulo_72 (by omega) (by omega) (by omega) ?_
      refine g_lconst0 (pc := 73) dX8_roundsModulo_73 ?_
      refine g_lif_neT (pc := 74) (tgt := 106) dX8_roundsModulo_74 dX8_roundsModulo_75 (by decide) (by omega) (by omega) (by rw [em]; omega) ?_
      refine g_pick [0, 1, 2, 3, 4] (lo2 := [(0, vR (b + 79)), (1, vR q), (2, vJ (t : Int)), (4, vI xi), (5, vI (l : Int))]) rfl ?_
      exact hK t h t1 (Nat.dvd_refl t) hWt (fun y => hd (Nat.mod_eq_zero_of_dvd y.1)) hw s90 (fun _ _ _ => rfl)

theorem rmod_l2 {N d b q p k n M W E : Nat} {o wh : Int} {T : Nat → Int} {Ls : Nat} {sx : Nat → Int} (hn : n ≤ 4) (hM : 2 ≤ M) (hM2 : M ≤ 500) (hpp : prm p) (hb : p ^ (k + 1) ≤ 500) (hqM : p ^ (k + 1) ∣ M) (hT : aff n (au n T)) (hW : isPer (mp (n + 1) (p ^ (k + 1)) (au n T)) 32 W) (hqb : b + 8 ≤ q ∧ q < b + 12) {B B2 : List Nat} {S S2 : Nat → Prop} {ls : List Nat} {LL : Nat → Int} {h0 : MH} (hB : B.length ≤ 16) (hBi : ∀ x, x ∈ B → x ≤ 2147483647) (hBW : ∀ x, prm x → x ∣ W → x ∈ B) (hLL : ∀ i, i < ls.length → LL i = ((ls.getD i 0 : Nat) : Int)) (hls16 : ls.length ≤ 16) (hlsP : ∀ x, x ∈ ls → prm x ∧ x ≤ 2147483647) (hlsW : ∀ x, prm x → x ∣ E → x ∈ ls) (h2ls : ∀ h2 : MH, (∀ a, a = b + 82 ∨ a = b + 83 → h2 a = h0 a) → PS N h2 (b + 82) B2 S2) : ∀ (f i t : Nat) (xi : Int) (h : MH), i + f = ls.length → xi = (i : Int) → 1 ≤ t → t ∣ E → t ≤ 8000000000000000000 → W ∣ t → (∀ j, j < i → ¬ (ls.getD j 0 ∣ t ∧ W ∣ t / ls.getD j 0)) → Hd (0, 0, N) h (b + 79) (eO 8 [vR (b + 12), vR (b + 7), vR (b + 80), vR (b + 82), vR (b + 84), vR (b + 90), vR (b + 91), vR (b + 92), vJ wh]) → Hd (0, 0, N) h q (eO 4 [vI (p : Int), vI ((p ^ (k + 1) : Nat) : Int), vI o]) → PT N h (b + 12) M n T → Sc N h (b + 90) 20 → PS N h (b + 80) B (fun x => S x ∨ ∃ j, j < i ∧ x = ls.getD j 0 ∧ x ∣ W) → Hd (0, 0, N) h (b + 82) (eO 7 [vR (b + 83), vI (ls.length : Int)]) → Hd (0, 0, N) h (b + 83) (eA 0 16 LL) → (∀ a, a ≠ b + 80 → a ≠ b + 81 → a ≠ b + 90 → (a < b + 12 ∨ b + 79 ≤ a) → h a = h0 a) → G mX8_roundsModulo (d + 5, 0, 0, Ls, sx) 30 [(0, vR (b + 79)), (1, vR q), (2, vJ (t : Int)), (4, vI xi)] [] (0, 0, N) h (Pq mX8_roundsModulo 0 0 (fun r h2 => r = some (vJ (W : Int)) ∧ PT N h2 (b + 12) M n T ∧ Sc N h2 (b + 90) 20 ∧ PS N h2 (b + 80) B (fun x => S x ∨ (prm x ∧ x ∣ W)) ∧ PS N h2 (b + 82) B2 S2 ∧ ∀ a, a ≠ b + 80 → a ≠ b + 81 → a ≠ b + 82 → a ≠ b + 83 → a ≠ b + 90 → (a < b + 12 ∨ b + 79 ≤ a) → h2 a = h0 a)) := by
  intro f
  induction f with
  | zero =>
    intro i t xi h hf ex t1 tE tb hWt hne hr hq hw s90 hps h82 h83 hk
    have hmem : ∀ j, j < ls.length → ls.getD j 0 ∈ ls := fun j hj => by simp [List.getD, hj]
    have eW : t = W := red_end t1 hWt (fun x x1 x2 x3 => by
      obtain ⟨j, j1, j2⟩ := List.mem_iff_getElem.mp (hlsW x x1 (Nat.dvd_trans x2 tE))
      refine hne j (by omega) ?_
      rw [show ls.getD j 0 = x by simp [List.getD, j1, j2]]
      exact ⟨x2, x3⟩)
    refine g_iload (pc := 30) (x := xi) dX8_roundsModulo_30 rfl ?_
    refine g_aload_n (pc := 32) (r := .inl (some (b + 79))) dX8_roundsModulo_32 rfl ?_
    refine g_getf (pc := 33) (v := vR (b + 82)) flX8_18 dX8_roundsModulo_33 hr rfl ?_
    refine g_getf (pc := 36) (v := vI (ls.length : Int)) flX8_94 dX8_roundsModulo_36 h82 rfl ?_
    refine g_icmp_geT (pc := 39) (tgt := 131) dX8_roundsModulo_39 (by decide) (by omega) (by omega) (by omega) ?_
    refine g_lload_n (pc := 131) (x := (t : Int)) dX8_roundsModulo_131 rfl ?_
    rw [eW]
    refine r_long (pc := 132) dX8_roundsModulo_132 rfl rfl (Nat.le_refl _) ⟨rfl, hw, s90, hps.eqv (fun x => ?_), h2ls h (fun a ha => hk a (by omega) (by omega) (by omega) (by omega)), fun a a1 a2 a3 a4 a5 a6 => hk a a1 a2 a5 a6⟩
    constructor
    · rintro (z | ⟨j, j1, rfl, j3⟩)
      · exact Or.inl z
      · exact Or.inr ⟨(hlsP _ (hmem j (by omega))).1, j3⟩
    · rintro (z | ⟨z1, z2⟩)
      · exact Or.inl z
      · obtain ⟨j, j1, j2⟩ := List.mem_iff_getElem.mp (hlsW x z1 (Nat.dvd_trans z2 (Nat.dvd_trans hWt tE)))
        exact Or.inr ⟨j, by omega, by simp [List.getD, j1, j2], z2⟩
  | succ f ih =>
    intro i t xi h hf ex t1 tE tb hWt hne hr hq hw s90 hps h82 h83 hk
    have hmem : ∀ j, j < ls.length → ls.getD j 0 ∈ ls := fun j hj => by simp [List.getD, hj]
    have hi : i < ls.length := by omega
    obtain ⟨hlp, hl2⟩ := hlsP _ (hmem i hi)
    have hLi := hLL i hi
    obtain ⟨l, el⟩ : ∃ l, l = ls.getD i 0 := ⟨_, rfl⟩
    rw [← el] at hlp hl2 hLi
    have hl := hlp.1
    refine g_iload (pc := 30) (x := xi) dX8_roundsModulo_30 rfl ?_
    refine g_aload_n (pc := 32) (r := .inl (some (b + 79))) dX8_roundsModulo_32 rfl ?_
    refine g_getf (pc := 33) (v := vR (b + 82)) flX8_18 dX8_roundsModulo_33 hr rfl ?_
    refine g_getf (pc := 36) (v := vI (ls.length : Int)) flX8_94 dX8_roundsModulo_36 h82 rfl ?_
    refine g_icmp_geF (pc := 39) (tgt := 131) dX8_roundsModulo_39 (by decide) (by omega) (by omega) (by omega) ?_
    refine g_aload_n (pc := 42) (r := .inl (some (b + 79))) dX8_roundsModulo_42 rfl ?_
    refine g_getf (pc := 43) (v := vR (b + 82)) flX8_18 dX8_roundsModulo_43 hr rfl ?_
    refine g_getf (pc := 46) (v := vR (b + 83)) flX8_97 dX8_roundsModulo_46 h82 rfl ?_
    refine g_iload (pc := 49) (x := xi) dX8_roundsModulo_49 rfl ?_
    refine g_ialdN (pc := 51) (j := i) dX8_roundsModulo_51 h83 (by omega) (by omega) (by omega) ?_
    rw [hLi]
    refine g_iconst (pc := 52) dX8_roundsModulo_52 ?_
    refine g_callS0 (pc := 53) (as := [vI (l : Int), vI 2]) (st := []) lsX8_100 dX8_roundsModulo_53 (Nat.le_of_ble_eq_true rfl) (by omega) (Nat.zero_le _) (Nat.zero_le _) (c_maxI (d := d + 4) (by omega) (by omega)) ?_
    rintro r h1 ⟨e9, e8⟩
    subst e9
    subst e8
    rw [show (if (l : Int) < 2 then (2 : Int) else (l : Int)) = (l : Int) from if_neg (by omega)]
    refine g_istore (pc := 56) (lo2 := [(0, vR (b + 79)), (1, vR q), (2, vJ (t : Int)), (4, vI xi), (5, vI (l : Int))]) dX8_roundsModulo_56 (by decide) rfl ?_
    refine g_iconst (pc := 58) dX8_roundsModulo_58 ?_
    refine g_istore (pc := 59) (lo2 := [(0, vR (b + 79)), (1, vR q), (2, vJ (t : Int)), (4, vI xi), (5, vI (l : Int)), (6, vI 0)]) dX8_roundsModulo_59 (by decide) rfl ?_
    refine rmod_l1 hn hM hM2 hpp hb hqM hT hW hl hl2 hqb t 0 _ h1 rfl t1 (show t < 9223372036854775808 by omega) (by omega) tb hWt hr hq hw s90 (fun t2 h2 a1 a2 a3 a4 a5 a6 a7 => ?_)
    have hr_1 := hr.keep (a7 _ (by omega) (by omega))
    have hq_1 := hq.keep (a7 _ (by omega) (by omega))
    have h82_1 := h82.keep (a7 _ (by omega) (by omega))
    have h83_1 := h83.keep (a7 _ (by omega) (by omega))
    have hps2 := hps.keep (a7 (b + 80) (by omega) (by omega)) (a7 (b + 81) (by omega) (by omega))
    have em := tmodN (rfl : (t2 : Int) = (t2 : Int)) (rfl : (l : Int) = (l : Int))
    have hml := Nat.mod_lt t2 (show 0 < l by omega)
    have t2b := Nat.le_of_dvd t1 a2
    have hdv := red_dvd hlp a3 a4
    obtain ⟨l80, L80, hd80, hp80⟩ := id hps2
    refine g_lload_n (pc := 106) (x := ((t2 : Nat) : Int)) dX8_roundsModulo_106 rfl ?_
    refine g_iload (pc := 107) (x := (l : Int)) dX8_roundsModulo_107 rfl ?_
    refine g_i2l (pc := 109) dX8_roundsModulo_109 (by omega) ?_
    refine g_lrem (pc := 110) dX8_roundsModulo_110 (by omega) (by omega) (by omega) ?_
    refine g_lconst0 (pc := 111) dX8_roundsModulo_111 ?_
    refine g_lif_ne (pc := 112) (tgt := 125) dX8_roundsModulo_112 dX8_roundsModulo_113 (by decide) (by omega) (by omega) (fun h9 => ?_) (fun h9 => ?_)
    · have hnd : ¬ l ∣ W := fun z => by
        have := Nat.mod_eq_zero_of_dvd (hdv.mpr z)
        rw [em, this] at h9
        exact h9 rfl
      refine g_iinc (pc := 125) (x := xi) (lo2 := [(0, vR (b + 79)), (1, vR q), (2, vJ ((t2 : Nat) : Int)), (4, vI (xi + 1)), (5, vI (l : Int))]) dX8_roundsModulo_125 rfl (by decide) rfl ?_
      refine g_goto (pc := 128) (tgt := 30) dX8_roundsModulo_128 (by decide) ?_
      refine g_pick [0, 1, 2, 3] (lo2 := [(0, vR (b + 79)), (1, vR q), (2, vJ ((t2 : Nat) : Int)), (4, vI (xi + 1))]) rfl ?_
      refine ih (i + 1) t2 _ _ (by omega) (by omega) a1 (Nat.dvd_trans a2 tE) (by omega) a3 (fun j jj => ?_) hr_1 hq_1 a5 a6 (hps2.eqv (fun x => ?_)) h82_1 h83_1 (fun a z1 z2 z3 z4 => (a7 a z3 z4).trans (hk a z1 z2 z3 z4))
      · by_cases hj : j = i
        · rw [hj, ← el]
          exact a4
        · exact red_keep (by have := (hlsP _ (hmem j (by omega))).1.1; omega) a2 (hne j (by omega))
      · constructor
        · rintro (z | ⟨j, j1, j2, j3⟩)
          · exact Or.inl z
          · exact Or.inr ⟨j, by omega, j2, j3⟩
        · rintro (z | ⟨j, j1, j2, j3⟩)
          · exact Or.inl z
          · by_cases hj : j = i
            · rw [hj, ← el] at j2
              exact absurd (j2 ▸ j3) hnd
            · exact Or.inr ⟨j, by omega, j2, j3⟩
    · have hyd : l ∣ W := hdv.mp (Nat.dvd_of_mod_eq_zero (by rw [em] at h9; omega))
      refine g_aload_n (pc := 116) (r := .inl (some (b + 79))) dX8_roundsModulo_116 rfl ?_
      refine g_getf (pc := 117) (v := vR (b + 80)) flX8_12 dX8_roundsModulo_117 hr_1 rfl ?_
      refine g_iload (pc := 120) (x := (l : Int)) dX8_roundsModulo_120 rfl ?_
      refine g_callV0 (pc := 122) (as := [vI (l : Int)]) (b := b + 80) (st := []) lvX8_124 dX8_roundsModulo_122 hd80 (Nat.le_of_ble_eq_true rfl) (by omega) (Nat.zero_le _) (Nat.zero_le _) (c_psadd (d := d + 4) (p := l) hB hBi (hBW l hlp hyd) hps2) ?_
      rintro r h3 ⟨rfl, p3, k3⟩
      have hr_2 := hr_1.keep (k3 _ (by omega) (by omega))
      have hq_2 := hq_1.keep (k3 _ (by omega) (by omega))
      have h82_2 := h82_1.keep (k3 _ (by omega) (by omega))
      have h83_2 := h83_1.keep (k3 _ (by omega) (by omega))
      have a5b := a5.keep (h2 := h3) (fun a z1 z2 => k3 a (by omega) (by omega))
      have a6b : Sc N h3 (b + 90) 20 := a6.keep (k3 _ (by omega) (by omega))
      refine g_iinc (pc := 125) (x := xi) (lo2 := [(0, vR (b + 79)), (1, vR q), (2, vJ ((t2 : Nat) : Int)), (4, vI (xi + 1)), (5, vI (l : Int))]) dX8_roundsModulo_125 rfl (by decide) rfl ?_
      refine g_goto (pc := 128) (tgt := 30) dX8_roundsModulo_128 (by decide) ?_
      refine g_pick [0, 1, 2, 3] (lo2 := [(0, vR (b + 79)), (1, vR q), (2, vJ ((t2 : Nat) : Int)), (4, vI (xi + 1))]) rfl ?_
      refine ih (i + 1) t2 _ _ (by omega) (by omega) a1 (Nat.dvd_trans a2 tE) (by omega) a3 (fun j jj => ?_) hr_2 hq_2 a5b a6b (p3.eqv (fun x => ?_)) h82_2 h83_2 (fun a z1 z2 z3 z4 => (k3 a z1 z2).trans ((a7 a z3 z4).trans (hk a z1 z2 z3 z4)))
      · by_cases hj : j = i
        · rw [hj, ← el]
          exact a4
        · exact red_keep (by have := (hlsP _ (hmem j (by omega))).1.1; omega) a2 (hne j (by omega))
      · constructor
        · rintro ((z | ⟨j, j1, j2, j3⟩) | rfl)
          · exact Or.inl z
          · exact Or.inr ⟨j, by omega, j2, j3⟩
          · exact Or.inr ⟨i, by omega, el, hyd⟩
        · rintro (z | ⟨j, j1, j2, j3⟩)
          · exact Or.inl (Or.inl z)
          · by_cases hj : j = i
            · rw [hj, ← el] at j2
              exact Or.inr j2
            · exact Or.inl (Or.inr ⟨j, by omega, j2, j3⟩)

theorem Q_mono {μ : MI} {κ : KX} {pc mc ms : Nat} {lo : List (Nat × MV)} {st : List MV} {ρ : MR} {h : MH} {P P2 : Option MV → MH → Prop} (hG : G μ κ pc lo st ρ h (Pq μ mc ms P)) (hq : ∀ r h2, P r h2 → P2 r h2) : G μ κ pc lo st ρ h (Pq μ mc ms P2) := by
  intro p l e R s m args below meth c D tc g Zf F E ls H locs hl hW hS
  exact hG p l e R s m args below meth c D tc g Zf F (fun r ρ h pc ls H locs z => E r ρ h pc ls H locs ⟨z.1, z.2.1, z.2.2.1, hq r h z.2.2.2⟩) ls H locs hl hW hS
theorem E_pos {p n k : Nat} (p2 : 2 ≤ p) (n1 : 1 ≤ n) (n4 : n ≤ 4) : 1 ≤ Lf p n * Nf p n * p ^ k := by
  have h1 : 1 ≤ Lf p n := by
    unfold Lf
    refine Nat.mul_pos (Nat.mul_pos (Nat.mul_pos (by omega) ?_) ?_) ?_
    · split <;> omega
    · split <;> omega
    · split <;> omega
  have hpp : 1 ≤ p * p := Nat.mul_pos (by omega) (by omega)
  have h2 : 1 ≤ Nf p n := by
    unfold Nf
    split
    · split
      · exact Nat.mul_pos hpp (by omega)
      · exact hpp
    · omega
  exact Nat.mul_pos (Nat.mul_pos h1 h2) (Nat.pow_pos (by omega))

theorem c_roundsModulo {N d b q p k n M W : Nat} {o wh : Int} {T : Nat → Int} {h : MH} {B B2 B0 : List Nat} {S S0 : Nat → Prop} (n1 : 1 ≤ n) (hn : n ≤ 4) (hM : 2 ≤ M) (hM2 : M ≤ 500) (hpp : prm p) (p5 : p ≤ 499) (hb : p ^ (k + 1) ≤ 500) (hqM : p ^ (k + 1) ∣ M) (hW : isPer (mp (n + 1) (p ^ (k + 1)) (au n T)) 32 W) (hqb : b + 8 ≤ q ∧ q < b + 12) (hB : B.length ≤ 16) (hBi : ∀ x, x ∈ B → x ≤ 2147483647) (hBW : ∀ x, prm x → x ∣ W → x ∈ B) (hB2 : B2.length ≤ 16) (hB2i : ∀ x, x ∈ B2 → x ≤ 2147483647) (hB2p : ∀ x, prm x → x ∣ Lf p n * p → x ∈ B2) (hr : Hd (0, 0, N) h (b + 79) (eO 8 [vR (b + 12), vR (b + 7), vR (b + 80), vR (b + 82), vR (b + 84), vR (b + 90), vR (b + 91), vR (b + 92), vJ wh])) (hq : Hd (0, 0, N) h q (eO 4 [vI (p : Int), vI ((p ^ (k + 1) : Nat) : Int), vI o])) (hw : PT N h (b + 12) M n T) (s90 : Sc N h (b + 90) 20) (hp80 : PS N h (b + 80) B S) (hp82 : PS N h (b + 82) B0 S0) : Ok mX8_roundsModulo (d + 5) 0 0 [vR (b + 79), vR q] N h (fun r h2 => r = some (vJ (W : Int)) ∧ PT N h2 (b + 12) M n T ∧ Sc N h2 (b + 90) 20 ∧ PS N h2 (b + 80) B (fun x => S x ∨ (prm x ∧ x ∣ W)) ∧ PS N h2 (b + 82) B2 (fun x => prm x ∧ x ∣ Lf p n * p) ∧ ∀ a, a ≠ b + 80 → a ≠ b + 81 → a ≠ b + 82 → a ≠ b + 83 → a ≠ b + 90 → (a < b + 12 ∨ b + 79 ≤ a) → h2 a = h a) := by
  refine Ok.of pfX8_roundsModulo rfl (Nat.le_of_ble_eq_true rfl) (fun Ls sx => ?_)
  show G mX8_roundsModulo (d + 5, 0, 0, Ls, sx) 0 [(0, vR (b + 79)), (1, vR q)] [] (0, 0, N) h _
  have hp2 := hpp.1
  have hEb := E_bd (p := p) (n := n) (k := k) hp2 n1 hn hb
  have hT : aff n (au n T) := aff_au hn
  have hE1 : mp (n + 1) (p ^ (k + 1)) (au n T) (32 + Lf p n * Nf p n * p ^ k) = mp (n + 1) (p ^ (k + 1)) (au n T) 32 := per_mp hpp hn hb (Nf_ok hpp n1 hn) (Lf_ok (by omega) hn) hT (Nat.le_refl _)
  have hWE : W ∣ Lf p n * Nf p n * p ^ k := (hW.2 _).mp hE1
  obtain ⟨kn, hpo⟩ := hw.obj
  refine g_aload_n (pc := 0) (r := .inl (some q)) dX8_roundsModulo_0 rfl ?_
  refine g_aload_n (pc := 1) (r := .inl (some (b + 79))) dX8_roundsModulo_1 rfl ?_
  refine g_getf (pc := 2) (v := vR (b + 12)) flX8_40 dX8_roundsModulo_2 hr rfl ?_
  refine g_getf (pc := 5) (v := vI (n : Int)) flX8_117 dX8_roundsModulo_5 hpo rfl ?_
  refine g_callV0 (pc := 8) (as := [vI (n : Int)]) (b := q) (st := []) lvX8_149 dX8_roundsModulo_8 hq (Nat.le_of_ble_eq_true rfl) (by omega) (Nat.zero_le _) (Nat.zero_le _) (c_enough (d := d + 4) n1 hn hp2 (by omega) hb hq) ?_
  rintro r h1 ⟨e9, e8⟩
  subst e9
  subst e8
  have hE0 : 1 ≤ Lf p n * Nf p n * p ^ k := E_pos hp2 n1 hn
  generalize hEE : Lf p n * Nf p n * p ^ k = E at *
  obtain ⟨l82, L82, hd82, hp82b⟩ := id hp82
  refine g_lstore_n (pc := 11) (lo2 := [(0, vR (b + 79)), (1, vR q), (2, vJ (E : Int))]) dX8_roundsModulo_11 (by decide) rfl ?_
  refine g_aload_n (pc := 12) (r := .inl (some q)) dX8_roundsModulo_12 rfl ?_
  refine g_aload_n (pc := 13) (r := .inl (some (b + 79))) dX8_roundsModulo_13 rfl ?_
  refine g_getf (pc := 14) (v := vR (b + 12)) flX8_40 dX8_roundsModulo_14 hr rfl ?_
  refine g_getf (pc := 17) (v := vI (n : Int)) flX8_117 dX8_roundsModulo_17 hpo rfl ?_
  refine g_aload_n (pc := 20) (r := .inl (some (b + 79))) dX8_roundsModulo_20 rfl ?_
  refine g_getf (pc := 21) (v := vR (b + 82)) flX8_18 dX8_roundsModulo_21 hr rfl ?_
  refine g_callV0 (pc := 24) (as := [vI (n : Int), vR (b + 82)]) (b := q) (st := []) lvX8_153 dX8_roundsModulo_24 hq (Nat.le_of_ble_eq_true rfl) (by omega) (Nat.zero_le _) (Nat.zero_le _) (c_listPrimes (d := d + 2) (t := b + 82) n1 hn hB2 hB2i hB2p hpp p5 (by omega) (by omega) hq hp82) ?_
  rintro r h2 ⟨rfl, p2, k2⟩
  have hr_1 := hr.keep (k2 _ (by omega) (by omega))
  have hq_1 := hq.keep (k2 _ (by omega) (by omega))
  have hpo_1 := hpo.keep (k2 _ (by omega) (by omega))
  obtain ⟨ls, LL, a1, a2, a3, a4, a5, a6⟩ := id p2
  have hls : ls.length ≤ 16 := Nat.le_trans (a4.length_le_of_subset (fun x hx => a5 x hx)) hB2
  refine g_iconst (pc := 27) dX8_roundsModulo_27 ?_
  refine g_istore (pc := 28) (lo2 := [(0, vR (b + 79)), (1, vR q), (2, vJ (E : Int)), (4, vI 0)]) dX8_roundsModulo_28 (by decide) rfl ?_
  refine Q_mono (rmod_l2 (h0 := h2) (E := E) hn hM hM2 hpp hb hqM hT hW hqb hB hBi hBW a3 hls (fun x hx => ⟨((a6 x).mp hx).1, hB2i x (a5 x hx)⟩) (fun x x1 x2 => (a6 x).mpr ⟨x1, E_prm hpp x1 (hEE.symm ▸ x2)⟩) (B2 := B2) (S2 := fun x => prm x ∧ x ∣ Lf p n * p) (fun g hg => p2.keep (hg _ (Or.inl rfl)) (hg _ (Or.inr rfl))) ls.length 0 E _ h2 (by omega) rfl hE0 (Nat.dvd_refl E) hEb hWE (fun j jj => absurd jj (Nat.not_lt_zero j)) hr_1 hq_1 (hw.keep (fun a z1 z2 => k2 a (by omega) (by omega))) (s90.keep (k2 _ (by omega) (by omega))) ((hp80.keep (k2 _ (by omega) (by omega)) (k2 _ (by omega) (by omega))).eqv (fun x => ⟨Or.inl, fun z => z.elim id (fun ⟨j, jj, _⟩ => absurd jj (Nat.not_lt_zero j))⟩)) a1 a2 (fun _ _ _ _ _ => rfl)) ?_
  rintro r h3 ⟨c1, c2, c3, c4, c5, c6⟩
  exact ⟨c1, c2, c3, c4, c5, fun a z1 z2 z3 z4 z5 z6 => (c6 a z1 z2 z3 z4 z5 z6).trans (k2 a z3 z4)⟩
