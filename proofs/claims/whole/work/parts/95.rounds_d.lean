/-! ===== Rounds: turnsAhead, roundOf, tailOf ===== -/
/-- the equations object, whose rows change their places -/
def EQ (N : Nat) (h : MH) (b : Nat) : Prop := (∃ s p lr lc : Int, Hd (0, 0, N) h (b + 84) (eO 0 [vR (b + 85), vI s, vI p, vI lr, vI lc])) ∧ ∃ g : Nat → Nat, (∀ i, i < 4 → g i < 4) ∧ (∀ i j, i < 4 → j < 4 → g i = g j → i = j) ∧ Hd (0, 0, N) h (b + 85) (eQ 6 4 (fun i => if i < 4 then some (b + 86 + g i) else none)) ∧ ∀ i, i < 4 → ∃ f, Hd (0, 0, N) h (b + 86 + i) (eA 0 5 f)
theorem EQ.keep {N : Nat} {h h2 : MH} {b : Nat} (he : EQ N h b) (k : ∀ a, b + 84 ≤ a → a < b + 90 → h2 a = h a) : EQ N h2 b := by
  obtain ⟨⟨s, p, lr, lc, a1⟩, g, g1, g2, a2, a3⟩ := he
  exact ⟨⟨s, p, lr, lc, a1.keep (k _ (by omega) (by omega))⟩, g, g1, g2, a2.keep (k _ (by omega) (by omega)), fun i hi => (a3 i hi).elim (fun f hf => ⟨f, hf.keep (k _ (by omega) (by omega))⟩)⟩
/-- the rounds object when the whole round is known -/
def RDW (N : Nat) (h : MH) (b M W : Nat) : Prop := Hd (0, 0, N) h (b + 79) (eO 8 [vR (b + 12), vR (b + 7), vR (b + 80), vR (b + 82), vR (b + 84), vR (b + 90), vR (b + 91), vR (b + 92), vJ (W : Int)]) ∧ PS N h (b + 80) (BM M) (fun x => prm x ∧ x ∣ W) ∧ PA N h (b + 82) ∧ Sc N h (b + 90) 20 ∧ Sc N h (b + 91) 4 ∧ Sc N h (b + 92) 4 ∧ EQ N h b
/-- the rounds object as it is for a table -/
def RD (N : Nat) (h : MH) (b M n : Nat) (T : Nat → Int) : Prop := ∃ wh : Int, Hd (0, 0, N) h (b + 79) (eO 8 [vR (b + 12), vR (b + 7), vR (b + 80), vR (b + 82), vR (b + 84), vR (b + 90), vR (b + 91), vR (b + 92), vJ wh]) ∧ ((wh = 0 ∧ PA N h (b + 80)) ∨ ∃ W : Nat, wh = (W : Int) ∧ isPer (mp (n + 1) M (au n T)) 32 W ∧ PS N h (b + 80) (BM M) (fun x => prm x ∧ x ∣ W)) ∧ PA N h (b + 82) ∧ Sc N h (b + 90) 20 ∧ Sc N h (b + 91) 4 ∧ Sc N h (b + 92) 4 ∧ EQ N h b
theorem RDW.rd {N : Nat} {h : MH} {b M n W : Nat} {T : Nat → Int} (hW : isPer (mp (n + 1) M (au n T)) 32 W) (h1 : RDW N h b M W) : RD N h b M n T := by
  obtain ⟨a1, a2, a3⟩ := h1
  exact ⟨_, a1, Or.inr ⟨W, rfl, hW, a2⟩, a3⟩
theorem RD.keep {N : Nat} {h h2 : MH} {b M n : Nat} {T : Nat → Int} (h1 : RD N h b M n T) (k : ∀ a, b + 79 ≤ a → a < b + 93 → h2 a = h a) : RD N h2 b M n T := by
  obtain ⟨wh, a1, a2, a3, a4, a5, a6, a7⟩ := h1
  refine ⟨wh, a1.keep (k _ (by omega) (by omega)), ?_, a3.keep (k _ (by omega) (by omega)) (k _ (by omega) (by omega)), a4.keep (k _ (by omega) (by omega)), a5.keep (k _ (by omega) (by omega)), a6.keep (k _ (by omega) (by omega)), a7.keep (fun a z1 z2 => k a (by omega) (by omega))⟩
  rcases a2 with ⟨e, z⟩ | ⟨W, e, z1, z2⟩
  · exact Or.inl ⟨e, z.keep (k _ (by omega) (by omega)) (k _ (by omega) (by omega))⟩
  · exact Or.inr ⟨W, e, z1, z2.keep (k _ (by omega) (by omega)) (k _ (by omega) (by omega))⟩
theorem RDW.keep {N : Nat} {h h2 : MH} {b M W : Nat} (h1 : RDW N h b M W) (k : ∀ a, b + 79 ≤ a → a < b + 93 → h2 a = h a) : RDW N h2 b M W := by
  obtain ⟨a1, a2, a3, a4, a5, a6, a7⟩ := h1
  exact ⟨a1.keep (k _ (by omega) (by omega)), a2.keep (k _ (by omega) (by omega)) (k _ (by omega) (by omega)), a3.keep (k _ (by omega) (by omega)) (k _ (by omega) (by omega)), a4.keep (k _ (by omega) (by omega)), a5.keep (k _ (by omega) (by omega)), a6.keep (k _ (by omega) (by omega)), a7.keep (fun a z1 z2 => k a (by omega) (by omega))⟩
theorem W_ex {n M : Nat} {T : Nat → Int} (n1 : 1 ≤ n) (hn : n ≤ 4) (h2 : 2 ≤ M) (h5 : M ≤ 500) : ∃ W, isPer (mp (n + 1) M (au n T)) 32 W ∧ W ≤ 8000000000000000000 := by
  obtain ⟨Wf, hWf, hW1⟩ := Wf_ex (T := T) n1 hn h2 h5
  exact ⟨_, per_parts h2 h5 hWf 4 (fcs_ok h2 h5).1 hW1, (Wf_lcm n1 hn h2 h5 hWf hW1 4).2.2⟩
/-- wholeRound, over the bundle -/
theorem c_whole {N d b n M W : Nat} {T : Nat → Int} {h : MH} (n1 : 1 ≤ n) (hn : n ≤ 4) (hM : 2 ≤ M) (hM2 : M ≤ 500) (hW : isPer (mp (n + 1) M (au n T)) 32 W) (hpc : PC N h b M) (hw : PT N h (b + 12) M n T) (hd : RD N h b M n T) : Ok mX8_wholeRound (d + 6) 0 0 [vR (b + 79)] N h (fun r h2 => r = some (vJ (W : Int)) ∧ PT N h2 (b + 12) M n T ∧ RDW N h2 b M W ∧ ∀ a, (a < b + 12 ∨ b + 84 ≤ a) → a ≠ b + 90 → h2 a = h a) := by
  obtain ⟨wh, a1, a2, a3, a4, a5, a6, a7⟩ := hd
  have a2' : (wh = 0 ∧ PA N h (b + 80)) ∨ (wh = (W : Int) ∧ PS N h (b + 80) (BM M) (fun x => prm x ∧ x ∣ W)) := by
    rcases a2 with z | ⟨V, e, z1, z2⟩
    · exact Or.inl z
    · have := per_uniq z1 hW
      subst this
      exact Or.inr ⟨e, z2⟩
  refine Ok.mono (c_wholeRound (d := d) n1 hn hM hM2 hW hpc a1 hw a2' a3 a4).2 ?_
  rintro r h2 ⟨e, c1, c2, c3, c4, c5, c6⟩
  exact ⟨e, c1, ⟨⟨a1.1, c2⟩, c3, c4, c5, a5.keep (c6 _ (by omega) (by omega)), a6.keep (c6 _ (by omega) (by omega)), a7.keep (fun a z1 z2 => c6 a (by omega) (by omega))⟩, c6⟩
/-- the row after t turns -/
def rowS (n M : Nat) (A Y : Nat → Int) (t r : Nat) : Int := if r < n then goF n M (mp (n + 1) M A t) Y r else 0
theorem rowS_at {n M t r : Nat} {A Y : Nat → Int} (hr : r < n) : rowS n M A Y t r = goF n M (mp (n + 1) M A t) Y r := if_pos hr
theorem rowS_bd {n M t r : Nat} {A Y : Nat → Int} (hM : 0 < M) : 0 ≤ rowS n M A Y t r ∧ rowS n M A Y t r < M := by
  unfold rowS
  split
  · exact go_bd hM
  · omega
theorem rowS_add {n M s t r : Nat} {A Y : Nat → Int} (hn : n ≤ 4) (hM : 2 ≤ M) (hA : aff n A) (hr : r < n) : goF n M (mp (n + 1) M A s) (rowS n M A Y t) r = rowS n M A Y (s + t) r := by
  rw [rowS_at hr, mp_add (by omega) (by omega), act_mm hn (by omega) (aff_mp hn hM hA t)]
  exact goF_congr (fun i hi => rowS_at hi)
theorem rowS_det {n M : Nat} {A Y : Nat → Int} (hn : n ≤ 4) (hM : 2 ≤ M) (hA : aff n A) : detm (rowS n M A Y) := by
  intro s t h
  funext r
  by_cases hr : r < n
  · rw [Nat.add_comm s, Nat.add_comm t, ← rowS_add hn hM hA hr, ← rowS_add hn hM hA hr, h]
  · unfold rowS
    rw [if_neg hr, if_neg hr]
theorem rowS_0 {n M r : Nat} {A Y : Nat → Int} (hn : n ≤ 4) (hr : r < n) (hY : 0 ≤ Y r ∧ Y r < M) : rowS n M A Y 0 r = Y r := by
  rw [rowS_at hr]
  exact go_m1 hn hr hY
theorem rowS_of_mp {n M s t : Nat} {A Y : Nat → Int} (h : mp (n + 1) M A s = mp (n + 1) M A t) : rowS n M A Y s = rowS n M A Y t := by
  funext r
  unfold rowS
  rw [h]
theorem row_eq {n M s t : Nat} {A Y : Nat → Int} : rowS n M A Y s = rowS n M A Y t ↔ ∀ r, r < n → rowS n M A Y s r = rowS n M A Y t r := by
  refine ⟨fun h r _ => by rw [h], fun h => funext fun r => ?_⟩
  by_cases hr : r < n
  · exact h r hr
  · unfold rowS
    rw [if_neg hr, if_neg hr]

theorem c_turnsAhead {N d b n M W : Nat} {T : Nat → Int} {h : MH} (n1 : 1 ≤ n) (hn : n ≤ 4) (hM : 2 ≤ M) (hM2 : M ≤ 500) (hW : isPer (mp (n + 1) M (au n T)) 32 W) (hWb : W ≤ 8000000000000000000) (hpc : PC N h b M) (hw : PT N h (b + 12) M n T) (hd : RD N h b M n T) {t : Nat} (ht : t < 9223372036854775808) : Ok mX8_turnsAhead (d + 7) 0 0 [vR (b + 79), vJ (t : Int)] N h (fun r h2 => r = some (vJ (((W - t % W) % W : Nat) : Int)) ∧ PT N h2 (b + 12) M n T ∧ RD N h2 b M n T ∧ ∀ a, (a < b + 12 ∨ b + 93 ≤ a) → h2 a = h a) := by
  refine Ok.of pfX8_turnsAhead rfl (Nat.le_of_ble_eq_true rfl) (fun Ls sx => ?_)
  show G mX8_turnsAhead (d + 7, 0, 0, Ls, sx) 0 [(0, vR (b + 79)), (1, vJ (t : Int))] [] (0, 0, N) h _
  obtain ⟨wh, hr, -⟩ := id hd
  have hW1 := hW.1
  refine g_aload_n (pc := 0) (r := .inl (some (b + 79))) dX8_turnsAhead_0 rfl ?_
  refine g_callV0 (pc := 1) (as := []) (b := b + 79) (st := []) lvX8_76 dX8_turnsAhead_1 hr (Nat.le_of_ble_eq_true rfl) (by omega) (Nat.zero_le _) (Nat.zero_le _) (c_whole (d := d) n1 hn hM hM2 hW hpc hw hd) ?_
  rintro r h1 ⟨rfl, c1, c2, c3⟩
  refine g_lconst1 (pc := 4) dX8_turnsAhead_4 ?_
  refine g_callS0 (pc := 5) (as := [vJ (W : Int), vJ 1]) (st := []) lsX8_71 dX8_turnsAhead_5 (Nat.le_of_ble_eq_true rfl) (by omega) (Nat.zero_le _) (Nat.zero_le _) (c_maxJ (d := d + 6) (by omega) (by omega)) ?_
  rintro r h2 ⟨e9, e8⟩
  subst e9
  subst e8
  rw [show (if (W : Int) < 1 then (1 : Int) else (W : Int)) = (W : Int) from if_neg (by omega)]
  have em := tmodN (rfl : (t : Int) = (t : Int)) (rfl : (W : Int) = (W : Int))
  have hml := Nat.mod_lt t hW1
  have em2 : ((W : Int) - ((t % W : Nat) : Int)).tmod (W : Int) = (((W - t % W) % W : Nat) : Int) := tmodN (by omega) rfl
  refine g_lstore_n (pc := 8) (lo2 := [(0, vR (b + 79)), (1, vJ (t : Int)), (3, vJ (W : Int))]) dX8_turnsAhead_8 (by decide) rfl ?_
  refine g_lload_n (pc := 9) (x := (W : Int)) dX8_turnsAhead_9 rfl ?_
  refine g_lload_n (pc := 10) (x := (t : Int)) dX8_turnsAhead_10 rfl ?_
  refine g_lload_n (pc := 11) (x := (W : Int)) dX8_turnsAhead_11 rfl ?_
  refine g_lrem (pc := 12) dX8_turnsAhead_12 (by omega) (by omega) (by omega) ?_
  rw [em]
  refine g_lsub (pc := 13) dX8_turnsAhead_13 ?_
  refine g_lload_n (pc := 14) (x := (W : Int)) dX8_turnsAhead_14 rfl ?_
  refine g_lrem (pc := 15) dX8_turnsAhead_15 (by omega) (by omega) (by omega) ?_
  rw [em2]
  exact r_long (pc := 16) dX8_turnsAhead_16 rfl rfl (Nat.le_refl _) ⟨rfl, c1, c2.rd hW, fun a ha => c3 a (by omega) (by omega)⟩

theorem rof_l1 {N d b n M W P l Ls : Nat} {xi : Int} {T Y Y2 sx : Nat → Int} {Q : Option MV → MR → MH → Prop} (hn : n ≤ 4) (hM : 2 ≤ M) (hM2 : M ≤ 500) (hP : isPer (rowS n M (au n T) Y) 32 P) (hl : 2 ≤ l) (hl2 : l ≤ 2147483647) (rY : rng Y2) (eY : ∀ r, r < n → Y2 r = rowS n M (au n T) Y 32 r) : ∀ (t : Nat) (j : Nat) (xj : Int) (h : MH), xj = (j : Int) → 1 ≤ t → t < 2 ^ (63 - j) → j ≤ 63 → t ≤ 8000000000000000000 → P ∣ t → Hd (0, 0, N) h (b + 79) (eO 8 [vR (b + 12), vR (b + 7), vR (b + 80), vR (b + 82), vR (b + 84), vR (b + 90), vR (b + 91), vR (b + 92), vJ (W : Int)]) → PT N h (b + 12) M n T → Hd (0, 0, N) h (b + 91) (eA 0 4 Y2) → Sc N h (b + 92) 4 → (∀ (t2 : Nat) (h2 : MH), 1 ≤ t2 → t2 ∣ t → P ∣ t2 → ¬ (l ∣ t2 ∧ P ∣ t2 / l) → PT N h2 (b + 12) M n T → Sc N h2 (b + 92) 4 → (∀ a, a ≠ b + 92 → (a < b + 12 ∨ b + 79 ≤ a) → h2 a = h a) → G mX8_roundOf (d + 7, 0, 0, Ls, sx) 102 [(0, vR (b + 79)), (1, vR (b + 1)), (2, vJ ((t2 : Nat) : Int)), (4, vI xi), (5, vI (l : Int))] [] (0, 0, N) h2 Q) → G mX8_roundOf (d + 7, 0, 0, Ls, sx) 61 [(0, vR (b + 79)), (1, vR (b + 1)), (2, vJ (t : Int)), (4, vI xi), (5, vI (l : Int)), (6, vI xj)] [] (0, 0, N) h Q := by
  intro t
  induction t using Nat.strongRecOn with
  | ind t ih =>
    intro j xj h ej t1 tj j63 tb hWt hr hw h91 s92 hK
    have hj : j < 63 := by
      apply Nat.lt_of_not_le
      intro z
      rw [show 63 - j = 0 by omega] at tj
      omega
    have em := tmodN (rfl : (t : Int) = (t : Int)) (rfl : (l : Int) = (l : Int))
    have ed := tdivN (rfl : (t : Int) = (t : Int)) (rfl : (l : Int) = (l : Int))
    have hml := Nat.mod_lt t (show 0 < l by omega)
    have hdl : t / l ≤ t := Nat.div_le_self _ _
    by_cases hd : t % l = 0
    · have hlp : t = l * (t / l) := by have := Nat.div_add_mod t l; omega
      have hlt : t / l < t := Nat.div_lt_self t1 (by omega)
      have hl1 : 1 ≤ t / l := by
        apply Nat.pos_of_ne_zero
        intro z
        rw [z] at hlp
        omega
      have hl2 : t / l < 2 ^ (63 - (j + 1)) := by
        rw [show 63 - j = 63 - (j + 1) + 1 by omega, Nat.pow_succ] at tj
        have := Nat.mul_le_mul_right (t / l) hl
        omega
      obtain ⟨kn, F, hPX, hF⟩ := id hw
      refine g_iload (pc := 61) (x := xj) dX8_roundOf_61 rfl ?_
      refine g_bipush (pc := 63) dX8_roundOf_63 (by decide +kernel) ?_
      refine g_icmp_geF (pc := 65) (tgt := 102) dX8_roundOf_65 (by decide) (by omega) (by omega) (by omega) ?_
      refine g_lload_n (pc := 68) (x := (t : Int)) dX8_roundOf_68 rfl ?_
      refine g_iload (pc := 69) (x := (l : Int)) dX8_roundOf_69 rfl ?_
      refine g_i2l (pc := 71) dX8_roundOf_71 (by omega) ?_
      refine g_lrem (pc := 72) dX8_roundOf_72 (by omega) (by omega) (by omega) ?_
      refine g_lconst0 (pc := 73) dX8_roundOf_73 ?_
      refine g_lif_neF (pc := 74) (tgt := 102) dX8_roundOf_74 dX8_roundOf_75 (by decide) (by omega) (by omega) (by rw [em, hd]; rfl) ?_
      refine g_aload_n (pc := 78) (r := .inl (some (b + 79))) dX8_roundOf_78 rfl ?_
      refine g_lload_n (pc := 79) (x := (t : Int)) dX8_roundOf_79 rfl ?_
      refine g_iload (pc := 80) (x := (l : Int)) dX8_roundOf_80 rfl ?_
      refine g_i2l (pc := 82) dX8_roundOf_82 (by omega) ?_
      refine g_ldiv (pc := 83) dX8_roundOf_83 (by omega) (by omega) (by omega) ?_
      rw [ed]
      refine g_callV0 (pc := 84) (as := [vJ ((t / l : Nat) : Int)]) (b := b + 79) (st := []) lvX8_103 dX8_roundOf_84 hr (Nat.le_of_ble_eq_true rfl) (by omega) (Nat.zero_le _) (Nat.zero_le _) (c_rowComesBack (d := d + 2) hn hM hM2 (by omega) hr hPX h91 rY (fun r hr => by rw [eY r hr]; exact (rowS_bd (by omega)).2) s92) ?_
      rintro r h3 ⟨⟨kn2, F2, w1, w2⟩, k1, s1, hres⟩
      rw [hF] at w2 hres
      have hiff : (∀ a, a < n → goF n M (mp (n + 1) M (au n T) (t / l)) Y2 a = Y2 a) ↔ P ∣ t / l := by
        rw [← hP.2, row_eq]
        constructor
        · intro z r hr
          have := z r hr
          rw [goF_congr eY, rowS_add hn hM (aff_au hn) hr, eY r hr, Nat.add_comm] at this
          exact this
        · intro z r hr
          rw [goF_congr eY, rowS_add hn hM (aff_au hn) hr, eY r hr, Nat.add_comm]
          exact z r hr
      have hr_1 := hr.keep (k1 _ (by omega) (by omega))
      have h91b := h91.keep (k1 _ (by omega) (by omega))
      rcases hres with ⟨rfl, hyes⟩ | ⟨rfl, hno⟩
      · have hWd := hiff.mp hyes
        refine g_if_eqF (pc := 87) (tgt := 102) dX8_roundOf_87 (by decide) (by omega) (by omega) ?_
        refine g_lload_n (pc := 90) (x := (t : Int)) dX8_roundOf_90 rfl ?_
        refine g_iload (pc := 91) (x := (l : Int)) dX8_roundOf_91 rfl ?_
        refine g_i2l (pc := 93) dX8_roundOf_93 (by omega) ?_
        refine g_ldiv (pc := 94) dX8_roundOf_94 (by omega) (by omega) (by omega) ?_
        refine g_lstore_n (pc := 95) (lo2 := [(0, vR (b + 79)), (1, vR (b + 1)), (2, vJ ((t : Int).tdiv (l : Int))), (4, vI xi), (5, vI (l : Int)), (6, vI xj)]) dX8_roundOf_95 (by decide) rfl ?_
        refine g_iinc (pc := 96) (x := xj) (lo2 := [(0, vR (b + 79)), (1, vR (b + 1)), (2, vJ ((t : Int).tdiv (l : Int))), (4, vI xi), (5, vI (l : Int)), (6, vI (xj + 1))]) dX8_roundOf_96 rfl (by decide) rfl ?_
        refine g_goto (pc := 99) (tgt := 61) dX8_roundOf_99 (by decide) ?_
        rw [ed]
        refine ih (t / l) hlt (j + 1) _ h3 (by omega) hl1 hl2 (by omega) (by omega) hWd hr_1 ⟨kn2, F2, w1, w2⟩ h91b s1 (fun t2 h2 a1 a2 a3 a4 a5 a6 a7 => hK t2 h2 a1 (Nat.dvd_trans a2 ⟨l, by rw [Nat.mul_comm]; exact hlp⟩) a3 a4 a5 a6 (fun a z1 z2 => (a7 a z1 z2).trans (k1 a z1 z2)))
      · refine g_if_eqT (pc := 87) (tgt := 102) dX8_roundOf_87 (by decide) (by omega) (by omega) ?_
        refine g_pick [0, 1, 2, 3, 4] (lo2 := [(0, vR (b + 79)), (1, vR (b + 1)), (2, vJ (t : Int)), (4, vI xi), (5, vI (l : Int))]) rfl ?_
        exact hK t h3 t1 (Nat.dvd_refl t) hWt (fun y => hno (hiff.mpr y.2)) ⟨kn2, F2, w1, w2⟩ s1 k1
    · refine g_iload (pc := 61) (x := xj) dX8_roundOf_61 rfl ?_
      refine g_bipush (pc := 63) dX8_roundOf_63 (by decide +kernel) ?_
      refine g_icmp_geF (pc := 65) (tgt := 102) dX8_roundOf_65 (by decide) (by omega) (by omega) (by omega) ?_
      refine g_lload_n (pc := 68) (x := (t : Int)) dX8_roundOf_68 rfl ?_
      refine g_iload (pc := 69) (x := (l : Int)) dX8_roundOf_69 rfl ?_
      refine g_i2l (pc := 71) dX8_roundOf_71 (by omega) ?_
      refine g_lrem (pc := 72) dX8_roundOf_72 (by omega) (by omega) (by omega) ?_
      refine g_lconst0 (pc := 73) dX8_roundOf_73 ?_
      refine g_lif_neT (pc := 74) (tgt := 102) dX8_roundOf_74 dX8_roundOf_75 (by decide) (by omega) (by omega) (by rw [em]; omega) ?_
      refine g_pick [0, 1, 2, 3, 4] (lo2 := [(0, vR (b + 79)), (1, vR (b + 1)), (2, vJ (t : Int)), (4, vI xi), (5, vI (l : Int))]) rfl ?_
      exact hK t h t1 (Nat.dvd_refl t) hWt (fun y => hd (Nat.mod_eq_zero_of_dvd y.1)) hw s92 (fun _ _ _ => rfl)

theorem rof_l2 {N d b n M W P Ls : Nat} {T Y Y2 sx : Nat → Int} {ls : List Nat} {LL : Nat → Int} {h0 : MH} (hn : n ≤ 4) (hM : 2 ≤ M) (hM2 : M ≤ 500) (hP : isPer (rowS n M (au n T) Y) 32 P) (rY : rng Y2) (eY : ∀ r, r < n → Y2 r = rowS n M (au n T) Y 32 r) (hLL : ∀ i, i < ls.length → LL i = ((ls.getD i 0 : Nat) : Int)) (hls16 : ls.length ≤ 16) (hlsP : ∀ x, x ∈ ls → prm x ∧ x ≤ 2147483647) (hlsW : ∀ x, prm x → x ∣ W → x ∈ ls) : ∀ (f i t : Nat) (xi : Int) (h : MH), i + f = ls.length → xi = (i : Int) → 1 ≤ t → t ∣ W → t ≤ 8000000000000000000 → P ∣ t → (∀ j, j < i → ¬ (ls.getD j 0 ∣ t ∧ P ∣ t / ls.getD j 0)) → Hd (0, 0, N) h (b + 79) (eO 8 [vR (b + 12), vR (b + 7), vR (b + 80), vR (b + 82), vR (b + 84), vR (b + 90), vR (b + 91), vR (b + 92), vJ (W : Int)]) → PT N h (b + 12) M n T → Hd (0, 0, N) h (b + 91) (eA 0 4 Y2) → Sc N h (b + 92) 4 → Hd (0, 0, N) h (b + 80) (eO 7 [vR (b + 81), vI (ls.length : Int)]) → Hd (0, 0, N) h (b + 81) (eA 0 16 LL) → (∀ a, a ≠ b + 92 → (a < b + 12 ∨ b + 79 ≤ a) → h a = h0 a) → G mX8_roundOf (d + 7, 0, 0, Ls, sx) 30 [(0, vR (b + 79)), (1, vR (b + 1)), (2, vJ (t : Int)), (4, vI xi)] [] (0, 0, N) h (Pq mX8_roundOf 0 0 (fun r h2 => r = some (vJ (P : Int)) ∧ PT N h2 (b + 12) M n T ∧ Sc N h2 (b + 92) 4 ∧ ∀ a, a ≠ b + 92 → (a < b + 12 ∨ b + 79 ≤ a) → h2 a = h0 a)) := by
  intro f
  induction f with
  | zero =>
    intro i t xi h hf ex t1 tE tb hWt hne hr hw h91 s92 h80 h81 hk
    have hmem : ∀ j, j < ls.length → ls.getD j 0 ∈ ls := fun j hj => by simp [List.getD, hj]
    have eW : t = P := red_end t1 hWt (fun x x1 x2 x3 => by
      obtain ⟨j, j1, j2⟩ := List.mem_iff_getElem.mp (hlsW x x1 (Nat.dvd_trans x2 tE))
      refine hne j (by omega) ?_
      rw [show ls.getD j 0 = x by simp [List.getD, j1, j2]]
      exact ⟨x2, x3⟩)
    refine g_iload (pc := 30) (x := xi) dX8_roundOf_30 rfl ?_
    refine g_aload_n (pc := 32) (r := .inl (some (b + 79))) dX8_roundOf_32 rfl ?_
    refine g_getf (pc := 33) (v := vR (b + 80)) flX8_12 dX8_roundOf_33 hr rfl ?_
    refine g_getf (pc := 36) (v := vI (ls.length : Int)) flX8_94 dX8_roundOf_36 h80 rfl ?_
    refine g_icmp_geT (pc := 39) (tgt := 108) dX8_roundOf_39 (by decide) (by omega) (by omega) (by omega) ?_
    refine g_lload_n (pc := 108) (x := (t : Int)) dX8_roundOf_108 rfl ?_
    rw [eW]
    exact r_long (pc := 109) dX8_roundOf_109 rfl rfl (Nat.le_refl _) ⟨rfl, hw, s92, hk⟩
  | succ f ih =>
    intro i t xi h hf ex t1 tE tb hWt hne hr hw h91 s92 h80 h81 hk
    have hmem : ∀ j, j < ls.length → ls.getD j 0 ∈ ls := fun j hj => by simp [List.getD, hj]
    have hi : i < ls.length := by omega
    obtain ⟨hlp, hl2⟩ := hlsP _ (hmem i hi)
    have hLi := hLL i hi
    obtain ⟨l, el⟩ : ∃ l, l = ls.getD i 0 := ⟨_, rfl⟩
    rw [← el] at hlp hl2 hLi
    have hl := hlp.1
    refine g_iload (pc := 30) (x := xi) dX8_roundOf_30 rfl ?_
    refine g_aload_n (pc := 32) (r := .inl (some (b + 79))) dX8_roundOf_32 rfl ?_
    refine g_getf (pc := 33) (v := vR (b + 80)) flX8_12 dX8_roundOf_33 hr rfl ?_
    refine g_getf (pc := 36) (v := vI (ls.length : Int)) flX8_94 dX8_roundOf_36 h80 rfl ?_
    refine g_icmp_geF (pc := 39) (tgt := 108) dX8_roundOf_39 (by decide) (by omega) (by omega) (by omega) ?_
    refine g_aload_n (pc := 42) (r := .inl (some (b + 79))) dX8_roundOf_42 rfl ?_
    refine g_getf (pc := 43) (v := vR (b + 80)) flX8_12 dX8_roundOf_43 hr rfl ?_
    refine g_getf (pc := 46) (v := vR (b + 81)) flX8_97 dX8_roundOf_46 h80 rfl ?_
    refine g_iload (pc := 49) (x := xi) dX8_roundOf_49 rfl ?_
    refine g_ialdN (pc := 51) (j := i) dX8_roundOf_51 h81 (by omega) (by omega) (by omega) ?_
    rw [hLi]
    refine g_iconst (pc := 52) dX8_roundOf_52 ?_
    refine g_callS0 (pc := 53) (as := [vI (l : Int), vI 2]) (st := []) lsX8_100 dX8_roundOf_53 (Nat.le_of_ble_eq_true rfl) (by omega) (Nat.zero_le _) (Nat.zero_le _) (c_maxI (d := d + 6) (by omega) (by omega)) ?_
    rintro r h1 ⟨e9, e8⟩
    subst e9
    subst e8
    rw [show (if (l : Int) < 2 then (2 : Int) else (l : Int)) = (l : Int) from if_neg (by omega)]
    refine g_istore (pc := 56) (lo2 := [(0, vR (b + 79)), (1, vR (b + 1)), (2, vJ (t : Int)), (4, vI xi), (5, vI (l : Int))]) dX8_roundOf_56 (by decide) rfl ?_
    refine g_iconst (pc := 58) dX8_roundOf_58 ?_
    refine g_istore (pc := 59) (lo2 := [(0, vR (b + 79)), (1, vR (b + 1)), (2, vJ (t : Int)), (4, vI xi), (5, vI (l : Int)), (6, vI 0)]) dX8_roundOf_59 (by decide) rfl ?_
    refine rof_l1 hn hM hM2 hP hl hl2 rY eY t 0 _ h1 rfl t1 (show t < 9223372036854775808 by omega) (by omega) tb hWt hr hw h91 s92 (fun t2 h2 a1 a2 a3 a4 a5 a6 a7 => ?_)
    have hr_1 := hr.keep (a7 _ (by omega) (by omega))
    have h80_1 := h80.keep (a7 _ (by omega) (by omega))
    have h81_1 := h81.keep (a7 _ (by omega) (by omega))
    have t2b := Nat.le_of_dvd t1 a2
    have h91b := h91.keep (a7 _ (by omega) (by omega))
    refine g_iinc (pc := 102) (x := xi) (lo2 := [(0, vR (b + 79)), (1, vR (b + 1)), (2, vJ ((t2 : Nat) : Int)), (4, vI (xi + 1)), (5, vI (l : Int))]) dX8_roundOf_102 rfl (by decide) rfl ?_
    refine g_goto (pc := 105) (tgt := 30) dX8_roundOf_105 (by decide) ?_
    refine g_pick [0, 1, 2, 3] (lo2 := [(0, vR (b + 79)), (1, vR (b + 1)), (2, vJ ((t2 : Nat) : Int)), (4, vI (xi + 1))]) rfl ?_
    refine ih (i + 1) t2 _ _ (by omega) (by omega) a1 (Nat.dvd_trans a2 tE) (by omega) a3 (fun j jj => ?_) hr_1 a5 h91b a6 h80_1 h81_1 (fun a z1 z2 => (a7 a z1 z2).trans (hk a z1 z2))
    by_cases hj : j = i
    · rw [hj, ← el]
      exact a4
    · exact red_keep (by have := (hlsP _ (hmem j (by omega))).1.1; omega) a2 (hne j (by omega))

theorem c_roundOf {N d b n M W : Nat} {T : Nat → Int} {h : MH} (n1 : 1 ≤ n) (hn : n ≤ 4) (hM : 2 ≤ M) (hM2 : M ≤ 500) (hW : isPer (mp (n + 1) M (au n T)) 32 W) (hWb : W ≤ 8000000000000000000) (hpc : PC N h b M) (hw : PT N h (b + 12) M n T) (hd : RD N h b M n T) {P : Nat} {Y : Nat → Int} (hP : isPer (rowS n M (au n T) Y) 32 P) (hY : Hd (0, 0, N) h (b + 1) (eA 0 4 Y)) (rY : rng Y) (bY : ∀ r, r < n → Y r < M) : Ok mX8_roundOf (d + 7) 0 0 [vR (b + 79), vR (b + 1)] N h (fun r h2 => r = some (vJ (P : Int)) ∧ PT N h2 (b + 12) M n T ∧ RD N h2 b M n T ∧ ∀ a, (a < b + 12 ∨ b + 93 ≤ a) → h2 a = h a) := by
  refine Ok.of pfX8_roundOf rfl (Nat.le_of_ble_eq_true rfl) (fun Ls sx => ?_)
  show G mX8_roundOf (d + 7, 0, 0, Ls, sx) 0 [(0, vR (b + 79)), (1, vR (b + 1))] [] (0, 0, N) h _
  obtain ⟨wh, hr, -⟩ := id hd
  have hW1 := hW.1
  have hPW : P ∣ W := (hP.2 W).mp (rowS_of_mp ((hW.2 W).mpr (Nat.dvd_refl W)))
  refine g_aload_n (pc := 0) (r := .inl (some (b + 79))) dX8_roundOf_0 rfl ?_
  refine g_callV0 (pc := 1) (as := []) (b := b + 79) (st := []) lvX8_76 dX8_roundOf_1 hr (Nat.le_of_ble_eq_true rfl) (by omega) (Nat.zero_le _) (Nat.zero_le _) (c_whole (d := d) n1 hn hM hM2 hW hpc hw hd) ?_
  rintro r h1 ⟨rfl, c1, c2, c3⟩
  obtain ⟨r1, r2, r3, r4, ⟨f5, r5, r5b⟩, r6, r7⟩ := id c2
  have hY1 := hY.keep (c3 (b + 1) (by omega) (by omega))
  refine g_lstore_n (pc := 4) (lo2 := [(0, vR (b + 79)), (1, vR (b + 1)), (2, vJ (W : Int))]) dX8_roundOf_4 (by decide) rfl ?_
  refine g_aload_n (pc := 5) (r := .inl (some (b + 1))) dX8_roundOf_5 rfl ?_
  refine g_aload_n (pc := 6) (r := .inl (some (b + 79))) dX8_roundOf_6 rfl ?_
  refine g_getf (pc := 7) (v := vR (b + 91)) flX8_34 dX8_roundOf_7 r1 rfl ?_
  refine g_callS0 (pc := 10) (as := [vR (b + 1), vR (b + 91)]) (st := []) lsX8_80 dX8_roundOf_10 (Nat.le_of_ble_eq_true rfl) (by omega) (Nat.zero_le _) (Nat.zero_le _) (c_copyRow (d := d + 5) hY1 r5) ?_
  rintro r h2 ⟨rfl, d1, d2⟩
  have r1_1 := r1.keep (d2 _ (by omega))
  have w2 := c1.keep (h2 := h2) (fun a z1 z2 => d2 a (by omega))
  obtain ⟨kn, F, hPX, hF⟩ := id w2
  have h91 : Hd (0, 0, N) h2 (b + 91) (eA 0 4 (va_cpy Y f5 0 0 4)) := ⟨r5.1, d1⟩
  refine g_aload_n (pc := 13) (r := .inl (some (b + 79))) dX8_roundOf_13 rfl ?_
  refine g_getf (pc := 14) (v := vR (b + 12)) flX8_40 dX8_roundOf_14 r1_1 rfl ?_
  refine g_ldc2 (pc := 17) (n := 32) dX8_roundOf_17 kcX8_92 ?_
  refine g_aload_n (pc := 20) (r := .inl (some (b + 79))) dX8_roundOf_20 rfl ?_
  refine g_getf (pc := 21) (v := vR (b + 91)) flX8_34 dX8_roundOf_21 r1_1 rfl ?_
  refine g_callV0 (pc := 24) (as := [vJ 32, vR (b + 91)]) (b := b + 12) (st := []) lvX8_84 dX8_roundOf_24 hPX.1.1 (Nat.le_of_ble_eq_true rfl) (by omega) (Nat.zero_le _) (Nat.zero_le _) (c_carryRow (d := d + 3) (rr := b + 91) (t := 32) hn hM hM2 (by omega) (by omega) hPX h91 (rng_cpy rY r5b) (fun r hr => by rw [cpy_lo (by omega)]; exact bY r hr)) ?_
  rintro r h3 ⟨rfl, ⟨kn2, F2, w3, w4, -⟩, k3, Y2, e2, rY2, eY2, -⟩
  have r1_2 := r1_1.keep (k3 _ (by omega) (by omega))
  rw [hF] at w4 eY2
  have eY3 : ∀ r, r < n → Y2 r = rowS n M (au n T) Y 32 r := fun r hr => by
    rw [eY2 r hr, rowS_at hr]
    exact goF_congr (fun i hi => cpy_lo (by omega))
  have kk : ∀ a, (a < b + 12 ∨ b + 79 ≤ a) → a ≠ b + 91 → h3 a = h1 a := fun a z1 z2 => (k3 a z2 (by omega)).trans (d2 a z2)
  have r2b := r2.keep (kk (b + 80) (by omega) (by omega)) (kk (b + 81) (by omega) (by omega))
  obtain ⟨ls, LL, a1, a2, a3, a4, a5, a6⟩ := id r2b
  have hls : ls.length ≤ 16 := Nat.le_trans (a4.length_le_of_subset (fun x hx => a5 x hx)) (BM_len hM hM2)
  have hst : PT N h3 (b + 12) M n T := ⟨kn2, F2, w3, w4⟩
  refine g_iconst (pc := 27) dX8_roundOf_27 ?_
  refine g_istore (pc := 28) (lo2 := [(0, vR (b + 79)), (1, vR (b + 1)), (2, vJ (W : Int)), (4, vI 0)]) dX8_roundOf_28 (by decide) rfl ?_
  refine Q_mono (rof_l2 (h0 := h3) hn hM hM2 hP rY2 eY3 a3 hls (fun x hx => ⟨((a6 x).mp hx).1, by have := (BM_mem (a5 x hx)).2.2; omega⟩) (fun x x1 x2 => (a6 x).mpr ⟨x1, x2⟩) ls.length 0 W _ h3 (by omega) rfl hW1 (Nat.dvd_refl W) hWb hPW (fun j jj => absurd jj (Nat.not_lt_zero j)) r1_2 hst ⟨r5.1, e2⟩ (r6.keep (kk _ (by omega) (by omega))) a1 a2 (fun _ _ _ => rfl)) ?_
  rintro r h4 ⟨g1, g2, g3, g4⟩
  refine ⟨g1, g2, ?_, fun a ha => (g4 a (by omega) (by omega)).trans ((kk a (by omega) (by omega)).trans (c3 a (by omega) (by omega)))⟩
  have k4 : ∀ a, b + 79 ≤ a → a ≠ b + 91 → a ≠ b + 92 → h4 a = h1 a := fun a z1 z2 z3 => (g4 a z3 (by omega)).trans (kk a (by omega) z2)
  exact RDW.rd hW ⟨r1.keep (k4 _ (by omega) (by omega) (by omega)), r2.keep (k4 _ (by omega) (by omega) (by omega)) (k4 _ (by omega) (by omega) (by omega)), r3.keep (k4 _ (by omega) (by omega) (by omega)) (k4 _ (by omega) (by omega) (by omega)), r4.keep (k4 _ (by omega) (by omega) (by omega)), ⟨Y2, ⟨r5.1, (g4 _ (by omega) (by omega)).trans e2⟩, rY2⟩, g3, r7.keep (fun a z1 z2 => k4 a (by omega) (by omega) (by omega))⟩
