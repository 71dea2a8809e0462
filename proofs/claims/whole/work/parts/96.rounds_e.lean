/-! ===== Rounds: tailOf ===== -/
/-- turns ahead of the round -/
def isTail (x : Nat → Nat → Int) (W t : Nat) : Prop := t ≤ 32 ∧ x (t + W) = x t ∧ ∀ s, s < t → x (s + W) ≠ x s

theorem tail_l {N d b n M W τ Ls : Nat} {T Y sx : Nat → Int} {h0 : MH} (hn : n ≤ 4) (hM : 2 ≤ M) (hM2 : M ≤ 500) (hτ : isTail (rowS n M (au n T) Y) W τ) : ∀ (f t : Nat) (xt : Int) (h : MH), t + f = 32 → xt = (t : Int) → (∀ s, s < t → rowS n M (au n T) Y (s + W) ≠ rowS n M (au n T) Y s) → Hd (0, 0, N) h (b + 79) (eO 8 [vR (b + 12), vR (b + 7), vR (b + 80), vR (b + 82), vR (b + 84), vR (b + 90), vR (b + 91), vR (b + 92), vJ (W : Int)]) → PT N h (b + 12) M n T → (∃ Z, Hd (0, 0, N) h (b + 91) (eA 0 4 Z) ∧ rng Z ∧ ∀ r, r < n → Z r = rowS n M (au n T) Y (t) r) → (∃ Z, Hd (0, 0, N) h (b + 92) (eA 0 4 Z) ∧ rng Z ∧ ∀ r, r < n → Z r = rowS n M (au n T) Y (t + W) r) → (∀ a, a ≠ b + 91 → a ≠ b + 92 → (a < b + 12 ∨ b + 79 ≤ a) → h a = h0 a) → G mX8_tailOf (d + 7, 0, 0, Ls, sx) 36 [(0, vR (b + 79)), (1, vR (b + 1)), (2, vJ (W : Int)), (4, vI xt)] [] (0, 0, N) h (Pq mX8_tailOf 0 0 (fun r h2 => r = some (vI (τ : Int)) ∧ PT N h2 (b + 12) M n T ∧ Sc N h2 (b + 91) 4 ∧ Sc N h2 (b + 92) 4 ∧ ∀ a, a ≠ b + 91 → a ≠ b + 92 → (a < b + 12 ∨ b + 79 ≤ a) → h2 a = h0 a)) := by
  intro f
  induction f with
  | zero =>
    intro t xt h hf ex hlt hr hw r91 r92 hk
    obtain ⟨Z1, h91, z1, e1⟩ := r91
    obtain ⟨Z2, h92, z2, e2⟩ := r92
    obtain ⟨kn, F, hPX, hF⟩ := id hw
    have hpx := hPX.1.1
    have eτ : t = τ := by
      rcases Nat.lt_trichotomy t τ with y | y | y
      · have := hτ.1
        omega
      · exact y
      · exact absurd hτ.2.1 (hlt τ y)
    refine g_iload (pc := 36) (x := xt) dX8_tailOf_36 rfl ?_
    refine g_bipush (pc := 38) dX8_tailOf_38 (by decide +kernel) ?_
    refine g_icmp_geT (pc := 40) (tgt := 91) dX8_tailOf_40 (by decide) (by omega) (by omega) (by omega) ?_
    refine g_iload (pc := 91) (x := xt) dX8_tailOf_91 rfl ?_
    rw [show xt = (τ : Int) by omega]
    exact r_int (pc := 93) dX8_tailOf_93 rfl rfl (Nat.le_refl _) ⟨rfl, hw, ⟨Z1, h91, z1⟩, ⟨Z2, h92, z2⟩, hk⟩
  | succ f ih =>
    intro t xt h hf ex hlt hr hw r91 r92 hk
    obtain ⟨Z1, h91, z1, e1⟩ := r91
    obtain ⟨Z2, h92, z2, e2⟩ := r92
    obtain ⟨kn, F, hPX, hF⟩ := id hw
    have hpx := hPX.1.1
    refine g_iload (pc := 36) (x := xt) dX8_tailOf_36 rfl ?_
    refine g_bipush (pc := 38) dX8_tailOf_38 (by decide +kernel) ?_
    refine g_icmp_geF (pc := 40) (tgt := 91) dX8_tailOf_40 (by decide) (by omega) (by omega) (by omega) ?_
    refine g_aload_n (pc := 43) (r := .inl (some (b + 79))) dX8_tailOf_43 rfl ?_
    refine g_getf (pc := 44) (v := vR (b + 12)) flX8_40 dX8_tailOf_44 hr rfl ?_
    refine g_aload_n (pc := 47) (r := .inl (some (b + 79))) dX8_tailOf_47 rfl ?_
    refine g_getf (pc := 48) (v := vR (b + 91)) flX8_34 dX8_tailOf_48 hr rfl ?_
    refine g_aload_n (pc := 51) (r := .inl (some (b + 79))) dX8_tailOf_51 rfl ?_
    refine g_getf (pc := 52) (v := vR (b + 92)) flX8_37 dX8_tailOf_52 hr rfl ?_
    refine g_callV0 (pc := 55) (as := [vR (b + 91), vR (b + 92)]) (b := b + 12) (st := []) lvX8_88 dX8_tailOf_55 hpx (Nat.le_of_ble_eq_true rfl) (by omega) (Nat.zero_le _) (Nat.zero_le _) (c_sameRows (d := d + 6) hn z1 z2 hpx h91 h92) ?_
    rintro r h1 ⟨e9, hres⟩
    subst e9
    have hiff : (∀ i, i < n → Z1 i = Z2 i) ↔ rowS n M (au n T) Y (t + W) = rowS n M (au n T) Y t := by
      rw [row_eq]
      constructor
      · intro y r hr
        rw [← e1 r hr, ← e2 r hr, y r hr]
      · intro y r hr
        rw [e1 r hr, e2 r hr, y r hr]
    rcases hres with ⟨rfl, hyes⟩ | ⟨rfl, hno⟩
    · refine g_if_neT (pc := 58) (tgt := 91) dX8_tailOf_58 (by decide) (by omega) (by omega) ?_
      refine g_iload (pc := 91) (x := xt) dX8_tailOf_91 rfl ?_
      have eτ : t = τ := by
        rcases Nat.lt_trichotomy t τ with y | y | y
        · exact absurd (hiff.mp hyes) (hτ.2.2 t y)
        · exact y
        · exact absurd hτ.2.1 (hlt τ y)
      rw [show xt = (τ : Int) by omega]
      exact r_int (pc := 93) dX8_tailOf_93 rfl rfl (Nat.le_refl _) ⟨rfl, hw, ⟨Z1, h91, z1⟩, ⟨Z2, h92, z2⟩, hk⟩
    · refine g_if_neF (pc := 58) (tgt := 91) dX8_tailOf_58 (by decide) (by omega) (by omega) ?_
      refine g_aload_n (pc := 61) (r := .inl (some (b + 79))) dX8_tailOf_61 rfl ?_
      refine g_getf (pc := 62) (v := vR (b + 12)) flX8_40 dX8_tailOf_62 hr rfl ?_
      refine g_lconst1 (pc := 65) dX8_tailOf_65 ?_
      refine g_aload_n (pc := 66) (r := .inl (some (b + 79))) dX8_tailOf_66 rfl ?_
      refine g_getf (pc := 67) (v := vR (b + 91)) flX8_34 dX8_tailOf_67 hr rfl ?_
      refine g_callV0 (pc := 70) (as := [vJ 1, vR (b + 91)]) (b := b + 12) (st := []) lvX8_84 dX8_tailOf_70 hpx (Nat.le_of_ble_eq_true rfl) (by omega) (Nat.zero_le _) (Nat.zero_le _) (c_carryRow (d := d + 3) (rr := b + 91) (t := 1) hn hM hM2 (by omega) (by omega) hPX h91 z1 (fun r hr => by rw [e1 r hr]; exact (rowS_bd (by omega)).2)) ?_
      rintro r h3 ⟨rfl, ⟨kn2, F2, w3, w4, -⟩, k3, Y3, q1, q2, q3, -⟩
      rw [hF] at w4 q3
      have hpx2 := w3.1.1
      have hr_1 := hr.keep (k3 _ (by omega) (by omega))
      have h92b := h92.keep (k3 _ (by omega) (by omega))
      refine g_aload_n (pc := 73) (r := .inl (some (b + 79))) dX8_tailOf_73 rfl ?_
      refine g_getf (pc := 74) (v := vR (b + 12)) flX8_40 dX8_tailOf_74 hr_1 rfl ?_
      refine g_lconst1 (pc := 77) dX8_tailOf_77 ?_
      refine g_aload_n (pc := 78) (r := .inl (some (b + 79))) dX8_tailOf_78 rfl ?_
      refine g_getf (pc := 79) (v := vR (b + 92)) flX8_37 dX8_tailOf_79 hr_1 rfl ?_
      refine g_callV0 (pc := 82) (as := [vJ 1, vR (b + 92)]) (b := b + 12) (st := []) lvX8_84 dX8_tailOf_82 hpx2 (Nat.le_of_ble_eq_true rfl) (by omega) (Nat.zero_le _) (Nat.zero_le _) (c_carryRow (d := d + 3) (rr := b + 92) (t := 1) hn hM hM2 (by omega) (by omega) w3 h92b z2 (fun r hr => by rw [e2 r hr]; exact (rowS_bd (by omega)).2)) ?_
      rintro r h4 ⟨rfl, ⟨kn4, F4, w5, w6, -⟩, k4, Y4, p1, p2, p3, -⟩
      rw [w4] at w6 p3
      have hpx4 := w5.1.1
      have hr_2 := hr_1.keep (k4 _ (by omega) (by omega))
      refine g_iinc (pc := 85) (x := xt) (lo2 := [(0, vR (b + 79)), (1, vR (b + 1)), (2, vJ (W : Int)), (4, vI (xt + 1))]) dX8_tailOf_85 rfl (by decide) rfl ?_
      refine g_goto (pc := 88) (tgt := 36) dX8_tailOf_88 (by decide) ?_
      refine ih (t + 1) _ h4 (by omega) (by omega) (fun s hs => ?_) hr_2 ⟨kn4, F4, w5, w6⟩ ⟨Y3, ⟨h91.1, (k4 _ (by omega) (by omega)).trans q1⟩, q2, fun r hr => ?_⟩ ⟨Y4, ⟨h92.1, p1⟩, p2, fun r hr => ?_⟩ (fun a a1 a2 a3 => (k4 a a2 (by omega)).trans ((k3 a a1 (by omega)).trans (hk a a1 a2 a3)))
      · by_cases hst : s = t
        · rw [hst]
          exact fun y => hno (hiff.mpr y)
        · exact hlt s (by omega)
      · rw [q3 r hr, goF_congr e1, rowS_add hn hM (aff_au hn) hr, Nat.add_comm]
      · rw [p3 r hr, goF_congr e2, rowS_add hn hM (aff_au hn) hr, show 1 + (t + W) = t + 1 + W by omega]

theorem c_tailOf {N d b n M W : Nat} {T : Nat → Int} {h : MH} (n1 : 1 ≤ n) (hn : n ≤ 4) (hM : 2 ≤ M) (hM2 : M ≤ 500) (hW : isPer (mp (n + 1) M (au n T)) 32 W) (hWb : W ≤ 8000000000000000000) (hpc : PC N h b M) (hw : PT N h (b + 12) M n T) (hd : RD N h b M n T) {τ : Nat} {Y : Nat → Int} (hτ : isTail (rowS n M (au n T) Y) W τ) (hY : Hd (0, 0, N) h (b + 1) (eA 0 4 Y)) (rY : rng Y) (bY : ∀ r, r < n → Y r < M) : Ok mX8_tailOf (d + 7) 0 0 [vR (b + 79), vR (b + 1)] N h (fun r h2 => r = some (vI (τ : Int)) ∧ PT N h2 (b + 12) M n T ∧ RD N h2 b M n T ∧ ∀ a, (a < b + 12 ∨ b + 93 ≤ a) → h2 a = h a) := by
  refine Ok.of pfX8_tailOf rfl (Nat.le_of_ble_eq_true rfl) (fun Ls sx => ?_)
  show G mX8_tailOf (d + 7, 0, 0, Ls, sx) 0 [(0, vR (b + 79)), (1, vR (b + 1))] [] (0, 0, N) h _
  obtain ⟨wh, hr, -⟩ := id hd
  refine g_aload_n (pc := 0) (r := .inl (some (b + 79))) dX8_tailOf_0 rfl ?_
  refine g_callV0 (pc := 1) (as := []) (b := b + 79) (st := []) lvX8_76 dX8_tailOf_1 hr (Nat.le_of_ble_eq_true rfl) (by omega) (Nat.zero_le _) (Nat.zero_le _) (c_whole (d := d) n1 hn hM hM2 hW hpc hw hd) ?_
  rintro r h1 ⟨rfl, c1, c2, c3⟩
  obtain ⟨r1, r2, r3, r4, ⟨f5, r5, r5b⟩, ⟨f6, r6, r6b⟩, r7⟩ := id c2
  have hY1 := hY.keep (c3 (b + 1) (by omega) (by omega))
  refine g_lstore_n (pc := 4) (lo2 := [(0, vR (b + 79)), (1, vR (b + 1)), (2, vJ (W : Int))]) dX8_tailOf_4 (by decide) rfl ?_
  refine g_aload_n (pc := 5) (r := .inl (some (b + 1))) dX8_tailOf_5 rfl ?_
  refine g_aload_n (pc := 6) (r := .inl (some (b + 79))) dX8_tailOf_6 rfl ?_
  refine g_getf (pc := 7) (v := vR (b + 91)) flX8_34 dX8_tailOf_7 r1 rfl ?_
  refine g_callS0 (pc := 10) (as := [vR (b + 1), vR (b + 91)]) (st := []) lsX8_80 dX8_tailOf_10 (Nat.le_of_ble_eq_true rfl) (by omega) (Nat.zero_le _) (Nat.zero_le _) (c_copyRow (d := d + 5) hY1 r5) ?_
  rintro r h2 ⟨rfl, d1, d2⟩
  have r1_1 := r1.keep (d2 _ (by omega))
  have hY2 := hY1.keep (d2 (b + 1) (by omega))
  have r6c := r6.keep (d2 (b + 92) (by omega))
  refine g_aload_n (pc := 13) (r := .inl (some (b + 1))) dX8_tailOf_13 rfl ?_
  refine g_aload_n (pc := 14) (r := .inl (some (b + 79))) dX8_tailOf_14 rfl ?_
  refine g_getf (pc := 15) (v := vR (b + 92)) flX8_37 dX8_tailOf_15 r1_1 rfl ?_
  refine g_callS0 (pc := 18) (as := [vR (b + 1), vR (b + 92)]) (st := []) lsX8_80 dX8_tailOf_18 (Nat.le_of_ble_eq_true rfl) (by omega) (Nat.zero_le _) (Nat.zero_le _) (c_copyRow (d := d + 5) hY2 r6c) ?_
  rintro r h3 ⟨rfl, d3, d4⟩
  have r1_2 := r1_1.keep (d4 _ (by omega))
  have w2 := c1.keep (h2 := h3) (fun a z1 z2 => (d4 a (by omega)).trans (d2 a (by omega)))
  obtain ⟨kn, F, hPX, hF⟩ := id w2
  have h92 : Hd (0, 0, N) h3 (b + 92) (eA 0 4 (va_cpy Y f6 0 0 4)) := ⟨r6.1, d3⟩
  refine g_aload_n (pc := 21) (r := .inl (some (b + 79))) dX8_tailOf_21 rfl ?_
  refine g_getf (pc := 22) (v := vR (b + 12)) flX8_40 dX8_tailOf_22 r1_2 rfl ?_
  refine g_lload_n (pc := 25) (x := (W : Int)) dX8_tailOf_25 rfl ?_
  refine g_aload_n (pc := 26) (r := .inl (some (b + 79))) dX8_tailOf_26 rfl ?_
  refine g_getf (pc := 27) (v := vR (b + 92)) flX8_37 dX8_tailOf_27 r1_2 rfl ?_
  refine g_callV0 (pc := 30) (as := [vJ (W : Int), vR (b + 92)]) (b := b + 12) (st := []) lvX8_84 dX8_tailOf_30 hPX.1.1 (Nat.le_of_ble_eq_true rfl) (by omega) (Nat.zero_le _) (Nat.zero_le _) (c_carryRow (d := d + 3) (rr := b + 92) (t := W) hn hM hM2 (by omega) (by omega) hPX h92 (rng_cpy rY r6b) (fun r hr => by rw [cpy_lo (by omega)]; exact bY r hr)) ?_
  rintro r h4 ⟨rfl, ⟨kn2, F2, w3, w4, -⟩, k3, Y2, e2, rY2, eY2, -⟩
  have r1_3 := r1_2.keep (k3 _ (by omega) (by omega))
  rw [hF] at w4 eY2
  have kk : ∀ a, (a < b + 12 ∨ b + 79 ≤ a) → a ≠ b + 91 → a ≠ b + 92 → h4 a = h1 a := fun a z1 z2 z3 => (k3 a z3 (by omega)).trans ((d4 a z3).trans (d2 a z2))
  refine g_iconst (pc := 33) dX8_tailOf_33 ?_
  refine g_istore (pc := 34) (lo2 := [(0, vR (b + 79)), (1, vR (b + 1)), (2, vJ (W : Int)), (4, vI 0)]) dX8_tailOf_34 (by decide) rfl ?_
  refine Q_mono (tail_l (h0 := h4) hn hM hM2 hτ 32 0 _ h4 (by omega) rfl (fun s hs => absurd hs (Nat.not_lt_zero s)) r1_3 ⟨kn2, F2, w3, w4⟩ ⟨_, ⟨r5.1, (k3 _ (by omega) (by omega)).trans ((d4 _ (by omega)).trans d1)⟩, rng_cpy rY r5b, fun r hr => ?_⟩ ⟨Y2, ⟨r6.1, e2⟩, rY2, fun r hr => ?_⟩ (fun _ _ _ _ => rfl)) ?_
  · rw [cpy_lo (by omega)]
    exact (rowS_0 hn hr ⟨(rY r).1, bY r hr⟩).symm
  · rw [Nat.zero_add, eY2 r hr, rowS_at hr]
    exact goF_congr (fun i hi => cpy_lo (by omega))
  · rintro r h5 ⟨g1, g2, g3, g5, g4⟩
    refine ⟨g1, g2, ?_, fun a ha => (g4 a (by omega) (by omega) (by omega)).trans ((kk a (by omega) (by omega) (by omega)).trans (c3 a (by omega) (by omega)))⟩
    have k4 : ∀ a, b + 79 ≤ a → a ≠ b + 91 → a ≠ b + 92 → h5 a = h1 a := fun a z1 z2 z3 => (g4 a z2 z3 (by omega)).trans (kk a (by omega) z2 z3)
    exact RDW.rd hW ⟨r1.keep (k4 _ (by omega) (by omega) (by omega)), r2.keep (k4 _ (by omega) (by omega) (by omega)) (k4 _ (by omega) (by omega) (by omega)), r3.keep (k4 _ (by omega) (by omega) (by omega)) (k4 _ (by omega) (by omega) (by omega)), r4.keep (k4 _ (by omega) (by omega) (by omega)), g3, g5, r7.keep (fun a z1 z2 => k4 a (by omega) (by omega) (by omega))⟩
