/-! ===== Rounds: platesFixed ===== -/
/-- the equations of the rows that t turns leave where they are -/
def fixM (n q : Nat) (A : Nat → Int) (t : Nat) (r c : Nat) : Int := if c = n then (-(mp (n + 1) q A t (5 * r + n))) % (q : Int) else (mp (n + 1) q A t (5 * r + c) - (if r = c then 1 else 0)) % (q : Int)
noncomputable def nfx (n q : Nat) (A : Nat → Int) (t : Nat) : Nat := SS q 0 n (fixM n q A t)
def prI (f : Nat → Nat) : Nat → Nat
  | 0 => 1
  | k + 1 => prI f k * f k
/-- how many rows t turns leave where they are -/
noncomputable def nfM (n M : Nat) (A : Nat → Int) (t : Nat) : Nat := prI (fun k => nfx n ((pe M k).1 ^ (pe M k).2) A t) (fcs M).length
theorem sub_emod1 (a b q : Int) : (a % q - b) % q = (a - b) % q := by
  rw [Int.sub_emod, Int.emod_emod, ← Int.sub_emod]
theorem neg_emod1 (a q : Int) : (-(a % q)) % q = (-a) % q := by
  have := sub_emod1 0 0 q
  have h1 := Int.mul_ediv_add_emod a q
  apply Int.emod_eq_emod_iff_emod_sub_eq_zero.mpr
  apply Int.emod_eq_zero_of_dvd
  exact ⟨a / q, by grind⟩
theorem SS_ext {q n : Nat} {F G : Nat → Nat → Int} (h : ∀ r c, r < n → c ≤ n → F r c = G r c) : SS q 0 n F = SS q 0 n G := by
  refine SS_congr (fun y => forall_congr' fun r => imp_congr_right fun z1 => imp_congr_right fun z2 => ?_)
  unfold eqn
  rw [h r n z2 (Nat.le_refl n), ss_congr (f := fun c => F r c * y c) (g := fun c => G r c * y c) (n - 0) 0 (fun c c1 c2 => by rw [h r c z2 (by omega)])]
theorem fix_au {n M q t : Nat} {A S : Nat → Int} (hn : n ≤ 4) (hqM : q ∣ M) (hS : au n S = mp (n + 1) M A t) : SS q 0 n (fun r c => if c = n then (-(S (5 * r + 4))) % (q : Int) else (S (5 * r + c) - (if r = c then 1 else 0)) % (q : Int)) = nfx n q A t := by
  refine SS_ext (fun r c hr hc => ?_)
  have key : ∀ c, c < n + 1 → au n S (5 * r + c) % (q : Int) = mp (n + 1) q A t (5 * r + c) := fun c _ => by rw [hS, ← mp_red hqM]
  unfold fixM
  by_cases hcn : c = n
  · have e2 : S (5 * r + 4) % (q : Int) = mp (n + 1) q A t (5 * r + n) := by
      rw [← key n (by omega), au_at hn (by omega) (by omega), if_neg (by omega), if_pos rfl]
    rw [if_pos hcn, if_pos hcn, ← e2, neg_emod1]
  · have e1 : S (5 * r + c) % (q : Int) = mp (n + 1) q A t (5 * r + c) := by
      rw [← key c (by omega), au_at hn (by omega) (by omega), if_neg (by omega), if_neg (by omega)]
    rw [if_neg hcn, if_neg hcn, ← e1, sub_emod1]

theorem pfx_l {N d b n M t Ls : Nat} {wh : Int} {A S sx : Nat → Int} {h0 : MH} (n1 : 1 ≤ n) (hn : n ≤ 4) (hM : 2 ≤ M) (hM2 : M ≤ 500) (rS : rng S) (eS : au n S = mp (n + 1) M A t) (hpc : PC N h0 b M) (hr0 : Hd (0, 0, N) h0 (b + 79) (eO 8 [vR (b + 12), vR (b + 7), vR (b + 80), vR (b + 82), vR (b + 84), vR (b + 90), vR (b + 91), vR (b + 92), vJ wh])) (hw0 : ∃ kn : Nat, Hd (0, 0, N) h0 (b + 12) (eO 6 [vR (b + 13), vR (b + 77), vR (b + 78), vI (kn : Int), vI (M : Int), vI (n : Int)])) (hS0 : Hd (0, 0, N) h0 (b + 90) (eA 0 20 S)) : ∀ (f i K : Nat) (xi : Int) (h : MH), i + f = 4 → xi = (i : Int) → K = prI (fun k => nfx n ((pe M k).1 ^ (pe M k).2) A t) (if i ≤ (fcs M).length then i else (fcs M).length) → EQ N h b → (∀ a2, (a2 < b + 84 ∨ b + 90 ≤ a2) → h a2 = h0 a2) → G mX8_platesFixed (d + 5, 0, 0, Ls, sx) 23 [(0, vR (b + 79)), (1, vJ (t : Int)), (3, vR (b + 90)), (4, vJ (K : Int)), (6, vR (b + 7)), (7, vI 4), (8, vI xi)] [] (0, 0, N) h (Pq mX8_platesFixed 0 0 (fun r9 h2 => r9 = some (vJ ((nfM n M A t : Nat) : Int)) ∧ EQ N h2 b ∧ ∀ a2, (a2 < b + 84 ∨ b + 90 ≤ a2) → h2 a2 = h0 a2)) := by
  intro f
  induction f with
  | zero =>
    intro i K xi h hf ex eK he hk
    have hlen := (fcs_ok hM hM2).1
    have hr := hr0.keep (hk (b + 79) (by omega))
    have hpa := hpc.1.keep (hk (b + 7) (by omega))
    have eK2 : K = nfM n M A t := by
      rw [eK]
      unfold nfM
      congr 1
      split <;> omega
    refine g_iload (pc := 23) (x := xi) dX8_platesFixed_23 rfl ?_
    refine g_iload (pc := 25) (x := 4) dX8_platesFixed_25 rfl ?_
    refine g_icmp_geT (pc := 27) (tgt := 77) dX8_platesFixed_27 (by decide) (by omega) (by omega) (by omega) ?_
    refine g_lload (pc := 77) (x := (K : Int)) dX8_platesFixed_77 rfl ?_
    rw [eK2]
    exact r_long (pc := 79) dX8_platesFixed_79 rfl rfl (Nat.le_refl _) ⟨rfl, he, hk⟩
  | succ f ih =>
    intro i K xi h hf ex eK he hk
    have hlen := (fcs_ok hM hM2).1
    have hr := hr0.keep (hk (b + 79) (by omega))
    have hpa := hpc.1.keep (hk (b + 7) (by omega))
    have hci := (hpc.2 i (by omega)).keep (hk (b + 8 + i) (by omega))
    refine g_iload (pc := 23) (x := xi) dX8_platesFixed_23 rfl ?_
    refine g_iload (pc := 25) (x := 4) dX8_platesFixed_25 rfl ?_
    refine g_icmp_geF (pc := 27) (tgt := 77) dX8_platesFixed_27 (by decide) (by omega) (by omega) (by omega) ?_
    refine g_aload (pc := 30) (r := .inl (some (b + 7))) dX8_platesFixed_30 rfl ?_
    refine g_iload (pc := 32) (x := xi) dX8_platesFixed_32 rfl ?_
    refine g_aaldN (pc := 34) (j := i) dX8_platesFixed_34 hpa (by decide) (by omega) (by omega) (by omega) ?_
    rw [rwF_at (b := b + 8) (n := 4) (i := i) (by omega)]
    refine g_astore (pc := 35) (r := .inl (some (b + 8 + i))) (lo2 := [(0, vR (b + 79)), (1, vJ (t : Int)), (3, vR (b + 90)), (4, vJ (K : Int)), (6, vR (b + 7)), (7, vI 4), (8, vI xi), (9, vR (b + 8 + i))]) dX8_platesFixed_35 (by decide) rfl ?_
    by_cases hi : i < (fcs M).length
    · obtain ⟨b1, b2, b3, b4⟩ := (fcs_ok hM hM2).2.1 _ (pe_mem hi)
      have hb : (pe M i).1 ^ (pe M i).2 ≤ 500 := Nat.le_trans (Nat.le_of_dvd (by omega) b4) hM2
      have hb1 : 2 ≤ (pe M i).1 ^ (pe M i).2 := by
        have := Nat.pow_le_pow_right (show 0 < (pe M i).1 by have := b1.1; omega) b3
        rw [Nat.pow_one] at this
        have := b1.1
        omega
      obtain ⟨q, eq⟩ : ∃ q, q = (pe M i).1 ^ (pe M i).2 := ⟨_, rfl⟩
      rw [← eq] at hb hb1 b4
      have hci2 : Hd (0, 0, N) h (b + 8 + i) (eO 4 [vI ((pe M i).1 : Int), vI (q : Int), vI ((pe M i).2 : Int)]) := by rw [eq]; exact hci
      obtain ⟨kn, hpo0⟩ := hw0
      have hpo := hpo0.keep (hk (b + 12) (by omega))
      obtain ⟨⟨s9, p9, lr9, lc9, heo⟩, -⟩ := id he
      have hS := hS0.keep (hk (b + 90) (by omega))
      refine g_aload (pc := 37) (r := .inl (some (b + 8 + i))) dX8_platesFixed_37 rfl ?_
      refine g_getf (pc := 39) (v := vI (q : Int)) flX8_55 dX8_platesFixed_39 hci2 rfl ?_
      refine g_iconst (pc := 42) dX8_platesFixed_42 ?_
      refine g_icmp_leF (pc := 43) (tgt := 71) dX8_platesFixed_43 (by decide) (by omega) (by omega) (by omega) ?_
      refine g_lload (pc := 46) (x := (K : Int)) dX8_platesFixed_46 rfl ?_
      refine g_aload_n (pc := 48) (r := .inl (some (b + 79))) dX8_platesFixed_48 rfl ?_
      refine g_getf (pc := 49) (v := vR (b + 84)) flX8_24 dX8_platesFixed_49 hr rfl ?_
      refine g_aload_n (pc := 52) (r := .inl (some (b + 90))) dX8_platesFixed_52 rfl ?_
      refine g_aload_n (pc := 53) (r := .inl (some (b + 79))) dX8_platesFixed_53 rfl ?_
      refine g_getf (pc := 54) (v := vR (b + 12)) flX8_40 dX8_platesFixed_54 hr rfl ?_
      refine g_getf (pc := 57) (v := vI (n : Int)) flX8_117 dX8_platesFixed_57 hpo rfl ?_
      refine g_aload (pc := 60) (r := .inl (some (b + 8 + i))) dX8_platesFixed_60 rfl ?_
      refine g_getf (pc := 62) (v := vI (q : Int)) flX8_55 dX8_platesFixed_62 hci2 rfl ?_
      refine g_callV0 (pc := 65) (as := [vR (b + 90), vI (n : Int), vI (q : Int)]) (b := b + 84) (st := [vJ (K : Int)]) lvX8_120 dX8_platesFixed_65 heo (Nat.le_of_ble_eq_true rfl) (by omega) (Nat.zero_le _) (Nat.zero_le _) (c_countFixed (d := d) (p := (pe M i).1) (k := (pe M i).2) (q := q) hn b1 eq hb1 hb rS he hS) ?_
      rintro r8 h2 ⟨e9, he2, k2⟩
      subst e9
      rw [fix_au hn b4 eS]
      refine g_lmul (pc := 68) dX8_platesFixed_68 ?_
      refine g_lstore (pc := 69) (lo2 := [(0, vR (b + 79)), (1, vJ (t : Int)), (3, vR (b + 90)), (4, vJ ((K : Int) * ((nfx n q A t : Nat) : Int))), (6, vR (b + 7)), (7, vI 4), (8, vI xi), (9, vR (b + 8 + i))]) dX8_platesFixed_69 (by decide) rfl ?_
      refine g_iinc (pc := 71) (x := xi) (lo2 := [(0, vR (b + 79)), (1, vJ (t : Int)), (3, vR (b + 90)), (4, vJ ((K : Int) * ((nfx n q A t : Nat) : Int))), (6, vR (b + 7)), (7, vI 4), (8, vI (xi + 1)), (9, vR (b + 8 + i))]) dX8_platesFixed_71 rfl (by decide) rfl ?_
      refine g_goto (pc := 74) (tgt := 23) dX8_platesFixed_74 (by decide) ?_
      rw [← Int.natCast_mul]
      refine g_pick [0, 1, 2, 3, 4, 5, 6] (lo2 := [(0, vR (b + 79)), (1, vJ (t : Int)), (3, vR (b + 90)), (4, vJ ((K : Int) * ((nfx n q A t : Nat) : Int))), (6, vR (b + 7)), (7, vI 4), (8, vI (xi + 1))]) rfl ?_
      refine ih (i + 1) (K * nfx n q A t) _ h2 (by omega) (by omega) ?_ he2 (fun a2 z1 => (k2 a2 z1).trans (hk a2 z1))
      rw [eK, if_pos (show i ≤ (fcs M).length by omega), if_pos (show i + 1 ≤ (fcs M).length by omega), eq]
      rfl
    · have hpo := pe_out (M := M) (i := i) (by omega)
      have hpw : (pe M i).1 ^ (pe M i).2 = 1 := by rw [hpo]; rfl
      refine g_aload (pc := 37) (r := .inl (some (b + 8 + i))) dX8_platesFixed_37 rfl ?_
      refine g_getf (pc := 39) (v := vI (((pe M i).1 ^ (pe M i).2 : Nat) : Int)) flX8_55 dX8_platesFixed_39 hci rfl ?_
      refine g_iconst (pc := 42) dX8_platesFixed_42 ?_
      refine g_icmp_leT (pc := 43) (tgt := 71) dX8_platesFixed_43 (by decide) (by omega) (by omega) (by omega) ?_
      refine g_iinc (pc := 71) (x := xi) (lo2 := [(0, vR (b + 79)), (1, vJ (t : Int)), (3, vR (b + 90)), (4, vJ (K : Int)), (6, vR (b + 7)), (7, vI 4), (8, vI (xi + 1)), (9, vR (b + 8 + i))]) dX8_platesFixed_71 rfl (by decide) rfl ?_
      refine g_goto (pc := 74) (tgt := 23) dX8_platesFixed_74 (by decide) ?_
      refine g_pick [0, 1, 2, 3, 4, 5, 6] (lo2 := [(0, vR (b + 79)), (1, vJ (t : Int)), (3, vR (b + 90)), (4, vJ (K : Int)), (6, vR (b + 7)), (7, vI 4), (8, vI (xi + 1))]) rfl ?_
      refine ih (i + 1) K _ h (by omega) (by omega) ?_ he hk
      rw [eK]
      congr 1
      repeat' split
      all_goals omega

theorem c_platesFixed {N d b n M t : Nat} {T : Nat → Int} {h : MH} (n1 : 1 ≤ n) (hn : n ≤ 4) (hM : 2 ≤ M) (hM2 : M ≤ 500) (ht : t < 9223372036854775808) (hpc : PC N h b M) (hw : PT N h (b + 12) M n T) (hd : RD N h b M n T) : Ok mX8_platesFixed (d + 5) 0 0 [vR (b + 79), vJ (t : Int)] N h (fun r9 h2 => r9 = some (vJ ((nfM n M (au n T) t : Nat) : Int)) ∧ PT N h2 (b + 12) M n T ∧ RD N h2 b M n T ∧ (∀ a2, a2 ≠ b + 90 → (a2 < b + 12 ∨ (b + 79 ≤ a2 ∧ a2 < b + 84) ∨ b + 90 ≤ a2) → h2 a2 = h a2)) := by
  refine Ok.of pfX8_platesFixed rfl (Nat.le_of_ble_eq_true rfl) (fun Ls sx => ?_)
  show G mX8_platesFixed (d + 5, 0, 0, Ls, sx) 0 [(0, vR (b + 79)), (1, vJ (t : Int))] [] (0, 0, N) h _
  obtain ⟨wh, r1, r2, r3, r4, r5, r6, r7⟩ := id hd
  obtain ⟨kn, F, hPX, hF⟩ := id hw
  refine g_aload_n (pc := 0) (r := .inl (some (b + 79))) dX8_platesFixed_0 rfl ?_
  refine g_lload_n (pc := 1) (x := (t : Int)) dX8_platesFixed_1 rfl ?_
  refine g_callV0 (pc := 2) (as := [vJ (t : Int)]) (b := b + 79) (st := []) lvX8_107 dX8_platesFixed_2 r1 (Nat.le_of_ble_eq_true rfl) (by omega) (Nat.zero_le _) (Nat.zero_le _) (c_stepOf (d := d) hn hM hM2 ht r1 hPX r4) ?_
  rintro r8 h1 ⟨rfl, ⟨kn2, F2, w1, w2⟩, k1, S, hS, rS, eS⟩
  rw [hF] at w2 eS
  have r1_1 := r1.keep (k1 _ (by omega) (by omega))
  refine g_astore_n (pc := 5) (r := .inl (some (b + 90))) (lo2 := [(0, vR (b + 79)), (1, vJ (t : Int)), (3, vR (b + 90))]) dX8_platesFixed_5 (by decide) rfl ?_
  refine g_lconst1 (pc := 6) dX8_platesFixed_6 ?_
  refine g_lstore (pc := 7) (lo2 := [(0, vR (b + 79)), (1, vJ (t : Int)), (3, vR (b + 90)), (4, vJ 1)]) dX8_platesFixed_7 (by decide) rfl ?_
  refine g_aload_n (pc := 9) (r := .inl (some (b + 79))) dX8_platesFixed_9 rfl ?_
  refine g_getf (pc := 10) (v := vR (b + 7)) flX8_44 dX8_platesFixed_10 r1_1 rfl ?_
  refine g_astore (pc := 13) (r := .inl (some (b + 7))) (lo2 := [(0, vR (b + 79)), (1, vJ (t : Int)), (3, vR (b + 90)), (4, vJ 1), (6, vR (b + 7))]) dX8_platesFixed_13 (by decide) rfl ?_
  refine g_aload (pc := 15) (r := .inl (some (b + 7))) dX8_platesFixed_15 rfl ?_
  refine g_qlen (pc := 17) dX8_platesFixed_17 (hpc.1.keep (k1 (b + 7) (by omega) (by omega))) (by decide) ?_
  refine g_istore (pc := 18) (lo2 := [(0, vR (b + 79)), (1, vJ (t : Int)), (3, vR (b + 90)), (4, vJ 1), (6, vR (b + 7)), (7, vI ((4 : Nat) : Int))]) dX8_platesFixed_18 (by decide) rfl ?_
  refine g_iconst (pc := 20) dX8_platesFixed_20 ?_
  refine g_istore (pc := 21) (lo2 := [(0, vR (b + 79)), (1, vJ (t : Int)), (3, vR (b + 90)), (4, vJ 1), (6, vR (b + 7)), (7, vI ((4 : Nat) : Int)), (8, vI 0)]) dX8_platesFixed_21 (by decide) rfl ?_
  refine Q_mono (pfx_l (h0 := h1) (A := au n T) n1 hn hM hM2 rS eS (hpc.keep (fun a z1 z2 => k1 a (by omega) (by omega))) r1_1 ⟨kn2, w1.1.1⟩ hS 4 0 1 _ h1 (by omega) rfl rfl (r7.keep (fun a z1 z2 => k1 a (by omega) (by omega))) (fun _ _ => rfl)) ?_
  rintro r9 h2 ⟨e1, e2, e3⟩
  have kk : ∀ a, a ≠ b + 90 → (a < b + 12 ∨ (b + 79 ≤ a ∧ a < b + 84) ∨ b + 90 ≤ a) → h2 a = h a := fun a z1 z2 => (e3 a (by omega)).trans (k1 a z1 (by omega))
  refine ⟨e1, (show PT N h1 (b + 12) M n T from ⟨kn2, F2, w1, w2⟩).keep (fun a z1 z2 => e3 a (by omega)), ⟨wh, r1.keep (kk _ (by omega) (by omega)), ?_, r3.keep (kk _ (by omega) (by omega)) (kk _ (by omega) (by omega)), ⟨S, hS.keep (e3 _ (by omega)), rS⟩, r5.keep (kk _ (by omega) (by omega)), r6.keep (kk _ (by omega) (by omega)), e2⟩, kk⟩
  rcases r2 with ⟨e, z⟩ | ⟨W, e, z1, z2⟩
  · exact Or.inl ⟨e, z.keep (kk _ (by omega) (by omega)) (kk _ (by omega) (by omega))⟩
  · exact Or.inr ⟨W, e, z1, z2.keep (kk _ (by omega) (by omega)) (kk _ (by omega) (by omega))⟩
