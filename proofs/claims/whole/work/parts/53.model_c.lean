/-! ===== the reference: plateIs, beginsBase, powers ===== -/
theorem plateIs_l {κ : KX} {N : Nat} {x : Nat} {th wd pm fm mu um pr ts : Int} {i n q : Nat} {Sz Pl : Nat → Int} (hn : n ≤ 4) (hi : i < 6) (hz : Sz i = (n : Int)) (hq : 0 < q) (hq2 : q ≤ 500) (rP : rng Pl) {P : Option MV → MH → Prop} : ∀ (k j : Nat) (xj : Int) (h : MH) (Y : Nat → Int), j + k = n → xj = (j : Int) → Hd (0, 0, N) h x (mdl x th wd pm fm mu um pr ts) → Hd (0, 0, N) h (x + 4) (eA 0 6 Sz) → Hd (0, 0, N) h (x + 7) (eA 0 24 Pl) → Hd (0, 0, N) h (x + 13) (eA 0 4 Y) → (∀ h2 Y2, Hd (0, 0, N) h2 (x + 13) (eA 0 4 Y2) → (∀ b, b ≠ x + 13 → h2 b = h b) → (∀ a, j ≤ a → a < n → Y2 a = Pl (4 * i + a) % q) → (∀ a, (a < j ∨ n ≤ a) → Y2 a = Y a) → P none h2) → G mX11_plateIs κ 2 [(0, vR x), (1, vI (i : Int)), (2, vI (q : Int)), (3, vI xj)] [] (0, 0, N) h (Pq mX11_plateIs 0 0 P) := by
  intro k
  induction k with
  | zero =>
    intro j xj h Y hk ex hx hZ hP hY hK
    refine g_iload_n (pc := 2) (x := xj) dX11_plateIs_2 rfl ?_
    refine g_aload_n (pc := 3) (r := .inl (some x)) dX11_plateIs_3 rfl ?_
    refine g_getf (pc := 4) (v := vR (x + 4)) flX11_20 dX11_plateIs_4 hx rfl ?_
    refine g_iload_n (pc := 7) (x := (i : Int)) dX11_plateIs_7 rfl ?_
    refine g_ialdN (pc := 8) (j := i) dX11_plateIs_8 hZ (by omega) (by omega) (by omega) ?_
    refine g_icmp_geT (pc := 9) (tgt := 36) dX11_plateIs_9 (by decide) (by omega) (by omega) (by omega) ?_
    exact r_void (pc := 36) dX11_plateIs_36 rfl rfl (Nat.le_refl _) (hK h Y hY (fun _ _ => rfl) (fun a _ _ => by omega) (fun _ _ => rfl))
  | succ k ih =>
    intro j xj h Y hk ex hx hZ hP hY hK
    have r1 := rP (4 * i + j)
    have e9 : (Pl (4 * i + j)).tmod (q : Int) = Pl (4 * i + j) % q := Int.tmod_eq_emod_of_nonneg r1.1
    refine g_iload_n (pc := 2) (x := xj) dX11_plateIs_2 rfl ?_
    refine g_aload_n (pc := 3) (r := .inl (some x)) dX11_plateIs_3 rfl ?_
    refine g_getf (pc := 4) (v := vR (x + 4)) flX11_20 dX11_plateIs_4 hx rfl ?_
    refine g_iload_n (pc := 7) (x := (i : Int)) dX11_plateIs_7 rfl ?_
    refine g_ialdN (pc := 8) (j := i) dX11_plateIs_8 hZ (by omega) (by omega) (by omega) ?_
    refine g_icmp_geF (pc := 9) (tgt := 36) dX11_plateIs_9 (by decide) (by omega) (by omega) (by omega) ?_
    refine g_aload_n (pc := 12) (r := .inl (some x)) dX11_plateIs_12 rfl ?_
    refine g_getf (pc := 13) (v := vR (x + 13)) flX11_48 dX11_plateIs_13 hx rfl ?_
    refine g_iload_n (pc := 16) (x := xj) dX11_plateIs_16 rfl ?_
    refine g_aload_n (pc := 17) (r := .inl (some x)) dX11_plateIs_17 rfl ?_
    refine g_getf (pc := 18) (v := vR (x + 7)) flX11_29 dX11_plateIs_18 hx rfl ?_
    refine g_iconst (pc := 21) dX11_plateIs_21 ?_
    refine g_iload_n (pc := 22) (x := (i : Int)) dX11_plateIs_22 rfl ?_
    refine g_imul (pc := 23) dX11_plateIs_23 ?_
    refine g_iload_n (pc := 24) (x := xj) dX11_plateIs_24 rfl ?_
    refine g_iadd (pc := 25) dX11_plateIs_25 ?_
    refine g_ialdN (pc := 26) (j := 4 * i + j) dX11_plateIs_26 hP (by omega) (by omega) (by omega) ?_
    refine g_iload_n (pc := 27) (x := (q : Int)) dX11_plateIs_27 rfl ?_
    refine g_irem (pc := 28) dX11_plateIs_28 (by omega) (by omega) (by omega) ?_
    refine g_iastN (pc := 29) (j := j) dX11_plateIs_29 hY (by omega) (by omega) (by omega) ?_
    have hx_1 := hx.ne (e := eA 0 4 (va_up Y j ((Pl (4 * i + j)).tmod (q : Int)))) (a := x + 13) (by omega)
    have hZ_1 := hZ.ne (e := eA 0 4 (va_up Y j ((Pl (4 * i + j)).tmod (q : Int)))) (a := x + 13) (by omega)
    have hP_1 := hP.ne (e := eA 0 4 (va_up Y j ((Pl (4 * i + j)).tmod (q : Int)))) (a := x + 13) (by omega)
    have hY_1 := hY.self (e := eA 0 4 (va_up Y j ((Pl (4 * i + j)).tmod (q : Int))))
    refine g_iinc (pc := 30) (x := xj) (lo2 := [(0, vR x), (1, vI (i : Int)), (2, vI (q : Int)), (3, vI (xj + 1))]) dX11_plateIs_30 rfl (by decide) rfl ?_
    refine g_goto (pc := 33) (tgt := 2) dX11_plateIs_33 (by decide) ?_
    refine ih (j + 1) (xj + 1) _ _ (by omega) (by omega) hx_1 hZ_1 hP_1 hY_1 (fun h2 Y2 q1 q2 q3 q4 => hK h2 Y2 q1 (fun b hb => (q2 b hb).trans (va_up_ne _ _ hb)) (fun a a1 a2 => ?_) (fun a a1 => ?_))
    · by_cases hj : a = j
      · subst hj
        rw [q4 _ (by omega), va_up_self, e9]
      · exact q3 a (by omega) a2
    · rw [q4 a (by omega), va_up_ne _ _ (by omega)]

theorem c_plateIs {N : Nat} {x : Nat} {th wd pm fm mu um pr ts : Int} {i n q : Nat} {Sz Pl : Nat → Int} (hn : n ≤ 4) (hi : i < 6) (hz : Sz i = (n : Int)) (hq : 0 < q) (hq2 : q ≤ 500) (rP : rng Pl) {d : Nat} {Y : Nat → Int} {h : MH} (hx : Hd (0, 0, N) h x (mdl x th wd pm fm mu um pr ts)) (hZ : Hd (0, 0, N) h (x + 4) (eA 0 6 Sz)) (hP : Hd (0, 0, N) h (x + 7) (eA 0 24 Pl)) (hY : Hd (0, 0, N) h (x + 13) (eA 0 4 Y)) : Ok mX11_plateIs d 0 0 [vR x, vI (i : Int), vI (q : Int)] N h (fun r h2 => r = none ∧ (∀ b, b ≠ x + 13 → h2 b = h b) ∧ ∃ Y2, h2 (x + 13) = eA 0 4 Y2 ∧ (∀ j, j < n → Y2 j = Pl (4 * i + j) % q) ∧ ∀ j, n ≤ j → Y2 j = Y j) := by
  refine Ok.of pfX11_plateIs rfl (Nat.le_of_ble_eq_true rfl) (fun Ls sx => ?_)
  show G mX11_plateIs (d, 0, 0, Ls, sx) 0 [(0, vR x), (1, vI (i : Int)), (2, vI (q : Int))] [] (0, 0, N) h _
  refine g_iconst (pc := 0) dX11_plateIs_0 ?_
  refine g_istore_n (pc := 1) (lo2 := [(0, vR x), (1, vI (i : Int)), (2, vI (q : Int)), (3, vI 0)]) dX11_plateIs_1 (by decide) rfl ?_
  exact plateIs_l hn hi hz hq hq2 rP n 0 _ h Y (by omega) rfl hx hZ hP hY (fun h2 T2 q1 q2 q3 q4 => ⟨rfl, q2, T2, q1.2, fun j hj => q3 j (Nat.zero_le _) hj, fun j hj => q4 j (Or.inr hj)⟩)

/-- the table with its MORE, of the arrays Tb and Mo, for mill i; rests modulo q -/
def baF (n q i : Nat) (Tb Mo : Nat → Int) (j : Nat) : Int := if j / 5 < n + 1 ∧ j % 5 < n + 1 then (if j / 5 = n then (if j % 5 = n then 1 else 0) else if j % 5 = n then Mo (4 * i + j / 5) else Tb (16 * i + 4 * (j / 5) + j % 5)) % (q : Int) else 0
theorem base_l1 {κ : KX} {N : Nat} {x : Nat} {th pm fm mu um pr ts : Int} {i n q : Nat} {Tb Mo : Nat → Int} {Q : Option MV → MR → MH → Prop} (hn : n ≤ 4) (hi : i < 6) (hq : 0 < q) (hq2 : q ≤ 500) (rT : rng Tb) (rM : rng Mo) {r : Nat} (hr : r < n + 1) {x4 : Int} (h4 : x4 = (r : Int)) : ∀ (k c : Nat) (x5 : Int) (h : MH) (B : Nat → Int), c + k = n + 1 → x5 = (c : Int) → Hd (0, 0, N) h x (mdl x th ((n + 1 : Nat) : Int) pm fm mu um pr ts) → Hd (0, 0, N) h (x + 5) (eA 0 96 Tb) → Hd (0, 0, N) h (x + 6) (eA 0 24 Mo) → Hd (0, 0, N) h (x + 10) (eA 0 25 B) → (∀ h2 B2, Hd (0, 0, N) h2 (x + 10) (eA 0 25 B2) → (∀ b, b ≠ x + 10 → h2 b = h b) → (∀ j, c ≤ j → j < n + 1 → B2 (5 * r + j) = baF n q i Tb Mo (5 * r + j)) → (∀ j, (j < 5 * r + c ∨ 5 * r + (n + 1) ≤ j) → B2 j = B j) → G mX11_beginsBase κ 119 [(0, vR x), (1, vI (i : Int)), (2, vI (q : Int)), (3, vI (n : Int)), (4, vI x4)] [] (0, 0, N) h2 Q) → G mX11_beginsBase κ 29 [(0, vR x), (1, vI (i : Int)), (2, vI (q : Int)), (3, vI (n : Int)), (4, vI x4), (5, vI x5)] [] (0, 0, N) h Q := by
  intro k
  induction k with
  | zero =>
    intro c x5 h B hk ex hx hTb hMo hB hK
    refine g_iload (pc := 29) (x := x5) dX11_beginsBase_29 rfl ?_
    refine g_aload_n (pc := 31) (r := .inl (some x)) dX11_beginsBase_31 rfl ?_
    refine g_getf (pc := 32) (v := vI ((n + 1 : Nat) : Int)) flX11_120 dX11_beginsBase_32 hx rfl ?_
    refine g_icmp_geT (pc := 35) (tgt := 119) dX11_beginsBase_35 (by decide) (by omega) (by omega) (by omega) ?_
    refine g_pick [0, 1, 2, 3, 4] (lo2 := [(0, vR x), (1, vI (i : Int)), (2, vI (q : Int)), (3, vI (n : Int)), (4, vI x4)]) rfl ?_
    exact hK h B hB (fun _ _ => rfl) (fun j _ _ => by omega) (fun _ _ => rfl)
  | succ k ih =>
    intro c x5 h B hk ex hx hTb hMo hB hK
    refine g_iload (pc := 29) (x := x5) dX11_beginsBase_29 rfl ?_
    refine g_aload_n (pc := 31) (r := .inl (some x)) dX11_beginsBase_31 rfl ?_
    refine g_getf (pc := 32) (v := vI ((n + 1 : Nat) : Int)) flX11_120 dX11_beginsBase_32 hx rfl ?_
    refine g_icmp_geF (pc := 35) (tgt := 119) dX11_beginsBase_35 (by decide) (by omega) (by omega) (by omega) ?_
    obtain ⟨d1, d2⟩ := dm5 (w := n + 1) (r := r) (by omega) (show c < n + 1 by omega)
    have tl : ∀ v : Int, 0 ≤ v → v < 500 → v % (q : Int) = baF n q i Tb Mo (5 * r + c) → G mX11_beginsBase κ 95 [(0, vR x), (1, vI (i : Int)), (2, vI (q : Int)), (3, vI (n : Int)), (4, vI x4), (5, vI x5)] [vI v] (0, 0, N) h Q := by
      intro v v0 v1 ev
      refine g_istore (pc := 95) (lo2 := [(0, vR x), (1, vI (i : Int)), (2, vI (q : Int)), (3, vI (n : Int)), (4, vI x4), (5, vI x5), (6, vI v)]) dX11_beginsBase_95 (by decide) rfl ?_
      refine g_aload_n (pc := 97) (r := .inl (some x)) dX11_beginsBase_97 rfl ?_
      refine g_getf (pc := 98) (v := vR (x + 10)) flX11_39 dX11_beginsBase_98 hx rfl ?_
      refine g_iconst (pc := 101) dX11_beginsBase_101 ?_
      refine g_iload (pc := 102) (x := x4) dX11_beginsBase_102 rfl ?_
      refine g_imul (pc := 104) dX11_beginsBase_104 ?_
      refine g_iload (pc := 105) (x := x5) dX11_beginsBase_105 rfl ?_
      refine g_iadd (pc := 107) dX11_beginsBase_107 ?_
      refine g_iload (pc := 108) (x := v) dX11_beginsBase_108 rfl ?_
      refine g_iload_n (pc := 110) (x := (q : Int)) dX11_beginsBase_110 rfl ?_
      refine g_irem (pc := 111) dX11_beginsBase_111 (by omega) (by omega) (by omega) ?_
      have e9 : v.tmod (q : Int) = baF n q i Tb Mo (5 * r + c) := (Int.tmod_eq_emod_of_nonneg v0).trans ev
      refine g_iastN (pc := 112) (j := 5 * r + c) dX11_beginsBase_112 hB (by omega) (by omega) (by omega) ?_
      have hx_1 := hx.ne (e := eA 0 25 (va_up B (5 * r + c) (v.tmod (q : Int)))) (a := x + 10) (by omega)
      have hTb_1 := hTb.ne (e := eA 0 25 (va_up B (5 * r + c) (v.tmod (q : Int)))) (a := x + 10) (by omega)
      have hMo_1 := hMo.ne (e := eA 0 25 (va_up B (5 * r + c) (v.tmod (q : Int)))) (a := x + 10) (by omega)
      have hB_1 := hB.self (e := eA 0 25 (va_up B (5 * r + c) (v.tmod (q : Int))))
      refine g_iinc (pc := 113) (x := x5) (lo2 := [(0, vR x), (1, vI (i : Int)), (2, vI (q : Int)), (3, vI (n : Int)), (4, vI x4), (5, vI (x5 + 1)), (6, vI v)]) dX11_beginsBase_113 rfl (by decide) rfl ?_
      refine g_goto (pc := 116) (tgt := 29) dX11_beginsBase_116 (by decide) ?_
      refine g_pick [0, 1, 2, 3, 4, 5] (lo2 := [(0, vR x), (1, vI (i : Int)), (2, vI (q : Int)), (3, vI (n : Int)), (4, vI x4), (5, vI (x5 + 1))]) rfl ?_
      refine ih (c + 1) (x5 + 1) _ _ (by omega) (by omega) hx_1 hTb_1 hMo_1 hB_1 (fun h2 B2 q1 q2 q3 q4 => hK h2 B2 q1 (fun b hb => (q2 b hb).trans (va_up_ne _ _ hb)) (fun j a1 a2 => ?_) (fun j a1 => ?_))
      · by_cases hj : j = c
        · subst hj
          rw [q4 _ (by omega), va_up_self, e9]
        · exact q3 j (by omega) a2
      · rw [q4 j (by omega), va_up_ne _ _ (by omega)]
    unfold baF at tl
    rw [d1, d2, if_pos ⟨hr, (by omega)⟩] at tl
    refine g_iload (pc := 38) (x := x4) dX11_beginsBase_38 rfl ?_
    refine g_iload_n (pc := 40) (x := (n : Int)) dX11_beginsBase_40 rfl ?_
    refine g_icmp_ne (pc := 41) (tgt := 58) dX11_beginsBase_41 (by decide) (by omega) (by omega) (fun hrn => ?_) (fun hrn => ?_)
    · rw [if_neg (by omega)] at tl
      refine g_iload (pc := 58) (x := x5) dX11_beginsBase_58 rfl ?_
      refine g_iload_n (pc := 60) (x := (n : Int)) dX11_beginsBase_60 rfl ?_
      refine g_icmp_ne (pc := 61) (tgt := 78) dX11_beginsBase_61 (by decide) (by omega) (by omega) (fun hcn => ?_) (fun hcn => ?_)
      · rw [if_neg (by omega)] at tl
        refine g_aload_n (pc := 78) (r := .inl (some x)) dX11_beginsBase_78 rfl ?_
        refine g_getf (pc := 79) (v := vR (x + 5)) flX11_23 dX11_beginsBase_79 hx rfl ?_
        refine g_bipush (pc := 82) dX11_beginsBase_82 (by decide +kernel) ?_
        refine g_iload_n (pc := 84) (x := (i : Int)) dX11_beginsBase_84 rfl ?_
        refine g_imul (pc := 85) dX11_beginsBase_85 ?_
        refine g_iconst (pc := 86) dX11_beginsBase_86 ?_
        refine g_iload (pc := 87) (x := x4) dX11_beginsBase_87 rfl ?_
        refine g_imul (pc := 89) dX11_beginsBase_89 ?_
        refine g_iadd (pc := 90) dX11_beginsBase_90 ?_
        refine g_iload (pc := 91) (x := x5) dX11_beginsBase_91 rfl ?_
        refine g_iadd (pc := 93) dX11_beginsBase_93 ?_
        refine g_ialdN (pc := 94) (j := 16 * i + 4 * r + c) dX11_beginsBase_94 hTb (by omega) (by omega) (by omega) ?_
        exact tl _ (rT _).1 (rT _).2 rfl
      · rw [if_pos (by omega)] at tl
        refine g_aload_n (pc := 64) (r := .inl (some x)) dX11_beginsBase_64 rfl ?_
        refine g_getf (pc := 65) (v := vR (x + 6)) flX11_26 dX11_beginsBase_65 hx rfl ?_
        refine g_iconst (pc := 68) dX11_beginsBase_68 ?_
        refine g_iload_n (pc := 69) (x := (i : Int)) dX11_beginsBase_69 rfl ?_
        refine g_imul (pc := 70) dX11_beginsBase_70 ?_
        refine g_iload (pc := 71) (x := x4) dX11_beginsBase_71 rfl ?_
        refine g_iadd (pc := 73) dX11_beginsBase_73 ?_
        refine g_ialdN (pc := 74) (j := 4 * i + r) dX11_beginsBase_74 hMo (by omega) (by omega) (by omega) ?_
        refine g_goto (pc := 75) (tgt := 95) dX11_beginsBase_75 (by decide) ?_
        exact tl _ (rM _).1 (rM _).2 rfl
    · rw [if_pos (by omega)] at tl
      refine g_iload (pc := 44) (x := x5) dX11_beginsBase_44 rfl ?_
      refine g_iload_n (pc := 46) (x := (n : Int)) dX11_beginsBase_46 rfl ?_
      refine g_icmp_ne (pc := 47) (tgt := 54) dX11_beginsBase_47 (by decide) (by omega) (by omega) (fun hcn => ?_) (fun hcn => ?_)
      · rw [if_neg (by omega)] at tl
        refine g_iconst (pc := 54) dX11_beginsBase_54 ?_
        refine g_goto (pc := 55) (tgt := 95) dX11_beginsBase_55 (by decide) ?_
        exact tl _ (by omega) (by omega) rfl
      · rw [if_pos (by omega)] at tl
        refine g_iconst (pc := 50) dX11_beginsBase_50 ?_
        refine g_goto (pc := 51) (tgt := 95) dX11_beginsBase_51 (by decide) ?_
        exact tl _ (by omega) (by omega) rfl

theorem base_l2 {κ : KX} {N : Nat} {x : Nat} {th pm fm mu um pr ts : Int} {i n q : Nat} {Tb Mo : Nat → Int} (hn : n ≤ 4) (hi : i < 6) (hq : 0 < q) (hq2 : q ≤ 500) (rT : rng Tb) (rM : rng Mo) {P : Option MV → MH → Prop} : ∀ (k r : Nat) (x4 : Int) (h : MH) (B : Nat → Int), r + k = n + 1 → x4 = (r : Int) → Hd (0, 0, N) h x (mdl x th ((n + 1 : Nat) : Int) pm fm mu um pr ts) → Hd (0, 0, N) h (x + 5) (eA 0 96 Tb) → Hd (0, 0, N) h (x + 6) (eA 0 24 Mo) → Hd (0, 0, N) h (x + 10) (eA 0 25 B) → (∀ h2 B2, Hd (0, 0, N) h2 (x + 10) (eA 0 25 B2) → (∀ b, b ≠ x + 10 → h2 b = h b) → (∀ j, 5 * r ≤ j → j / 5 < n + 1 → j % 5 < n + 1 → B2 j = baF n q i Tb Mo j) → (∀ j, (j < 5 * r ∨ ¬ (j / 5 < n + 1 ∧ j % 5 < n + 1)) → B2 j = B j) → P none h2) → G mX11_beginsBase κ 17 [(0, vR x), (1, vI (i : Int)), (2, vI (q : Int)), (3, vI (n : Int)), (4, vI x4)] [] (0, 0, N) h (Pq mX11_beginsBase 0 0 P) := by
  intro k
  induction k with
  | zero =>
    intro r x4 h B hk ex hx hTb hMo hB hK
    refine g_iload (pc := 17) (x := x4) dX11_beginsBase_17 rfl ?_
    refine g_aload_n (pc := 19) (r := .inl (some x)) dX11_beginsBase_19 rfl ?_
    refine g_getf (pc := 20) (v := vI ((n + 1 : Nat) : Int)) flX11_120 dX11_beginsBase_20 hx rfl ?_
    refine g_icmp_geT (pc := 23) (tgt := 125) dX11_beginsBase_23 (by decide) (by omega) (by omega) (by omega) ?_
    exact r_void (pc := 125) dX11_beginsBase_125 rfl rfl (Nat.le_refl _) (hK h B hB (fun _ _ => rfl) (fun j _ _ _ => by omega) (fun _ _ => rfl))
  | succ k ih =>
    intro r x4 h B hk ex hx hTb hMo hB hK
    refine g_iload (pc := 17) (x := x4) dX11_beginsBase_17 rfl ?_
    refine g_aload_n (pc := 19) (r := .inl (some x)) dX11_beginsBase_19 rfl ?_
    refine g_getf (pc := 20) (v := vI ((n + 1 : Nat) : Int)) flX11_120 dX11_beginsBase_20 hx rfl ?_
    refine g_icmp_geF (pc := 23) (tgt := 125) dX11_beginsBase_23 (by decide) (by omega) (by omega) (by omega) ?_
    refine g_iconst (pc := 26) dX11_beginsBase_26 ?_
    refine g_istore (pc := 27) (lo2 := [(0, vR x), (1, vI (i : Int)), (2, vI (q : Int)), (3, vI (n : Int)), (4, vI x4), (5, vI 0)]) dX11_beginsBase_27 (by decide) rfl ?_
    refine base_l1 (r := r) hn hi hq hq2 rT rM (by omega) ex (n + 1) 0 _ h B (by omega) rfl hx hTb hMo hB (fun h2 B2 p1 p2 p3 p4 => ?_)
    have hx2 : Hd (0, 0, N) h2 x (mdl x th ((n + 1 : Nat) : Int) pm fm mu um pr ts) := ⟨hx.1, (p2 _ (by omega)).trans hx.2⟩
    have hTb2 : Hd (0, 0, N) h2 (x + 5) (eA 0 96 Tb) := ⟨hTb.1, (p2 _ (by omega)).trans hTb.2⟩
    have hMo2 : Hd (0, 0, N) h2 (x + 6) (eA 0 24 Mo) := ⟨hMo.1, (p2 _ (by omega)).trans hMo.2⟩
    refine g_iinc (pc := 119) (x := x4) (lo2 := [(0, vR x), (1, vI (i : Int)), (2, vI (q : Int)), (3, vI (n : Int)), (4, vI (x4 + 1))]) dX11_beginsBase_119 rfl (by decide) rfl ?_
    refine g_goto (pc := 122) (tgt := 17) dX11_beginsBase_122 (by decide) ?_
    refine ih (r + 1) (x4 + 1) h2 B2 (by omega) (by omega) hx2 hTb2 hMo2 p1 (fun h3 B3 q1 q2 q3 q4 => hK h3 B3 q1 (fun b hb => (q2 b hb).trans (p2 b hb)) (fun j a1 a2 a3 => ?_) (fun j a1 => ?_))
    · by_cases hj : 5 * (r + 1) ≤ j
      · exact q3 j hj a2 a3
      · have hd : j / 5 = r := by omega
        rw [q4 j (by omega)]
        have := p3 (j % 5) (Nat.zero_le _) a3
        rw [show 5 * r + j % 5 = j by omega] at this
        exact this
    · rcases a1 with a1 | a1
      · rw [q4 j (by omega), p4 j (by omega)]
      · rw [q4 j (Or.inr a1)]
        by_cases hj : j < 5 * r
        · exact p4 j (by omega)
        · by_cases hj2 : 5 * r + (n + 1) ≤ j
          · exact p4 j (by omega)
          · exfalso
            apply a1
            omega

theorem c_beginsBase {N : Nat} {x : Nat} {th wd pm fm mu um pr ts : Int} {i n q : Nat} {Sz Tb Mo : Nat → Int} (hn : n ≤ 4) (hi : i < 6) (hq : 0 < q) (hq2 : q ≤ 500) (rT : rng Tb) (rM : rng Mo) (hz : Sz i = (n : Int)) {d : Nat} {B : Nat → Int} {h : MH} (hx : Hd (0, 0, N) h x (mdl x th wd pm fm mu um pr ts)) (hZ : Hd (0, 0, N) h (x + 4) (eA 0 6 Sz)) (hTb : Hd (0, 0, N) h (x + 5) (eA 0 96 Tb)) (hMo : Hd (0, 0, N) h (x + 6) (eA 0 24 Mo)) (hB : Hd (0, 0, N) h (x + 10) (eA 0 25 B)) : Ok mX11_beginsBase d 0 0 [vR x, vI (i : Int), vI (q : Int)] N h (fun r h2 => r = none ∧ (∀ b, b ≠ x → b ≠ x + 10 → h2 b = h b) ∧ h2 x = mdl x th ((n + 1 : Nat) : Int) pm fm mu um pr ts ∧ ∃ B2, h2 (x + 10) = eA 0 25 B2 ∧ (∀ j, j / 5 < n + 1 → j % 5 < n + 1 → B2 j = baF n q i Tb Mo j) ∧ ∀ j, ¬ (j / 5 < n + 1 ∧ j % 5 < n + 1) → B2 j = B j) := by
  refine Ok.of pfX11_beginsBase rfl (Nat.le_of_ble_eq_true rfl) (fun Ls sx => ?_)
  show G mX11_beginsBase (d, 0, 0, Ls, sx) 0 [(0, vR x), (1, vI (i : Int)), (2, vI (q : Int))] [] (0, 0, N) h _
  refine g_aload_n (pc := 0) (r := .inl (some x)) dX11_beginsBase_0 rfl ?_
  refine g_getf (pc := 1) (v := vR (x + 4)) flX11_20 dX11_beginsBase_1 hx rfl ?_
  refine g_iload_n (pc := 4) (x := (i : Int)) dX11_beginsBase_4 rfl ?_
  refine g_ialdN (pc := 5) (j := i) dX11_beginsBase_5 hZ (by omega) (by omega) (by omega) ?_
  rw [hz]
  refine g_istore_n (pc := 6) (lo2 := [(0, vR x), (1, vI (i : Int)), (2, vI (q : Int)), (3, vI (n : Int))]) dX11_beginsBase_6 (by decide) rfl ?_
  refine g_aload_n (pc := 7) (r := .inl (some x)) dX11_beginsBase_7 rfl ?_
  refine g_iload_n (pc := 8) (x := (n : Int)) dX11_beginsBase_8 rfl ?_
  refine g_iconst (pc := 9) dX11_beginsBase_9 ?_
  refine g_iadd (pc := 10) dX11_beginsBase_10 ?_
  refine g_putf (pc := 11) fpX11_120 dX11_beginsBase_11 hx (okv_int _) (Nat.le_of_ble_eq_true rfl) ?_
  have hx_1 := hx.self (e := mdl x th ((n : Int) + 1) pm fm mu um pr ts)
  have hZ_1 := hZ.ne (e := mdl x th ((n : Int) + 1) pm fm mu um pr ts) (a := x) (by omega)
  have hTb_1 := hTb.ne (e := mdl x th ((n : Int) + 1) pm fm mu um pr ts) (a := x) (by omega)
  have hMo_1 := hMo.ne (e := mdl x th ((n : Int) + 1) pm fm mu um pr ts) (a := x) (by omega)
  have hB_1 := hB.ne (e := mdl x th ((n : Int) + 1) pm fm mu um pr ts) (a := x) (by omega)
  refine g_iconst (pc := 14) dX11_beginsBase_14 ?_
  refine g_istore (pc := 15) (lo2 := [(0, vR x), (1, vI (i : Int)), (2, vI (q : Int)), (3, vI (n : Int)), (4, vI 0)]) dX11_beginsBase_15 (by decide) rfl ?_
  refine base_l2 hn hi hq hq2 rT rM (n + 1) 0 _ _ B (by omega) rfl hx_1 hTb_1 hMo_1 hB_1 (fun h2 B2 q1 q2 q3 q4 => ⟨rfl, fun b b1 b2 => (q2 b b2).trans (va_up_ne _ _ b1), (q2 _ (by omega)).trans hx_1.2, B2, q1.2, fun j => q3 j (Nat.zero_le _), fun j hj => q4 j (Or.inr hj)⟩)
