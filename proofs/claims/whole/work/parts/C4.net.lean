/-! ===== Net: startsAboveNought, comesFirst, take, find ===== -/
theorem c_above {N d b : Nat} {sq ff : Int} {L T : Nat → Int} {h : MH} (bT : ∀ i, i < 4 → -500 ≤ T i ∧ T i ≤ 500) (hn : Hd (0, 0, N) h (b + 2) (eO 2 [vR (b + 3), vI sq, vR (b + 4), vI ff])) (hL : Hd (0, 0, N) h (b + 3) (eA 0 4 L)) (hT : Hd (0, 0, N) h (b + 4) (eA 0 4 T)) : Ok mX2_startsAboveNought d 0 0 [vR (b + 2)] N h (fun r h2 => h2 = h ∧ ((r = some (vI 1) ∧ abv T) ∨ (r = some (vI 0) ∧ ¬ abv T))) := by
  refine Ok.of pfX2_startsAboveNought rfl (Nat.le_of_ble_eq_true rfl) (fun Ls sx => ?_)
  show G mX2_startsAboveNought (d, 0, 0, Ls, sx) 0 [(0, vR (b + 2))] [] (0, 0, N) h _
  have t0 := bT 0 (by omega)
  have t1 := bT 1 (by omega)
  have t2 := bT 2 (by omega)
  have t3 := bT 3 (by omega)
  refine g_aload_n (pc := 0) (r := .inl (some (b + 2))) dX2_startsAboveNought_0 rfl ?_
  refine g_getf (pc := 1) (v := vR (b + 4)) flX2_15 dX2_startsAboveNought_1 hn rfl ?_
  refine g_astore_n (pc := 4) (r := .inl (some (b + 4))) (lo2 := [(0, vR (b + 2)), (1, vR (b + 4))]) dX2_startsAboveNought_4 (by decide) rfl ?_
  refine g_aload_n (pc := 5) (r := .inl (some (b + 4))) dX2_startsAboveNought_5 rfl ?_
  refine g_alen (pc := 6) dX2_startsAboveNought_6 hT (by decide) ?_
  refine g_istore_n (pc := 7) (lo2 := [(0, vR (b + 2)), (1, vR (b + 4)), (2, vI ((4 : Nat) : Int))]) dX2_startsAboveNought_7 (by decide) rfl ?_
  refine g_iconst (pc := 8) dX2_startsAboveNought_8 ?_
  refine g_istore_n (pc := 9) (lo2 := [(0, vR (b + 2)), (1, vR (b + 4)), (2, vI ((4 : Nat) : Int)), (3, vI 0)]) dX2_startsAboveNought_9 (by decide) rfl ?_
  refine g_iload_n (pc := 10) (x := 0) dX2_startsAboveNought_10 rfl ?_
  refine g_iload_n (pc := 11) (x := ((4 : Nat) : Int)) dX2_startsAboveNought_11 rfl ?_
  refine g_icmp_geF (pc := 12) (tgt := 42) dX2_startsAboveNought_12 (by decide) (by omega) (by omega) (by omega) ?_
  refine g_aload_n (pc := 15) (r := .inl (some (b + 4))) dX2_startsAboveNought_15 rfl ?_
  refine g_iload_n (pc := 16) (x := 0) dX2_startsAboveNought_16 rfl ?_
  refine g_ialdN (pc := 17) (j := 0) dX2_startsAboveNought_17 hT (by omega) (by omega) (by omega) ?_
  refine g_istore (pc := 18) (lo2 := [(0, vR (b + 2)), (1, vR (b + 4)), (2, vI ((4 : Nat) : Int)), (3, vI 0), (4, vI (T 0))]) dX2_startsAboveNought_18 (by decide) rfl ?_
  refine g_iload (pc := 20) (x := T 0) dX2_startsAboveNought_20 rfl ?_
  refine g_if_eq (pc := 22) (tgt := 36) dX2_startsAboveNought_22 (by decide) (by omega) (fun e0 => ?_) (fun e0 => ?_)
  · refine g_iinc (pc := 36) (x := 0) (lo2 := [(0, vR (b + 2)), (1, vR (b + 4)), (2, vI ((4 : Nat) : Int)), (3, vI (0 + 1)), (4, vI (T 0))]) dX2_startsAboveNought_36 rfl (by decide) rfl ?_
    refine g_goto (pc := 39) (tgt := 10) dX2_startsAboveNought_39 (by decide) ?_
    refine g_pick [0, 1, 2, 3] (lo2 := [(0, vR (b + 2)), (1, vR (b + 4)), (2, vI ((4 : Nat) : Int)), (3, vI 1)]) rfl ?_
    show G mX2_startsAboveNought _ 10 [(0, vR (b + 2)), (1, vR (b + 4)), (2, vI ((4 : Nat) : Int)), (3, vI 1)] [] _ h _
    refine g_iload_n (pc := 10) (x := 1) dX2_startsAboveNought_10 rfl ?_
    refine g_iload_n (pc := 11) (x := ((4 : Nat) : Int)) dX2_startsAboveNought_11 rfl ?_
    refine g_icmp_geF (pc := 12) (tgt := 42) dX2_startsAboveNought_12 (by decide) (by omega) (by omega) (by omega) ?_
    refine g_aload_n (pc := 15) (r := .inl (some (b + 4))) dX2_startsAboveNought_15 rfl ?_
    refine g_iload_n (pc := 16) (x := 1) dX2_startsAboveNought_16 rfl ?_
    refine g_ialdN (pc := 17) (j := 1) dX2_startsAboveNought_17 hT (by omega) (by omega) (by omega) ?_
    refine g_istore (pc := 18) (lo2 := [(0, vR (b + 2)), (1, vR (b + 4)), (2, vI ((4 : Nat) : Int)), (3, vI 1), (4, vI (T 1))]) dX2_startsAboveNought_18 (by decide) rfl ?_
    refine g_iload (pc := 20) (x := T 1) dX2_startsAboveNought_20 rfl ?_
    refine g_if_eq (pc := 22) (tgt := 36) dX2_startsAboveNought_22 (by decide) (by omega) (fun e1 => ?_) (fun e1 => ?_)
    · refine g_iinc (pc := 36) (x := 1) (lo2 := [(0, vR (b + 2)), (1, vR (b + 4)), (2, vI ((4 : Nat) : Int)), (3, vI (1 + 1)), (4, vI (T 1))]) dX2_startsAboveNought_36 rfl (by decide) rfl ?_
      refine g_goto (pc := 39) (tgt := 10) dX2_startsAboveNought_39 (by decide) ?_
      refine g_pick [0, 1, 2, 3] (lo2 := [(0, vR (b + 2)), (1, vR (b + 4)), (2, vI ((4 : Nat) : Int)), (3, vI 2)]) rfl ?_
      show G mX2_startsAboveNought _ 10 [(0, vR (b + 2)), (1, vR (b + 4)), (2, vI ((4 : Nat) : Int)), (3, vI 2)] [] _ h _
      refine g_iload_n (pc := 10) (x := 2) dX2_startsAboveNought_10 rfl ?_
      refine g_iload_n (pc := 11) (x := ((4 : Nat) : Int)) dX2_startsAboveNought_11 rfl ?_
      refine g_icmp_geF (pc := 12) (tgt := 42) dX2_startsAboveNought_12 (by decide) (by omega) (by omega) (by omega) ?_
      refine g_aload_n (pc := 15) (r := .inl (some (b + 4))) dX2_startsAboveNought_15 rfl ?_
      refine g_iload_n (pc := 16) (x := 2) dX2_startsAboveNought_16 rfl ?_
      refine g_ialdN (pc := 17) (j := 2) dX2_startsAboveNought_17 hT (by omega) (by omega) (by omega) ?_
      refine g_istore (pc := 18) (lo2 := [(0, vR (b + 2)), (1, vR (b + 4)), (2, vI ((4 : Nat) : Int)), (3, vI 2), (4, vI (T 2))]) dX2_startsAboveNought_18 (by decide) rfl ?_
      refine g_iload (pc := 20) (x := T 2) dX2_startsAboveNought_20 rfl ?_
      refine g_if_eq (pc := 22) (tgt := 36) dX2_startsAboveNought_22 (by decide) (by omega) (fun e2 => ?_) (fun e2 => ?_)
      · refine g_iinc (pc := 36) (x := 2) (lo2 := [(0, vR (b + 2)), (1, vR (b + 4)), (2, vI ((4 : Nat) : Int)), (3, vI (2 + 1)), (4, vI (T 2))]) dX2_startsAboveNought_36 rfl (by decide) rfl ?_
        refine g_goto (pc := 39) (tgt := 10) dX2_startsAboveNought_39 (by decide) ?_
        refine g_pick [0, 1, 2, 3] (lo2 := [(0, vR (b + 2)), (1, vR (b + 4)), (2, vI ((4 : Nat) : Int)), (3, vI 3)]) rfl ?_
        show G mX2_startsAboveNought _ 10 [(0, vR (b + 2)), (1, vR (b + 4)), (2, vI ((4 : Nat) : Int)), (3, vI 3)] [] _ h _
        refine g_iload_n (pc := 10) (x := 3) dX2_startsAboveNought_10 rfl ?_
        refine g_iload_n (pc := 11) (x := ((4 : Nat) : Int)) dX2_startsAboveNought_11 rfl ?_
        refine g_icmp_geF (pc := 12) (tgt := 42) dX2_startsAboveNought_12 (by decide) (by omega) (by omega) (by omega) ?_
        refine g_aload_n (pc := 15) (r := .inl (some (b + 4))) dX2_startsAboveNought_15 rfl ?_
        refine g_iload_n (pc := 16) (x := 3) dX2_startsAboveNought_16 rfl ?_
        refine g_ialdN (pc := 17) (j := 3) dX2_startsAboveNought_17 hT (by omega) (by omega) (by omega) ?_
        refine g_istore (pc := 18) (lo2 := [(0, vR (b + 2)), (1, vR (b + 4)), (2, vI ((4 : Nat) : Int)), (3, vI 3), (4, vI (T 3))]) dX2_startsAboveNought_18 (by decide) rfl ?_
        refine g_iload (pc := 20) (x := T 3) dX2_startsAboveNought_20 rfl ?_
        refine g_if_eq (pc := 22) (tgt := 36) dX2_startsAboveNought_22 (by decide) (by omega) (fun e3 => ?_) (fun e3 => ?_)
        · refine g_iinc (pc := 36) (x := 3) (lo2 := [(0, vR (b + 2)), (1, vR (b + 4)), (2, vI ((4 : Nat) : Int)), (3, vI (3 + 1)), (4, vI (T 3))]) dX2_startsAboveNought_36 rfl (by decide) rfl ?_
          refine g_goto (pc := 39) (tgt := 10) dX2_startsAboveNought_39 (by decide) ?_
          refine g_pick [0, 1, 2, 3] (lo2 := [(0, vR (b + 2)), (1, vR (b + 4)), (2, vI ((4 : Nat) : Int)), (3, vI 4)]) rfl ?_
          show G mX2_startsAboveNought _ 10 [(0, vR (b + 2)), (1, vR (b + 4)), (2, vI ((4 : Nat) : Int)), (3, vI 4)] [] _ h _
          refine g_iload_n (pc := 10) (x := 4) dX2_startsAboveNought_10 rfl ?_
          refine g_iload_n (pc := 11) (x := ((4 : Nat) : Int)) dX2_startsAboveNought_11 rfl ?_
          refine g_icmp_geT (pc := 12) (tgt := 42) dX2_startsAboveNought_12 (by decide) (by omega) (by omega) (by omega) ?_
          refine g_iconst (pc := 42) dX2_startsAboveNought_42 ?_
          exact r_bool (pc := 43) dX2_startsAboveNought_43 rfl rfl (Nat.le_refl _) (Or.inl rfl) ⟨rfl, Or.inr ⟨rfl, by unfold abv; omega⟩⟩
        · refine g_iload (pc := 25) (x := T 3) dX2_startsAboveNought_25 rfl ?_
          refine g_if_le (pc := 27) (tgt := 34) dX2_startsAboveNought_27 (by decide) (by omega) (fun g3 => ?_) (fun g3 => ?_)
          · refine g_iconst (pc := 34) dX2_startsAboveNought_34 ?_
            exact r_bool (pc := 35) dX2_startsAboveNought_35 rfl rfl (Nat.le_refl _) (Or.inl rfl) ⟨rfl, Or.inr ⟨rfl, by unfold abv; omega⟩⟩
          · refine g_iconst (pc := 30) dX2_startsAboveNought_30 ?_
            refine g_goto (pc := 31) (tgt := 35) dX2_startsAboveNought_31 (by decide) ?_
            exact r_bool (pc := 35) dX2_startsAboveNought_35 rfl rfl (Nat.le_refl _) (Or.inr rfl) ⟨rfl, Or.inl ⟨rfl, by unfold abv; omega⟩⟩
      · refine g_iload (pc := 25) (x := T 2) dX2_startsAboveNought_25 rfl ?_
        refine g_if_le (pc := 27) (tgt := 34) dX2_startsAboveNought_27 (by decide) (by omega) (fun g2 => ?_) (fun g2 => ?_)
        · refine g_iconst (pc := 34) dX2_startsAboveNought_34 ?_
          exact r_bool (pc := 35) dX2_startsAboveNought_35 rfl rfl (Nat.le_refl _) (Or.inl rfl) ⟨rfl, Or.inr ⟨rfl, by unfold abv; omega⟩⟩
        · refine g_iconst (pc := 30) dX2_startsAboveNought_30 ?_
          refine g_goto (pc := 31) (tgt := 35) dX2_startsAboveNought_31 (by decide) ?_
          exact r_bool (pc := 35) dX2_startsAboveNought_35 rfl rfl (Nat.le_refl _) (Or.inr rfl) ⟨rfl, Or.inl ⟨rfl, by unfold abv; omega⟩⟩
    · refine g_iload (pc := 25) (x := T 1) dX2_startsAboveNought_25 rfl ?_
      refine g_if_le (pc := 27) (tgt := 34) dX2_startsAboveNought_27 (by decide) (by omega) (fun g1 => ?_) (fun g1 => ?_)
      · refine g_iconst (pc := 34) dX2_startsAboveNought_34 ?_
        exact r_bool (pc := 35) dX2_startsAboveNought_35 rfl rfl (Nat.le_refl _) (Or.inl rfl) ⟨rfl, Or.inr ⟨rfl, by unfold abv; omega⟩⟩
      · refine g_iconst (pc := 30) dX2_startsAboveNought_30 ?_
        refine g_goto (pc := 31) (tgt := 35) dX2_startsAboveNought_31 (by decide) ?_
        exact r_bool (pc := 35) dX2_startsAboveNought_35 rfl rfl (Nat.le_refl _) (Or.inr rfl) ⟨rfl, Or.inl ⟨rfl, by unfold abv; omega⟩⟩
  · refine g_iload (pc := 25) (x := T 0) dX2_startsAboveNought_25 rfl ?_
    refine g_if_le (pc := 27) (tgt := 34) dX2_startsAboveNought_27 (by decide) (by omega) (fun g0 => ?_) (fun g0 => ?_)
    · refine g_iconst (pc := 34) dX2_startsAboveNought_34 ?_
      exact r_bool (pc := 35) dX2_startsAboveNought_35 rfl rfl (Nat.le_refl _) (Or.inl rfl) ⟨rfl, Or.inr ⟨rfl, by unfold abv; omega⟩⟩
    · refine g_iconst (pc := 30) dX2_startsAboveNought_30 ?_
      refine g_goto (pc := 31) (tgt := 35) dX2_startsAboveNought_31 (by decide) ?_
      exact r_bool (pc := 35) dX2_startsAboveNought_35 rfl rfl (Nat.le_refl _) (Or.inr rfl) ⟨rfl, Or.inl ⟨rfl, by unfold abv; omega⟩⟩

theorem c_comesFirst {N d b : Nat} {sq ff : Int} {L T : Nat → Int} {h : MH} (bT : ∀ i, i < 4 → -500 ≤ T i ∧ T i ≤ 500) (bL : ∀ i, i < 4 → -500 ≤ L i ∧ L i ≤ 500) (hn : Hd (0, 0, N) h (b + 2) (eO 2 [vR (b + 3), vI sq, vR (b + 4), vI ff])) (hL : Hd (0, 0, N) h (b + 3) (eA 0 4 L)) (hT : Hd (0, 0, N) h (b + 4) (eA 0 4 T)) : Ok mX2_comesFirst d 0 0 [vR (b + 2)] N h (fun r h2 => h2 = h ∧ ((r = some (vI 1) ∧ lexlt T L) ∨ (r = some (vI 0) ∧ ¬ lexlt T L))) := by
  refine Ok.of pfX2_comesFirst rfl (Nat.le_of_ble_eq_true rfl) (fun Ls sx => ?_)
  show G mX2_comesFirst (d, 0, 0, Ls, sx) 0 [(0, vR (b + 2))] [] (0, 0, N) h _
  have t0 := bT 0 (by omega)
  have t1 := bT 1 (by omega)
  have t2 := bT 2 (by omega)
  have t3 := bT 3 (by omega)
  have l0 := bL 0 (by omega)
  have l1 := bL 1 (by omega)
  have l2 := bL 2 (by omega)
  have l3 := bL 3 (by omega)
  refine g_iconst (pc := 0) dX2_comesFirst_0 ?_
  refine g_istore_n (pc := 1) (lo2 := [(0, vR (b + 2)), (1, vI 0)]) dX2_comesFirst_1 (by decide) rfl ?_
  refine g_iload_n (pc := 2) (x := 0) dX2_comesFirst_2 rfl ?_
  refine g_aload_n (pc := 3) (r := .inl (some (b + 2))) dX2_comesFirst_3 rfl ?_
  refine g_getf (pc := 4) (v := vR (b + 3)) flX2_9 dX2_comesFirst_4 hn rfl ?_
  refine g_alen (pc := 7) dX2_comesFirst_7 hL (by decide) ?_
  refine g_icmp_geF (pc := 8) (tgt := 53) dX2_comesFirst_8 (by decide) (by omega) (by omega) (by omega) ?_
  refine g_aload_n (pc := 11) (r := .inl (some (b + 2))) dX2_comesFirst_11 rfl ?_
  refine g_getf (pc := 12) (v := vR (b + 4)) flX2_15 dX2_comesFirst_12 hn rfl ?_
  refine g_iload_n (pc := 15) (x := 0) dX2_comesFirst_15 rfl ?_
  refine g_ialdN (pc := 16) (j := 0) dX2_comesFirst_16 hT (by omega) (by omega) (by omega) ?_
  refine g_aload_n (pc := 17) (r := .inl (some (b + 2))) dX2_comesFirst_17 rfl ?_
  refine g_getf (pc := 18) (v := vR (b + 3)) flX2_9 dX2_comesFirst_18 hn rfl ?_
  refine g_iload_n (pc := 21) (x := 0) dX2_comesFirst_21 rfl ?_
  refine g_ialdN (pc := 22) (j := 0) dX2_comesFirst_22 hL (by omega) (by omega) (by omega) ?_
  refine g_icmp_eq (pc := 23) (tgt := 47) dX2_comesFirst_23 (by decide) (by omega) (by omega) (fun e0 => ?_) (fun e0 => ?_)
  · refine g_iinc (pc := 47) (x := 0) (lo2 := [(0, vR (b + 2)), (1, vI (0 + 1))]) dX2_comesFirst_47 rfl (by decide) rfl ?_
    refine g_goto (pc := 50) (tgt := 2) dX2_comesFirst_50 (by decide) ?_
    show G mX2_comesFirst _ 2 [(0, vR (b + 2)), (1, vI 1)] [] _ h _
    refine g_iload_n (pc := 2) (x := 1) dX2_comesFirst_2 rfl ?_
    refine g_aload_n (pc := 3) (r := .inl (some (b + 2))) dX2_comesFirst_3 rfl ?_
    refine g_getf (pc := 4) (v := vR (b + 3)) flX2_9 dX2_comesFirst_4 hn rfl ?_
    refine g_alen (pc := 7) dX2_comesFirst_7 hL (by decide) ?_
    refine g_icmp_geF (pc := 8) (tgt := 53) dX2_comesFirst_8 (by decide) (by omega) (by omega) (by omega) ?_
    refine g_aload_n (pc := 11) (r := .inl (some (b + 2))) dX2_comesFirst_11 rfl ?_
    refine g_getf (pc := 12) (v := vR (b + 4)) flX2_15 dX2_comesFirst_12 hn rfl ?_
    refine g_iload_n (pc := 15) (x := 1) dX2_comesFirst_15 rfl ?_
    refine g_ialdN (pc := 16) (j := 1) dX2_comesFirst_16 hT (by omega) (by omega) (by omega) ?_
    refine g_aload_n (pc := 17) (r := .inl (some (b + 2))) dX2_comesFirst_17 rfl ?_
    refine g_getf (pc := 18) (v := vR (b + 3)) flX2_9 dX2_comesFirst_18 hn rfl ?_
    refine g_iload_n (pc := 21) (x := 1) dX2_comesFirst_21 rfl ?_
    refine g_ialdN (pc := 22) (j := 1) dX2_comesFirst_22 hL (by omega) (by omega) (by omega) ?_
    refine g_icmp_eq (pc := 23) (tgt := 47) dX2_comesFirst_23 (by decide) (by omega) (by omega) (fun e1 => ?_) (fun e1 => ?_)
    · refine g_iinc (pc := 47) (x := 1) (lo2 := [(0, vR (b + 2)), (1, vI (1 + 1))]) dX2_comesFirst_47 rfl (by decide) rfl ?_
      refine g_goto (pc := 50) (tgt := 2) dX2_comesFirst_50 (by decide) ?_
      show G mX2_comesFirst _ 2 [(0, vR (b + 2)), (1, vI 2)] [] _ h _
      refine g_iload_n (pc := 2) (x := 2) dX2_comesFirst_2 rfl ?_
      refine g_aload_n (pc := 3) (r := .inl (some (b + 2))) dX2_comesFirst_3 rfl ?_
      refine g_getf (pc := 4) (v := vR (b + 3)) flX2_9 dX2_comesFirst_4 hn rfl ?_
      refine g_alen (pc := 7) dX2_comesFirst_7 hL (by decide) ?_
      refine g_icmp_geF (pc := 8) (tgt := 53) dX2_comesFirst_8 (by decide) (by omega) (by omega) (by omega) ?_
      refine g_aload_n (pc := 11) (r := .inl (some (b + 2))) dX2_comesFirst_11 rfl ?_
      refine g_getf (pc := 12) (v := vR (b + 4)) flX2_15 dX2_comesFirst_12 hn rfl ?_
      refine g_iload_n (pc := 15) (x := 2) dX2_comesFirst_15 rfl ?_
      refine g_ialdN (pc := 16) (j := 2) dX2_comesFirst_16 hT (by omega) (by omega) (by omega) ?_
      refine g_aload_n (pc := 17) (r := .inl (some (b + 2))) dX2_comesFirst_17 rfl ?_
      refine g_getf (pc := 18) (v := vR (b + 3)) flX2_9 dX2_comesFirst_18 hn rfl ?_
      refine g_iload_n (pc := 21) (x := 2) dX2_comesFirst_21 rfl ?_
      refine g_ialdN (pc := 22) (j := 2) dX2_comesFirst_22 hL (by omega) (by omega) (by omega) ?_
      refine g_icmp_eq (pc := 23) (tgt := 47) dX2_comesFirst_23 (by decide) (by omega) (by omega) (fun e2 => ?_) (fun e2 => ?_)
      · refine g_iinc (pc := 47) (x := 2) (lo2 := [(0, vR (b + 2)), (1, vI (2 + 1))]) dX2_comesFirst_47 rfl (by decide) rfl ?_
        refine g_goto (pc := 50) (tgt := 2) dX2_comesFirst_50 (by decide) ?_
        show G mX2_comesFirst _ 2 [(0, vR (b + 2)), (1, vI 3)] [] _ h _
        refine g_iload_n (pc := 2) (x := 3) dX2_comesFirst_2 rfl ?_
        refine g_aload_n (pc := 3) (r := .inl (some (b + 2))) dX2_comesFirst_3 rfl ?_
        refine g_getf (pc := 4) (v := vR (b + 3)) flX2_9 dX2_comesFirst_4 hn rfl ?_
        refine g_alen (pc := 7) dX2_comesFirst_7 hL (by decide) ?_
        refine g_icmp_geF (pc := 8) (tgt := 53) dX2_comesFirst_8 (by decide) (by omega) (by omega) (by omega) ?_
        refine g_aload_n (pc := 11) (r := .inl (some (b + 2))) dX2_comesFirst_11 rfl ?_
        refine g_getf (pc := 12) (v := vR (b + 4)) flX2_15 dX2_comesFirst_12 hn rfl ?_
        refine g_iload_n (pc := 15) (x := 3) dX2_comesFirst_15 rfl ?_
        refine g_ialdN (pc := 16) (j := 3) dX2_comesFirst_16 hT (by omega) (by omega) (by omega) ?_
        refine g_aload_n (pc := 17) (r := .inl (some (b + 2))) dX2_comesFirst_17 rfl ?_
        refine g_getf (pc := 18) (v := vR (b + 3)) flX2_9 dX2_comesFirst_18 hn rfl ?_
        refine g_iload_n (pc := 21) (x := 3) dX2_comesFirst_21 rfl ?_
        refine g_ialdN (pc := 22) (j := 3) dX2_comesFirst_22 hL (by omega) (by omega) (by omega) ?_
        refine g_icmp_eq (pc := 23) (tgt := 47) dX2_comesFirst_23 (by decide) (by omega) (by omega) (fun e3 => ?_) (fun e3 => ?_)
        · refine g_iinc (pc := 47) (x := 3) (lo2 := [(0, vR (b + 2)), (1, vI (3 + 1))]) dX2_comesFirst_47 rfl (by decide) rfl ?_
          refine g_goto (pc := 50) (tgt := 2) dX2_comesFirst_50 (by decide) ?_
          show G mX2_comesFirst _ 2 [(0, vR (b + 2)), (1, vI 4)] [] _ h _
          refine g_iload_n (pc := 2) (x := 4) dX2_comesFirst_2 rfl ?_
          refine g_aload_n (pc := 3) (r := .inl (some (b + 2))) dX2_comesFirst_3 rfl ?_
          refine g_getf (pc := 4) (v := vR (b + 3)) flX2_9 dX2_comesFirst_4 hn rfl ?_
          refine g_alen (pc := 7) dX2_comesFirst_7 hL (by decide) ?_
          refine g_icmp_geT (pc := 8) (tgt := 53) dX2_comesFirst_8 (by decide) (by omega) (by omega) (by omega) ?_
          refine g_iconst (pc := 53) dX2_comesFirst_53 ?_
          exact r_bool (pc := 54) dX2_comesFirst_54 rfl rfl (Nat.le_refl _) (Or.inl rfl) ⟨rfl, Or.inr ⟨rfl, by unfold lexlt; omega⟩⟩
        · refine g_aload_n (pc := 26) (r := .inl (some (b + 2))) dX2_comesFirst_26 rfl ?_
          refine g_getf (pc := 27) (v := vR (b + 4)) flX2_15 dX2_comesFirst_27 hn rfl ?_
          refine g_iload_n (pc := 30) (x := 3) dX2_comesFirst_30 rfl ?_
          refine g_ialdN (pc := 31) (j := 3) dX2_comesFirst_31 hT (by omega) (by omega) (by omega) ?_
          refine g_aload_n (pc := 32) (r := .inl (some (b + 2))) dX2_comesFirst_32 rfl ?_
          refine g_getf (pc := 33) (v := vR (b + 3)) flX2_9 dX2_comesFirst_33 hn rfl ?_
          refine g_iload_n (pc := 36) (x := 3) dX2_comesFirst_36 rfl ?_
          refine g_ialdN (pc := 37) (j := 3) dX2_comesFirst_37 hL (by omega) (by omega) (by omega) ?_
          refine g_icmp_ge (pc := 38) (tgt := 45) dX2_comesFirst_38 (by decide) (by omega) (by omega) (fun g3 => ?_) (fun g3 => ?_)
          · refine g_iconst (pc := 45) dX2_comesFirst_45 ?_
            exact r_bool (pc := 46) dX2_comesFirst_46 rfl rfl (Nat.le_refl _) (Or.inl rfl) ⟨rfl, Or.inr ⟨rfl, by unfold lexlt; omega⟩⟩
          · refine g_iconst (pc := 41) dX2_comesFirst_41 ?_
            refine g_goto (pc := 42) (tgt := 46) dX2_comesFirst_42 (by decide) ?_
            exact r_bool (pc := 46) dX2_comesFirst_46 rfl rfl (Nat.le_refl _) (Or.inr rfl) ⟨rfl, Or.inl ⟨rfl, by unfold lexlt; omega⟩⟩
      · refine g_aload_n (pc := 26) (r := .inl (some (b + 2))) dX2_comesFirst_26 rfl ?_
        refine g_getf (pc := 27) (v := vR (b + 4)) flX2_15 dX2_comesFirst_27 hn rfl ?_
        refine g_iload_n (pc := 30) (x := 2) dX2_comesFirst_30 rfl ?_
        refine g_ialdN (pc := 31) (j := 2) dX2_comesFirst_31 hT (by omega) (by omega) (by omega) ?_
        refine g_aload_n (pc := 32) (r := .inl (some (b + 2))) dX2_comesFirst_32 rfl ?_
        refine g_getf (pc := 33) (v := vR (b + 3)) flX2_9 dX2_comesFirst_33 hn rfl ?_
        refine g_iload_n (pc := 36) (x := 2) dX2_comesFirst_36 rfl ?_
        refine g_ialdN (pc := 37) (j := 2) dX2_comesFirst_37 hL (by omega) (by omega) (by omega) ?_
        refine g_icmp_ge (pc := 38) (tgt := 45) dX2_comesFirst_38 (by decide) (by omega) (by omega) (fun g2 => ?_) (fun g2 => ?_)
        · refine g_iconst (pc := 45) dX2_comesFirst_45 ?_
          exact r_bool (pc := 46) dX2_comesFirst_46 rfl rfl (Nat.le_refl _) (Or.inl rfl) ⟨rfl, Or.inr ⟨rfl, by unfold lexlt; omega⟩⟩
        · refine g_iconst (pc := 41) dX2_comesFirst_41 ?_
          refine g_goto (pc := 42) (tgt := 46) dX2_comesFirst_42 (by decide) ?_
          exact r_bool (pc := 46) dX2_comesFirst_46 rfl rfl (Nat.le_refl _) (Or.inr rfl) ⟨rfl, Or.inl ⟨rfl, by unfold lexlt; omega⟩⟩
    · refine g_aload_n (pc := 26) (r := .inl (some (b + 2))) dX2_comesFirst_26 rfl ?_
      refine g_getf (pc := 27) (v := vR (b + 4)) flX2_15 dX2_comesFirst_27 hn rfl ?_
      refine g_iload_n (pc := 30) (x := 1) dX2_comesFirst_30 rfl ?_
      refine g_ialdN (pc := 31) (j := 1) dX2_comesFirst_31 hT (by omega) (by omega) (by omega) ?_
      refine g_aload_n (pc := 32) (r := .inl (some (b + 2))) dX2_comesFirst_32 rfl ?_
      refine g_getf (pc := 33) (v := vR (b + 3)) flX2_9 dX2_comesFirst_33 hn rfl ?_
      refine g_iload_n (pc := 36) (x := 1) dX2_comesFirst_36 rfl ?_
      refine g_ialdN (pc := 37) (j := 1) dX2_comesFirst_37 hL (by omega) (by omega) (by omega) ?_
      refine g_icmp_ge (pc := 38) (tgt := 45) dX2_comesFirst_38 (by decide) (by omega) (by omega) (fun g1 => ?_) (fun g1 => ?_)
      · refine g_iconst (pc := 45) dX2_comesFirst_45 ?_
        exact r_bool (pc := 46) dX2_comesFirst_46 rfl rfl (Nat.le_refl _) (Or.inl rfl) ⟨rfl, Or.inr ⟨rfl, by unfold lexlt; omega⟩⟩
      · refine g_iconst (pc := 41) dX2_comesFirst_41 ?_
        refine g_goto (pc := 42) (tgt := 46) dX2_comesFirst_42 (by decide) ?_
        exact r_bool (pc := 46) dX2_comesFirst_46 rfl rfl (Nat.le_refl _) (Or.inr rfl) ⟨rfl, Or.inl ⟨rfl, by unfold lexlt; omega⟩⟩
  · refine g_aload_n (pc := 26) (r := .inl (some (b + 2))) dX2_comesFirst_26 rfl ?_
    refine g_getf (pc := 27) (v := vR (b + 4)) flX2_15 dX2_comesFirst_27 hn rfl ?_
    refine g_iload_n (pc := 30) (x := 0) dX2_comesFirst_30 rfl ?_
    refine g_ialdN (pc := 31) (j := 0) dX2_comesFirst_31 hT (by omega) (by omega) (by omega) ?_
    refine g_aload_n (pc := 32) (r := .inl (some (b + 2))) dX2_comesFirst_32 rfl ?_
    refine g_getf (pc := 33) (v := vR (b + 3)) flX2_9 dX2_comesFirst_33 hn rfl ?_
    refine g_iload_n (pc := 36) (x := 0) dX2_comesFirst_36 rfl ?_
    refine g_ialdN (pc := 37) (j := 0) dX2_comesFirst_37 hL (by omega) (by omega) (by omega) ?_
    refine g_icmp_ge (pc := 38) (tgt := 45) dX2_comesFirst_38 (by decide) (by omega) (by omega) (fun g0 => ?_) (fun g0 => ?_)
    · refine g_iconst (pc := 45) dX2_comesFirst_45 ?_
      exact r_bool (pc := 46) dX2_comesFirst_46 rfl rfl (Nat.le_refl _) (Or.inl rfl) ⟨rfl, Or.inr ⟨rfl, by unfold lexlt; omega⟩⟩
    · refine g_iconst (pc := 41) dX2_comesFirst_41 ?_
      refine g_goto (pc := 42) (tgt := 46) dX2_comesFirst_42 (by decide) ?_
      exact r_bool (pc := 46) dX2_comesFirst_46 rfl rfl (Nat.le_refl _) (Or.inr rfl) ⟨rfl, Or.inl ⟨rfl, by unfold lexlt; omega⟩⟩

theorem c_ntake {N d b : Nat} {sq ff : Int} {L T : Nat → Int} {h : MH} (bT : ∀ i, i < 4 → -500 ≤ T i ∧ T i ≤ 500) (bL : sq4 T = sq → ∀ i, i < 4 → -500 ≤ L i ∧ L i ≤ 500) (hsq : 0 ≤ sq ∧ sq ≤ 1000000) (hn : Hd (0, 0, N) h (b + 2) (eO 2 [vR (b + 3), vI sq, vR (b + 4), vI ff])) (hL : Hd (0, 0, N) h (b + 3) (eA 0 4 L)) (hT : Hd (0, 0, N) h (b + 4) (eA 0 4 T)) : Ok mX2_take (d + 1) 0 0 [vR (b + 2)] N h (fun r h2 => r = none ∧ (∀ a, a ≠ b + 2 → a ≠ b + 3 → h2 a = h a) ∧ ∃ (sq2 : Int) (L2 : Nat → Int), h2 (b + 2) = (eO 2 [vR (b + 3), vI sq2, vR (b + 4), vI ff]) ∧ h2 (b + 3) = eA 0 4 L2 ∧ (((abv T ∧ (sq4 T < sq ∨ (sq4 T = sq ∧ lexlt T L))) ∧ sq2 = sq4 T ∧ ∀ i, i < 4 → L2 i = T i) ∨ (¬ (abv T ∧ (sq4 T < sq ∨ (sq4 T = sq ∧ lexlt T L))) ∧ sq2 = sq ∧ L2 = L))) := by
  refine Ok.of pfX2_take rfl (Nat.le_of_ble_eq_true rfl) (fun Ls sx => ?_)
  show G mX2_take (d + 1, 0, 0, Ls, sx) 0 [(0, vR (b + 2))] [] (0, 0, N) h _
  have t0 := bT 0 (by omega)
  have t1 := bT 1 (by omega)
  have t2 := bT 2 (by omega)
  have t3 := bT 3 (by omega)
  have s0 := mul_bd (A := 500) (B := 500) t0 t0
  have s1 := mul_bd (A := 500) (B := 500) t1 t1
  have s2 := mul_bd (A := 500) (B := 500) t2 t2
  have s3 := mul_bd (A := 500) (B := 500) t3 t3
  refine g_iconst (pc := 0) dX2_take_0 ?_
  refine g_istore_n (pc := 1) (lo2 := [(0, vR (b + 2)), (1, vI 0)]) dX2_take_1 (by decide) rfl ?_
  refine g_aload_n (pc := 2) (r := .inl (some (b + 2))) dX2_take_2 rfl ?_
  refine g_getf (pc := 3) (v := vR (b + 4)) flX2_15 dX2_take_3 hn rfl ?_
  refine g_astore_n (pc := 6) (r := .inl (some (b + 4))) (lo2 := [(0, vR (b + 2)), (1, vI 0), (2, vR (b + 4))]) dX2_take_6 (by decide) rfl ?_
  refine g_aload_n (pc := 7) (r := .inl (some (b + 4))) dX2_take_7 rfl ?_
  refine g_alen (pc := 8) dX2_take_8 hT (by decide) ?_
  refine g_istore_n (pc := 9) (lo2 := [(0, vR (b + 2)), (1, vI 0), (2, vR (b + 4)), (3, vI ((4 : Nat) : Int))]) dX2_take_9 (by decide) rfl ?_
  refine g_iconst (pc := 10) dX2_take_10 ?_
  refine g_istore (pc := 11) (lo2 := [(0, vR (b + 2)), (1, vI 0), (2, vR (b + 4)), (3, vI ((4 : Nat) : Int)), (4, vI 0)]) dX2_take_11 (by decide) rfl ?_
  refine g_iload (pc := 13) (x := 0) dX2_take_13 rfl ?_
  refine g_iload_n (pc := 15) (x := ((4 : Nat) : Int)) dX2_take_15 rfl ?_
  refine g_icmp_geF (pc := 16) (tgt := 39) dX2_take_16 (by decide) (by omega) (by omega) (by omega) ?_
  refine g_aload_n (pc := 19) (r := .inl (some (b + 4))) dX2_take_19 rfl ?_
  refine g_iload (pc := 20) (x := 0) dX2_take_20 rfl ?_
  refine g_ialdN (pc := 22) (j := 0) dX2_take_22 hT (by omega) (by omega) (by omega) ?_
  refine g_istore (pc := 23) (lo2 := [(0, vR (b + 2)), (1, vI 0), (2, vR (b + 4)), (3, vI ((4 : Nat) : Int)), (4, vI 0), (5, vI (T 0))]) dX2_take_23 (by decide) rfl ?_
  refine g_iload_n (pc := 25) (x := 0) dX2_take_25 rfl ?_
  refine g_iload (pc := 26) (x := T 0) dX2_take_26 rfl ?_
  refine g_iload (pc := 28) (x := T 0) dX2_take_28 rfl ?_
  refine g_imul (pc := 30) dX2_take_30 ?_
  refine g_iadd (pc := 31) dX2_take_31 ?_
  refine g_istore_n (pc := 32) (lo2 := [(0, vR (b + 2)), (1, vI (0 + ((T 0) * (T 0)))), (2, vR (b + 4)), (3, vI ((4 : Nat) : Int)), (4, vI 0), (5, vI (T 0))]) dX2_take_32 (by decide) rfl ?_
  refine g_iinc (pc := 33) (x := 0) (lo2 := [(0, vR (b + 2)), (1, vI (0 + ((T 0) * (T 0)))), (2, vR (b + 4)), (3, vI ((4 : Nat) : Int)), (4, vI (0 + 1)), (5, vI (T 0))]) dX2_take_33 rfl (by decide) rfl ?_
  refine g_goto (pc := 36) (tgt := 13) dX2_take_36 (by decide) ?_
  refine g_pick [0, 1, 2, 3, 4] (lo2 := [(0, vR (b + 2)), (1, vI (0 + ((T 0) * (T 0)))), (2, vR (b + 4)), (3, vI ((4 : Nat) : Int)), (4, vI (0 + 1))]) rfl ?_
  show G mX2_take _ 13 [(0, vR (b + 2)), (1, vI (0 + T 0 * T 0)), (2, vR (b + 4)), (3, vI ((4 : Nat) : Int)), (4, vI 1)] [] _ h _
  refine g_iload (pc := 13) (x := 1) dX2_take_13 rfl ?_
  refine g_iload_n (pc := 15) (x := ((4 : Nat) : Int)) dX2_take_15 rfl ?_
  refine g_icmp_geF (pc := 16) (tgt := 39) dX2_take_16 (by decide) (by omega) (by omega) (by omega) ?_
  refine g_aload_n (pc := 19) (r := .inl (some (b + 4))) dX2_take_19 rfl ?_
  refine g_iload (pc := 20) (x := 1) dX2_take_20 rfl ?_
  refine g_ialdN (pc := 22) (j := 1) dX2_take_22 hT (by omega) (by omega) (by omega) ?_
  refine g_istore (pc := 23) (lo2 := [(0, vR (b + 2)), (1, vI (0 + T 0 * T 0)), (2, vR (b + 4)), (3, vI ((4 : Nat) : Int)), (4, vI 1), (5, vI (T 1))]) dX2_take_23 (by decide) rfl ?_
  refine g_iload_n (pc := 25) (x := 0 + T 0 * T 0) dX2_take_25 rfl ?_
  refine g_iload (pc := 26) (x := T 1) dX2_take_26 rfl ?_
  refine g_iload (pc := 28) (x := T 1) dX2_take_28 rfl ?_
  refine g_imul (pc := 30) dX2_take_30 ?_
  refine g_iadd (pc := 31) dX2_take_31 ?_
  refine g_istore_n (pc := 32) (lo2 := [(0, vR (b + 2)), (1, vI ((0 + T 0 * T 0) + ((T 1) * (T 1)))), (2, vR (b + 4)), (3, vI ((4 : Nat) : Int)), (4, vI 1), (5, vI (T 1))]) dX2_take_32 (by decide) rfl ?_
  refine g_iinc (pc := 33) (x := 1) (lo2 := [(0, vR (b + 2)), (1, vI ((0 + T 0 * T 0) + ((T 1) * (T 1)))), (2, vR (b + 4)), (3, vI ((4 : Nat) : Int)), (4, vI (1 + 1)), (5, vI (T 1))]) dX2_take_33 rfl (by decide) rfl ?_
  refine g_goto (pc := 36) (tgt := 13) dX2_take_36 (by decide) ?_
  refine g_pick [0, 1, 2, 3, 4] (lo2 := [(0, vR (b + 2)), (1, vI ((0 + T 0 * T 0) + ((T 1) * (T 1)))), (2, vR (b + 4)), (3, vI ((4 : Nat) : Int)), (4, vI (1 + 1))]) rfl ?_
  show G mX2_take _ 13 [(0, vR (b + 2)), (1, vI ((0 + T 0 * T 0) + T 1 * T 1)), (2, vR (b + 4)), (3, vI ((4 : Nat) : Int)), (4, vI 2)] [] _ h _
  refine g_iload (pc := 13) (x := 2) dX2_take_13 rfl ?_
  refine g_iload_n (pc := 15) (x := ((4 : Nat) : Int)) dX2_take_15 rfl ?_
  refine g_icmp_geF (pc := 16) (tgt := 39) dX2_take_16 (by decide) (by omega) (by omega) (by omega) ?_
  refine g_aload_n (pc := 19) (r := .inl (some (b + 4))) dX2_take_19 rfl ?_
  refine g_iload (pc := 20) (x := 2) dX2_take_20 rfl ?_
  refine g_ialdN (pc := 22) (j := 2) dX2_take_22 hT (by omega) (by omega) (by omega) ?_
  refine g_istore (pc := 23) (lo2 := [(0, vR (b + 2)), (1, vI ((0 + T 0 * T 0) + T 1 * T 1)), (2, vR (b + 4)), (3, vI ((4 : Nat) : Int)), (4, vI 2), (5, vI (T 2))]) dX2_take_23 (by decide) rfl ?_
  refine g_iload_n (pc := 25) (x := (0 + T 0 * T 0) + T 1 * T 1) dX2_take_25 rfl ?_
  refine g_iload (pc := 26) (x := T 2) dX2_take_26 rfl ?_
  refine g_iload (pc := 28) (x := T 2) dX2_take_28 rfl ?_
  refine g_imul (pc := 30) dX2_take_30 ?_
  refine g_iadd (pc := 31) dX2_take_31 ?_
  refine g_istore_n (pc := 32) (lo2 := [(0, vR (b + 2)), (1, vI (((0 + T 0 * T 0) + T 1 * T 1) + ((T 2) * (T 2)))), (2, vR (b + 4)), (3, vI ((4 : Nat) : Int)), (4, vI 2), (5, vI (T 2))]) dX2_take_32 (by decide) rfl ?_
  refine g_iinc (pc := 33) (x := 2) (lo2 := [(0, vR (b + 2)), (1, vI (((0 + T 0 * T 0) + T 1 * T 1) + ((T 2) * (T 2)))), (2, vR (b + 4)), (3, vI ((4 : Nat) : Int)), (4, vI (2 + 1)), (5, vI (T 2))]) dX2_take_33 rfl (by decide) rfl ?_
  refine g_goto (pc := 36) (tgt := 13) dX2_take_36 (by decide) ?_
  refine g_pick [0, 1, 2, 3, 4] (lo2 := [(0, vR (b + 2)), (1, vI (((0 + T 0 * T 0) + T 1 * T 1) + ((T 2) * (T 2)))), (2, vR (b + 4)), (3, vI ((4 : Nat) : Int)), (4, vI (2 + 1))]) rfl ?_
  show G mX2_take _ 13 [(0, vR (b + 2)), (1, vI (((0 + T 0 * T 0) + T 1 * T 1) + T 2 * T 2)), (2, vR (b + 4)), (3, vI ((4 : Nat) : Int)), (4, vI 3)] [] _ h _
  refine g_iload (pc := 13) (x := 3) dX2_take_13 rfl ?_
  refine g_iload_n (pc := 15) (x := ((4 : Nat) : Int)) dX2_take_15 rfl ?_
  refine g_icmp_geF (pc := 16) (tgt := 39) dX2_take_16 (by decide) (by omega) (by omega) (by omega) ?_
  refine g_aload_n (pc := 19) (r := .inl (some (b + 4))) dX2_take_19 rfl ?_
  refine g_iload (pc := 20) (x := 3) dX2_take_20 rfl ?_
  refine g_ialdN (pc := 22) (j := 3) dX2_take_22 hT (by omega) (by omega) (by omega) ?_
  refine g_istore (pc := 23) (lo2 := [(0, vR (b + 2)), (1, vI (((0 + T 0 * T 0) + T 1 * T 1) + T 2 * T 2)), (2, vR (b + 4)), (3, vI ((4 : Nat) : Int)), (4, vI 3), (5, vI (T 3))]) dX2_take_23 (by decide) rfl ?_
  refine g_iload_n (pc := 25) (x := ((0 + T 0 * T 0) + T 1 * T 1) + T 2 * T 2) dX2_take_25 rfl ?_
  refine g_iload (pc := 26) (x := T 3) dX2_take_26 rfl ?_
  refine g_iload (pc := 28) (x := T 3) dX2_take_28 rfl ?_
  refine g_imul (pc := 30) dX2_take_30 ?_
  refine g_iadd (pc := 31) dX2_take_31 ?_
  refine g_istore_n (pc := 32) (lo2 := [(0, vR (b + 2)), (1, vI ((((0 + T 0 * T 0) + T 1 * T 1) + T 2 * T 2) + ((T 3) * (T 3)))), (2, vR (b + 4)), (3, vI ((4 : Nat) : Int)), (4, vI 3), (5, vI (T 3))]) dX2_take_32 (by decide) rfl ?_
  refine g_iinc (pc := 33) (x := 3) (lo2 := [(0, vR (b + 2)), (1, vI ((((0 + T 0 * T 0) + T 1 * T 1) + T 2 * T 2) + ((T 3) * (T 3)))), (2, vR (b + 4)), (3, vI ((4 : Nat) : Int)), (4, vI (3 + 1)), (5, vI (T 3))]) dX2_take_33 rfl (by decide) rfl ?_
  refine g_goto (pc := 36) (tgt := 13) dX2_take_36 (by decide) ?_
  refine g_pick [0, 1, 2, 3, 4] (lo2 := [(0, vR (b + 2)), (1, vI ((((0 + T 0 * T 0) + T 1 * T 1) + T 2 * T 2) + ((T 3) * (T 3)))), (2, vR (b + 4)), (3, vI ((4 : Nat) : Int)), (4, vI (3 + 1))]) rfl ?_
  show G mX2_take _ 13 [(0, vR (b + 2)), (1, vI ((((0 + T 0 * T 0) + T 1 * T 1) + T 2 * T 2) + T 3 * T 3)), (2, vR (b + 4)), (3, vI ((4 : Nat) : Int)), (4, vI 4)] [] _ h _
  have esq : sq4 T = (((0 + T 0 * T 0) + T 1 * T 1) + T 2 * T 2) + T 3 * T 3 := by unfold sq4; omega
  rw [← esq]
  have bsq : 0 ≤ sq4 T ∧ sq4 T ≤ 1000000 := by have := sq_nn (T 0); have := sq_nn (T 1); have := sq_nn (T 2); have := sq_nn (T 3); omega
  refine g_iload (pc := 13) (x := 4) dX2_take_13 rfl ?_
  refine g_iload_n (pc := 15) (x := ((4 : Nat) : Int)) dX2_take_15 rfl ?_
  refine g_icmp_geT (pc := 16) (tgt := 39) dX2_take_16 (by decide) (by omega) (by omega) (by omega) ?_
  refine g_pick [0, 1] (lo2 := [(0, vR (b + 2)), (1, vI (sq4 T))]) rfl ?_
  refine g_iload_n (pc := 39) (x := sq4 T) dX2_take_39 rfl ?_
  refine g_aload_n (pc := 40) (r := .inl (some (b + 2))) dX2_take_40 rfl ?_
  refine g_getf (pc := 41) (v := vI sq) flX2_26 dX2_take_41 hn rfl ?_
  refine g_icmp_gt (pc := 44) (tgt := 92) dX2_take_44 (by decide) (by omega) (by omega) (fun hc => ?_) (fun hc => ?_)
  · exact r_void (pc := 92) dX2_take_92 rfl rfl (Nat.le_refl _) ⟨rfl, fun _ _ _ => rfl, sq, L, hn.2, hL.2, Or.inr ⟨fun z => by omega, rfl, rfl⟩⟩
  · refine g_aload_n (pc := 47) (r := .inl (some (b + 2))) dX2_take_47 rfl ?_
    refine g_callV0 (pc := 48) (as := []) (b := b + 2) (st := []) lvX2_38 dX2_take_48 hn (Nat.le_of_ble_eq_true rfl) (by omega) (Nat.zero_le _) (Nat.zero_le _) (c_above (d := d) bT hn hL hT) ?_
    rintro r h1 ⟨e9, e8⟩
    subst e9
    rcases e8 with ⟨e8, hab⟩ | ⟨e8, hab⟩ <;> subst e8
    · refine g_if_eqF (pc := 51) (tgt := 92) dX2_take_51 (by decide) (by omega) (by omega) ?_
      refine g_iload_n (pc := 54) (x := sq4 T) dX2_take_54 rfl ?_
      refine g_aload_n (pc := 55) (r := .inl (some (b + 2))) dX2_take_55 rfl ?_
      refine g_getf (pc := 56) (v := vI sq) flX2_26 dX2_take_56 hn rfl ?_
      refine g_icmp_lt (pc := 59) (tgt := 69) dX2_take_59 (by decide) (by omega) (by omega) (fun hl => ?_) (fun hl => ?_)
      · refine g_aload_n (pc := 69) (r := .inl (some (b + 2))) dX2_take_69 rfl ?_
        refine g_iload_n (pc := 70) (x := sq4 T) dX2_take_70 rfl ?_
        refine g_putf (pc := 71) fpX2_26 dX2_take_71 hn (okv_int _) (Nat.le_of_ble_eq_true rfl) ?_
        have hn_1 := hn.self (e := eO 2 [vR (b + 3), vI (sq4 T), vR (b + 4), vI ff])
        have hL_1 := hL.ne (e := eO 2 [vR (b + 3), vI (sq4 T), vR (b + 4), vI ff]) (a := b + 2) (by omega)
        have hT_1 := hT.ne (e := eO 2 [vR (b + 3), vI (sq4 T), vR (b + 4), vI ff]) (a := b + 2) (by omega)
        refine g_aload_n (pc := 74) (r := .inl (some (b + 2))) dX2_take_74 rfl ?_
        refine g_getf (pc := 75) (v := vR (b + 4)) flX2_15 dX2_take_75 hn_1 rfl ?_
        refine g_iconst (pc := 78) dX2_take_78 ?_
        refine g_aload_n (pc := 79) (r := .inl (some (b + 2))) dX2_take_79 rfl ?_
        refine g_getf (pc := 80) (v := vR (b + 3)) flX2_9 dX2_take_80 hn_1 rfl ?_
        refine g_iconst (pc := 83) dX2_take_83 ?_
        refine g_aload_n (pc := 84) (r := .inl (some (b + 2))) dX2_take_84 rfl ?_
        refine g_getf (pc := 85) (v := vR (b + 3)) flX2_9 dX2_take_85 hn_1 rfl ?_
        refine g_alen (pc := 88) dX2_take_88 hL_1 (by decide) ?_
        refine g_copy (pc := 89) (st := []) (sp := 0) (dp := 0) (n := 4) cpX2_45 dX2_take_89 hT_1 hL_1 (by omega) (by omega) (by omega) (by omega) (by omega) (by omega) (by omega) (by omega) (Nat.le_of_ble_eq_true rfl) ?_
        have hn_2 := hn_1.ne (e := eA 0 4 (va_cpy T L 0 0 4)) (a := b + 3) (by omega)
        have hL_2 := hL_1.self (e := eA 0 4 (va_cpy T L 0 0 4))
        have hT_2 := hT_1.ne (e := eA 0 4 (va_cpy T L 0 0 4)) (a := b + 3) (by omega)
        have hz : ∀ i, i < 4 → va_cpy T L 0 0 4 i = T i := fun i hi => by show (if 0 ≤ i ∧ i < 0 + 4 then T (0 + (i - 0)) else L i) = T i; rw [if_pos ⟨Nat.zero_le i, by omega⟩, show 0 + (i - 0) = i by omega]
        exact r_void (pc := 92) dX2_take_92 rfl rfl (Nat.le_refl _) ⟨rfl, fun a z1 z2 => by rw [va_up_ne _ _ z2, va_up_ne _ _ z1], sq4 T, _, hn_2.2, hL_2.2, Or.inl ⟨⟨hab, Or.inl hl⟩, rfl, hz⟩⟩
      · refine g_aload_n (pc := 62) (r := .inl (some (b + 2))) dX2_take_62 rfl ?_
        refine g_callV0 (pc := 63) (as := []) (b := b + 2) (st := []) lvX2_42 dX2_take_63 hn (Nat.le_of_ble_eq_true rfl) (by omega) (Nat.zero_le _) (Nat.zero_le _) (c_comesFirst (d := d) bT (bL (by omega)) hn hL hT) ?_
        rintro r h2 ⟨e9, e8⟩
        subst e9
        rcases e8 with ⟨e8, hlx⟩ | ⟨e8, hlx⟩ <;> subst e8
        · refine g_if_eqF (pc := 66) (tgt := 92) dX2_take_66 (by decide) (by omega) (by omega) ?_
          refine g_aload_n (pc := 69) (r := .inl (some (b + 2))) dX2_take_69 rfl ?_
          refine g_iload_n (pc := 70) (x := sq4 T) dX2_take_70 rfl ?_
          refine g_putf (pc := 71) fpX2_26 dX2_take_71 hn (okv_int _) (Nat.le_of_ble_eq_true rfl) ?_
          have hn_1 := hn.self (e := eO 2 [vR (b + 3), vI (sq4 T), vR (b + 4), vI ff])
          have hL_1 := hL.ne (e := eO 2 [vR (b + 3), vI (sq4 T), vR (b + 4), vI ff]) (a := b + 2) (by omega)
          have hT_1 := hT.ne (e := eO 2 [vR (b + 3), vI (sq4 T), vR (b + 4), vI ff]) (a := b + 2) (by omega)
          refine g_aload_n (pc := 74) (r := .inl (some (b + 2))) dX2_take_74 rfl ?_
          refine g_getf (pc := 75) (v := vR (b + 4)) flX2_15 dX2_take_75 hn_1 rfl ?_
          refine g_iconst (pc := 78) dX2_take_78 ?_
          refine g_aload_n (pc := 79) (r := .inl (some (b + 2))) dX2_take_79 rfl ?_
          refine g_getf (pc := 80) (v := vR (b + 3)) flX2_9 dX2_take_80 hn_1 rfl ?_
          refine g_iconst (pc := 83) dX2_take_83 ?_
          refine g_aload_n (pc := 84) (r := .inl (some (b + 2))) dX2_take_84 rfl ?_
          refine g_getf (pc := 85) (v := vR (b + 3)) flX2_9 dX2_take_85 hn_1 rfl ?_
          refine g_alen (pc := 88) dX2_take_88 hL_1 (by decide) ?_
          refine g_copy (pc := 89) (st := []) (sp := 0) (dp := 0) (n := 4) cpX2_45 dX2_take_89 hT_1 hL_1 (by omega) (by omega) (by omega) (by omega) (by omega) (by omega) (by omega) (by omega) (Nat.le_of_ble_eq_true rfl) ?_
          have hn_2 := hn_1.ne (e := eA 0 4 (va_cpy T L 0 0 4)) (a := b + 3) (by omega)
          have hL_2 := hL_1.self (e := eA 0 4 (va_cpy T L 0 0 4))
          have hT_2 := hT_1.ne (e := eA 0 4 (va_cpy T L 0 0 4)) (a := b + 3) (by omega)
          have hz : ∀ i, i < 4 → va_cpy T L 0 0 4 i = T i := fun i hi => by show (if 0 ≤ i ∧ i < 0 + 4 then T (0 + (i - 0)) else L i) = T i; rw [if_pos ⟨Nat.zero_le i, by omega⟩, show 0 + (i - 0) = i by omega]
          exact r_void (pc := 92) dX2_take_92 rfl rfl (Nat.le_refl _) ⟨rfl, fun a z1 z2 => by rw [va_up_ne _ _ z2, va_up_ne _ _ z1], sq4 T, _, hn_2.2, hL_2.2, Or.inl ⟨⟨hab, Or.inr ⟨by omega, hlx⟩⟩, rfl, hz⟩⟩
        · refine g_if_eqT (pc := 66) (tgt := 92) dX2_take_66 (by decide) (by omega) (by omega) ?_
          exact r_void (pc := 92) dX2_take_92 rfl rfl (Nat.le_refl _) ⟨rfl, fun _ _ _ => rfl, sq, L, hn.2, hL.2, Or.inr ⟨fun z => z.2.elim (fun q => by omega) (fun q => hlx q.2), rfl, rfl⟩⟩
    · refine g_if_eqT (pc := 51) (tgt := 92) dX2_take_51 (by decide) (by omega) (by omega) ?_
      exact r_void (pc := 92) dX2_take_92 rfl rfl (Nat.le_refl _) ⟨rfl, fun _ _ _ => rfl, sq, L, hn.2, hL.2, Or.inr ⟨fun z => hab z.1, rfl, rfl⟩⟩

def NB (N : Nat) (h : MH) (b : Nat) (ff S : Int) (Z : Nat → Int) (pp : Prop) : Prop := ∃ (sq : Int) (L T : Nat → Int), Hd (0, 0, N) h (b + 2) (eO 2 [vR (b + 3), vI sq, vR (b + 4), vI ff]) ∧ Hd (0, 0, N) h (b + 3) (eA 0 4 L) ∧ Hd (0, 0, N) h (b + 4) (eA 0 4 T) ∧ (0 ≤ sq ∧ sq ≤ 1000000) ∧ (sq < 1000000 → ∀ i, i < 4 → -500 ≤ L i ∧ L i ≤ 500) ∧ ((sq = S ∧ ∀ i, i < 4 → L i = Z i) ∨ (¬ pp ∧ (S < sq ∨ (S = sq ∧ lexlt Z L))))
theorem NB.to {N : Nat} {h : MH} {b : Nat} {ff S : Int} {Z : Nat → Int} {p q : Prop} (s : NB N h b ff S Z p) (k : q → p) : NB N h b ff S Z q := by
  obtain ⟨sq, L, T, a1, a2, a3, a4, a5, a6⟩ := s
  exact ⟨sq, L, T, a1, a2, a3, a4, a5, a6.elim Or.inl (fun z => Or.inr ⟨fun y => z.1 (k y), z.2⟩)⟩
theorem lnOk_congr {t : Int} {M k : Nat} {A B : Nat → Int} (e : ∀ i, i < 4 → A i = B i) : lnOk t M k A ↔ lnOk t M k B := by
  unfold lnOk
  rw [e 0 (by omega), e 1 (by omega), e 2 (by omega), e 3 (by omega)]
  constructor
  · exact fun z => ⟨fun i i1 i2 => by rw [← e i i2]; exact z.1 i i1 i2, z.2⟩
  · exact fun z => ⟨fun i i1 i2 => by rw [e i i2]; exact z.1 i i1 i2, z.2⟩
theorem sq4_congr {A B : Nat → Int} (e : ∀ i, i < 4 → A i = B i) : sq4 A = sq4 B := by
  unfold sq4
  rw [e 0 (by omega), e 1 (by omega), e 2 (by omega), e 3 (by omega)]
theorem lex_congr {A B C : Nat → Int} (e : ∀ i, i < 4 → A i = B i) : lexlt C A ↔ lexlt C B := by
  unfold lexlt
  rw [e 0 (by omega), e 1 (by omega), e 2 (by omega), e 3 (by omega)]
theorem isShort_congr {t S : Int} {M k : Nat} {A B : Nat → Int} (e : ∀ i, i < 4 → A i = B i) (h : isShort t M k S A) : isShort t M k S B :=
  ⟨(lnOk_congr e).mp h.1, h.2.1.trans (sq4_congr e), fun K hK => (h.2.2 K hK).elim Or.inl (fun z => Or.inr ⟨z.1, fun y => z.2 ((lex_congr e).mpr y)⟩)⟩
theorem isShort_uniq {t S1 S2 : Int} {M k : Nat} {A B : Nat → Int} (h1 : isShort t M k S1 A) (h2 : isShort t M k S2 B) : S1 = S2 ∧ ∀ i, i < 4 → A i = B i := by
  have z1 := h1.2.2 B h2.1
  have z2 := h2.2.2 A h1.1
  have e1 := h1.2.1
  have e2 := h2.2.1
  have e : S1 = S2 := by omega
  refine ⟨e, fun i hi => ?_⟩
  by_cases hc : A 0 = B 0 ∧ A 1 = B 1 ∧ A 2 = B 2 ∧ A 3 = B 3
  · have hi4 : i = 0 ∨ i = 1 ∨ i = 2 ∨ i = 3 := by omega
    rcases hi4 with y | y | y | y <;> subst y <;> omega
  · rcases lex_tot hc with y | y
    · exact absurd y (z2.resolve_left (by omega)).2
    · exact absurd y (z1.resolve_left (by omega)).2
/-- one row more is tried -/
theorem NB_take {t S sq sq2 : Int} {M k : Nat} {Z L L2 T : Nat → Int} {p q : Prop} (hZ : isShort t M k S Z) (hs : (∀ i, k ≤ i → i < 4 → T i = 0) ∧ (M : Int) ∣ T 0 + t * T 1 + t * t * T 2 + t * t * t * T 3) (h1 : (sq = S ∧ ∀ i, i < 4 → L i = Z i) ∨ (¬ p ∧ (S < sq ∨ (S = sq ∧ lexlt Z L)))) (hq : q → p ∨ ∀ i, i < 4 → T i = Z i) (h2 : ((abv T ∧ (sq4 T < sq ∨ (sq4 T = sq ∧ lexlt T L))) ∧ sq2 = sq4 T ∧ ∀ i, i < 4 → L2 i = T i) ∨ (¬ (abv T ∧ (sq4 T < sq ∨ (sq4 T = sq ∧ lexlt T L))) ∧ sq2 = sq ∧ L2 = L)) : (sq2 = S ∧ ∀ i, i < 4 → L2 i = Z i) ∨ (¬ q ∧ (S < sq2 ∨ (S = sq2 ∧ lexlt Z L2))) := by
  have eZ := hZ.2.1
  rcases h2 with ⟨⟨b1, b2⟩, b3, b4⟩ | ⟨b1, b2, b3⟩
  · have hK := hZ.2.2 T ⟨hs.1, hs.2, b1⟩
    by_cases eT : ∀ i, i < 4 → T i = Z i
    · exact Or.inl ⟨by rw [b3, eZ]; exact sq4_congr eT, fun i hi => (b4 i hi).trans (eT i hi)⟩
    · have hlt : S < sq4 T ∨ (S = sq4 T ∧ lexlt Z T) := by
        rcases hK with y | ⟨y1, y2⟩
        · exact Or.inl y
        · refine Or.inr ⟨y1, (lex_tot (fun z => eT (fun i hi => ?_))).resolve_right y2⟩
          have hi4 : i = 0 ∨ i = 1 ∨ i = 2 ∨ i = 3 := by omega
          rcases hi4 with e | e | e | e <;> subst e <;> omega
      have hlt2 : S < sq2 ∨ (S = sq2 ∧ lexlt Z L2) := by
        rw [b3]
        exact hlt.imp id (fun z => ⟨z.1, (lex_congr b4).mpr z.2⟩)
      refine Or.inr ⟨fun y => ?_, hlt2⟩
      rcases hq y with yp | yp
      · rcases h1 with ⟨c1, c2⟩ | ⟨c1, -⟩
        · rcases b2 with b2 | ⟨b2, b5⟩
          · omega
          · have := (lex_congr c2).mp b5
            rcases hlt with z | z
            · omega
            · unfold lexlt at *
              omega
        · exact c1 yp
      · exact eT yp
  · rw [b2, b3]
    rcases h1 with c | ⟨c1, c2⟩
    · exact Or.inl c
    · refine Or.inr ⟨fun y => ?_, c2⟩
      rcases hq y with yp | yp
      · exact c1 yp
      · refine b1 ⟨?_, ?_⟩
        · have := hZ.1.2.2
          unfold abv
          rw [yp 0 (by omega), yp 1 (by omega), yp 2 (by omega), yp 3 (by omega)]
          exact this
        · rw [sq4_congr yp, ← eZ]
          refine c2.imp id (fun z => ⟨z.1, ?_⟩)
          have z2 := z.2
          unfold lexlt at *
          rw [yp 0 (by omega), yp 1 (by omega), yp 2 (by omega), yp 3 (by omega)]
          exact z2
def psd (Z : Nat → Int) (a e c : Int) : Prop := Z 1 < a ∨ (Z 1 = a ∧ (Z 2 < e ∨ (Z 2 = e ∧ Z 3 < c)))

theorem find_c {N d b M k Ls : Nat} {sx : Nat → Int} {t S rc th fo : Int} {Z : Nat → Int} {h0 : MH} {Q : Option MV → MR → MH → Prop} (hM : 2 ≤ M) (hM2 : M ≤ 500) (ht : 0 ≤ t ∧ t < M) (hrc : 0 ≤ rc ∧ rc ≤ 24) (hth : 0 ≤ th ∧ th ≤ 24) (hfo : 0 ≤ fo ∧ fo ≤ 24) (k2 : 2 ≤ k) (hk2 : k ≤ 2 → th = 0) (hk3 : k ≤ 3 → fo = 0) (hZ : isShort t M k S Z) (z1 : -rc ≤ Z 1 ∧ Z 1 ≤ rc) (z2 : -th ≤ Z 2 ∧ Z 2 ≤ th) (z3 : -fo ≤ Z 3 ∧ Z 3 ≤ fo) (z0 : 0 ≤ Z 0 ∧ Z 0 < M) {a e : Int} (ha : -rc ≤ a ∧ a ≤ rc) (he : -th ≤ e ∧ e ≤ th) (hK : ∀ h2 : MH, NB N h2 b (k : Int) S Z (psd Z a (e + 1) (-fo)) → (∀ x, x ≠ b + 2 → x ≠ b + 3 → x ≠ b + 4 → h2 x = h0 x) → G mX2_find (d + 2, 0, 0, Ls, sx) 162 [(0, vR (b + 2)), (1, vI t), (2, vI (M : Int)), (3, vI (k : Int)), (4, vI rc), (5, vI th), (6, vI fo), (7, vI a), (8, vI e)] [] (0, 0, N) h2 Q) : ∀ (f : Nat) (c : Int) (h : MH), c + f = fo + 1 → -fo ≤ c → NB N h b (k : Int) S Z (psd Z a e c) → (∀ x, x ≠ b + 2 → x ≠ b + 3 → x ≠ b + 4 → h x = h0 x) → G mX2_find (d + 2, 0, 0, Ls, sx) 94 [(0, vR (b + 2)), (1, vI t), (2, vI (M : Int)), (3, vI (k : Int)), (4, vI rc), (5, vI th), (6, vI fo), (7, vI a), (8, vI e), (9, vI c)] [] (0, 0, N) h Q := by
  intro f
  induction f with
  | zero =>
    intro c h hf hc nb hfr
    refine g_iload (pc := 94) (x := c) dX2_find_94 rfl ?_
    refine g_iload (pc := 96) (x := fo) dX2_find_96 rfl ?_
    refine g_icmp_gtT (pc := 98) (tgt := 162) dX2_find_98 (by decide) (by omega) (by omega) (by omega) ?_
    refine g_pick [0, 1, 2, 3, 4, 5, 6, 7, 8] (lo2 := [(0, vR (b + 2)), (1, vI t), (2, vI (M : Int)), (3, vI (k : Int)), (4, vI rc), (5, vI th), (6, vI fo), (7, vI a), (8, vI e)]) rfl ?_
    exact hK h (nb.to (fun y => by unfold psd at *; omega)) hfr
  | succ f ih =>
    intro c h hf hc nb hfr
    obtain ⟨sq, L, T, hn, hL, hT, bs, bL, hbw⟩ := nb
    have m1 := mul_bd (A := 500) (B := 24) (x := t) (y := c) (by omega) (by omega)
    have m2 := mul_bd (A := 500) (B := 12024) (x := t) (y := e + t * c) (by omega) (by omega)
    have m3 := mul_bd (A := 500) (B := 6012024) (x := -t) (y := a + t * (e + t * c)) (by omega) (by omega)
    refine g_iload (pc := 94) (x := c) dX2_find_94 rfl ?_
    refine g_iload (pc := 96) (x := fo) dX2_find_96 rfl ?_
    refine g_icmp_gtF (pc := 98) (tgt := 162) dX2_find_98 (by decide) (by omega) (by omega) (by omega) ?_
    refine g_aload_n (pc := 101) (r := .inl (some (b + 2))) dX2_find_101 rfl ?_
    refine g_getf (pc := 102) (v := vR (b + 4)) flX2_15 dX2_find_102 hn rfl ?_
    refine g_iconst (pc := 105) dX2_find_105 ?_
    refine g_iload (pc := 106) (x := a) dX2_find_106 rfl ?_
    refine g_iastN (pc := 108) (j := 1) dX2_find_108 hT (by omega) (by omega) (by omega) ?_
    have hn_1 := hn.ne (e := eA 0 4 (va_up T 1 a)) (a := b + 4) (by omega)
    have hL_1 := hL.ne (e := eA 0 4 (va_up T 1 a)) (a := b + 4) (by omega)
    have hT_1 := hT.self (e := eA 0 4 (va_up T 1 a))
    refine g_aload_n (pc := 109) (r := .inl (some (b + 2))) dX2_find_109 rfl ?_
    refine g_getf (pc := 110) (v := vR (b + 4)) flX2_15 dX2_find_110 hn_1 rfl ?_
    refine g_iconst (pc := 113) dX2_find_113 ?_
    refine g_iload (pc := 114) (x := e) dX2_find_114 rfl ?_
    refine g_iastN (pc := 116) (j := 2) dX2_find_116 hT_1 (by omega) (by omega) (by omega) ?_
    have hn_2 := hn_1.ne (e := eA 0 4 (va_up (va_up T 1 a) 2 e)) (a := b + 4) (by omega)
    have hL_2 := hL_1.ne (e := eA 0 4 (va_up (va_up T 1 a) 2 e)) (a := b + 4) (by omega)
    have hT_2 := hT_1.self (e := eA 0 4 (va_up (va_up T 1 a) 2 e))
    refine g_aload_n (pc := 117) (r := .inl (some (b + 2))) dX2_find_117 rfl ?_
    refine g_getf (pc := 118) (v := vR (b + 4)) flX2_15 dX2_find_118 hn_2 rfl ?_
    refine g_iconst (pc := 121) dX2_find_121 ?_
    refine g_iload (pc := 122) (x := c) dX2_find_122 rfl ?_
    refine g_iastN (pc := 124) (j := 3) dX2_find_124 hT_2 (by omega) (by omega) (by omega) ?_
    have hn_3 := hn_2.ne (e := eA 0 4 (va_up (va_up (va_up T 1 a) 2 e) 3 c)) (a := b + 4) (by omega)
    have hL_3 := hL_2.ne (e := eA 0 4 (va_up (va_up (va_up T 1 a) 2 e) 3 c)) (a := b + 4) (by omega)
    have hT_3 := hT_2.self (e := eA 0 4 (va_up (va_up (va_up T 1 a) 2 e) 3 c))
    refine g_aload_n (pc := 125) (r := .inl (some (b + 2))) dX2_find_125 rfl ?_
    refine g_getf (pc := 126) (v := vR (b + 4)) flX2_15 dX2_find_126 hn_3 rfl ?_
    refine g_iconst (pc := 129) dX2_find_129 ?_
    refine g_iload_n (pc := 130) (x := t) dX2_find_130 rfl ?_
    refine g_i2l (pc := 131) dX2_find_131 (by omega) ?_
    refine g_lneg (pc := 132) dX2_find_132 ?_
    refine g_iload (pc := 133) (x := a) dX2_find_133 rfl ?_
    refine g_iload_n (pc := 135) (x := t) dX2_find_135 rfl ?_
    refine g_iload (pc := 136) (x := e) dX2_find_136 rfl ?_
    refine g_iload_n (pc := 138) (x := t) dX2_find_138 rfl ?_
    refine g_iload (pc := 139) (x := c) dX2_find_139 rfl ?_
    refine g_imul (pc := 141) dX2_find_141 ?_
    refine g_iadd (pc := 142) dX2_find_142 ?_
    refine g_imul (pc := 143) dX2_find_143 ?_
    refine g_iadd (pc := 144) dX2_find_144 ?_
    refine g_i2l (pc := 145) dX2_find_145 (by omega) ?_
    refine g_lmul (pc := 146) dX2_find_146 ?_
    refine g_iload_n (pc := 147) (x := (M : Int)) dX2_find_147 rfl ?_
    refine g_callS0 (pc := 148) (as := [vJ ((-t) * (a + (t * (e + (t * c))))), vI (M : Int)]) (st := [vI 0, vR (b + 4)]) lsX2_29 dX2_find_148 (Nat.le_of_ble_eq_true rfl) (by omega) (Nat.zero_le _) (Nat.zero_le _) (c_restOf (d := d) (by omega) (by omega) (by omega)) ?_
    rintro r h1 ⟨e9, e8⟩
    subst e9
    subst e8
    have u0 := Int.emod_nonneg (-t * (a + t * (e + t * c))) (show (M : Int) ≠ 0 by omega)
    have u1 := Int.emod_lt_of_pos (-t * (a + t * (e + t * c))) (show (0 : Int) < M by omega)
    have ud := Int.mul_ediv_add_emod (-t * (a + t * (e + t * c))) M
    obtain ⟨u, eu⟩ : ∃ u, u = -t * (a + t * (e + t * c)) % (M : Int) := ⟨_, rfl⟩
    rw [← eu] at u0 u1 ud ⊢
    refine g_iastN (pc := 151) (j := 0) dX2_find_151 hT_3 (by omega) (by omega) (by omega) ?_
    have hn_4 := hn_3.ne (e := eA 0 4 (va_up (va_up (va_up (va_up T 1 a) 2 e) 3 c) 0 u)) (a := b + 4) (by omega)
    have hL_4 := hL_3.ne (e := eA 0 4 (va_up (va_up (va_up (va_up T 1 a) 2 e) 3 c) 0 u)) (a := b + 4) (by omega)
    have hT_4 := hT_3.self (e := eA 0 4 (va_up (va_up (va_up (va_up T 1 a) 2 e) 3 c) 0 u))
    have T0 : (va_up (va_up (va_up (va_up T 1 a) 2 e) 3 c) 0 u) 0 = u := by simp [va_up]
    have T1 : (va_up (va_up (va_up (va_up T 1 a) 2 e) 3 c) 0 u) 1 = a := by simp [va_up]
    have T2 : (va_up (va_up (va_up (va_up T 1 a) 2 e) 3 c) 0 u) 2 = e := by simp [va_up]
    have T3 : (va_up (va_up (va_up (va_up T 1 a) 2 e) 3 c) 0 u) 3 = c := by simp [va_up]
    have bT : ∀ i, i < 4 → -500 ≤ (va_up (va_up (va_up (va_up T 1 a) 2 e) 3 c) 0 u) i ∧ (va_up (va_up (va_up (va_up T 1 a) 2 e) 3 c) 0 u) i ≤ 500 := fun i hi => by
      have hi4 : i = 0 ∨ i = 1 ∨ i = 2 ∨ i = 3 := by omega
      rcases hi4 with y | y | y | y <;> subst y <;> omega
    have hs : (∀ i, k ≤ i → i < 4 → (va_up (va_up (va_up (va_up T 1 a) 2 e) 3 c) 0 u) i = 0) ∧ (M : Int) ∣ (va_up (va_up (va_up (va_up T 1 a) 2 e) 3 c) 0 u) 0 + t * (va_up (va_up (va_up (va_up T 1 a) 2 e) 3 c) 0 u) 1 + t * t * (va_up (va_up (va_up (va_up T 1 a) 2 e) 3 c) 0 u) 2 + t * t * t * (va_up (va_up (va_up (va_up T 1 a) 2 e) 3 c) 0 u) 3 := by
      refine ⟨fun i i1 i2 => ?_, ?_⟩
      · have hi4 : i = 2 ∨ i = 3 := by omega
        rcases hi4 with y | y <;> subst y <;> omega
      · rw [T0, T1, T2, T3]
        refine ⟨-((-t * (a + t * (e + t * c))) / (M : Int)), ?_⟩
        generalize (-t * (a + t * (e + t * c))) / (M : Int) = qq at *
        grind
    have hq : psd Z a e (c + 1) → psd Z a e c ∨ ∀ i, i < 4 → (va_up (va_up (va_up (va_up T 1 a) 2 e) 3 c) 0 u) i = Z i := fun y => by
      by_cases hp : psd Z a e c
      · exact Or.inl hp
      · have e1 : Z 1 = a := by unfold psd at *; omega
        have e2 : Z 2 = e := by unfold psd at *; omega
        have e3 : Z 3 = c := by unfold psd at *; omega
        have e0 : Z 0 = u := by
          obtain ⟨qz, hqz⟩ := hZ.1.2.1
          rw [e1, e2, e3] at hqz
          refine eq_of_dvd z0 ⟨u0, u1⟩ ⟨qz + (-t * (a + t * (e + t * c))) / (M : Int), ?_⟩
          generalize (-t * (a + t * (e + t * c))) / (M : Int) = qq at *
          grind
        refine Or.inr (fun i hi => ?_)
        have hi4 : i = 0 ∨ i = 1 ∨ i = 2 ∨ i = 3 := by omega
        rcases hi4 with y | y | y | y <;> subst y <;> omega
    have s0 := mul_bd (A := 499) (B := 499) (x := (va_up (va_up (va_up (va_up T 1 a) 2 e) 3 c) 0 u) 0) (y := (va_up (va_up (va_up (va_up T 1 a) 2 e) 3 c) 0 u) 0) (by omega) (by omega)
    have s1 := mul_bd (A := 24) (B := 24) (x := (va_up (va_up (va_up (va_up T 1 a) 2 e) 3 c) 0 u) 1) (y := (va_up (va_up (va_up (va_up T 1 a) 2 e) 3 c) 0 u) 1) (by omega) (by omega)
    have s2 := mul_bd (A := 24) (B := 24) (x := (va_up (va_up (va_up (va_up T 1 a) 2 e) 3 c) 0 u) 2) (y := (va_up (va_up (va_up (va_up T 1 a) 2 e) 3 c) 0 u) 2) (by omega) (by omega)
    have s3 := mul_bd (A := 24) (B := 24) (x := (va_up (va_up (va_up (va_up T 1 a) 2 e) 3 c) 0 u) 3) (y := (va_up (va_up (va_up (va_up T 1 a) 2 e) 3 c) 0 u) 3) (by omega) (by omega)
    have n0 := sq_nn ((va_up (va_up (va_up (va_up T 1 a) 2 e) 3 c) 0 u) 0)
    have n1 := sq_nn ((va_up (va_up (va_up (va_up T 1 a) 2 e) 3 c) 0 u) 1)
    have n2 := sq_nn ((va_up (va_up (va_up (va_up T 1 a) 2 e) 3 c) 0 u) 2)
    have n3 := sq_nn ((va_up (va_up (va_up (va_up T 1 a) 2 e) 3 c) 0 u) 3)
    have hsT : 0 ≤ sq4 (va_up (va_up (va_up (va_up T 1 a) 2 e) 3 c) 0 u) ∧ sq4 (va_up (va_up (va_up (va_up T 1 a) 2 e) 3 c) 0 u) < 1000000 := by unfold sq4; omega
    refine g_aload_n (pc := 152) (r := .inl (some (b + 2))) dX2_find_152 rfl ?_
    refine g_callV0 (pc := 153) (as := []) (b := b + 2) (st := []) lvX2_35 dX2_find_153 hn_4 (Nat.le_of_ble_eq_true rfl) (by omega) (Nat.zero_le _) (Nat.zero_le _) (c_ntake (d := d) bT (fun y => bL (by omega)) bs hn_4 hL_4 hT_4) ?_
    rintro r h2 ⟨rfl, k1, sq2, L2, o1, o2, o3⟩
    refine g_iinc (pc := 156) (x := c) (lo2 := [(0, vR (b + 2)), (1, vI t), (2, vI (M : Int)), (3, vI (k : Int)), (4, vI rc), (5, vI th), (6, vI fo), (7, vI a), (8, vI e), (9, vI (c + 1))]) dX2_find_156 rfl (by decide) rfl ?_
    refine g_goto (pc := 159) (tgt := 94) dX2_find_159 (by decide) ?_
    have hbw2 := NB_take hZ hs hbw hq o3
    refine ih (c + 1) h2 (by omega) (by omega) ⟨sq2, L2, _, ⟨hn.1, o1⟩, ⟨hL.1, o2⟩, hT_4.keep (k1 _ (by omega) (by omega)), ?_, ?_, hbw2⟩ (fun x y1 y2 y3 => ?_)
    · rcases o3 with o | o
      · rw [o.2.1]
        omega
      · rw [o.2.1]
        exact bs
    · intro ho i hi
      rcases o3 with o | o
      · rw [o.2.2 i hi]
        exact bT i hi
      · rw [o.2.2]
        exact bL (by omega) i hi
    · rw [k1 x y1 y2, va_up_ne _ _ y3, va_up_ne _ _ y3, va_up_ne _ _ y3, va_up_ne _ _ y3]
      exact hfr x y1 y2 y3

theorem find_b {N d b M k Ls : Nat} {sx : Nat → Int} {t S rc th fo : Int} {Z : Nat → Int} {h0 : MH} {Q : Option MV → MR → MH → Prop} (hM : 2 ≤ M) (hM2 : M ≤ 500) (ht : 0 ≤ t ∧ t < M) (hrc : 0 ≤ rc ∧ rc ≤ 24) (hth : 0 ≤ th ∧ th ≤ 24) (hfo : 0 ≤ fo ∧ fo ≤ 24) (k2 : 2 ≤ k) (hk2 : k ≤ 2 → th = 0) (hk3 : k ≤ 3 → fo = 0) (hZ : isShort t M k S Z) (z1 : -rc ≤ Z 1 ∧ Z 1 ≤ rc) (z2 : -th ≤ Z 2 ∧ Z 2 ≤ th) (z3 : -fo ≤ Z 3 ∧ Z 3 ≤ fo) (z0 : 0 ≤ Z 0 ∧ Z 0 < M) {a : Int} (ha : -rc ≤ a ∧ a ≤ rc) (hK : ∀ h2 : MH, NB N h2 b (k : Int) S Z (psd Z (a + 1) (-th) (-fo)) → (∀ x, x ≠ b + 2 → x ≠ b + 3 → x ≠ b + 4 → h2 x = h0 x) → G mX2_find (d + 2, 0, 0, Ls, sx) 168 [(0, vR (b + 2)), (1, vI t), (2, vI (M : Int)), (3, vI (k : Int)), (4, vI rc), (5, vI th), (6, vI fo), (7, vI a)] [] (0, 0, N) h2 Q) : ∀ (f : Nat) (e : Int) (h : MH), e + f = th + 1 → -th ≤ e → NB N h b (k : Int) S Z (psd Z a e (-fo)) → (∀ x, x ≠ b + 2 → x ≠ b + 3 → x ≠ b + 4 → h x = h0 x) → G mX2_find (d + 2, 0, 0, Ls, sx) 82 [(0, vR (b + 2)), (1, vI t), (2, vI (M : Int)), (3, vI (k : Int)), (4, vI rc), (5, vI th), (6, vI fo), (7, vI a), (8, vI e)] [] (0, 0, N) h Q := by
  intro f
  induction f with
  | zero =>
    intro e h hf he nb hfr
    refine g_iload (pc := 82) (x := e) dX2_find_82 rfl ?_
    refine g_iload (pc := 84) (x := th) dX2_find_84 rfl ?_
    refine g_icmp_gtT (pc := 86) (tgt := 168) dX2_find_86 (by decide) (by omega) (by omega) (by omega) ?_
    refine g_pick [0, 1, 2, 3, 4, 5, 6, 7] (lo2 := [(0, vR (b + 2)), (1, vI t), (2, vI (M : Int)), (3, vI (k : Int)), (4, vI rc), (5, vI th), (6, vI fo), (7, vI a)]) rfl ?_
    exact hK h (nb.to (fun y => by unfold psd at *; omega)) hfr
  | succ f ih =>
    intro e h hf he nb hfr
    refine g_iload (pc := 82) (x := e) dX2_find_82 rfl ?_
    refine g_iload (pc := 84) (x := th) dX2_find_84 rfl ?_
    refine g_icmp_gtF (pc := 86) (tgt := 168) dX2_find_86 (by decide) (by omega) (by omega) (by omega) ?_
    refine g_iload (pc := 89) (x := fo) dX2_find_89 rfl ?_
    refine g_ineg (pc := 91) dX2_find_91 ?_
    refine g_istore (pc := 92) (lo2 := [(0, vR (b + 2)), (1, vI t), (2, vI (M : Int)), (3, vI (k : Int)), (4, vI rc), (5, vI th), (6, vI fo), (7, vI a), (8, vI e), (9, vI (-fo))]) dX2_find_92 (by decide) rfl ?_
    refine find_c hM hM2 ht hrc hth hfo k2 hk2 hk3 hZ z1 z2 z3 z0 ha (by omega) (fun h2 nb2 fr2 => ?_) (2 * fo.toNat + 1) (-fo) h (by omega) (by omega) nb hfr
    refine g_iinc (pc := 162) (x := e) (lo2 := [(0, vR (b + 2)), (1, vI t), (2, vI (M : Int)), (3, vI (k : Int)), (4, vI rc), (5, vI th), (6, vI fo), (7, vI a), (8, vI (e + 1))]) dX2_find_162 rfl (by decide) rfl ?_
    refine g_goto (pc := 165) (tgt := 82) dX2_find_165 (by decide) ?_
    exact ih (e + 1) h2 (by omega) (by omega) nb2 fr2

theorem find_a {N d b M k Ls : Nat} {sx : Nat → Int} {t S rc th fo : Int} {Z : Nat → Int} {h0 : MH} {Q : Option MV → MR → MH → Prop} (hM : 2 ≤ M) (hM2 : M ≤ 500) (ht : 0 ≤ t ∧ t < M) (hrc : 0 ≤ rc ∧ rc ≤ 24) (hth : 0 ≤ th ∧ th ≤ 24) (hfo : 0 ≤ fo ∧ fo ≤ 24) (k2 : 2 ≤ k) (hk2 : k ≤ 2 → th = 0) (hk3 : k ≤ 3 → fo = 0) (hZ : isShort t M k S Z) (z1 : -rc ≤ Z 1 ∧ Z 1 ≤ rc) (z2 : -th ≤ Z 2 ∧ Z 2 ≤ th) (z3 : -fo ≤ Z 3 ∧ Z 3 ≤ fo) (z0 : 0 ≤ Z 0 ∧ Z 0 < M) (hK : ∀ h2 : MH, NB N h2 b (k : Int) S Z True → (∀ x, x ≠ b + 2 → x ≠ b + 3 → x ≠ b + 4 → h2 x = h0 x) → G mX2_find (d + 2, 0, 0, Ls, sx) 174 [(0, vR (b + 2)), (1, vI t), (2, vI (M : Int)), (3, vI (k : Int)), (4, vI rc), (5, vI th), (6, vI fo)] [] (0, 0, N) h2 Q) : ∀ (f : Nat) (a : Int) (h : MH), a + f = rc + 1 → -rc ≤ a → NB N h b (k : Int) S Z (psd Z a (-th) (-fo)) → (∀ x, x ≠ b + 2 → x ≠ b + 3 → x ≠ b + 4 → h x = h0 x) → G mX2_find (d + 2, 0, 0, Ls, sx) 70 [(0, vR (b + 2)), (1, vI t), (2, vI (M : Int)), (3, vI (k : Int)), (4, vI rc), (5, vI th), (6, vI fo), (7, vI a)] [] (0, 0, N) h Q := by
  intro f
  induction f with
  | zero =>
    intro a h hf ha nb hfr
    refine g_iload (pc := 70) (x := a) dX2_find_70 rfl ?_
    refine g_iload (pc := 72) (x := rc) dX2_find_72 rfl ?_
    refine g_icmp_gtT (pc := 74) (tgt := 174) dX2_find_74 (by decide) (by omega) (by omega) (by omega) ?_
    refine g_pick [0, 1, 2, 3, 4, 5, 6] (lo2 := [(0, vR (b + 2)), (1, vI t), (2, vI (M : Int)), (3, vI (k : Int)), (4, vI rc), (5, vI th), (6, vI fo)]) rfl ?_
    exact hK h (nb.to (fun _ => by unfold psd; omega)) hfr
  | succ f ih =>
    intro a h hf ha nb hfr
    refine g_iload (pc := 70) (x := a) dX2_find_70 rfl ?_
    refine g_iload (pc := 72) (x := rc) dX2_find_72 rfl ?_
    refine g_icmp_gtF (pc := 74) (tgt := 174) dX2_find_74 (by decide) (by omega) (by omega) (by omega) ?_
    refine g_iload (pc := 77) (x := th) dX2_find_77 rfl ?_
    refine g_ineg (pc := 79) dX2_find_79 ?_
    refine g_istore (pc := 80) (lo2 := [(0, vR (b + 2)), (1, vI t), (2, vI (M : Int)), (3, vI (k : Int)), (4, vI rc), (5, vI th), (6, vI fo), (7, vI a), (8, vI (-th))]) dX2_find_80 (by decide) rfl ?_
    refine find_b hM hM2 ht hrc hth hfo k2 hk2 hk3 hZ z1 z2 z3 z0 (by omega) (fun h2 nb2 fr2 => ?_) (2 * th.toNat + 1) (-th) h (by omega) (by omega) nb hfr
    refine g_iinc (pc := 168) (x := a) (lo2 := [(0, vR (b + 2)), (1, vI t), (2, vI (M : Int)), (3, vI (k : Int)), (4, vI rc), (5, vI th), (6, vI fo), (7, vI (a + 1))]) dX2_find_168 rfl (by decide) rfl ?_
    refine g_goto (pc := 171) (tgt := 70) dX2_find_171 (by decide) ?_
    exact ih (a + 1) h2 (by omega) (by omega) nb2 fr2

theorem Z_box {x B : Int} {r : Int} (h : x * x < B) (hr : 0 ≤ r) (hB : B ≤ (r + 1) * (r + 1)) : -r ≤ x ∧ x ≤ r := by
  constructor
  · by_cases c : -r ≤ x
    · exact c
    · have := Int.mul_le_mul (show r + 1 ≤ -x by omega) (show r + 1 ≤ -x by omega) (by omega) (by omega)
      rw [show -x * -x = x * x by grind] at this
      omega
  · by_cases c : x ≤ r
    · exact c
    · have := Int.mul_le_mul (show r + 1 ≤ x by omega) (show r + 1 ≤ x by omega) (by omega) (by omega)
      omega

theorem c_find {N d b M k : Nat} {t S : Int} {Z : Nat → Int} {h : MH} (hM : 2 ≤ M) (hM2 : M ≤ 500) (ht : 0 ≤ t ∧ t < M) (k2 : 2 ≤ k) (k4 : k ≤ 4) (hZ : isShort t M k S Z) (hnt : NT N h b M t) : Ok mX2_find (d + 2) 0 0 [vR (b + 2), vI t, vI (M : Int), vI (k : Int)] N h (fun r h2 => r = none ∧ (∃ L : Nat → Int, Hd (0, 0, N) h2 (b + 2) (eO 2 [vR (b + 3), vI S, vR (b + 4), vI (k : Int)]) ∧ Hd (0, 0, N) h2 (b + 3) (eA 0 4 L) ∧ ∀ i, i < 4 → L i = Z i) ∧ NT N h2 b M t ∧ ∀ a, a ≠ b + 2 → a ≠ b + 3 → a ≠ b + 4 → h2 a = h a) := by
  refine Ok.of pfX2_find rfl (Nat.le_of_ble_eq_true rfl) (fun Ls sx => ?_)
  show G mX2_find (d + 2, 0, 0, Ls, sx) 0 [(0, vR (b + 2)), (1, vI t), (2, vI (M : Int)), (3, vI (k : Int))] [] (0, 0, N) h _
  obtain ⟨sq, ff, L, hn, hL, ⟨T, hT⟩, hff⟩ := id hnt
  obtain ⟨q1, q2, q3⟩ := short_bd hM hM2 ht k2 k4 hZ
  have hf32 : i32 ff := by
    rcases hff with z | ⟨j, j1, j2, j3, -⟩ <;> omega
  refine g_aload_n (pc := 0) (r := .inl (some (b + 2))) dX2_find_0 rfl ?_
  refine g_getf (pc := 1) (v := vI ff) flX2_18 dX2_find_1 hn rfl ?_
  refine g_iload_n (pc := 4) (x := (k : Int)) dX2_find_4 rfl ?_
  refine g_icmp_eq (pc := 5) (tgt := 20) dX2_find_5 (by decide) (by omega) (by omega) (fun hc => ?_) (fun hc => ?_)
  · rcases hff with z | ⟨j, j1, j2, j3, j4⟩
    · omega
    have ej : j = k := by omega
    subst ej
    obtain ⟨u1, u2⟩ := isShort_uniq j4 hZ
    subst u1
    exact r_void (pc := 20) dX2_find_20 rfl rfl (Nat.le_refl _) ⟨rfl, ⟨L, by rw [← hc]; exact hn, hL, u2⟩, hnt, fun _ _ _ _ => rfl⟩
  · refine g_iload_n (pc := 8) (x := (k : Int)) dX2_find_8 rfl ?_
    refine g_if_ltF (pc := 9) (tgt := 20) dX2_find_9 (by decide) (by omega) (by omega) ?_
    refine g_iload_n (pc := 12) (x := (k : Int)) dX2_find_12 rfl ?_
    refine g_reach (pc := 13) dX2_find_13 frX2_22 ?_
    refine g_rlen (pc := 16) dX2_find_16 ?_
    refine g_icmp_ltT (pc := 17) (tgt := 21) dX2_find_17 (by decide) (by omega) (by omega) (by omega) ?_
    refine g_aload_n (pc := 21) (r := .inl (some (b + 2))) dX2_find_21 rfl ?_
    refine g_iload_n (pc := 22) (x := (k : Int)) dX2_find_22 rfl ?_
    refine g_putf (pc := 23) fpX2_18 dX2_find_23 hn (okv_int _) (Nat.le_of_ble_eq_true rfl) ?_
    have hn_1 := hn.self (e := eO 2 [vR (b + 3), vI sq, vR (b + 4), vI (k : Int)])
    have hL_1 := hL.ne (e := eO 2 [vR (b + 3), vI sq, vR (b + 4), vI (k : Int)]) (a := b + 2) (by omega)
    have hT_1 := hT.ne (e := eO 2 [vR (b + 3), vI sq, vR (b + 4), vI (k : Int)]) (a := b + 2) (by omega)
    refine g_aload_n (pc := 26) (r := .inl (some (b + 2))) dX2_find_26 rfl ?_
    refine g_ldc (pc := 27) (n := 1000000) dX2_find_27 kcX2_25 ?_
    refine g_putf (pc := 29) fpX2_26 dX2_find_29 hn_1 (okv_int _) (Nat.le_of_ble_eq_true rfl) ?_
    have hn_2 := hn_1.self (e := eO 2 [vR (b + 3), vI 1000000, vR (b + 4), vI (k : Int)])
    have hL_2 := hL_1.ne (e := eO 2 [vR (b + 3), vI 1000000, vR (b + 4), vI (k : Int)]) (a := b + 2) (by omega)
    have hT_2 := hT_1.ne (e := eO 2 [vR (b + 3), vI 1000000, vR (b + 4), vI (k : Int)]) (a := b + 2) (by omega)
    refine g_reach (pc := 32) dX2_find_32 frX2_22 ?_
    refine g_iload_n (pc := 35) (x := (k : Int)) dX2_find_35 rfl ?_
    refine g_rald (pc := 36) dX2_find_36 (by omega) (by omega) ?_
    have hsqZ := hZ.2.1
    unfold sq4 at hsqZ
    have s0 := sq_nn (Z 0)
    have s1 := sq_nn (Z 1)
    have s2 := sq_nn (Z 2)
    have s3 := sq_nn (Z 3)
    have z0 : 0 ≤ Z 0 ∧ Z 0 < M := by
      refine ⟨?_, ?_⟩
      · have := hZ.1.2.2
        omega
      · have := Z_box (x := Z 0) (B := (M : Int) * M) (r := (M : Int) - 1) (by omega) (by omega) (by rw [show (M : Int) - 1 + 1 = M by omega]; omega)
        omega
    have hcs : k = 2 ∨ k = 3 ∨ k = 4 := by omega
    rcases hcs with e | e | e <;> subst e
    · rw [show reachZ ((2 : Nat) : Int) = 24 from rfl]
      rw [show bndK 2 = 625 from rfl] at q2
      refine g_istore (pc := 37) (lo2 := [(0, vR (b + 2)), (1, vI t), (2, vI (M : Int)), (3, vI ((2 : Nat) : Int)), (4, vI 24)]) dX2_find_37 (by decide) rfl ?_
      refine g_iload_n (pc := 39) (x := ((2 : Nat) : Int)) dX2_find_39 rfl ?_
      refine g_iconst (pc := 40) dX2_find_40 ?_
      refine g_icmp_leT (pc := 41) (tgt := 49) dX2_find_41 (by decide) (by omega) (by omega) (by omega) ?_
      refine g_iconst (pc := 49) dX2_find_49 ?_
      refine g_istore (pc := 50) (lo2 := [(0, vR (b + 2)), (1, vI t), (2, vI (M : Int)), (3, vI ((2 : Nat) : Int)), (4, vI 24), (5, vI 0)]) dX2_find_50 (by decide) rfl ?_
      refine g_iload_n (pc := 52) (x := ((2 : Nat) : Int)) dX2_find_52 rfl ?_
      refine g_iconst (pc := 53) dX2_find_53 ?_
      refine g_icmp_leT (pc := 54) (tgt := 62) dX2_find_54 (by decide) (by omega) (by omega) (by omega) ?_
      refine g_iconst (pc := 62) dX2_find_62 ?_
      refine g_istore (pc := 63) (lo2 := [(0, vR (b + 2)), (1, vI t), (2, vI (M : Int)), (3, vI ((2 : Nat) : Int)), (4, vI 24), (5, vI 0), (6, vI 0)]) dX2_find_63 (by decide) rfl ?_
      refine g_iload (pc := 65) (x := 24) dX2_find_65 rfl ?_
      refine g_ineg (pc := 67) dX2_find_67 ?_
      refine g_istore (pc := 68) (lo2 := [(0, vR (b + 2)), (1, vI t), (2, vI (M : Int)), (3, vI ((2 : Nat) : Int)), (4, vI 24), (5, vI 0), (6, vI 0), (7, vI (-24))]) dX2_find_68 (by decide) rfl ?_
      have zb1 : -24 ≤ Z 1 ∧ Z 1 ≤ 24 := (Z_box (x := Z 1) (B := 625) (r := 24) (by omega) (by omega) (by omega))
      have zb2 : -0 ≤ Z 2 ∧ Z 2 ≤ 0 := (by rw [hZ.1.1 2 (by omega) (by omega)]; omega)
      have zb3 : -0 ≤ Z 3 ∧ Z 3 ≤ 0 := (by rw [hZ.1.1 3 (by omega) (by omega)]; omega)
      refine find_a (h0 := h) (rc := 24) (th := 0) (fo := 0) hM hM2 ht (by omega) (by omega) (by omega) k2 (by omega) (by omega) hZ zb1 zb2 zb3 z0 (fun h2 nb fr => ?_) 49 (-24) _ (by omega) (by omega) ⟨1000000, L, T, hn_2, hL_2, hT_2, by omega, (fun y => by omega), Or.inr ⟨by unfold psd; omega, Or.inl (by omega)⟩⟩ (fun x y1 y2 y3 => by rw [va_up_ne _ _ y1, va_up_ne _ _ y1])
      obtain ⟨sq9, L9, T9, a1, a2, a3, a4, a5, a6⟩ := nb
      obtain ⟨b1, b2⟩ := a6.resolve_right (fun z => z.1 trivial)
      subst b1
      exact r_void (pc := 174) dX2_find_174 rfl rfl (Nat.le_refl _) ⟨rfl, ⟨L9, a1, a2, b2⟩, ⟨_, _, L9, a1, a2, ⟨T9, a3⟩, Or.inr ⟨2, by omega, by omega, rfl, isShort_congr (fun i hi => (b2 i hi).symm) hZ⟩⟩, fr⟩
    · rw [show reachZ ((3 : Nat) : Int) = 8 from rfl]
      rw [show bndK 3 = 81 from rfl] at q2
      refine g_istore (pc := 37) (lo2 := [(0, vR (b + 2)), (1, vI t), (2, vI (M : Int)), (3, vI ((3 : Nat) : Int)), (4, vI 8)]) dX2_find_37 (by decide) rfl ?_
      refine g_iload_n (pc := 39) (x := ((3 : Nat) : Int)) dX2_find_39 rfl ?_
      refine g_iconst (pc := 40) dX2_find_40 ?_
      refine g_icmp_leF (pc := 41) (tgt := 49) dX2_find_41 (by decide) (by omega) (by omega) (by omega) ?_
      refine g_iload (pc := 44) (x := 8) dX2_find_44 rfl ?_
      refine g_goto (pc := 46) (tgt := 50) dX2_find_46 (by decide) ?_
      refine g_istore (pc := 50) (lo2 := [(0, vR (b + 2)), (1, vI t), (2, vI (M : Int)), (3, vI ((3 : Nat) : Int)), (4, vI 8), (5, vI 8)]) dX2_find_50 (by decide) rfl ?_
      refine g_iload_n (pc := 52) (x := ((3 : Nat) : Int)) dX2_find_52 rfl ?_
      refine g_iconst (pc := 53) dX2_find_53 ?_
      refine g_icmp_leT (pc := 54) (tgt := 62) dX2_find_54 (by decide) (by omega) (by omega) (by omega) ?_
      refine g_iconst (pc := 62) dX2_find_62 ?_
      refine g_istore (pc := 63) (lo2 := [(0, vR (b + 2)), (1, vI t), (2, vI (M : Int)), (3, vI ((3 : Nat) : Int)), (4, vI 8), (5, vI 8), (6, vI 0)]) dX2_find_63 (by decide) rfl ?_
      refine g_iload (pc := 65) (x := 8) dX2_find_65 rfl ?_
      refine g_ineg (pc := 67) dX2_find_67 ?_
      refine g_istore (pc := 68) (lo2 := [(0, vR (b + 2)), (1, vI t), (2, vI (M : Int)), (3, vI ((3 : Nat) : Int)), (4, vI 8), (5, vI 8), (6, vI 0), (7, vI (-8))]) dX2_find_68 (by decide) rfl ?_
      have zb1 : -8 ≤ Z 1 ∧ Z 1 ≤ 8 := (Z_box (x := Z 1) (B := 81) (r := 8) (by omega) (by omega) (by omega))
      have zb2 : -8 ≤ Z 2 ∧ Z 2 ≤ 8 := (Z_box (x := Z 2) (B := 81) (r := 8) (by omega) (by omega) (by omega))
      have zb3 : -0 ≤ Z 3 ∧ Z 3 ≤ 0 := (by rw [hZ.1.1 3 (by omega) (by omega)]; omega)
      refine find_a (h0 := h) (rc := 8) (th := 8) (fo := 0) hM hM2 ht (by omega) (by omega) (by omega) k2 (by omega) (by omega) hZ zb1 zb2 zb3 z0 (fun h2 nb fr => ?_) 17 (-8) _ (by omega) (by omega) ⟨1000000, L, T, hn_2, hL_2, hT_2, by omega, (fun y => by omega), Or.inr ⟨by unfold psd; omega, Or.inl (by omega)⟩⟩ (fun x y1 y2 y3 => by rw [va_up_ne _ _ y1, va_up_ne _ _ y1])
      obtain ⟨sq9, L9, T9, a1, a2, a3, a4, a5, a6⟩ := nb
      obtain ⟨b1, b2⟩ := a6.resolve_right (fun z => z.1 trivial)
      subst b1
      exact r_void (pc := 174) dX2_find_174 rfl rfl (Nat.le_refl _) ⟨rfl, ⟨L9, a1, a2, b2⟩, ⟨_, _, L9, a1, a2, ⟨T9, a3⟩, Or.inr ⟨3, by omega, by omega, rfl, isShort_congr (fun i hi => (b2 i hi).symm) hZ⟩⟩, fr⟩
    · rw [show reachZ ((4 : Nat) : Int) = 5 from rfl]
      rw [show bndK 4 = 36 from rfl] at q2
      refine g_istore (pc := 37) (lo2 := [(0, vR (b + 2)), (1, vI t), (2, vI (M : Int)), (3, vI ((4 : Nat) : Int)), (4, vI 5)]) dX2_find_37 (by decide) rfl ?_
      refine g_iload_n (pc := 39) (x := ((4 : Nat) : Int)) dX2_find_39 rfl ?_
      refine g_iconst (pc := 40) dX2_find_40 ?_
      refine g_icmp_leF (pc := 41) (tgt := 49) dX2_find_41 (by decide) (by omega) (by omega) (by omega) ?_
      refine g_iload (pc := 44) (x := 5) dX2_find_44 rfl ?_
      refine g_goto (pc := 46) (tgt := 50) dX2_find_46 (by decide) ?_
      refine g_istore (pc := 50) (lo2 := [(0, vR (b + 2)), (1, vI t), (2, vI (M : Int)), (3, vI ((4 : Nat) : Int)), (4, vI 5), (5, vI 5)]) dX2_find_50 (by decide) rfl ?_
      refine g_iload_n (pc := 52) (x := ((4 : Nat) : Int)) dX2_find_52 rfl ?_
      refine g_iconst (pc := 53) dX2_find_53 ?_
      refine g_icmp_leF (pc := 54) (tgt := 62) dX2_find_54 (by decide) (by omega) (by omega) (by omega) ?_
      refine g_iload (pc := 57) (x := 5) dX2_find_57 rfl ?_
      refine g_goto (pc := 59) (tgt := 63) dX2_find_59 (by decide) ?_
      refine g_istore (pc := 63) (lo2 := [(0, vR (b + 2)), (1, vI t), (2, vI (M : Int)), (3, vI ((4 : Nat) : Int)), (4, vI 5), (5, vI 5), (6, vI 5)]) dX2_find_63 (by decide) rfl ?_
      refine g_iload (pc := 65) (x := 5) dX2_find_65 rfl ?_
      refine g_ineg (pc := 67) dX2_find_67 ?_
      refine g_istore (pc := 68) (lo2 := [(0, vR (b + 2)), (1, vI t), (2, vI (M : Int)), (3, vI ((4 : Nat) : Int)), (4, vI 5), (5, vI 5), (6, vI 5), (7, vI (-5))]) dX2_find_68 (by decide) rfl ?_
      have zb1 : -5 ≤ Z 1 ∧ Z 1 ≤ 5 := (Z_box (x := Z 1) (B := 36) (r := 5) (by omega) (by omega) (by omega))
      have zb2 : -5 ≤ Z 2 ∧ Z 2 ≤ 5 := (Z_box (x := Z 2) (B := 36) (r := 5) (by omega) (by omega) (by omega))
      have zb3 : -5 ≤ Z 3 ∧ Z 3 ≤ 5 := (Z_box (x := Z 3) (B := 36) (r := 5) (by omega) (by omega) (by omega))
      refine find_a (h0 := h) (rc := 5) (th := 5) (fo := 5) hM hM2 ht (by omega) (by omega) (by omega) k2 (by omega) (by omega) hZ zb1 zb2 zb3 z0 (fun h2 nb fr => ?_) 11 (-5) _ (by omega) (by omega) ⟨1000000, L, T, hn_2, hL_2, hT_2, by omega, (fun y => by omega), Or.inr ⟨by unfold psd; omega, Or.inl (by omega)⟩⟩ (fun x y1 y2 y3 => by rw [va_up_ne _ _ y1, va_up_ne _ _ y1])
      obtain ⟨sq9, L9, T9, a1, a2, a3, a4, a5, a6⟩ := nb
      obtain ⟨b1, b2⟩ := a6.resolve_right (fun z => z.1 trivial)
      subst b1
      exact r_void (pc := 174) dX2_find_174 rfl rfl (Nat.le_refl _) ⟨rfl, ⟨L9, a1, a2, b2⟩, ⟨_, _, L9, a1, a2, ⟨T9, a3⟩, Or.inr ⟨4, by omega, by omega, rfl, isShort_congr (fun i hi => (b2 i hi).symm) hZ⟩⟩, fr⟩
