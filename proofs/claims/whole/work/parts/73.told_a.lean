/-! ===== Told.clear ===== -/
abbrev told9 (q : Nat) (ct ln pr pg pwr nf : Int) : ME := eO 9 [vI ct, vI ln, vR (q + 1), vR (q + 2), vR (q + 3), vR (q + 4), vR (q + 5), vR (q + 6), vR (q + 7), vI pr, vI pg, vI pwr, vI nf]
theorem c_toldClear {N d q : Nat} {ct ln pr pg pwr nf p : Int} {h : MH} {S P : Nat → Int} (hq : Hd (0, 0, N) h q (told9 q ct ln pr pg pwr nf)) (hS : Hd (0, 0, N) h (q + 3) (eA 0 65 S)) (hP : Hd (0, 0, N) h (q + 4) (eA 0 65 P)) : Ok mX9_clear (d + 1) 0 0 [vR q, vI p] N h (fun r h2 => r = none ∧ h2 q = told9 q 0 0 p 1 1 0 ∧ (∃ S2, h2 (q + 3) = eA 0 65 S2 ∧ ∀ i, i < 65 → S2 i = if i = 0 then 1 else 0) ∧ (∃ P2, h2 (q + 4) = eA 0 65 P2 ∧ ∀ i, i < 65 → P2 i = if i = 0 then 1 else 0) ∧ ∀ b, b ≠ q → b ≠ q + 3 → b ≠ q + 4 → h2 b = h b) := by
  refine Ok.of pfX9_clear rfl (Nat.le_of_ble_eq_true rfl) (fun Ls sx => ?_)
  show G mX9_clear (d + 1, 0, 0, Ls, sx) 0 [(0, vR q), (1, vI p)] [] (0, 0, N) h _
  refine g_aload_n (pc := 0) (r := .inl (some q)) dX9_clear_0 rfl ?_
  refine g_iload_n (pc := 1) (x := p) dX9_clear_1 rfl ?_
  refine g_putf (pc := 2) fpX9_39 dX9_clear_2 hq (okv_int _) (Nat.le_of_ble_eq_true rfl) ?_
  have hq_1 := hq.self (e := told9 q ct ln p pg pwr nf)
  have hS_1 := hS.ne (e := told9 q ct ln p pg pwr nf) (a := q) (by omega)
  have hP_1 := hP.ne (e := told9 q ct ln p pg pwr nf) (a := q) (by omega)
  refine g_aload_n (pc := 5) (r := .inl (some q)) dX9_clear_5 rfl ?_
  refine g_iconst (pc := 6) dX9_clear_6 ?_
  refine g_putf (pc := 7) fpX9_43 dX9_clear_7 hq_1 (okv_int _) (Nat.le_of_ble_eq_true rfl) ?_
  have hq_2 := hq_1.self (e := told9 q 0 ln p pg pwr nf)
  have hS_2 := hS_1.ne (e := told9 q 0 ln p pg pwr nf) (a := q) (by omega)
  have hP_2 := hP_1.ne (e := told9 q 0 ln p pg pwr nf) (a := q) (by omega)
  refine g_aload_n (pc := 10) (r := .inl (some q)) dX9_clear_10 rfl ?_
  refine g_iconst (pc := 11) dX9_clear_11 ?_
  refine g_putf (pc := 12) fpX9_46 dX9_clear_12 hq_2 (okv_int _) (Nat.le_of_ble_eq_true rfl) ?_
  have hq_3 := hq_2.self (e := told9 q 0 0 p pg pwr nf)
  have hS_3 := hS_2.ne (e := told9 q 0 0 p pg pwr nf) (a := q) (by omega)
  have hP_3 := hP_2.ne (e := told9 q 0 0 p pg pwr nf) (a := q) (by omega)
  refine g_aload_n (pc := 15) (r := .inl (some q)) dX9_clear_15 rfl ?_
  refine g_iconst (pc := 16) dX9_clear_16 ?_
  refine g_putf (pc := 17) fpX9_49 dX9_clear_17 hq_3 (okv_int _) (Nat.le_of_ble_eq_true rfl) ?_
  have hq_4 := hq_3.self (e := told9 q 0 0 p 1 pwr nf)
  have hS_4 := hS_3.ne (e := told9 q 0 0 p 1 pwr nf) (a := q) (by omega)
  have hP_4 := hP_3.ne (e := told9 q 0 0 p 1 pwr nf) (a := q) (by omega)
  refine g_aload_n (pc := 20) (r := .inl (some q)) dX9_clear_20 rfl ?_
  refine g_iconst (pc := 21) dX9_clear_21 ?_
  refine g_putf (pc := 22) fpX9_52 dX9_clear_22 hq_4 (okv_int _) (Nat.le_of_ble_eq_true rfl) ?_
  have hq_5 := hq_4.self (e := told9 q 0 0 p 1 1 nf)
  have hS_5 := hS_4.ne (e := told9 q 0 0 p 1 1 nf) (a := q) (by omega)
  have hP_5 := hP_4.ne (e := told9 q 0 0 p 1 1 nf) (a := q) (by omega)
  refine g_aload_n (pc := 25) (r := .inl (some q)) dX9_clear_25 rfl ?_
  refine g_iconst (pc := 26) dX9_clear_26 ?_
  refine g_putf (pc := 27) fpX9_55 dX9_clear_27 hq_5 (okv_bool (by omega)) (Nat.le_of_ble_eq_true rfl) ?_
  have hq_6 := hq_5.self (e := told9 q 0 0 p 1 1 0)
  have hS_6 := hS_5.ne (e := told9 q 0 0 p 1 1 0) (a := q) (by omega)
  have hP_6 := hP_5.ne (e := told9 q 0 0 p 1 1 0) (a := q) (by omega)
  refine g_aload_n (pc := 30) (r := .inl (some q)) dX9_clear_30 rfl ?_
  refine g_getf (pc := 31) (v := vR (q + 3)) flX9_18 dX9_clear_31 hq_6 rfl ?_
  refine g_iconst (pc := 34) dX9_clear_34 ?_
  refine g_callS0 (pc := 35) (as := [vR (q + 3), vI 0]) (st := []) lsX9_59 dX9_clear_35 (Nat.le_of_ble_eq_true rfl) (by omega) (Nat.zero_le _) (Nat.zero_le _) (c_fill (d := d) (v := 0) (by omega) hS_6) ?_
  rintro r h2 ⟨rfl, c1, S2, c2, c3, c4⟩
  have hq_7 := hq_6.keep (c1 _ (by omega))
  have hS_7 := hS_6.to c2
  have hP_7 := hP_6.keep (c1 _ (by omega))
  refine g_aload_n (pc := 38) (r := .inl (some q)) dX9_clear_38 rfl ?_
  refine g_getf (pc := 39) (v := vR (q + 4)) flX9_21 dX9_clear_39 hq_7 rfl ?_
  refine g_iconst (pc := 42) dX9_clear_42 ?_
  refine g_callS0 (pc := 43) (as := [vR (q + 4), vI 0]) (st := []) lsX9_59 dX9_clear_43 (Nat.le_of_ble_eq_true rfl) (by omega) (Nat.zero_le _) (Nat.zero_le _) (c_fill (d := d) (v := 0) (by omega) hP_7) ?_
  rintro r h3 ⟨rfl, e1, P2, e2, e3, e4⟩
  have hq_8 := hq_7.keep (e1 _ (by omega))
  have hS_8 := hS_7.keep (e1 _ (by omega))
  have hP_8 := hP_7.to e2
  refine g_aload_n (pc := 46) (r := .inl (some q)) dX9_clear_46 rfl ?_
  refine g_getf (pc := 47) (v := vR (q + 3)) flX9_18 dX9_clear_47 hq_8 rfl ?_
  refine g_iconst (pc := 50) dX9_clear_50 ?_
  refine g_iconst (pc := 51) dX9_clear_51 ?_
  refine g_iastN (pc := 52) (j := 0) dX9_clear_52 hS_8 (by omega) (by omega) (by omega) ?_
  have hq_9 := hq_8.ne (e := eA 0 65 (va_up S2 0 1)) (a := q + 3) (by omega)
  have hS_9 := hS_8.self (e := eA 0 65 (va_up S2 0 1))
  have hP_9 := hP_8.ne (e := eA 0 65 (va_up S2 0 1)) (a := q + 3) (by omega)
  refine g_aload_n (pc := 53) (r := .inl (some q)) dX9_clear_53 rfl ?_
  refine g_getf (pc := 54) (v := vR (q + 4)) flX9_21 dX9_clear_54 hq_9 rfl ?_
  refine g_iconst (pc := 57) dX9_clear_57 ?_
  refine g_iconst (pc := 58) dX9_clear_58 ?_
  refine g_iastN (pc := 59) (j := 0) dX9_clear_59 hP_9 (by omega) (by omega) (by omega) ?_
  have hq_10 := hq_9.ne (e := eA 0 65 (va_up P2 0 1)) (a := q + 4) (by omega)
  have hS_10 := hS_9.ne (e := eA 0 65 (va_up P2 0 1)) (a := q + 4) (by omega)
  have hP_10 := hP_9.self (e := eA 0 65 (va_up P2 0 1))
  refine r_void (pc := 60) dX9_clear_60 rfl rfl (Nat.le_refl _) ⟨rfl, hq_10.2, ⟨_, hS_10.2, fun i hi => ?_⟩, ⟨_, hP_10.2, fun i hi => ?_⟩, fun b b1 b2 b3 => (va_up_ne _ _ b3).trans ((va_up_ne _ _ b2).trans ((e1 b b3).trans ((c1 b b2).trans ((va_up_ne _ _ (by omega)).trans ((va_up_ne _ _ (by omega)).trans ((va_up_ne _ _ (by omega)).trans ((va_up_ne _ _ (by omega)).trans ((va_up_ne _ _ (by omega)).trans ((va_up_ne _ _ (by omega)).trans (rfl))))))))))⟩
  · by_cases e : i = 0
    · rw [if_pos e, e]
      exact va_up_self _ _ _
    · rw [if_neg e, va_up_ne _ _ e]
      exact c3 i hi
  · by_cases e : i = 0
    · rw [if_pos e, e]
      exact va_up_self _ _ _
    · rw [if_neg e, va_up_ne _ _ e]
      exact e3 i hi
