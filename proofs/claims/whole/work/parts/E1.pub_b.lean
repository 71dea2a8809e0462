/-! ===== the class: calls on mills ===== -/
def qM {α : Type} (σ : Nat → Option MSt) (m : Int) (z : α) (f : Nat → Nat → Nat → (Nat → Int) → (Nat → Int) → (Nat → Nat → Int) → α) : α := match gt σ m with
  | none => z
  | some (kd, M, n, T, Y, P) => f kd M n T Y P
theorem qM_none {α : Type} {σ : Nat → Option MSt} {m : Int} {z : α} {f : Nat → Nat → Nat → (Nat → Int) → (Nat → Int) → (Nat → Nat → Int) → α} (e : gt σ m = none) : qM σ m z f = z := by
  unfold qM
  rw [e]
theorem qM_some {α : Type} {σ : Nat → Option MSt} {m : Int} {z : α} {f : Nat → Nat → Nat → (Nat → Int) → (Nat → Int) → (Nat → Nat → Int) → α} {kd M n : Nat} {T Y : Nat → Int} {P : Nat → Nat → Int} (e : gt σ m = some (kd, M, n, T, Y, P)) : qM σ m z f = f kd M n T Y P := by
  unfold qM
  rw [e]
theorem cP.drop {N : Nat} {h : MH} {σ : Nat → Option MSt} {i b kd M n : Nat} {T Y : Nat → Int} {P : Nat → Nat → Int} (c : CMs N h σ) (hi : i < 6) (eb : b = 75 + 93 * i) (cm : CM N h b (kd, M, n, T, Y, P)) : cP N h (va_up h b (mlO b 0 (kd : Int) (M : Int) (n : Int))) (va_up σ i none) := by
  subst eb
  have k : ∀ a, a ≠ 75 + 93 * i → va_up h (75 + 93 * i) (mlO (75 + 93 * i) 0 (kd : Int) (M : Int) (n : Int)) a = h a := fun a z => va_up_ne _ _ z
  refine ⟨c.upd hi (fun a z1 _ => k a (by omega)) (by obtain ⟨f, hf⟩ := c.2.2.1; exact ⟨f, hf.keep (k _ (by omega))⟩) ⟨fun _ => ⟨cm.zero.keep (fun a z1 z2 => k a (by omega)), _, _, _, cm.out.2.1.self⟩, fun s e => nomatch e⟩, fun a z => k a (by omega)⟩
theorem CM_put {N : Nat} {h h2 : MH} {b kd M n r c : Nat} {F : Nat → Nat → Int} {Y : Nat → Int} {P : Nat → Nat → Int} {v sq : Int} (cm : CM N h b (kd, M, n, F 0, Y, P)) (hr : r < n) (hc : c < n ∨ c = 4) (w2 : PW N h2 (b + 12) 1 M n (va_up F 0 (va_up (F 0) (5 * r + c) (v % (M : Int))))) (o79 : h2 (b + 79) = eO 8 [vR (b + 12), vR (b + 7), vR (b + 80), vR (b + 82), vR (b + 84), vR (b + 90), vR (b + 91), vR (b + 92), vJ 0]) (o2 : h2 (b + 2) = eO 2 [vR (b + 3), vI sq, vR (b + 4), vI 0]) (k : ∀ a, a ≠ b + 12 → a ≠ b + 14 → a ≠ b + 79 → a ≠ b + 2 → h2 a = h a) : CM N h2 b (kd, M, n, va_up (F 0) (5 * r + c) (v % (M : Int)), Y, P) := by
  obtain ⟨ok, hml, ⟨hY, rY⟩, hpc, hw, hd, hnt, hpi⟩ := cm.out
  obtain ⟨hkd, hM, hM2, n1, hn, hk1, hk3, hT, hYb, hPb⟩ := id ok
  obtain ⟨kn, F9, hPX, hF⟩ := hw
  obtain ⟨x1, x2, x3, x4, x5⟩ := hPX
  have z := hd.zero
  obtain ⟨⟨wh9, y1⟩, y2, y3, y4, y5, y6, y7⟩ := z
  obtain ⟨sq9, ff9, L9, u1, u2, u3, -⟩ := hnt
  have hT2 : ∀ r2 c2, r2 < n → (c2 < n ∨ c2 = 4) → 0 ≤ va_up (F 0) (5 * r + c) (v % (M : Int)) (5 * r2 + c2) ∧ va_up (F 0) (5 * r + c) (v % (M : Int)) (5 * r2 + c2) < M := fun r2 c2 z1 z2 => by
    by_cases e : 5 * r2 + c2 = 5 * r + c
    · rw [e, va_up_self]
      exact ⟨Int.emod_nonneg _ (by omega), Int.emod_lt_of_pos _ (by omega)⟩
    · rw [va_up_ne _ _ e]
      exact hT r2 c2 z1 z2
  obtain ⟨f4, x4a, x4b⟩ := x4
  obtain ⟨f5, x5a, x5b⟩ := x5
  refine CM.mk ⟨⟨hkd, hM, hM2, n1, hn, hk1, hk3, hT2, hYb, hPb⟩, hml.keep (k _ (by omega) (by omega) (by omega) (by omega)), ⟨hY.keep (k _ (by omega) (by omega) (by omega) (by omega)), rY⟩, hpc.keep (fun a z1 z2 => k a (by omega) (by omega) (by omega) (by omega)), ⟨1, va_up F 0 (va_up (F 0) (5 * r + c) (v % (M : Int))), ⟨w2, SP_one hn hM (by rw [va_up_self]; exact hT2), ⟨Nat.le_refl 1, by omega⟩, ⟨f4, x4a.keep (k _ (by omega) (by omega) (by omega) (by omega)), x4b⟩, ⟨f5, x5a.keep (k _ (by omega) (by omega) (by omega) (by omega)), x5b⟩⟩, va_up_self _ _ _⟩, ⟨0, ⟨y1.1, o79⟩, Or.inl ⟨rfl, y2.keep (k _ (by omega) (by omega) (by omega) (by omega)) (k _ (by omega) (by omega) (by omega) (by omega))⟩, y3.keep (k _ (by omega) (by omega) (by omega) (by omega)) (k _ (by omega) (by omega) (by omega) (by omega)), y4.keep (k _ (by omega) (by omega) (by omega) (by omega)), y5.keep (k _ (by omega) (by omega) (by omega) (by omega)), y6.keep (k _ (by omega) (by omega) (by omega) (by omega)), y7.keep (fun a z1 z2 => k a (by omega) (by omega) (by omega) (by omega))⟩, ⟨sq, 0, L9, ⟨u1.1, o2⟩, u2.keep (k _ (by omega) (by omega) (by omega) (by omega)), u3.elim (fun f z => ⟨f, z.keep (k _ (by omega) (by omega) (by omega) (by omega))⟩), Or.inl rfl⟩, hpi.keep (k _ (by omega) (by omega) (by omega) (by omega)) (k _ (by omega) (by omega) (by omega) (by omega))⟩
theorem up_bd {Y : Nat → Int} {k n : Nat} {M v : Int} (h : ∀ r, r < n → 0 ≤ Y r ∧ Y r < M) (hv : 0 ≤ v ∧ v < M) : ∀ r, r < n → 0 ≤ va_up Y k v r ∧ va_up Y k v r < M := fun r hr => by
  by_cases e : r = k
  · rw [e, va_up_self]
    exact hv
  · rw [va_up_ne _ _ e]
    exact h r hr
/-- so many turns of a row -/
def lpY (n M : Nat) (T Y : Nat → Int) (t : Nat) (r : Nat) : Int := if r < n then goF n M (mp (n + 1) M (au n T) t) Y r else Y r
theorem lpY_of {n M t : Nat} {T Y Y2 : Nat → Int} (h1 : ∀ r, r < n → Y2 r = goF n M (mp (n + 1) M (au n T) t) Y r) (h2 : ∀ r, n ≤ r → Y2 r = Y r) : Y2 = lpY n M T Y t := by
  funext r
  unfold lpY
  by_cases c : r < n
  · rw [if_pos c]
    exact h1 r c
  · rw [if_neg c]
    exact h2 r (by omega)

theorem k_drop {N : Nat} {m : Int} {σ : Nat → Option MSt} {h : MH} (hm : i32 m) (c : CMs N h σ) : Ok mX10_drop 10 0 0 [vR 0, vI m] N h (fun r9 h2 => r9 = some (vI (qM σ m 0 (fun kd M n T Y P => 1))) ∧ cP N h h2 (qM σ m σ (fun kd M n T Y P => va_up σ m.toNat none))) := by
  refine Ok.of pfX10_drop rfl (Nat.le_of_ble_eq_true rfl) (fun Ls sx => ?_)
  show G mX10_drop (10, 0, 0, Ls, sx) 0 [(0, vR 0), (1, vI m)] [] (0, 0, N) h _
  obtain ⟨c1, c2, c3, c4⟩ := id c
  refine g_aload_n (pc := 0) (r := .inl (some 0)) dX10_drop_0 rfl ?_
  refine g_iload_n (pc := 1) (x := m) dX10_drop_1 rfl ?_
  refine g_callV0 (pc := 2) (as := [vI m]) (b := 0) (st := []) lvX10_39 dX10_drop_2 c1 (Nat.le_of_ble_eq_true rfl) (by omega) (Nat.zero_le _) (Nat.zero_le _) (c_millAt (d := 9) hm c) ?_
  rintro r h1 ⟨e9, e8⟩
  subst e9
  rcases e8 with ⟨eg, e8⟩ | ⟨i, b, kd, M, n, T, Y, P, ma, e8⟩ <;> subst e8
  · refine g_astore_n (pc := 5) (r := .inl none) (lo2 := [(0, vR 0), (1, vI m), (2, vN)]) dX10_drop_5 (by decide) rfl ?_
    refine g_aload_n (pc := 6) (r := .inl none) dX10_drop_6 rfl ?_
    refine g_ifnonnullN (pc := 7) dX10_drop_7 ?_
    refine g_iconst (pc := 10) dX10_drop_10 ?_
    exact r_bool (pc := 11) dX10_drop_11 rfl rfl (Nat.le_refl _) (Or.inl rfl) ⟨by rw [qM_none eg], by rw [qM_none eg]; exact cP.rfl c⟩
  · obtain ⟨hi, em, eb, es, eg, cm⟩ := id ma
    obtain ⟨ok, hml, ⟨hY, rY⟩, hpc, hw, hd, hnt, hpi⟩ := cm.out
    obtain ⟨hkd, hM, hM2, n1, hn, hk1, hk3, hT, hYb, hPb⟩ := id ok
    obtain ⟨kn, F, hPX, hF⟩ := id hw
    obtain ⟨wh, h79, -⟩ := id hd
    subst hF
    refine g_astore_n (pc := 5) (r := .inl (some b)) (lo2 := [(0, vR 0), (1, vI m), (2, vR b)]) dX10_drop_5 (by decide) rfl ?_
    refine g_aload_n (pc := 6) (r := .inl (some b)) dX10_drop_6 rfl ?_
    refine g_ifnonnullR (pc := 7) (tgt := 12) dX10_drop_7 (by decide) ?_
    refine g_aload_n (pc := 12) (r := .inl (some b)) dX10_drop_12 rfl ?_
    refine g_iconst (pc := 13) dX10_drop_13 ?_
    refine g_putf (pc := 14) fpX10_31 dX10_drop_14 hml (okv_bool (by omega)) (Nat.le_of_ble_eq_true rfl) ?_
    have c1_1 := c1.ne (e := eO 1 [vI 0, vI (kd : Int), vI (M : Int), vI (n : Int), vR (b + 1), vR (b + 12), vR (b + 79), vR (b + 2), vR (b + 5), vR (b + 7)]) (a := b) (by omega)
    have hml_1 := hml.self (e := eO 1 [vI 0, vI (kd : Int), vI (M : Int), vI (n : Int), vR (b + 1), vR (b + 12), vR (b + 79), vR (b + 2), vR (b + 5), vR (b + 7)])
    have hpx_1 := hPX.1.1.ne (e := eO 1 [vI 0, vI (kd : Int), vI (M : Int), vI (n : Int), vR (b + 1), vR (b + 12), vR (b + 79), vR (b + 2), vR (b + 5), vR (b + 7)]) (a := b) (by omega)
    have hY_1 := hY.ne (e := eO 1 [vI 0, vI (kd : Int), vI (M : Int), vI (n : Int), vR (b + 1), vR (b + 12), vR (b + 79), vR (b + 2), vR (b + 5), vR (b + 7)]) (a := b) (by omega)
    have h79_1 := h79.ne (e := eO 1 [vI 0, vI (kd : Int), vI (M : Int), vI (n : Int), vR (b + 1), vR (b + 12), vR (b + 79), vR (b + 2), vR (b + 5), vR (b + 7)]) (a := b) (by omega)
    refine g_iconst (pc := 17) dX10_drop_17 ?_
    exact r_bool (pc := 18) dX10_drop_18 rfl rfl (Nat.le_refl _) (Or.inr rfl) ⟨by rw [qM_some eg], by rw [qM_some eg, em, Int.toNat_natCast]; exact cP.drop c hi eb cm⟩

theorem k_table {N : Nat} {m r cl v : Int} {σ : Nat → Option MSt} {h : MH} (hm : i32 m) (hr : i32 r) (hcl : i32 cl) (hv : i32 v) (c : CMs N h σ) : Ok mX10_table 10 0 0 [vR 0, vI m, vI r, vI cl, vI v] N h (fun r9 h2 => r9 = some (vI (qM σ m 0 (fun kd M n T Y P => if ((0 ≤ r ∧ r < n) ∧ (kd ≠ 2 ∨ r = n - 1)) ∧ (0 ≤ cl ∧ cl < n) then 1 else 0))) ∧ cP N h h2 (qM σ m σ (fun kd M n T Y P => if ((0 ≤ r ∧ r < n) ∧ (kd ≠ 2 ∨ r = n - 1)) ∧ (0 ≤ cl ∧ cl < n) then va_up σ m.toNat (some (kd, M, n, va_up T (5 * r.toNat + cl.toNat) (v % (M : Int)), Y, P)) else σ))) := by
  refine Ok.of pfX10_table rfl (Nat.le_of_ble_eq_true rfl) (fun Ls sx => ?_)
  show G mX10_table (10, 0, 0, Ls, sx) 0 [(0, vR 0), (1, vI m), (2, vI r), (3, vI cl), (4, vI v)] [] (0, 0, N) h _
  obtain ⟨c1, c2, c3, c4⟩ := id c
  refine g_aload_n (pc := 0) (r := .inl (some 0)) dX10_table_0 rfl ?_
  refine g_iload_n (pc := 1) (x := m) dX10_table_1 rfl ?_
  refine g_callV0 (pc := 2) (as := [vI m]) (b := 0) (st := []) lvX10_39 dX10_table_2 c1 (Nat.le_of_ble_eq_true rfl) (by omega) (Nat.zero_le _) (Nat.zero_le _) (c_millAt (d := 9) hm c) ?_
  rintro r h1 ⟨e9, e8⟩
  subst e9
  rcases e8 with ⟨eg, e8⟩ | ⟨i, b, kd, M, n, T, Y, P, ma, e8⟩ <;> subst e8
  · refine g_astore (pc := 5) (r := .inl none) (lo2 := [(0, vR 0), (1, vI m), (2, vI r), (3, vI cl), (4, vI v), (5, vN)]) dX10_table_5 (by decide) rfl ?_
    refine g_aload (pc := 7) (r := .inl none) dX10_table_7 rfl ?_
    refine g_ifnullN (pc := 9) (tgt := 30) dX10_table_9 (by decide) ?_
    refine g_iconst (pc := 30) dX10_table_30 ?_
    exact r_bool (pc := 31) dX10_table_31 rfl rfl (Nat.le_refl _) (Or.inl rfl) ⟨by rw [qM_none eg], by rw [qM_none eg]; exact cP.rfl c⟩
  · obtain ⟨hi, em, eb, es, eg, cm⟩ := id ma
    obtain ⟨ok, hml, ⟨hY, rY⟩, hpc, hw, hd, hnt, hpi⟩ := cm.out
    obtain ⟨hkd, hM, hM2, n1, hn, hk1, hk3, hT, hYb, hPb⟩ := id ok
    obtain ⟨kn, F, hPX, hF⟩ := id hw
    obtain ⟨wh, h79, -⟩ := id hd
    subst hF
    refine g_astore (pc := 5) (r := .inl (some b)) (lo2 := [(0, vR 0), (1, vI m), (2, vI r), (3, vI cl), (4, vI v), (5, vR b)]) dX10_table_5 (by decide) rfl ?_
    refine g_aload (pc := 7) (r := .inl (some b)) dX10_table_7 rfl ?_
    refine g_ifnullR (pc := 9) dX10_table_9 ?_
    refine g_aload (pc := 12) (r := .inl (some b)) dX10_table_12 rfl ?_
    refine g_iload_n (pc := 14) (x := r) dX10_table_14 rfl ?_
    refine g_callV0 (pc := 15) (as := [vI r]) (b := b) (st := []) lvX10_43 dX10_table_15 hml (Nat.le_of_ble_eq_true rfl) (by omega) (Nat.zero_le _) (Nat.zero_le _) (c_canTell (d := 8) hr hn hkd hml) ?_
    rintro r8 h9 ⟨e9, e8⟩
    subst e9
    subst e8
    by_cases hct : (0 ≤ r ∧ r < n) ∧ (kd ≠ 2 ∨ r = n - 1)
    · rw [if_pos hct]
      refine g_if_eqF (pc := 18) (tgt := 30) dX10_table_18 (by decide) (by omega) (by omega) ?_
      refine g_aload (pc := 21) (r := .inl (some b)) dX10_table_21 rfl ?_
      refine g_iload_n (pc := 23) (x := cl) dX10_table_23 rfl ?_
      refine g_callV0 (pc := 24) (as := [vI cl]) (b := b) (st := []) lvX10_47 dX10_table_24 hml (Nat.le_of_ble_eq_true rfl) (by omega) (Nat.zero_le _) (Nat.zero_le _) (c_hasRest (d := 9) hcl hn hml) ?_
      rintro r8 h9 ⟨e9, e8⟩
      subst e9
      subst e8
      by_cases hcc : 0 ≤ cl ∧ cl < n
      · rw [if_pos hcc]
        refine g_if_neT (pc := 27) (tgt := 32) dX10_table_27 (by decide) (by omega) (by omega) ?_
        obtain ⟨rr, er⟩ : ∃ rr : Nat, r = (rr : Int) := ⟨r.toNat, by omega⟩
        subst er
        obtain ⟨sq, ff, L, u1, u2, u3, u4⟩ := id hnt
        obtain ⟨cc, ec⟩ : ∃ cc : Nat, cl = (cc : Int) := ⟨cl.toNat, by omega⟩
        subst ec
        refine g_aload (pc := 32) (r := .inl (some b)) dX10_table_32 rfl ?_
        refine g_iload_n (pc := 34) (x := (rr : Int)) dX10_table_34 rfl ?_
        refine g_iload_n (pc := 35) (x := (cc : Int)) dX10_table_35 rfl ?_
        refine g_iload (pc := 36) (x := v) dX10_table_36 rfl ?_
        refine g_callV0 (pc := 38) (as := [vI (rr : Int), vI (cc : Int), vI v]) (b := b) (st := []) lvX10_50 dX10_table_38 hml (Nat.le_of_ble_eq_true rfl) (by omega) (Nat.zero_le _) (Nat.zero_le _) (c_mput (d := 7) (r := rr) (c := cc) (by omega) (by omega) hv hM hM2 hml hPX.1 h79 u1) ?_
        rintro r8 h3 ⟨rfl, w2, o79, o2, k3⟩
        refine g_iconst (pc := 41) dX10_table_41 ?_
        exact r_bool (pc := 42) dX10_table_42 rfl rfl (Nat.le_refl _) (Or.inr rfl) ⟨by rw [qM_some eg, if_pos ⟨hct, hcc⟩], by rw [qM_some eg, if_pos ⟨hct, hcc⟩, em]; simp only [Int.toNat_natCast]; exact cP.set c hi eb (fun a z => k3 a (by omega) (by omega) (by omega) (by omega)) (CM_put cm (by omega) (by omega) w2 o79 o2 k3)⟩
      · rw [if_neg hcc]
        refine g_if_neF (pc := 27) (tgt := 32) dX10_table_27 (by decide) (by omega) (by omega) ?_
        refine g_iconst (pc := 30) dX10_table_30 ?_
        exact r_bool (pc := 31) dX10_table_31 rfl rfl (Nat.le_refl _) (Or.inl rfl) ⟨by rw [qM_some eg, if_neg (by omega)], by rw [qM_some eg, if_neg (by omega)]; exact cP.rfl c⟩
    · rw [if_neg hct]
      refine g_if_eqT (pc := 18) (tgt := 30) dX10_table_18 (by decide) (by omega) (by omega) ?_
      refine g_iconst (pc := 30) dX10_table_30 ?_
      exact r_bool (pc := 31) dX10_table_31 rfl rfl (Nat.le_refl _) (Or.inl rfl) ⟨by rw [qM_some eg, if_neg (by omega)], by rw [qM_some eg, if_neg (by omega)]; exact cP.rfl c⟩

theorem k_more {N : Nat} {m r v : Int} {σ : Nat → Option MSt} {h : MH} (hm : i32 m) (hr : i32 r) (hv : i32 v) (c : CMs N h σ) : Ok mX10_more 10 0 0 [vR 0, vI m, vI r, vI v] N h (fun r9 h2 => r9 = some (vI (qM σ m 0 (fun kd M n T Y P => if (0 ≤ r ∧ r < n) ∧ (kd ≠ 2 ∨ r = n - 1) then 1 else 0))) ∧ cP N h h2 (qM σ m σ (fun kd M n T Y P => if (0 ≤ r ∧ r < n) ∧ (kd ≠ 2 ∨ r = n - 1) then va_up σ m.toNat (some (kd, M, n, va_up T (5 * r.toNat + 4) (v % (M : Int)), Y, P)) else σ))) := by
  refine Ok.of pfX10_more rfl (Nat.le_of_ble_eq_true rfl) (fun Ls sx => ?_)
  show G mX10_more (10, 0, 0, Ls, sx) 0 [(0, vR 0), (1, vI m), (2, vI r), (3, vI v)] [] (0, 0, N) h _
  obtain ⟨c1, c2, c3, c4⟩ := id c
  refine g_aload_n (pc := 0) (r := .inl (some 0)) dX10_more_0 rfl ?_
  refine g_iload_n (pc := 1) (x := m) dX10_more_1 rfl ?_
  refine g_callV0 (pc := 2) (as := [vI m]) (b := 0) (st := []) lvX10_39 dX10_more_2 c1 (Nat.le_of_ble_eq_true rfl) (by omega) (Nat.zero_le _) (Nat.zero_le _) (c_millAt (d := 9) hm c) ?_
  rintro r h1 ⟨e9, e8⟩
  subst e9
  rcases e8 with ⟨eg, e8⟩ | ⟨i, b, kd, M, n, T, Y, P, ma, e8⟩ <;> subst e8
  · refine g_astore (pc := 5) (r := .inl none) (lo2 := [(0, vR 0), (1, vI m), (2, vI r), (3, vI v), (4, vN)]) dX10_more_5 (by decide) rfl ?_
    refine g_aload (pc := 7) (r := .inl none) dX10_more_7 rfl ?_
    refine g_ifnullN (pc := 9) (tgt := 21) dX10_more_9 (by decide) ?_
    refine g_iconst (pc := 21) dX10_more_21 ?_
    exact r_bool (pc := 22) dX10_more_22 rfl rfl (Nat.le_refl _) (Or.inl rfl) ⟨by rw [qM_none eg], by rw [qM_none eg]; exact cP.rfl c⟩
  · obtain ⟨hi, em, eb, es, eg, cm⟩ := id ma
    obtain ⟨ok, hml, ⟨hY, rY⟩, hpc, hw, hd, hnt, hpi⟩ := cm.out
    obtain ⟨hkd, hM, hM2, n1, hn, hk1, hk3, hT, hYb, hPb⟩ := id ok
    obtain ⟨kn, F, hPX, hF⟩ := id hw
    obtain ⟨wh, h79, -⟩ := id hd
    subst hF
    refine g_astore (pc := 5) (r := .inl (some b)) (lo2 := [(0, vR 0), (1, vI m), (2, vI r), (3, vI v), (4, vR b)]) dX10_more_5 (by decide) rfl ?_
    refine g_aload (pc := 7) (r := .inl (some b)) dX10_more_7 rfl ?_
    refine g_ifnullR (pc := 9) dX10_more_9 ?_
    refine g_aload (pc := 12) (r := .inl (some b)) dX10_more_12 rfl ?_
    refine g_iload_n (pc := 14) (x := r) dX10_more_14 rfl ?_
    refine g_callV0 (pc := 15) (as := [vI r]) (b := b) (st := []) lvX10_43 dX10_more_15 hml (Nat.le_of_ble_eq_true rfl) (by omega) (Nat.zero_le _) (Nat.zero_le _) (c_canTell (d := 8) hr hn hkd hml) ?_
    rintro r8 h9 ⟨e9, e8⟩
    subst e9
    subst e8
    by_cases hct : (0 ≤ r ∧ r < n) ∧ (kd ≠ 2 ∨ r = n - 1)
    · rw [if_pos hct]
      refine g_if_neT (pc := 18) (tgt := 23) dX10_more_18 (by decide) (by omega) (by omega) ?_
      obtain ⟨rr, er⟩ : ∃ rr : Nat, r = (rr : Int) := ⟨r.toNat, by omega⟩
      subst er
      obtain ⟨sq, ff, L, u1, u2, u3, u4⟩ := id hnt
      refine g_aload (pc := 23) (r := .inl (some b)) dX10_more_23 rfl ?_
      refine g_iload_n (pc := 25) (x := (rr : Int)) dX10_more_25 rfl ?_
      refine g_iconst (pc := 26) dX10_more_26 ?_
      refine g_iload_n (pc := 27) (x := v) dX10_more_27 rfl ?_
      refine g_callV0 (pc := 28) (as := [vI (rr : Int), vI 4, vI v]) (b := b) (st := []) lvX10_50 dX10_more_28 hml (Nat.le_of_ble_eq_true rfl) (by omega) (Nat.zero_le _) (Nat.zero_le _) (c_mput (d := 7) (r := rr) (c := 4) (by omega) (by omega) hv hM hM2 hml hPX.1 h79 u1) ?_
      rintro r8 h3 ⟨rfl, w2, o79, o2, k3⟩
      refine g_iconst (pc := 31) dX10_more_31 ?_
      exact r_bool (pc := 32) dX10_more_32 rfl rfl (Nat.le_refl _) (Or.inr rfl) ⟨by rw [qM_some eg, if_pos hct], by rw [qM_some eg, if_pos hct, em]; simp only [Int.toNat_natCast]; exact cP.set c hi eb (fun a z => k3 a (by omega) (by omega) (by omega) (by omega)) (CM_put cm (by omega) (by omega) w2 o79 o2 k3)⟩
    · rw [if_neg hct]
      refine g_if_neF (pc := 18) (tgt := 23) dX10_more_18 (by decide) (by omega) (by omega) ?_
      refine g_iconst (pc := 21) dX10_more_21 ?_
      exact r_bool (pc := 22) dX10_more_22 rfl rfl (Nat.le_refl _) (Or.inl rfl) ⟨by rw [qM_some eg, if_neg (by omega)], by rw [qM_some eg, if_neg (by omega)]; exact cP.rfl c⟩

theorem k_plate {N : Nat} {m r v : Int} {σ : Nat → Option MSt} {h : MH} (hm : i32 m) (hr : i32 r) (hv : i32 v) (c : CMs N h σ) : Ok mX10_plate 10 0 0 [vR 0, vI m, vI r, vI v] N h (fun r9 h2 => r9 = some (vI (qM σ m 0 (fun kd M n T Y P => if 0 ≤ r ∧ r < n then 1 else 0))) ∧ cP N h h2 (qM σ m σ (fun kd M n T Y P => if 0 ≤ r ∧ r < n then va_up σ m.toNat (some (kd, M, n, T, va_up Y r.toNat (v % (M : Int)), P)) else σ))) := by
  refine Ok.of pfX10_plate rfl (Nat.le_of_ble_eq_true rfl) (fun Ls sx => ?_)
  show G mX10_plate (10, 0, 0, Ls, sx) 0 [(0, vR 0), (1, vI m), (2, vI r), (3, vI v)] [] (0, 0, N) h _
  obtain ⟨c1, c2, c3, c4⟩ := id c
  refine g_aload_n (pc := 0) (r := .inl (some 0)) dX10_plate_0 rfl ?_
  refine g_iload_n (pc := 1) (x := m) dX10_plate_1 rfl ?_
  refine g_callV0 (pc := 2) (as := [vI m]) (b := 0) (st := []) lvX10_39 dX10_plate_2 c1 (Nat.le_of_ble_eq_true rfl) (by omega) (Nat.zero_le _) (Nat.zero_le _) (c_millAt (d := 9) hm c) ?_
  rintro r h1 ⟨e9, e8⟩
  subst e9
  rcases e8 with ⟨eg, e8⟩ | ⟨i, b, kd, M, n, T, Y, P, ma, e8⟩ <;> subst e8
  · refine g_astore (pc := 5) (r := .inl none) (lo2 := [(0, vR 0), (1, vI m), (2, vI r), (3, vI v), (4, vN)]) dX10_plate_5 (by decide) rfl ?_
    refine g_aload (pc := 7) (r := .inl none) dX10_plate_7 rfl ?_
    refine g_ifnullN (pc := 9) (tgt := 21) dX10_plate_9 (by decide) ?_
    refine g_iconst (pc := 21) dX10_plate_21 ?_
    exact r_bool (pc := 22) dX10_plate_22 rfl rfl (Nat.le_refl _) (Or.inl rfl) ⟨by rw [qM_none eg], by rw [qM_none eg]; exact cP.rfl c⟩
  · obtain ⟨hi, em, eb, es, eg, cm⟩ := id ma
    obtain ⟨ok, hml, ⟨hY, rY⟩, hpc, hw, hd, hnt, hpi⟩ := cm.out
    obtain ⟨hkd, hM, hM2, n1, hn, hk1, hk3, hT, hYb, hPb⟩ := id ok
    obtain ⟨kn, F, hPX, hF⟩ := id hw
    obtain ⟨wh, h79, -⟩ := id hd
    subst hF
    refine g_astore (pc := 5) (r := .inl (some b)) (lo2 := [(0, vR 0), (1, vI m), (2, vI r), (3, vI v), (4, vR b)]) dX10_plate_5 (by decide) rfl ?_
    refine g_aload (pc := 7) (r := .inl (some b)) dX10_plate_7 rfl ?_
    refine g_ifnullR (pc := 9) dX10_plate_9 ?_
    refine g_aload (pc := 12) (r := .inl (some b)) dX10_plate_12 rfl ?_
    refine g_iload_n (pc := 14) (x := r) dX10_plate_14 rfl ?_
    refine g_callV0 (pc := 15) (as := [vI r]) (b := b) (st := []) lvX10_47 dX10_plate_15 hml (Nat.le_of_ble_eq_true rfl) (by omega) (Nat.zero_le _) (Nat.zero_le _) (c_hasRest (d := 9) hr hn hml) ?_
    rintro r8 h9 ⟨e9, e8⟩
    subst e9
    subst e8
    by_cases hcc : 0 ≤ r ∧ r < n
    · rw [if_pos hcc]
      refine g_if_neT (pc := 18) (tgt := 23) dX10_plate_18 (by decide) (by omega) (by omega) ?_
      obtain ⟨rr, er⟩ : ∃ rr : Nat, r = (rr : Int) := ⟨r.toNat, by omega⟩
      subst er
      have v0 := Int.emod_nonneg v (show (M : Int) ≠ 0 by omega)
      have v1 := Int.emod_lt_of_pos v (show (0 : Int) < M by omega)
      refine g_aload (pc := 23) (r := .inl (some b)) dX10_plate_23 rfl ?_
      refine g_getf (pc := 25) (v := vR (b + 1)) flX10_55 dX10_plate_25 hml rfl ?_
      refine g_iload_n (pc := 28) (x := (rr : Int)) dX10_plate_28 rfl ?_
      refine g_iload_n (pc := 29) (x := v) dX10_plate_29 rfl ?_
      refine g_i2l (pc := 30) dX10_plate_30 (by omega) ?_
      refine g_aload (pc := 31) (r := .inl (some b)) dX10_plate_31 rfl ?_
      refine g_getf (pc := 33) (v := vI (M : Int)) flX10_58 dX10_plate_33 hml rfl ?_
      refine g_callS0 (pc := 36) (as := [vJ v, vI (M : Int)]) (st := [vI (rr : Int), vR (b + 1)]) lsX10_62 dX10_plate_36 (Nat.le_of_ble_eq_true rfl) (by omega) (Nat.zero_le _) (Nat.zero_le _) (c_restOf (d := 8) (by omega) (by omega) (by omega)) ?_
      rintro r8 h9 ⟨e9, e8⟩
      subst e9
      subst e8
      refine g_iastN (pc := 39) (j := rr) dX10_plate_39 hY (by omega) (by omega) (by omega) ?_
      have hY_1 := hY.self (e := eA 0 4 (va_up Y rr (v % (M : Int))))
      refine g_iconst (pc := 40) dX10_plate_40 ?_
      exact r_bool (pc := 41) dX10_plate_41 rfl rfl (Nat.le_refl _) (Or.inr rfl) ⟨by rw [qM_some eg, if_pos hcc], by rw [qM_some eg, if_pos hcc, em]; simp only [Int.toNat_natCast]; exact cP.set c hi eb (fun a z => va_up_ne _ _ (by omega)) (CM.mk ⟨⟨hkd, hM, hM2, n1, hn, hk1, hk3, hT, up_bd hYb ⟨v0, v1⟩, hPb⟩, hml.keep (va_up_ne _ _ (by omega)), ⟨hY.self, rng_up rY (by omega)⟩, hpc.keep (fun a z1 z2 => va_up_ne _ _ (by omega)), hw.keep (fun a z1 z2 => va_up_ne _ _ (by omega)), hd.keep (fun a z1 z2 => va_up_ne _ _ (by omega)), hnt.keep (fun a z1 z2 => va_up_ne _ _ (by omega)), hpi.keep (va_up_ne _ _ (by omega)) (va_up_ne _ _ (by omega))⟩)⟩
    · rw [if_neg hcc]
      refine g_if_neF (pc := 18) (tgt := 23) dX10_plate_18 (by decide) (by omega) (by omega) ?_
      refine g_iconst (pc := 21) dX10_plate_21 ?_
      exact r_bool (pc := 22) dX10_plate_22 rfl rfl (Nat.le_refl _) (Or.inl rfl) ⟨by rw [qM_some eg, if_neg hcc], by rw [qM_some eg, if_neg hcc]; exact cP.rfl c⟩

theorem k_look {N : Nat} {m w : Int} {σ : Nat → Option MSt} {h : MH} (hm : i32 m) (hw : i32 w) (c : CMs N h σ) : Ok mX10_look 10 0 0 [vR 0, vI m, vI w] N h (fun r9 h2 => r9 = some (vI (qM σ m (-1) (fun kd M n T Y P => if w = 0 then (kd : Int) else if w = 1 then (M : Int) else if w = 2 then (n : Int) else if w = 3 then detF n T % (M : Int) else if w = 4 then (if Nat.gcd M (detF n T % (M : Int)).toNat = 1 then 1 else 0 : Int) else if w = 5 then ((fcs M).length : Int) else -1))) ∧ cP N h h2 σ) := by
  refine Ok.of pfX10_look rfl (Nat.le_of_ble_eq_true rfl) (fun Ls sx => ?_)
  show G mX10_look (10, 0, 0, Ls, sx) 0 [(0, vR 0), (1, vI m), (2, vI w)] [] (0, 0, N) h _
  obtain ⟨c1, c2, c3, c4⟩ := id c
  refine g_aload_n (pc := 0) (r := .inl (some 0)) dX10_look_0 rfl ?_
  refine g_iload_n (pc := 1) (x := m) dX10_look_1 rfl ?_
  refine g_callV0 (pc := 2) (as := [vI m]) (b := 0) (st := []) lvX10_39 dX10_look_2 c1 (Nat.le_of_ble_eq_true rfl) (by omega) (Nat.zero_le _) (Nat.zero_le _) (c_millAt (d := 9) hm c) ?_
  rintro r h1 ⟨e9, e8⟩
  subst e9
  rcases e8 with ⟨eg, e8⟩ | ⟨i, b, kd, M, n, T, Y, P, ma, e8⟩ <;> subst e8
  · refine g_astore_n (pc := 5) (r := .inl none) (lo2 := [(0, vR 0), (1, vI m), (2, vI w), (3, vN)]) dX10_look_5 (by decide) rfl ?_
    refine g_aload_n (pc := 6) (r := .inl none) dX10_look_6 rfl ?_
    refine g_ifnonnullN (pc := 7) dX10_look_7 ?_
    refine g_iconst (pc := 10) dX10_look_10 ?_
    exact r_int (pc := 11) dX10_look_11 rfl rfl (Nat.le_refl _) ⟨by rw [qM_none eg], cP.rfl c⟩
  · obtain ⟨hi, em, eb, es, eg, cm⟩ := id ma
    obtain ⟨ok, hml, ⟨hY, rY⟩, hpc, hw, hd, hnt, hpi⟩ := cm.out
    obtain ⟨hkd, hM, hM2, n1, hn, hk1, hk3, hT, hYb, hPb⟩ := id ok
    obtain ⟨kn, F, hPX, hF⟩ := id hw
    obtain ⟨wh, h79, -⟩ := id hd
    subst hF
    refine g_astore_n (pc := 5) (r := .inl (some b)) (lo2 := [(0, vR 0), (1, vI m), (2, vI w), (3, vR b)]) dX10_look_5 (by decide) rfl ?_
    refine g_aload_n (pc := 6) (r := .inl (some b)) dX10_look_6 rfl ?_
    refine g_ifnonnullR (pc := 7) (tgt := 12) dX10_look_7 (by decide) ?_
    refine g_iload_n (pc := 12) (x := w) dX10_look_12 rfl ?_
    by_cases hs0 : w = 0
    · refine g_tabIn (pc := 13) (tgt := 52) dX10_look_13 (by omega) (by omega) (by omega) (by rw [hs0]; rfl) (by decide) ?_
      refine g_aload_n (pc := 52) (r := .inl (some b)) dX10_look_52 rfl ?_
      refine g_getf (pc := 53) (v := vI (kd : Int)) flX10_68 dX10_look_53 hml rfl ?_
      exact r_int (pc := 56) dX10_look_56 rfl rfl (Nat.le_refl _) ⟨by rw [qM_some eg, if_pos hs0], cP.rfl c⟩
    by_cases hs1 : w = 1
    · refine g_tabIn (pc := 13) (tgt := 57) dX10_look_13 (by omega) (by omega) (by omega) (by rw [hs1]; rfl) (by decide) ?_
      refine g_aload_n (pc := 57) (r := .inl (some b)) dX10_look_57 rfl ?_
      refine g_getf (pc := 58) (v := vI (M : Int)) flX10_58 dX10_look_58 hml rfl ?_
      exact r_int (pc := 61) dX10_look_61 rfl rfl (Nat.le_refl _) ⟨by rw [qM_some eg, if_neg hs0, if_pos hs1], cP.rfl c⟩
    by_cases hs2 : w = 2
    · refine g_tabIn (pc := 13) (tgt := 62) dX10_look_13 (by omega) (by omega) (by omega) (by rw [hs2]; rfl) (by decide) ?_
      refine g_aload_n (pc := 62) (r := .inl (some b)) dX10_look_62 rfl ?_
      refine g_getf (pc := 63) (v := vI (n : Int)) flX10_71 dX10_look_63 hml rfl ?_
      exact r_int (pc := 66) dX10_look_66 rfl rfl (Nat.le_refl _) ⟨by rw [qM_some eg, if_neg hs0, if_neg hs1, if_pos hs2], cP.rfl c⟩
    by_cases hs3 : w = 3
    · refine g_tabIn (pc := 13) (tgt := 67) dX10_look_13 (by omega) (by omega) (by omega) (by rw [hs3]; rfl) (by decide) ?_
      refine g_aload_n (pc := 67) (r := .inl (some b)) dX10_look_67 rfl ?_
      refine g_callV0 (pc := 68) (as := []) (b := b) (st := []) lvX10_74 dX10_look_68 hml (Nat.le_of_ble_eq_true rfl) (by omega) (Nat.zero_le _) (Nat.zero_le _) (c_worth (d := 6) hn hM hM2 hml hPX.1) ?_
      rintro r8 h9 ⟨e9, e8⟩
      subst e9
      subst e8
      exact r_int (pc := 71) dX10_look_71 rfl rfl (Nat.le_refl _) ⟨by rw [qM_some eg, if_neg hs0, if_neg hs1, if_neg hs2, if_pos hs3], cP.rfl c⟩
    by_cases hs4 : w = 4
    · refine g_tabIn (pc := 13) (tgt := 72) dX10_look_13 (by omega) (by omega) (by omega) (by rw [hs4]; rfl) (by decide) ?_
      refine g_aload_n (pc := 72) (r := .inl (some b)) dX10_look_72 rfl ?_
      refine g_callV0 (pc := 73) (as := []) (b := b) (st := []) lvX10_78 dX10_look_73 hml (Nat.le_of_ble_eq_true rfl) (by omega) (Nat.zero_le _) (Nat.zero_le _) (c_goesBack (d := 5) hn hM hM2 hml hPX.1) ?_
      rintro r8 h9 ⟨e9, e8⟩
      subst e9
      subst e8
      by_cases hgb : Nat.gcd M (detF n (F 0) % (M : Int)).toNat = 1
      · rw [if_pos hgb]
        refine g_if_eqF (pc := 76) (tgt := 83) dX10_look_76 (by decide) (by omega) (by omega) ?_
        refine g_iconst (pc := 79) dX10_look_79 ?_
        refine g_goto (pc := 80) (tgt := 84) dX10_look_80 (by decide) ?_
        exact r_int (pc := 84) dX10_look_84 rfl rfl (Nat.le_refl _) ⟨by rw [qM_some eg, if_neg hs0, if_neg hs1, if_neg hs2, if_neg hs3, if_pos hs4, if_pos hgb], cP.rfl c⟩
      · rw [if_neg hgb]
        refine g_if_eqT (pc := 76) (tgt := 83) dX10_look_76 (by decide) (by omega) (by omega) ?_
        refine g_iconst (pc := 83) dX10_look_83 ?_
        exact r_int (pc := 84) dX10_look_84 rfl rfl (Nat.le_refl _) ⟨by rw [qM_some eg, if_neg hs0, if_neg hs1, if_neg hs2, if_neg hs3, if_pos hs4, if_neg hgb], cP.rfl c⟩
    by_cases hs5 : w = 5
    · refine g_tabIn (pc := 13) (tgt := 85) dX10_look_13 (by omega) (by omega) (by omega) (by rw [hs5]; rfl) (by decide) ?_
      refine g_aload_n (pc := 85) (r := .inl (some b)) dX10_look_85 rfl ?_
      refine g_callV0 (pc := 86) (as := []) (b := b) (st := []) lvX10_82 dX10_look_86 hml (Nat.le_of_ble_eq_true rfl) (by omega) (Nat.zero_le _) (Nat.zero_le _) (c_partCount (d := 9) hM hM2 hml hpc) ?_
      rintro r8 h9 ⟨e9, e8⟩
      subst e9
      subst e8
      exact r_int (pc := 89) dX10_look_89 rfl rfl (Nat.le_refl _) ⟨by rw [qM_some eg, if_neg hs0, if_neg hs1, if_neg hs2, if_neg hs3, if_neg hs4, if_pos hs5], cP.rfl c⟩
    refine g_tabOut (pc := 13) (tgt := 90) dX10_look_13 (by omega) (by omega) (by decide) ?_
    refine g_iconst (pc := 90) dX10_look_90 ?_
    exact r_int (pc := 91) dX10_look_91 rfl rfl (Nat.le_refl _) ⟨by rw [qM_some eg, if_neg hs0, if_neg hs1, if_neg hs2, if_neg hs3, if_neg hs4, if_neg hs5], cP.rfl c⟩

theorem k_rest {N : Nat} {m r : Int} {σ : Nat → Option MSt} {h : MH} (hm : i32 m) (hr : i32 r) (c : CMs N h σ) : Ok mX10_rest 10 0 0 [vR 0, vI m, vI r] N h (fun r9 h2 => r9 = some (vI (qM σ m (-1) (fun kd M n T Y P => if 0 ≤ r ∧ r < n then Y r.toNat else -1))) ∧ cP N h h2 σ) := by
  refine Ok.of pfX10_rest rfl (Nat.le_of_ble_eq_true rfl) (fun Ls sx => ?_)
  show G mX10_rest (10, 0, 0, Ls, sx) 0 [(0, vR 0), (1, vI m), (2, vI r)] [] (0, 0, N) h _
  obtain ⟨c1, c2, c3, c4⟩ := id c
  refine g_aload_n (pc := 0) (r := .inl (some 0)) dX10_rest_0 rfl ?_
  refine g_iload_n (pc := 1) (x := m) dX10_rest_1 rfl ?_
  refine g_callV0 (pc := 2) (as := [vI m]) (b := 0) (st := []) lvX10_39 dX10_rest_2 c1 (Nat.le_of_ble_eq_true rfl) (by omega) (Nat.zero_le _) (Nat.zero_le _) (c_millAt (d := 9) hm c) ?_
  rintro r h1 ⟨e9, e8⟩
  subst e9
  rcases e8 with ⟨eg, e8⟩ | ⟨i, b, kd, M, n, T, Y, P, ma, e8⟩ <;> subst e8
  · refine g_astore_n (pc := 5) (r := .inl none) (lo2 := [(0, vR 0), (1, vI m), (2, vI r), (3, vN)]) dX10_rest_5 (by decide) rfl ?_
    refine g_aload_n (pc := 6) (r := .inl none) dX10_rest_6 rfl ?_
    refine g_ifnullN (pc := 7) (tgt := 18) dX10_rest_7 (by decide) ?_
    refine g_iconst (pc := 18) dX10_rest_18 ?_
    refine g_goto (pc := 19) (tgt := 28) dX10_rest_19 (by decide) ?_
    exact r_int (pc := 28) dX10_rest_28 rfl rfl (Nat.le_refl _) ⟨by rw [qM_none eg], cP.rfl c⟩
  · obtain ⟨hi, em, eb, es, eg, cm⟩ := id ma
    obtain ⟨ok, hml, ⟨hY, rY⟩, hpc, hw, hd, hnt, hpi⟩ := cm.out
    obtain ⟨hkd, hM, hM2, n1, hn, hk1, hk3, hT, hYb, hPb⟩ := id ok
    obtain ⟨kn, F, hPX, hF⟩ := id hw
    obtain ⟨wh, h79, -⟩ := id hd
    subst hF
    refine g_astore_n (pc := 5) (r := .inl (some b)) (lo2 := [(0, vR 0), (1, vI m), (2, vI r), (3, vR b)]) dX10_rest_5 (by decide) rfl ?_
    refine g_aload_n (pc := 6) (r := .inl (some b)) dX10_rest_6 rfl ?_
    refine g_ifnullR (pc := 7) dX10_rest_7 ?_
    refine g_aload_n (pc := 10) (r := .inl (some b)) dX10_rest_10 rfl ?_
    refine g_iload_n (pc := 11) (x := r) dX10_rest_11 rfl ?_
    refine g_callV0 (pc := 12) (as := [vI r]) (b := b) (st := []) lvX10_47 dX10_rest_12 hml (Nat.le_of_ble_eq_true rfl) (by omega) (Nat.zero_le _) (Nat.zero_le _) (c_hasRest (d := 9) hr hn hml) ?_
    rintro r8 h9 ⟨e9, e8⟩
    subst e9
    subst e8
    by_cases hcc : 0 ≤ r ∧ r < n
    · rw [if_pos hcc]
      refine g_if_neT (pc := 15) (tgt := 22) dX10_rest_15 (by decide) (by omega) (by omega) ?_
      obtain ⟨rr, er⟩ : ∃ rr : Nat, r = (rr : Int) := ⟨r.toNat, by omega⟩
      subst er
      refine g_aload_n (pc := 22) (r := .inl (some b)) dX10_rest_22 rfl ?_
      refine g_getf (pc := 23) (v := vR (b + 1)) flX10_55 dX10_rest_23 hml rfl ?_
      refine g_iload_n (pc := 26) (x := (rr : Int)) dX10_rest_26 rfl ?_
      refine g_ialdN (pc := 27) (j := rr) dX10_rest_27 hY (by omega) (by omega) (by omega) ?_
      exact r_int (pc := 28) dX10_rest_28 rfl rfl (Nat.le_refl _) ⟨by rw [qM_some eg, if_pos hcc, Int.toNat_natCast], cP.rfl c⟩
    · rw [if_neg hcc]
      refine g_if_neF (pc := 15) (tgt := 22) dX10_rest_15 (by decide) (by omega) (by omega) ?_
      refine g_iconst (pc := 18) dX10_rest_18 ?_
      refine g_goto (pc := 19) (tgt := 28) dX10_rest_19 (by decide) ?_
      exact r_int (pc := 28) dX10_rest_28 rfl rfl (Nat.le_refl _) ⟨by rw [qM_some eg, if_neg hcc], cP.rfl c⟩

theorem k_cell {N : Nat} {m r cl : Int} {σ : Nat → Option MSt} {h : MH} (hm : i32 m) (hr : i32 r) (hcl : i32 cl) (c : CMs N h σ) : Ok mX10_cell 10 0 0 [vR 0, vI m, vI r, vI cl] N h (fun r9 h2 => r9 = some (vI (qM σ m (-1) (fun kd M n T Y P => if (0 ≤ r ∧ r < n) ∧ (0 ≤ cl ∧ cl ≤ n) then (if cl = (n : Int) then T (5 * r.toNat + 4) else T (5 * r.toNat + cl.toNat)) else -1))) ∧ cP N h h2 σ) := by
  refine Ok.of pfX10_cell rfl (Nat.le_of_ble_eq_true rfl) (fun Ls sx => ?_)
  show G mX10_cell (10, 0, 0, Ls, sx) 0 [(0, vR 0), (1, vI m), (2, vI r), (3, vI cl)] [] (0, 0, N) h _
  obtain ⟨c1, c2, c3, c4⟩ := id c
  refine g_aload_n (pc := 0) (r := .inl (some 0)) dX10_cell_0 rfl ?_
  refine g_iload_n (pc := 1) (x := m) dX10_cell_1 rfl ?_
  refine g_callV0 (pc := 2) (as := [vI m]) (b := 0) (st := []) lvX10_39 dX10_cell_2 c1 (Nat.le_of_ble_eq_true rfl) (by omega) (Nat.zero_le _) (Nat.zero_le _) (c_millAt (d := 9) hm c) ?_
  rintro r h1 ⟨e9, e8⟩
  subst e9
  rcases e8 with ⟨eg, e8⟩ | ⟨i, b, kd, M, n, T, Y, P, ma, e8⟩ <;> subst e8
  · refine g_astore (pc := 5) (r := .inl none) (lo2 := [(0, vR 0), (1, vI m), (2, vI r), (3, vI cl), (4, vN)]) dX10_cell_5 (by decide) rfl ?_
    refine g_aload (pc := 7) (r := .inl none) dX10_cell_7 rfl ?_
    refine g_ifnullN (pc := 9) (tgt := 34) dX10_cell_9 (by decide) ?_
    refine g_iconst (pc := 34) dX10_cell_34 ?_
    exact r_int (pc := 35) dX10_cell_35 rfl rfl (Nat.le_refl _) ⟨by rw [qM_none eg], cP.rfl c⟩
  · obtain ⟨hi, em, eb, es, eg, cm⟩ := id ma
    obtain ⟨ok, hml, ⟨hY, rY⟩, hpc, hw, hd, hnt, hpi⟩ := cm.out
    obtain ⟨hkd, hM, hM2, n1, hn, hk1, hk3, hT, hYb, hPb⟩ := id ok
    obtain ⟨kn, F, hPX, hF⟩ := id hw
    obtain ⟨wh, h79, -⟩ := id hd
    subst hF
    refine g_astore (pc := 5) (r := .inl (some b)) (lo2 := [(0, vR 0), (1, vI m), (2, vI r), (3, vI cl), (4, vR b)]) dX10_cell_5 (by decide) rfl ?_
    refine g_aload (pc := 7) (r := .inl (some b)) dX10_cell_7 rfl ?_
    refine g_ifnullR (pc := 9) dX10_cell_9 ?_
    refine g_aload (pc := 12) (r := .inl (some b)) dX10_cell_12 rfl ?_
    refine g_iload_n (pc := 14) (x := r) dX10_cell_14 rfl ?_
    refine g_callV0 (pc := 15) (as := [vI r]) (b := b) (st := []) lvX10_47 dX10_cell_15 hml (Nat.le_of_ble_eq_true rfl) (by omega) (Nat.zero_le _) (Nat.zero_le _) (c_hasRest (d := 9) hr hn hml) ?_
    rintro r8 h9 ⟨e9, e8⟩
    subst e9
    subst e8
    by_cases hcc : 0 ≤ r ∧ r < n
    · rw [if_pos hcc]
      refine g_if_eqF (pc := 18) (tgt := 34) dX10_cell_18 (by decide) (by omega) (by omega) ?_
      refine g_iload_n (pc := 21) (x := cl) dX10_cell_21 rfl ?_
      refine g_if_lt (pc := 22) (tgt := 34) dX10_cell_22 (by decide) (by omega) (fun k0 => ?_) (fun k0 => ?_)
      · refine g_iconst (pc := 34) dX10_cell_34 ?_
        exact r_int (pc := 35) dX10_cell_35 rfl rfl (Nat.le_refl _) ⟨by rw [qM_some eg, if_neg (by omega)], cP.rfl c⟩
      · refine g_iload_n (pc := 25) (x := cl) dX10_cell_25 rfl ?_
        refine g_aload (pc := 26) (r := .inl (some b)) dX10_cell_26 rfl ?_
        refine g_getf (pc := 28) (v := vI (n : Int)) flX10_71 dX10_cell_28 hml rfl ?_
        refine g_icmp_le (pc := 31) (tgt := 36) dX10_cell_31 (by decide) (by omega) (by omega) (fun k1 => ?_) (fun k1 => ?_)
        · obtain ⟨rr, er⟩ : ∃ rr : Nat, r = (rr : Int) := ⟨r.toNat, by omega⟩
          subst er
          obtain ⟨cc, ec⟩ : ∃ cc : Nat, cl = (cc : Int) := ⟨cl.toNat, by omega⟩
          subst ec
          refine g_aload (pc := 36) (r := .inl (some b)) dX10_cell_36 rfl ?_
          refine g_getf (pc := 38) (v := vR (b + 12)) flX10_85 dX10_cell_38 hml rfl ?_
          refine g_iload_n (pc := 41) (x := (rr : Int)) dX10_cell_41 rfl ?_
          refine g_iload_n (pc := 42) (x := (cc : Int)) dX10_cell_42 rfl ?_
          refine g_aload (pc := 43) (r := .inl (some b)) dX10_cell_43 rfl ?_
          refine g_getf (pc := 45) (v := vI (n : Int)) flX10_71 dX10_cell_45 hml rfl ?_
          refine g_icmp_ne (pc := 48) (tgt := 55) dX10_cell_48 (by decide) (by omega) (by omega) (fun k2 => ?_) (fun k2 => ?_)
          · refine g_iload_n (pc := 55) (x := (cc : Int)) dX10_cell_55 rfl ?_
            refine g_callV0 (pc := 56) (as := [vI (rr : Int), vI (cc : Int)]) (b := b + 12) (st := []) lvX10_89 dX10_cell_56 hPX.1.1 (Nat.le_of_ble_eq_true rfl) (by omega) (Nat.zero_le _) (Nat.zero_le _) (c_told (d := 9) (r := rr) (c := cc) (by omega) (by omega) hPX.1) ?_
            rintro r8 h9 ⟨e9, e8⟩
            subst e9
            subst e8
            exact r_int (pc := 59) dX10_cell_59 rfl rfl (Nat.le_refl _) ⟨by rw [qM_some eg, if_pos (by omega), if_neg k2]; simp only [Int.toNat_natCast], cP.rfl c⟩
          · refine g_iconst (pc := 51) dX10_cell_51 ?_
            refine g_goto (pc := 52) (tgt := 56) dX10_cell_52 (by decide) ?_
            refine g_callV0 (pc := 56) (as := [vI (rr : Int), vI 4]) (b := b + 12) (st := []) lvX10_89 dX10_cell_56 hPX.1.1 (Nat.le_of_ble_eq_true rfl) (by omega) (Nat.zero_le _) (Nat.zero_le _) (c_told (d := 9) (r := rr) (c := 4) (by omega) (by omega) hPX.1) ?_
            rintro r8 h9 ⟨e9, e8⟩
            subst e9
            subst e8
            exact r_int (pc := 59) dX10_cell_59 rfl rfl (Nat.le_refl _) ⟨by rw [qM_some eg, if_pos (by omega), if_pos (by omega)]; simp only [Int.toNat_natCast], cP.rfl c⟩
        · refine g_iconst (pc := 34) dX10_cell_34 ?_
          exact r_int (pc := 35) dX10_cell_35 rfl rfl (Nat.le_refl _) ⟨by rw [qM_some eg, if_neg (by omega)], cP.rfl c⟩
    · rw [if_neg hcc]
      refine g_if_eqT (pc := 18) (tgt := 34) dX10_cell_18 (by decide) (by omega) (by omega) ?_
      refine g_iconst (pc := 34) dX10_cell_34 ?_
      exact r_int (pc := 35) dX10_cell_35 rfl rfl (Nat.le_refl _) ⟨by rw [qM_some eg, if_neg (by omega)], cP.rfl c⟩
