/-! ===== Arrays.fill; small methods of Powers ===== -/
theorem fill_l {κ : KX} {N aa n : Nat} {v : Int} (hn : n ≤ 2147483647) {P : Option MV → MH → Prop} : ∀ (k j : Nat) (xj : Int) (h : MH) (f : Nat → Int), j + k = n → xj = (j : Int) → Hd (0, 0, N) h aa (eA 0 n f) → (∀ h2 f2, Hd (0, 0, N) h2 aa (eA 0 n f2) → (∀ b, b ≠ aa → h2 b = h b) → (∀ i, j ≤ i → i < n → f2 i = v) → (∀ i, (i < j ∨ n ≤ i) → f2 i = f i) → P none h2) → G mJ7_fill_53178 κ 5 [(0, vR aa), (1, vI v), (2, vI xj), (3, vI (n : Int))] [] (0, 0, N) h (Pq mJ7_fill_53178 0 0 P) := by
  intro k
  induction k with
  | zero =>
    intro j xj h f hk ex ha hK
    refine g_iload_n (pc := 5) (x := xj) dJ7_fill_53178_5 rfl ?_
    refine g_iload_n (pc := 6) (x := (n : Int)) dJ7_fill_53178_6 rfl ?_
    refine g_icmp_geT (pc := 7) (tgt := 20) dJ7_fill_53178_7 (by decide) (by omega) (by omega) (by omega) ?_
    exact r_void (pc := 20) dJ7_fill_53178_20 rfl rfl (Nat.le_refl _) (hK h f ha (fun _ _ => rfl) (fun a _ _ => by omega) (fun _ _ => rfl))
  | succ k ih =>
    intro j xj h f hk ex ha hK
    refine g_iload_n (pc := 5) (x := xj) dJ7_fill_53178_5 rfl ?_
    refine g_iload_n (pc := 6) (x := (n : Int)) dJ7_fill_53178_6 rfl ?_
    refine g_icmp_geF (pc := 7) (tgt := 20) dJ7_fill_53178_7 (by decide) (by omega) (by omega) (by omega) ?_
    refine g_aload_n (pc := 10) (r := .inl (some aa)) dJ7_fill_53178_10 rfl ?_
    refine g_iload_n (pc := 11) (x := xj) dJ7_fill_53178_11 rfl ?_
    refine g_iload_n (pc := 12) (x := v) dJ7_fill_53178_12 rfl ?_
    refine g_iastN (pc := 13) (j := j) dJ7_fill_53178_13 ha (by omega) (by omega) (by omega) ?_
    have ha_1 := ha.self (e := eA 0 n (va_up f j v))
    refine g_iinc (pc := 14) (x := xj) (lo2 := [(0, vR aa), (1, vI v), (2, vI (xj + 1)), (3, vI (n : Int))]) dJ7_fill_53178_14 rfl (by decide) rfl ?_
    refine g_goto (pc := 17) (tgt := 5) dJ7_fill_53178_17 (by decide) ?_
    refine ih (j + 1) (xj + 1) _ _ (by omega) (by omega) ha_1 (fun h2 f2 q1 q2 q3 q4 => hK h2 f2 q1 (fun b hb => (q2 b hb).trans (va_up_ne _ _ hb)) (fun i a1 a2 => ?_) (fun i a1 => ?_))
    · by_cases hj : i = j
      · subst hj
        rw [q4 _ (by omega), va_up_self]
      · exact q3 i (by omega) a2
    · rw [q4 i (by omega), va_up_ne _ _ (by omega)]

theorem c_fill {N d aa n : Nat} {v : Int} {h : MH} {f : Nat → Int} (hn : n ≤ 2147483647) (ha : Hd (0, 0, N) h aa (eA 0 n f)) : Ok mJ7_fill_53178 d 0 0 [vR aa, vI v] N h (fun r h2 => r = none ∧ (∀ b, b ≠ aa → h2 b = h b) ∧ ∃ f2, h2 aa = eA 0 n f2 ∧ (∀ i, i < n → f2 i = v) ∧ ∀ i, n ≤ i → f2 i = f i) := by
  refine Ok.of pfJ7_fill_53178 rfl (Nat.le_of_ble_eq_true rfl) (fun Ls sx => ?_)
  show G mJ7_fill_53178 (d, 0, 0, Ls, sx) 0 [(0, vR aa), (1, vI v)] [] (0, 0, N) h _
  refine g_iconst (pc := 0) dJ7_fill_53178_0 ?_
  refine g_istore_n (pc := 1) (lo2 := [(0, vR aa), (1, vI v), (2, vI 0)]) dJ7_fill_53178_1 (by decide) rfl ?_
  refine g_aload_n (pc := 2) (r := .inl (some aa)) dJ7_fill_53178_2 rfl ?_
  refine g_alen (pc := 3) dJ7_fill_53178_3 ha (by decide) ?_
  refine g_istore_n (pc := 4) (lo2 := [(0, vR aa), (1, vI v), (2, vI 0), (3, vI ((n : Nat) : Int))]) dJ7_fill_53178_4 (by decide) rfl ?_
  exact fill_l hn n 0 _ h f (by omega) rfl ha (fun h2 f2 q1 q2 q3 q4 => ⟨rfl, q2, f2, q1.2, fun j hj => q3 j (Nat.zero_le _) hj, fun j hj => q4 j (Or.inr hj)⟩)

/-- the table's and MORE's cells are rests of M -/
def tabOk (n M : Nat) (S : Nat → Int) : Prop := ∀ r c, r < n → (c < n ∨ c = 4) → 0 ≤ S (5 * r + c) ∧ S (5 * r + c) < M
theorem SP_one {n M : Nat} {F : Nat → Nat → Int} (hn : n ≤ 4) (hM : 2 ≤ M) (h : tabOk n M (F 0)) : SP 1 M n F := by
  intro i hi
  have e : i = 0 := by omega
  subst e
  exact (mp_one (by omega) (au_can hM h)).symm
theorem SP_can {kn n M : Nat} {F : Nat → Nat → Int} (hM : 2 ≤ M) (h1 : 1 ≤ kn) (h : SP kn M n F) : can (n + 1) M (au n (F 0)) := by
  have := h 0 (by omega)
  rw [this]
  exact mp_can (by omega) _

theorem c_told {N d p kn M n r c : Nat} {h : MH} {F : Nat → Nat → Int} (hr : r < 4) (hc : c < 5) (hw : PW N h p kn M n F) : Ok mX6_told d 0 0 [vR p, vI (r : Int), vI (c : Int)] N h (fun q h2 => h2 = h ∧ q = some (vI (F 0 (5 * r + c)))) := by
  refine Ok.of pfX6_told rfl (Nat.le_of_ble_eq_true rfl) (fun Ls sx => ?_)
  show G mX6_told (d, 0, 0, Ls, sx) 0 [(0, vR p), (1, vI (r : Int)), (2, vI (c : Int))] [] (0, 0, N) h _
  have h1 := hw.1
  have h2 := hw.2.1
  have h3 := hw.2.2.1 0 (by omega)
  refine g_aload_n (pc := 0) (r := .inl (some p)) dX6_told_0 rfl ?_
  refine g_getf (pc := 1) (v := vR (p + 1)) flX6_13 dX6_told_1 h1 rfl ?_
  refine g_iconst (pc := 4) dX6_told_4 ?_
  refine g_aaldN (pc := 5) (j := 0) dX6_told_5 h2 (by decide) (by omega) (by omega) (by omega) ?_
  rw [rwF_at (b := p + 2) (n := 63) (i := 0) (by omega)]
  refine g_iload_n (pc := 6) (x := (r : Int)) dX6_told_6 rfl ?_
  refine g_iconst (pc := 7) dX6_told_7 ?_
  refine g_imul (pc := 8) dX6_told_8 ?_
  refine g_iload_n (pc := 9) (x := (c : Int)) dX6_told_9 rfl ?_
  refine g_iadd (pc := 10) dX6_told_10 ?_
  refine g_ialdN (pc := 11) (j := 5 * r + c) dX6_told_11 h3 (by omega) (by omega) (by omega) ?_
  exact r_int (pc := 12) dX6_told_12 rfl rfl (Nat.le_refl _) ⟨rfl, rfl⟩

theorem c_pput {N d p kn M n r c : Nat} {v : Int} {h : MH} {F : Nat → Nat → Int} (hr : r < 4) (hc : c < 5) (hv : 0 ≤ v ∧ v < 500) (hw : PW N h p kn M n F) : Ok mX6_put d 0 0 [vR p, vI (r : Int), vI (c : Int), vI v] N h (fun q h2 => q = none ∧ PW N h2 p 1 M n (va_up F 0 (va_up (F 0) (5 * r + c) v)) ∧ ∀ b, b ≠ p → b ≠ p + 2 → h2 b = h b) := by
  refine Ok.of pfX6_put rfl (Nat.le_of_ble_eq_true rfl) (fun Ls sx => ?_)
  show G mX6_put (d, 0, 0, Ls, sx) 0 [(0, vR p), (1, vI (r : Int)), (2, vI (c : Int)), (3, vI v)] [] (0, 0, N) h _
  have h1 := hw.1
  have h2 := hw.2.1
  have h3 := hw.2.2.1 0 (by omega)
  refine g_aload_n (pc := 0) (r := .inl (some p)) dX6_put_0 rfl ?_
  refine g_getf (pc := 1) (v := vR (p + 1)) flX6_13 dX6_put_1 h1 rfl ?_
  refine g_iconst (pc := 4) dX6_put_4 ?_
  refine g_aaldN (pc := 5) (j := 0) dX6_put_5 h2 (by decide) (by omega) (by omega) (by omega) ?_
  rw [rwF_at (b := p + 2) (n := 63) (i := 0) (by omega)]
  refine g_iload_n (pc := 6) (x := (r : Int)) dX6_put_6 rfl ?_
  refine g_iconst (pc := 7) dX6_put_7 ?_
  refine g_imul (pc := 8) dX6_put_8 ?_
  refine g_iload_n (pc := 9) (x := (c : Int)) dX6_put_9 rfl ?_
  refine g_iadd (pc := 10) dX6_put_10 ?_
  refine g_iload_n (pc := 11) (x := v) dX6_put_11 rfl ?_
  refine g_iastN (pc := 12) (j := 5 * r + c) dX6_put_12 h3 (by omega) (by omega) (by omega) ?_
  have h1_1 := h1.ne (e := eA 0 20 (va_up (F 0) (5 * r + c) v)) (a := p + 2 + 0) (by omega)
  have h2_1 := h2.ne (e := eA 0 20 (va_up (F 0) (5 * r + c) v)) (a := p + 2 + 0) (by omega)
  have h3_1 := h3.self (e := eA 0 20 (va_up (F 0) (5 * r + c) v))
  refine g_aload_n (pc := 13) (r := .inl (some p)) dX6_put_13 rfl ?_
  refine g_iconst (pc := 14) dX6_put_14 ?_
  refine g_putf (pc := 15) fpX6_23 dX6_put_15 h1_1 (okv_int _) (Nat.le_of_ble_eq_true rfl) ?_
  have h1_2 := h1_1.self (e := eO 6 [vR (p + 1), vR (p + 65), vR (p + 66), vI 1, vI (M : Int), vI (n : Int)])
  have h2_2 := h2_1.ne (e := eO 6 [vR (p + 1), vR (p + 65), vR (p + 66), vI 1, vI (M : Int), vI (n : Int)]) (a := p) (by omega)
  have h3_2 := h3_1.ne (e := eO 6 [vR (p + 1), vR (p + 65), vR (p + 66), vI 1, vI (M : Int), vI (n : Int)]) (a := p) (by omega)
  refine r_void (pc := 18) dX6_put_18 rfl rfl (Nat.le_refl _) ⟨rfl, ⟨h1_2, h2_2, fun i hi => ?_, fun i hi => ?_⟩, fun b b1 b2 => (va_up_ne _ _ b1).trans (va_up_ne _ _ (by omega))⟩
  · by_cases e : i = 0
    · subst e
      rw [va_up_self]
      exact h3_2
    · rw [va_up_ne _ _ e]
      exact ((hw.2.2.1 i hi).ne (by omega)).ne (by omega)
  · by_cases e : i = 0
    · subst e
      rw [va_up_self]
      exact rng_up (hw.2.2.2 0 hi) hv
    · rw [va_up_ne _ _ e]
      exact hw.2.2.2 i hi

theorem c_pclear {N d p kn M n M2 n2 : Nat} {h : MH} {F : Nat → Nat → Int} (hw : PW N h p kn M n F) : Ok mX6_clear (d + 1) 0 0 [vR p, vI (M2 : Int), vI (n2 : Int)] N h (fun q h2 => q = none ∧ (∃ S, PW N h2 p 1 M2 n2 (va_up F 0 S) ∧ ∀ j, j < 20 → S j = 0) ∧ ∀ b, b ≠ p → b ≠ p + 2 → h2 b = h b) := by
  refine Ok.of pfX6_clear rfl (Nat.le_of_ble_eq_true rfl) (fun Ls sx => ?_)
  show G mX6_clear (d + 1, 0, 0, Ls, sx) 0 [(0, vR p), (1, vI (M2 : Int)), (2, vI (n2 : Int))] [] (0, 0, N) h _
  have h1 := hw.1
  have h2 := hw.2.1
  have h3 := hw.2.2.1 0 (by omega)
  refine g_aload_n (pc := 0) (r := .inl (some p)) dX6_clear_0 rfl ?_
  refine g_getf (pc := 1) (v := vR (p + 1)) flX6_13 dX6_clear_1 h1 rfl ?_
  refine g_iconst (pc := 4) dX6_clear_4 ?_
  refine g_aaldN (pc := 5) (j := 0) dX6_clear_5 h2 (by decide) (by omega) (by omega) (by omega) ?_
  rw [rwF_at (b := p + 2) (n := 63) (i := 0) (by omega)]
  refine g_iconst (pc := 6) dX6_clear_6 ?_
  refine g_callS0 (pc := 7) (as := [vR (p + 2 + 0), vI 0]) (st := []) lsX6_33 dX6_clear_7 (Nat.le_of_ble_eq_true rfl) (by omega) (Nat.zero_le _) (Nat.zero_le _) (c_fill (d := d) (by omega) h3) ?_
  rintro r h4 ⟨rfl, c1, S, c2, c3, c4⟩
  have h1_1 := h1.keep (c1 _ (by omega))
  have h2_1 := h2.keep (c1 _ (by omega))
  have h3_1 := h3.to c2
  refine g_aload_n (pc := 10) (r := .inl (some p)) dX6_clear_10 rfl ?_
  refine g_iconst (pc := 11) dX6_clear_11 ?_
  refine g_putf (pc := 12) fpX6_23 dX6_clear_12 h1_1 (okv_int _) (Nat.le_of_ble_eq_true rfl) ?_
  have h1_2 := h1_1.self (e := eO 6 [vR (p + 1), vR (p + 65), vR (p + 66), vI 1, vI (M : Int), vI (n : Int)])
  have h2_2 := h2_1.ne (e := eO 6 [vR (p + 1), vR (p + 65), vR (p + 66), vI 1, vI (M : Int), vI (n : Int)]) (a := p) (by omega)
  have h3_2 := h3_1.ne (e := eO 6 [vR (p + 1), vR (p + 65), vR (p + 66), vI 1, vI (M : Int), vI (n : Int)]) (a := p) (by omega)
  refine g_aload_n (pc := 15) (r := .inl (some p)) dX6_clear_15 rfl ?_
  refine g_iload_n (pc := 16) (x := (M2 : Int)) dX6_clear_16 rfl ?_
  refine g_putf (pc := 17) fpX6_27 dX6_clear_17 h1_2 (okv_int _) (Nat.le_of_ble_eq_true rfl) ?_
  have h1_3 := h1_2.self (e := eO 6 [vR (p + 1), vR (p + 65), vR (p + 66), vI 1, vI (M2 : Int), vI (n : Int)])
  have h2_3 := h2_2.ne (e := eO 6 [vR (p + 1), vR (p + 65), vR (p + 66), vI 1, vI (M2 : Int), vI (n : Int)]) (a := p) (by omega)
  have h3_3 := h3_2.ne (e := eO 6 [vR (p + 1), vR (p + 65), vR (p + 66), vI 1, vI (M2 : Int), vI (n : Int)]) (a := p) (by omega)
  refine g_aload_n (pc := 20) (r := .inl (some p)) dX6_clear_20 rfl ?_
  refine g_iload_n (pc := 21) (x := (n2 : Int)) dX6_clear_21 rfl ?_
  refine g_putf (pc := 22) fpX6_30 dX6_clear_22 h1_3 (okv_int _) (Nat.le_of_ble_eq_true rfl) ?_
  have h1_4 := h1_3.self (e := eO 6 [vR (p + 1), vR (p + 65), vR (p + 66), vI 1, vI (M2 : Int), vI (n2 : Int)])
  have h2_4 := h2_3.ne (e := eO 6 [vR (p + 1), vR (p + 65), vR (p + 66), vI 1, vI (M2 : Int), vI (n2 : Int)]) (a := p) (by omega)
  have h3_4 := h3_3.ne (e := eO 6 [vR (p + 1), vR (p + 65), vR (p + 66), vI 1, vI (M2 : Int), vI (n2 : Int)]) (a := p) (by omega)
  refine r_void (pc := 25) dX6_clear_25 rfl rfl (Nat.le_refl _) ⟨rfl, ⟨S, ⟨h1_4, h2_4, fun i hi => ?_, fun i hi => ?_⟩, c3⟩, fun b b1 b2 => (va_up_ne _ _ b1).trans ((va_up_ne _ _ b1).trans ((va_up_ne _ _ b1).trans (c1 b (by omega))))⟩
  · by_cases e : i = 0
    · subst e
      rw [va_up_self]
      exact h3_4
    · rw [va_up_ne _ _ e]
      exact ((((hw.2.2.1 i hi).keep (c1 _ (by omega))).ne (by omega)).ne (by omega)).ne (by omega)
  · by_cases e : i = 0
    · subst e
      rw [va_up_self]
      intro j
      by_cases hj : j < 20
      · rw [c3 j hj]; omega
      · rw [c4 j (by omega)]; exact hw.2.2.2 0 hi j
    · rw [va_up_ne _ _ e]
      exact hw.2.2.2 i hi

theorem sameRows_l {κ : KX} {N p aa bb kn M n : Nat} {h : MH} {A B : Nat → Int} (hn : n ≤ 4) (rA : rng A) (rB : rng B) (h1 : Hd (0, 0, N) h p (eO 6 [vR (p + 1), vR (p + 65), vR (p + 66), vI (kn : Int), vI (M : Int), vI (n : Int)])) (ha : Hd (0, 0, N) h aa (eA 0 4 A)) (hb : Hd (0, 0, N) h bb (eA 0 4 B)) {P : Option MV → MH → Prop} (p1 : (∀ i, i < n → A i = B i) → P (some (vI 1)) h) (p0 : (¬ ∀ i, i < n → A i = B i) → P (some (vI 0)) h) : ∀ (k j : Nat) (xj : Int), j + k = n → xj = (j : Int) → (∀ i, i < j → A i = B i) → G mX6_sameRows κ 2 [(0, vR p), (1, vR aa), (2, vR bb), (3, vI xj)] [] (0, 0, N) h (Pq mX6_sameRows 0 0 P) := by
  intro k
  induction k with
  | zero =>
    intro j xj hk ex hv
    refine g_iload_n (pc := 2) (x := xj) dX6_sameRows_2 rfl ?_
    refine g_aload_n (pc := 3) (r := .inl (some p)) dX6_sameRows_3 rfl ?_
    refine g_getf (pc := 4) (v := vI (n : Int)) flX6_30 dX6_sameRows_4 h1 rfl ?_
    refine g_icmp_geT (pc := 7) (tgt := 27) dX6_sameRows_7 (by decide) (by omega) (by omega) (by omega) ?_
    refine g_iconst (pc := 27) dX6_sameRows_27 ?_
    exact r_bool (pc := 28) dX6_sameRows_28 rfl rfl (Nat.le_refl _) (Or.inr rfl) (p1 (fun i hi => hv i (by omega)))
  | succ k ih =>
    intro j xj hk ex hv
    have r1 := rA j
    have r2 := rB j
    refine g_iload_n (pc := 2) (x := xj) dX6_sameRows_2 rfl ?_
    refine g_aload_n (pc := 3) (r := .inl (some p)) dX6_sameRows_3 rfl ?_
    refine g_getf (pc := 4) (v := vI (n : Int)) flX6_30 dX6_sameRows_4 h1 rfl ?_
    refine g_icmp_geF (pc := 7) (tgt := 27) dX6_sameRows_7 (by decide) (by omega) (by omega) (by omega) ?_
    refine g_aload_n (pc := 10) (r := .inl (some aa)) dX6_sameRows_10 rfl ?_
    refine g_iload_n (pc := 11) (x := xj) dX6_sameRows_11 rfl ?_
    refine g_ialdN (pc := 12) (j := j) dX6_sameRows_12 ha (by omega) (by omega) (by omega) ?_
    refine g_aload_n (pc := 13) (r := .inl (some bb)) dX6_sameRows_13 rfl ?_
    refine g_iload_n (pc := 14) (x := xj) dX6_sameRows_14 rfl ?_
    refine g_ialdN (pc := 15) (j := j) dX6_sameRows_15 hb (by omega) (by omega) (by omega) ?_
    refine g_icmp_eq (pc := 16) (tgt := 21) dX6_sameRows_16 (by decide) (by omega) (by omega) (fun hc => ?_) (fun hc => ?_)
    · refine g_iinc (pc := 21) (x := xj) (lo2 := [(0, vR p), (1, vR aa), (2, vR bb), (3, vI (xj + 1))]) dX6_sameRows_21 rfl (by decide) rfl ?_
      refine g_goto (pc := 24) (tgt := 2) dX6_sameRows_24 (by decide) ?_
      exact ih (j + 1) (xj + 1) (by omega) (by omega) (lt_s hv hc)
    · refine g_iconst (pc := 19) dX6_sameRows_19 ?_
      exact r_bool (pc := 20) dX6_sameRows_20 rfl rfl (Nat.le_refl _) (Or.inl rfl) (p0 (fun q => hc (q j (by omega))))

theorem c_sameRows {N p aa bb kn M n : Nat} {h : MH} {A B : Nat → Int} (hn : n ≤ 4) (rA : rng A) (rB : rng B) (h1 : Hd (0, 0, N) h p (eO 6 [vR (p + 1), vR (p + 65), vR (p + 66), vI (kn : Int), vI (M : Int), vI (n : Int)])) (ha : Hd (0, 0, N) h aa (eA 0 4 A)) (hb : Hd (0, 0, N) h bb (eA 0 4 B)) {d : Nat} : Ok mX6_sameRows d 0 0 [vR p, vR aa, vR bb] N h (fun r h2 => h2 = h ∧ ((r = some (vI 1) ∧ ∀ i, i < n → A i = B i) ∨ (r = some (vI 0) ∧ ¬ ∀ i, i < n → A i = B i))) := by
  refine Ok.of pfX6_sameRows rfl (Nat.le_of_ble_eq_true rfl) (fun Ls sx => ?_)
  show G mX6_sameRows (d, 0, 0, Ls, sx) 0 [(0, vR p), (1, vR aa), (2, vR bb)] [] (0, 0, N) h _
  refine g_iconst (pc := 0) dX6_sameRows_0 ?_
  refine g_istore_n (pc := 1) (lo2 := [(0, vR p), (1, vR aa), (2, vR bb), (3, vI 0)]) dX6_sameRows_1 (by decide) rfl ?_
  exact sameRows_l hn rA rB h1 ha hb (fun q => ⟨rfl, Or.inl ⟨rfl, q⟩⟩) (fun q => ⟨rfl, Or.inr ⟨rfl, q⟩⟩) n 0 _ (by omega) rfl (fun i hi => by omega)

theorem c_settling {N d p kn M n : Nat} {h : MH} {F : Nat → Nat → Int} (hn : n ≤ 4) (hM : 2 ≤ M) (hM2 : M ≤ 500) (hw : PX N h p kn M n F) : Ok mX6_settling (d + 3) 0 0 [vR p] N h (fun r h2 => r = some (vR (p + 7)) ∧ (∀ b, (b < p ∨ p + 65 ≤ b) → h2 b = h b) ∧ ∃ kn2 F2, PX N h2 p kn2 M n F2 ∧ F2 0 = F 0 ∧ 6 ≤ kn2) := by
  refine Ok.of pfX6_settling rfl (Nat.le_of_ble_eq_true rfl) (fun Ls sx => ?_)
  show G mX6_settling (d + 3, 0, 0, Ls, sx) 0 [(0, vR p)] [] (0, 0, N) h _
  obtain ⟨hw, hs, ⟨k1, k2⟩, ⟨f5, h5, r5⟩, ⟨f6, h6, r6⟩⟩ := hw
  have h1 := hw.1
  refine g_aload_n (pc := 0) (r := .inl (some p)) dX6_settling_0 rfl ?_
  refine g_ldc2 (pc := 1) (n := 32) dX6_settling_1 kcX6_39 ?_
  refine g_callV0 (pc := 4) (as := [vJ ((32 : Nat) : Int)]) (b := p) (st := []) lvX6_41 dX6_settling_4 h1 (Nat.le_of_ble_eq_true rfl) (by omega) (Nat.zero_le _) (Nat.zero_le _) (c_reach (d := d) (t := 32) hn hM hM2 (by omega) k1 k2 hw hs) ?_
  rintro r h9 ⟨rfl, kn2, F2, w2, s2, k3, k4, tk, f0, c1⟩
  have h1 := w2.1
  have h2 := w2.2.1
  have k6 : 6 ≤ kn2 := by
    apply Nat.le_of_not_lt
    intro q
    have := Nat.pow_le_pow_right (show 0 < 2 by decide) (show kn2 ≤ 5 by omega)
    omega
  refine g_aload_n (pc := 7) (r := .inl (some p)) dX6_settling_7 rfl ?_
  refine g_getf (pc := 8) (v := vR (p + 1)) flX6_13 dX6_settling_8 h1 rfl ?_
  refine g_iconst (pc := 11) dX6_settling_11 ?_
  refine g_aaldN (pc := 12) (j := 5) dX6_settling_12 h2 (by decide) (by omega) (by omega) (by omega) ?_
  rw [rwF_at (b := p + 2) (n := 63) (i := 5) (by omega)]
  exact r_ref (pc := 13) dX6_settling_13 rfl (Or.inr ⟨_, rfl⟩) rfl (Nat.le_refl _) ⟨rfl, c1, kn2, F2, ⟨w2, s2, ⟨by omega, k4⟩, ⟨f5, h5.keep (c1 _ (by omega)), r5⟩, ⟨f6, h6.keep (c1 _ (by omega)), r6⟩⟩, f0, k6⟩
