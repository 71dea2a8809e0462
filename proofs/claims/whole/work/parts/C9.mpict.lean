/-! ===== the reference: cellBehind, repeats, periodOf, cycleFrom ===== -/
theorem pX_cw {M : Nat} {Pw A : Nat → Int} (h : cw 3 Pw = A) (x y : Nat) : pX M Pw x y = pX M A x y ∧ pY M Pw x y = pY M A x y := by
  subst h
  exact ⟨rfl, rfl⟩

theorem c_cellBehind {N d x M X Y : Nat} {th wd pm fm mu um pr ts : Int} {Pw A : Nat → Int} {h : MH} (hM : 2 ≤ M) (hM2 : M ≤ 64) (hX : X < M) (hY : Y < M) (hx : Hd (0, 0, N) h x (mdl x th wd pm fm mu um pr ts)) (hPw : Hd (0, 0, N) h (x + 11) (eA 0 25 Pw)) (rPw : rng Pw) (ecw : cw 3 Pw = A) (s13 : Sc N h (x + 13) 4) (s14 : Sc N h (x + 14) 4) : Ok mX11_cellBehind (d + 1) 0 0 [vR x, vI (X : Int), vI (Y : Int), vI (M : Int)] N h (fun r h2 => r = some (vI ((64 * pY M A X Y + pX M A X Y : Nat) : Int)) ∧ Sc N h2 (x + 13) 4 ∧ Sc N h2 (x + 14) 4 ∧ ∀ a, a ≠ x + 13 → a ≠ x + 14 → h2 a = h a) := by
  refine Ok.of pfX11_cellBehind rfl (Nat.le_of_ble_eq_true rfl) (fun Ls sx => ?_)
  show G mX11_cellBehind (d + 1, 0, 0, Ls, sx) 0 [(0, vR x), (1, vI (X : Int)), (2, vI (Y : Int)), (3, vI (M : Int))] [] (0, 0, N) h _
  obtain ⟨S, hS, rS⟩ := s13
  obtain ⟨S4, hS4, rS4⟩ := s14
  refine g_aload_n (pc := 0) (r := .inl (some x)) dX11_cellBehind_0 rfl ?_
  refine g_getf (pc := 1) (v := vR (x + 13)) flX11_48 dX11_cellBehind_1 hx rfl ?_
  refine g_iconst (pc := 4) dX11_cellBehind_4 ?_
  refine g_iload_n (pc := 5) (x := (X : Int)) dX11_cellBehind_5 rfl ?_
  refine g_iastN (pc := 6) (j := 0) dX11_cellBehind_6 hS (by omega) (by omega) (by omega) ?_
  have hx_1 := hx.ne (e := eA 0 4 (va_up S 0 (X : Int))) (a := x + 13) (by omega)
  have hPw_1 := hPw.ne (e := eA 0 4 (va_up S 0 (X : Int))) (a := x + 13) (by omega)
  have hS_1 := hS.self (e := eA 0 4 (va_up S 0 (X : Int)))
  have hS4_1 := hS4.ne (e := eA 0 4 (va_up S 0 (X : Int))) (a := x + 13) (by omega)
  refine g_aload_n (pc := 7) (r := .inl (some x)) dX11_cellBehind_7 rfl ?_
  refine g_getf (pc := 8) (v := vR (x + 13)) flX11_48 dX11_cellBehind_8 hx_1 rfl ?_
  refine g_iconst (pc := 11) dX11_cellBehind_11 ?_
  refine g_iload_n (pc := 12) (x := (Y : Int)) dX11_cellBehind_12 rfl ?_
  refine g_iastN (pc := 13) (j := 1) dX11_cellBehind_13 hS_1 (by omega) (by omega) (by omega) ?_
  have hx_2 := hx_1.ne (e := eA 0 4 (va_up (va_up S 0 (X : Int)) 1 (Y : Int))) (a := x + 13) (by omega)
  have hPw_2 := hPw_1.ne (e := eA 0 4 (va_up (va_up S 0 (X : Int)) 1 (Y : Int))) (a := x + 13) (by omega)
  have hS_2 := hS_1.self (e := eA 0 4 (va_up (va_up S 0 (X : Int)) 1 (Y : Int)))
  have hS4_2 := hS4_1.ne (e := eA 0 4 (va_up (va_up S 0 (X : Int)) 1 (Y : Int))) (a := x + 13) (by omega)
  refine g_aload_n (pc := 14) (r := .inl (some x)) dX11_cellBehind_14 rfl ?_
  refine g_iconst (pc := 15) dX11_cellBehind_15 ?_
  refine g_iload_n (pc := 16) (x := (M : Int)) dX11_cellBehind_16 rfl ?_
  have rS2 : rng (va_up (va_up S 0 (X : Int)) 1 (Y : Int)) := rng_up (rng_up rS (by omega)) (by omega)
  have gX := go_X (A := Pw) (Z := va_up (va_up S 0 (X : Int)) 1 (Y : Int)) (M := M) (x := X) (y := Y) (by omega) (by simp [va_up]) (by simp [va_up])
  have gY := go_Y (A := Pw) (Z := va_up (va_up S 0 (X : Int)) 1 (Y : Int)) (M := M) (x := X) (y := Y) (by omega) (by simp [va_up]) (by simp [va_up])
  rw [(pX_cw ecw X Y).1] at gX
  rw [(pX_cw ecw X Y).2] at gY
  refine g_callV0 (pc := 17) (as := [vI 2, vI (M : Int)]) (b := x) (st := []) lvX11_140 dX11_cellBehind_17 hx_2 (Nat.le_of_ble_eq_true rfl) (by omega) (Nat.zero_le _) (Nat.zero_le _) (c_goes (d := d) (n := 2) (q := M) (by omega) (by omega) (by omega) rPw rS2 hx_2 hPw_2 hS_2 hS4_2) ?_
  rintro r h1 ⟨rfl, k1, T2, o1, o2, o3⟩
  have hS5 : Hd (0, 0, N) h1 (x + 14) (eA 0 4 T2) := ⟨hS4.1, o1⟩
  have hx5 := hx_2.keep (k1 _ (by omega))
  have hS6 := hS_2.keep (k1 _ (by omega))
  refine g_bipush (pc := 20) dX11_cellBehind_20 (by decide +kernel) ?_
  refine g_aload_n (pc := 22) (r := .inl (some x)) dX11_cellBehind_22 rfl ?_
  refine g_getf (pc := 23) (v := vR (x + 14)) flX11_51 dX11_cellBehind_23 hx5 rfl ?_
  refine g_iconst (pc := 26) dX11_cellBehind_26 ?_
  refine g_ialdN (pc := 27) (j := 1) dX11_cellBehind_27 hS5 (by omega) (by omega) (by omega) ?_
  rw [o2 1 (by omega), gY]
  refine g_imul (pc := 28) dX11_cellBehind_28 ?_
  refine g_aload_n (pc := 29) (r := .inl (some x)) dX11_cellBehind_29 rfl ?_
  refine g_getf (pc := 30) (v := vR (x + 14)) flX11_51 dX11_cellBehind_30 hx5 rfl ?_
  refine g_iconst (pc := 33) dX11_cellBehind_33 ?_
  refine g_ialdN (pc := 34) (j := 0) dX11_cellBehind_34 hS5 (by omega) (by omega) (by omega) ?_
  rw [o2 0 (by omega), gX]
  refine g_iadd (pc := 35) dX11_cellBehind_35 ?_
  refine r_int (pc := 36) dX11_cellBehind_36 rfl rfl (Nat.le_refl _) ⟨rfl, ⟨_, hS6, rS2⟩, ⟨T2, hS5, fun j => ?_⟩, fun a z1 z2 => by rw [k1 a z2, va_up_ne _ _ z1, va_up_ne _ _ z1]⟩
  by_cases hj : j < 2
  · rw [o2 j hj]
    have := go_bd (n := 2) (q := M) (r := j) (A := Pw) (Y := va_up (va_up S 0 (X : Int)) 1 (Y : Int)) (by omega)
    omega
  · rw [o3 j (by omega)]
    exact rS4 j

theorem rep_l {N d x i n e Ls : Nat} {th wd pm fm mu um pr ts : Int} {sx Pi Cy : Nat → Int} {zc : Nat → Nat} {h : MH} (hi : i < 6) (n1 : 1 ≤ n) (n2 : n ≤ 4096) (he : e ≤ n) (hz : ∀ k, k < n → Cy k = (zc k : Int) ∧ zc k < 4096) (hKb : ∀ k, k < n → i32 (Pi (4096 * i + zc k))) (hx : Hd (0, 0, N) h x (mdl x th wd pm fm mu um pr ts)) (hPi : Hd (0, 0, N) h (x + 8) (eA 1 24576 Pi)) (hCy : Hd (0, 0, N) h (x + 24) (eA 0 4096 Cy)) : ∀ (f k : Nat) (xk : Int), k + f = n → xk = (k : Int) → (∀ j, j < k → Pi (4096 * i + zc j) = Pi (4096 * i + zc ((j + e) % n))) → G mX11_repeats (d, 0, 0, Ls, sx) 3 [(0, vR x), (1, vI (i : Int)), (2, vI (n : Int)), (3, vI (e : Int)), (4, vI xk)] [] (0, 0, N) h (Pq mX11_repeats 0 0 (fun r h2 => h2 = h ∧ ((r = some (vI 1) ∧ (∀ k, k < n → Pi (4096 * i + zc k) = Pi (4096 * i + zc ((k + e) % n)))) ∨ (r = some (vI 0) ∧ ¬ (∀ k, k < n → Pi (4096 * i + zc k) = Pi (4096 * i + zc ((k + e) % n))))))) := by
  intro f
  induction f with
  | zero =>
    intro k xk hf ex hj
    refine g_iload (pc := 3) (x := xk) dX11_repeats_3 rfl ?_
    refine g_iload_n (pc := 5) (x := (n : Int)) dX11_repeats_5 rfl ?_
    refine g_icmp_geT (pc := 6) (tgt := 60) dX11_repeats_6 (by decide) (by omega) (by omega) (by omega) ?_
    refine g_iconst (pc := 60) dX11_repeats_60 ?_
    exact r_bool (pc := 61) dX11_repeats_61 rfl rfl (Nat.le_refl _) (Or.inr rfl) ⟨rfl, Or.inl ⟨rfl, fun j q => hj j (by omega)⟩⟩
  | succ f ih =>
    intro k xk hf ex hj
    subst ex
    obtain ⟨a1, a2⟩ := hz k (by omega)
    have hml := Nat.mod_lt (k + e) (show 0 < n by omega)
    obtain ⟨c1, c2⟩ := hz ((k + e) % n) hml
    have kb1 := hKb k (by omega)
    have kb2 := hKb ((k + e) % n) hml
    obtain ⟨j9, ej9⟩ : ∃ j9, j9 = (k + e) % n := ⟨_, rfl⟩
    have em : ((k : Int) + (e : Int)).tmod (n : Int) = (j9 : Int) := by rw [ej9]; exact tmodN (x := k + e) (by omega) rfl
    rw [← ej9] at hml c1 c2 kb2
    refine g_iload (pc := 3) (x := (k : Int)) dX11_repeats_3 rfl ?_
    refine g_iload_n (pc := 5) (x := (n : Int)) dX11_repeats_5 rfl ?_
    refine g_icmp_geF (pc := 6) (tgt := 60) dX11_repeats_6 (by decide) (by omega) (by omega) (by omega) ?_
    refine g_aload_n (pc := 9) (r := .inl (some x)) dX11_repeats_9 rfl ?_
    refine g_getf (pc := 10) (v := vR (x + 8)) flX11_32 dX11_repeats_10 hx rfl ?_
    refine g_sipush (pc := 13) dX11_repeats_13 (by decide +kernel) ?_
    refine g_iload_n (pc := 16) (x := (i : Int)) dX11_repeats_16 rfl ?_
    refine g_imul (pc := 17) dX11_repeats_17 ?_
    refine g_aload_n (pc := 18) (r := .inl (some x)) dX11_repeats_18 rfl ?_
    refine g_getf (pc := 19) (v := vR (x + 24)) flX11_82 dX11_repeats_19 hx rfl ?_
    refine g_iload (pc := 22) (x := (k : Int)) dX11_repeats_22 rfl ?_
    refine g_ialdN (pc := 24) (j := k) dX11_repeats_24 hCy (by omega) (by omega) (by omega) ?_
    rw [a1]
    refine g_iadd (pc := 25) dX11_repeats_25 ?_
    refine g_baldN (pc := 26) (j := (4096 * i) + (zc k)) dX11_repeats_26 hPi (by omega) (by omega) (by omega) ?_
    refine g_aload_n (pc := 27) (r := .inl (some x)) dX11_repeats_27 rfl ?_
    refine g_getf (pc := 28) (v := vR (x + 8)) flX11_32 dX11_repeats_28 hx rfl ?_
    refine g_sipush (pc := 31) dX11_repeats_31 (by decide +kernel) ?_
    refine g_iload_n (pc := 34) (x := (i : Int)) dX11_repeats_34 rfl ?_
    refine g_imul (pc := 35) dX11_repeats_35 ?_
    refine g_aload_n (pc := 36) (r := .inl (some x)) dX11_repeats_36 rfl ?_
    refine g_getf (pc := 37) (v := vR (x + 24)) flX11_82 dX11_repeats_37 hx rfl ?_
    refine g_iload (pc := 40) (x := (k : Int)) dX11_repeats_40 rfl ?_
    refine g_iload_n (pc := 42) (x := (e : Int)) dX11_repeats_42 rfl ?_
    refine g_iadd (pc := 43) dX11_repeats_43 ?_
    refine g_iload_n (pc := 44) (x := (n : Int)) dX11_repeats_44 rfl ?_
    refine g_irem (pc := 45) dX11_repeats_45 (by omega) (by omega) (by omega) ?_
    rw [em]
    refine g_ialdN (pc := 46) (j := j9) dX11_repeats_46 hCy (by omega) (by omega) (by omega) ?_
    rw [c1]
    refine g_iadd (pc := 47) dX11_repeats_47 ?_
    refine g_baldN (pc := 48) (j := (4096 * i) + (zc j9)) dX11_repeats_48 hPi (by omega) (by omega) (by omega) ?_
    refine g_icmp_eq (pc := 49) (tgt := 54) dX11_repeats_49 (by decide) (by omega) (by omega) (fun hc => ?_) (fun hc => ?_)
    · refine g_iinc (pc := 54) (x := (k : Int)) (lo2 := [(0, vR x), (1, vI (i : Int)), (2, vI (n : Int)), (3, vI (e : Int)), (4, vI ((k : Int) + 1))]) dX11_repeats_54 rfl (by decide) rfl ?_
      refine g_goto (pc := 57) (tgt := 3) dX11_repeats_57 (by decide) ?_
      refine ih (k + 1) _ (by omega) (by omega) (fun j q => ?_)
      by_cases ej : j = k
      · rw [ej, ← ej9]
        exact hc
      · exact hj j (by omega)
    · refine g_iconst (pc := 52) dX11_repeats_52 ?_
      exact r_bool (pc := 53) dX11_repeats_53 rfl rfl (Nat.le_refl _) (Or.inl rfl) ⟨rfl, Or.inr ⟨rfl, fun q => hc (by have := q k (by omega); rw [← ej9] at this; exact this)⟩⟩

theorem c_repeats {N d x i n e : Nat} {th wd pm fm mu um pr ts : Int} {Pi Cy : Nat → Int} {zc : Nat → Nat} {h : MH} (hi : i < 6) (n1 : 1 ≤ n) (n2 : n ≤ 4096) (he : e ≤ n) (hz : ∀ k, k < n → Cy k = (zc k : Int) ∧ zc k < 4096) (hKb : ∀ k, k < n → i32 (Pi (4096 * i + zc k))) (hx : Hd (0, 0, N) h x (mdl x th wd pm fm mu um pr ts)) (hPi : Hd (0, 0, N) h (x + 8) (eA 1 24576 Pi)) (hCy : Hd (0, 0, N) h (x + 24) (eA 0 4096 Cy)) : Ok mX11_repeats d 0 0 [vR x, vI (i : Int), vI (n : Int), vI (e : Int)] N h (fun r h2 => h2 = h ∧ ((r = some (vI 1) ∧ (∀ k, k < n → Pi (4096 * i + zc k) = Pi (4096 * i + zc ((k + e) % n)))) ∨ (r = some (vI 0) ∧ ¬ (∀ k, k < n → Pi (4096 * i + zc k) = Pi (4096 * i + zc ((k + e) % n)))))) := by
  refine Ok.of pfX11_repeats rfl (Nat.le_of_ble_eq_true rfl) (fun Ls sx => ?_)
  show G mX11_repeats (d, 0, 0, Ls, sx) 0 [(0, vR x), (1, vI (i : Int)), (2, vI (n : Int)), (3, vI (e : Int))] [] (0, 0, N) h _
  refine g_iconst (pc := 0) dX11_repeats_0 ?_
  refine g_istore (pc := 1) (lo2 := [(0, vR x), (1, vI (i : Int)), (2, vI (n : Int)), (3, vI (e : Int)), (4, vI 0)]) dX11_repeats_1 (by decide) rfl ?_
  exact rep_l hi n1 n2 he hz hKb hx hPi hCy n 0 _ (by omega) rfl (fun j q => absurd q (Nat.not_lt_zero j))

theorem pof_l {N d x i n e Ls : Nat} {th wd pm fm mu um pr ts : Int} {sx Pi Cy : Nat → Int} {zc : Nat → Nat} {h : MH} (hi : i < 6) (n1 : 1 ≤ n) (n2 : n ≤ 4096) (hz : ∀ k, k < n → Cy k = (zc k : Int) ∧ zc k < 4096) (hKb : ∀ k, k < n → i32 (Pi (4096 * i + zc k))) (hx : Hd (0, 0, N) h x (mdl x th wd pm fm mu um pr ts)) (hPi : Hd (0, 0, N) h (x + 8) (eA 1 24576 Pi)) (hCy : Hd (0, 0, N) h (x + 24) (eA 0 4096 Cy)) (e1 : 1 ≤ e) (en : e ∣ n) (hre : ∀ q, 1 ≤ q → q ≤ n → ((∀ k, k < n → Pi (4096 * i + zc k) = Pi (4096 * i + zc ((k + q) % n))) ↔ e ∣ q)) : ∀ (f q : Nat) (xq : Int), q + f = e → xq = (q : Int) → 1 ≤ q → G mX11_periodOf (d + 1, 0, 0, Ls, sx) 2 [(0, vR x), (1, vI (i : Int)), (2, vI (n : Int)), (3, vI xq)] [] (0, 0, N) h (Pq mX11_periodOf 0 0 (fun r h2 => h2 = h ∧ r = some (vI (e : Int)))) := by
  intro f
  have hel := Nat.le_of_dvd (by omega) en
  induction f with
  | zero =>
    intro q xq hf ex q1
    subst ex
    have em : (n : Int).tmod (q : Int) = ((n % q : Nat) : Int) := tmodN rfl rfl
    have hml := Nat.mod_lt n (show 0 < q by omega)
    refine g_iload_n (pc := 2) (x := (n : Int)) dX11_periodOf_2 rfl ?_
    refine g_iload_n (pc := 3) (x := (q : Int)) dX11_periodOf_3 rfl ?_
    refine g_irem (pc := 4) dX11_periodOf_4 (by omega) (by omega) (by omega) ?_
    rw [em]
    obtain ⟨u, eu⟩ : ∃ u, u = n % q := ⟨_, rfl⟩
    rw [← eu] at hml ⊢
    have u0 : u = 0 := by rw [eu, show q = e by omega]; exact Nat.mod_eq_zero_of_dvd en
    refine g_if_neF (pc := 5) (tgt := 18) dX11_periodOf_5 (by decide) (by omega) (by omega) ?_
    refine g_aload_n (pc := 8) (r := .inl (some x)) dX11_periodOf_8 rfl ?_
    refine g_iload_n (pc := 9) (x := (i : Int)) dX11_periodOf_9 rfl ?_
    refine g_iload_n (pc := 10) (x := (n : Int)) dX11_periodOf_10 rfl ?_
    refine g_iload_n (pc := 11) (x := (q : Int)) dX11_periodOf_11 rfl ?_
    refine g_callV0 (pc := 12) (as := [vI (i : Int), vI (n : Int), vI (q : Int)]) (b := x) (st := []) lvX11_264 dX11_periodOf_12 hx (Nat.le_of_ble_eq_true rfl) (by omega) (Nat.zero_le _) (Nat.zero_le _) (c_repeats (d := d) (e := q) hi n1 n2 (by omega) hz hKb hx hPi hCy) ?_
    rintro r h1 ⟨e9, e8⟩
    subst e9
    have e7 := (e8.resolve_right (fun z => z.2 ((hre q q1 (by omega)).mpr (by rw [show q = e by omega]; exact Nat.dvd_refl e)))).1
    subst e7
    refine g_if_neT (pc := 15) (tgt := 24) dX11_periodOf_15 (by decide) (by omega) (by omega) ?_
    refine g_iload_n (pc := 24) (x := (q : Int)) dX11_periodOf_24 rfl ?_
    exact r_int (pc := 25) dX11_periodOf_25 rfl rfl (Nat.le_refl _) ⟨rfl, by rw [show q = e by omega]⟩
  | succ f ih =>
    intro q xq hf ex q1
    subst ex
    have em : (n : Int).tmod (q : Int) = ((n % q : Nat) : Int) := tmodN rfl rfl
    have hml := Nat.mod_lt n (show 0 < q by omega)
    refine g_iload_n (pc := 2) (x := (n : Int)) dX11_periodOf_2 rfl ?_
    refine g_iload_n (pc := 3) (x := (q : Int)) dX11_periodOf_3 rfl ?_
    refine g_irem (pc := 4) dX11_periodOf_4 (by omega) (by omega) (by omega) ?_
    rw [em]
    obtain ⟨u, eu⟩ : ∃ u, u = n % q := ⟨_, rfl⟩
    rw [← eu] at hml ⊢
    refine g_if_ne (pc := 5) (tgt := 18) dX11_periodOf_5 (by decide) (by omega) (fun hc => ?_) (fun hc => ?_)
    · refine g_iinc (pc := 18) (x := (q : Int)) (lo2 := [(0, vR x), (1, vI (i : Int)), (2, vI (n : Int)), (3, vI ((q : Int) + 1))]) dX11_periodOf_18 rfl (by decide) rfl ?_
      refine g_goto (pc := 21) (tgt := 2) dX11_periodOf_21 (by decide) ?_
      exact ih (q + 1) _ (by omega) (by omega) (by omega)
    · refine g_aload_n (pc := 8) (r := .inl (some x)) dX11_periodOf_8 rfl ?_
      refine g_iload_n (pc := 9) (x := (i : Int)) dX11_periodOf_9 rfl ?_
      refine g_iload_n (pc := 10) (x := (n : Int)) dX11_periodOf_10 rfl ?_
      refine g_iload_n (pc := 11) (x := (q : Int)) dX11_periodOf_11 rfl ?_
      refine g_callV0 (pc := 12) (as := [vI (i : Int), vI (n : Int), vI (q : Int)]) (b := x) (st := []) lvX11_264 dX11_periodOf_12 hx (Nat.le_of_ble_eq_true rfl) (by omega) (Nat.zero_le _) (Nat.zero_le _) (c_repeats (d := d) (e := q) hi n1 n2 (by omega) hz hKb hx hPi hCy) ?_
      rintro r h1 ⟨e9, e8⟩
      subst e9
      have e7 := (e8.resolve_left (fun z => by have := Nat.le_of_dvd (by omega) ((hre q q1 (by omega)).mp z.2); omega)).1
      subst e7
      refine g_if_neF (pc := 15) (tgt := 24) dX11_periodOf_15 (by decide) (by omega) (by omega) ?_
      refine g_iinc (pc := 18) (x := (q : Int)) (lo2 := [(0, vR x), (1, vI (i : Int)), (2, vI (n : Int)), (3, vI ((q : Int) + 1))]) dX11_periodOf_18 rfl (by decide) rfl ?_
      refine g_goto (pc := 21) (tgt := 2) dX11_periodOf_21 (by decide) ?_
      exact ih (q + 1) _ (by omega) (by omega) (by omega)
theorem c_periodOf {N d x i n e : Nat} {th wd pm fm mu um pr ts : Int} {Pi Cy : Nat → Int} {zc : Nat → Nat} {h : MH} (hi : i < 6) (n1 : 1 ≤ n) (n2 : n ≤ 4096) (hz : ∀ k, k < n → Cy k = (zc k : Int) ∧ zc k < 4096) (hKb : ∀ k, k < n → i32 (Pi (4096 * i + zc k))) (hx : Hd (0, 0, N) h x (mdl x th wd pm fm mu um pr ts)) (hPi : Hd (0, 0, N) h (x + 8) (eA 1 24576 Pi)) (hCy : Hd (0, 0, N) h (x + 24) (eA 0 4096 Cy)) (e1 : 1 ≤ e) (en : e ∣ n) (hre : ∀ q, 1 ≤ q → q ≤ n → ((∀ k, k < n → Pi (4096 * i + zc k) = Pi (4096 * i + zc ((k + q) % n))) ↔ e ∣ q)) : Ok mX11_periodOf (d + 1) 0 0 [vR x, vI (i : Int), vI (n : Int)] N h (fun r h2 => h2 = h ∧ r = some (vI (e : Int))) := by
  refine Ok.of pfX11_periodOf rfl (Nat.le_of_ble_eq_true rfl) (fun Ls sx => ?_)
  show G mX11_periodOf (d + 1, 0, 0, Ls, sx) 0 [(0, vR x), (1, vI (i : Int)), (2, vI (n : Int))] [] (0, 0, N) h _
  refine g_iconst (pc := 0) dX11_periodOf_0 ?_
  refine g_istore_n (pc := 1) (lo2 := [(0, vR x), (1, vI (i : Int)), (2, vI (n : Int)), (3, vI 1)]) dX11_periodOf_1 (by decide) rfl ?_
  exact pof_l hi n1 n2 hz hKb hx hPi hCy e1 en hre (e - 1) 1 _ (by omega) rfl (by omega)

theorem cyf_l {N d x M c n Ls : Nat} {th wd pm fm mu um pr ts : Int} {sx T Pw Sn0 : Nat → Int} {h0 : MH} (hM : 2 ≤ M) (hM2 : M ≤ 64) (hn : isPer (wy M T c) 0 n) (h0s : ∀ k, Sn0 (wy M T c k) = 0) (hx0 : Hd (0, 0, N) h0 x (mdl x th wd pm fm mu um pr ts)) (hPw0 : Hd (0, 0, N) h0 (x + 11) (eA 0 25 Pw)) (rPw : rng Pw) (ecw : cw 3 Pw = stB M T 1) : ∀ (f k : Nat) (xk xc : Int) (Cy Sn : Nat → Int) (h : MH), k + f = n → xk = (k : Int) → xc = (wy M T c k : Int) → Hd (0, 0, N) h (x + 24) (eA 0 4096 Cy) → Hd (0, 0, N) h (x + 25) (eA 2 4096 Sn) → Sc N h (x + 13) 4 → Sc N h (x + 14) 4 → (∀ j, j < k → Cy j = (wy M T c j : Int)) → (∀ j, j < k → Sn (wy M T c j) = 1) → (∀ j, (∀ i, i < k → wy M T c i ≠ j) → Sn j = Sn0 j) → (∀ a, a ≠ x + 13 → a ≠ x + 14 → a ≠ x + 24 → a ≠ x + 25 → h a = h0 a) → G mX11_cycleFrom (d + 2, 0, 0, Ls, sx) 5 [(0, vR x), (1, vI (c : Int)), (2, vI (M : Int)), (3, vI xk), (4, vI xc)] [] (0, 0, N) h (Pq mX11_cycleFrom 0 0 (fun r h2 => r = some (vI (n : Int)) ∧ Sc N h2 (x + 13) 4 ∧ Sc N h2 (x + 14) 4 ∧ (∃ Cy2, Hd (0, 0, N) h2 (x + 24) (eA 0 4096 Cy2) ∧ ∀ k, k < n → Cy2 k = (wy M T c k : Int)) ∧ (∃ Sn2, Hd (0, 0, N) h2 (x + 25) (eA 2 4096 Sn2) ∧ (∀ k, k < n → Sn2 (wy M T c k) = 1) ∧ ∀ j, (∀ k, k < n → wy M T c k ≠ j) → Sn2 j = Sn0 j) ∧ ∀ a, a ≠ x + 13 → a ≠ x + 14 → a ≠ x + 24 → a ≠ x + 25 → h2 a = h0 a)) := by
  intro f
  have n4 : n ≤ 4096 := per_le (wy_det hM hM2) hn (fun k => inP_lt hM2 (wy_in hM hM2 k))
  induction f with
  | zero =>
    intro k xk xc Cy Sn h hf ex ec hCy hSn s13 s14 i1 i2 i3 hk
    have hwl := inP_lt hM2 (wy_in (T := T) (c := c) hM hM2 k)
    have hx := hx0.keep (hk x (by omega) (by omega) (by omega) (by omega))
    have hPw := hPw0.keep (hk (x + 11) (by omega) (by omega) (by omega) (by omega))
    have ek : k = n := by omega
    have e1 : Sn (wy M T c k) = 1 := by
      have hz := (hn.2 n).mpr (Nat.dvd_refl n)
      rw [Nat.zero_add] at hz
      rw [ek, hz]
      exact i2 0 (by have := hn.1; omega)
    refine g_aload_n (pc := 5) (r := .inl (some x)) dX11_cycleFrom_5 rfl ?_
    refine g_getf (pc := 6) (v := vR (x + 25)) flX11_85 dX11_cycleFrom_6 hx rfl ?_
    refine g_iload (pc := 9) (x := xc) dX11_cycleFrom_9 rfl ?_
    refine g_zaldN (pc := 11) (j := wy M T c k) dX11_cycleFrom_11 hSn (by omega) (by omega) (by omega) ?_
    rw [e1]
    refine g_if_neT (pc := 12) (tgt := 54) dX11_cycleFrom_12 (by decide) (by omega) (by omega) ?_
    refine g_iload_n (pc := 54) (x := xk) dX11_cycleFrom_54 rfl ?_
    subst ek
    exact r_int (pc := 55) dX11_cycleFrom_55 rfl rfl (Nat.le_refl _) ⟨by rw [ex], s13, s14, ⟨Cy, hCy, i1⟩, ⟨Sn, hSn, i2, i3⟩, hk⟩
  | succ f ih =>
    intro k xk xc Cy Sn h hf ex ec hCy hSn s13 s14 i1 i2 i3 hk
    have hwl := inP_lt hM2 (wy_in (T := T) (c := c) hM hM2 k)
    have hx := hx0.keep (hk x (by omega) (by omega) (by omega) (by omega))
    have hPw := hPw0.keep (hk (x + 11) (by omega) (by omega) (by omega) (by omega))
    have hne : ∀ i, i < k → wy M T c i ≠ wy M T c k := fun i q e => by
      have := per_inj (wy_det hM hM2) hn (show i < n by omega) (show k < n by omega) e
      omega
    have e1 : Sn (wy M T c k) = 0 := (i3 _ hne).trans (h0s k)
    obtain ⟨S13, h13, r13⟩ := id s13
    obtain ⟨S14, h14, r14⟩ := id s14
    have hin := wy_in (T := T) (c := c) hM hM2 k
    have hfs := wy_succ (T := T) hM hM2 c k
    unfold fc at hfs
    obtain ⟨g, eg⟩ : ∃ g, g = wy M T c k := ⟨_, rfl⟩
    rw [← eg] at hwl e1 hin hfs hne
    have em : (g : Int).tmod 64 = ((g % 64 : Nat) : Int) := tmodN rfl rfl
    have ed : (g : Int).tdiv 64 = ((g / 64 : Nat) : Int) := tdivN rfl rfl
    rw [← eg] at ec
    subst ec
    refine g_aload_n (pc := 5) (r := .inl (some x)) dX11_cycleFrom_5 rfl ?_
    refine g_getf (pc := 6) (v := vR (x + 25)) flX11_85 dX11_cycleFrom_6 hx rfl ?_
    refine g_iload (pc := 9) (x := (g : Int)) dX11_cycleFrom_9 rfl ?_
    refine g_zaldN (pc := 11) (j := g) dX11_cycleFrom_11 hSn (by omega) (by omega) (by omega) ?_
    rw [e1]
    refine g_if_neF (pc := 12) (tgt := 54) dX11_cycleFrom_12 (by decide) (by omega) (by omega) ?_
    refine g_aload_n (pc := 15) (r := .inl (some x)) dX11_cycleFrom_15 rfl ?_
    refine g_getf (pc := 16) (v := vR (x + 25)) flX11_85 dX11_cycleFrom_16 hx rfl ?_
    refine g_iload (pc := 19) (x := (g : Int)) dX11_cycleFrom_19 rfl ?_
    refine g_iconst (pc := 21) dX11_cycleFrom_21 ?_
    refine g_zastN (pc := 22) (j := g) dX11_cycleFrom_22 hSn (by omega) (by omega) (by omega) (by omega) ?_
    have hx_1 := hx.ne (e := eA 2 4096 (va_up Sn g 1)) (a := x + 25) (by omega)
    have hPw_1 := hPw.ne (e := eA 2 4096 (va_up Sn g 1)) (a := x + 25) (by omega)
    have h13_1 := h13.ne (e := eA 2 4096 (va_up Sn g 1)) (a := x + 25) (by omega)
    have h14_1 := h14.ne (e := eA 2 4096 (va_up Sn g 1)) (a := x + 25) (by omega)
    have hCy_1 := hCy.ne (e := eA 2 4096 (va_up Sn g 1)) (a := x + 25) (by omega)
    have hSn_1 := hSn.self (e := eA 2 4096 (va_up Sn g 1))
    refine g_aload_n (pc := 23) (r := .inl (some x)) dX11_cycleFrom_23 rfl ?_
    refine g_getf (pc := 24) (v := vR (x + 24)) flX11_82 dX11_cycleFrom_24 hx_1 rfl ?_
    refine g_iload_n (pc := 27) (x := xk) dX11_cycleFrom_27 rfl ?_
    refine g_iload (pc := 28) (x := (g : Int)) dX11_cycleFrom_28 rfl ?_
    refine g_iastN (pc := 30) (j := k) dX11_cycleFrom_30 hCy_1 (by omega) (by omega) (by omega) ?_
    have hx_2 := hx_1.ne (e := eA 0 4096 (va_up Cy k (g : Int))) (a := x + 24) (by omega)
    have hPw_2 := hPw_1.ne (e := eA 0 4096 (va_up Cy k (g : Int))) (a := x + 24) (by omega)
    have h13_2 := h13_1.ne (e := eA 0 4096 (va_up Cy k (g : Int))) (a := x + 24) (by omega)
    have h14_2 := h14_1.ne (e := eA 0 4096 (va_up Cy k (g : Int))) (a := x + 24) (by omega)
    have hCy_2 := hCy_1.self (e := eA 0 4096 (va_up Cy k (g : Int)))
    have hSn_2 := hSn_1.ne (e := eA 0 4096 (va_up Cy k (g : Int))) (a := x + 24) (by omega)
    refine g_iinc (pc := 31) (x := xk) (lo2 := [(0, vR x), (1, vI (c : Int)), (2, vI (M : Int)), (3, vI (xk + 1)), (4, vI (g : Int))]) dX11_cycleFrom_31 rfl (by decide) rfl ?_
    refine g_aload_n (pc := 34) (r := .inl (some x)) dX11_cycleFrom_34 rfl ?_
    refine g_iload (pc := 35) (x := (g : Int)) dX11_cycleFrom_35 rfl ?_
    refine g_bipush (pc := 37) dX11_cycleFrom_37 (by decide +kernel) ?_
    refine g_irem (pc := 39) dX11_cycleFrom_39 (by omega) (by omega) (by omega) ?_
    rw [em]
    refine g_iload (pc := 40) (x := (g : Int)) dX11_cycleFrom_40 rfl ?_
    refine g_bipush (pc := 42) dX11_cycleFrom_42 (by decide +kernel) ?_
    refine g_idiv (pc := 44) dX11_cycleFrom_44 (by omega) (by omega) (by omega) ?_
    rw [ed]
    refine g_iload_n (pc := 45) (x := (M : Int)) dX11_cycleFrom_45 rfl ?_
    refine g_callV0 (pc := 46) (as := [vI ((g % 64 : Nat) : Int), vI ((g / 64 : Nat) : Int), vI (M : Int)]) (b := x) (st := []) lvX11_254 dX11_cycleFrom_46 hx_2 (Nat.le_of_ble_eq_true rfl) (by omega) (Nat.zero_le _) (Nat.zero_le _) (c_cellBehind (d := d) (X := g % 64) (Y := g / 64) hM hM2 hin.1 hin.2 hx_2 hPw_2 rPw ecw ⟨_, h13_2, r13⟩ ⟨_, h14_2, r14⟩) ?_
    rintro r h1 ⟨e9, t13, t14, k1⟩
    subst e9
    rw [← hfs]
    refine g_istore (pc := 49) (lo2 := [(0, vR x), (1, vI (c : Int)), (2, vI (M : Int)), (3, vI (xk + 1)), (4, vI (wy M T c (k + 1) : Int))]) dX11_cycleFrom_49 (by decide) rfl ?_
    refine g_goto (pc := 51) (tgt := 5) dX11_cycleFrom_51 (by decide) ?_
    refine ih (k + 1) _ _ _ _ h1 (by omega) (by omega) rfl (hCy_2.keep (k1 _ (by omega) (by omega))) (hSn_2.keep (k1 _ (by omega) (by omega))) t13 t14 (fun j q => ?_) (fun j q => ?_) (fun j q => ?_) (fun a z1 z2 z3 z4 => by rw [k1 a z1 z2, va_up_ne _ _ z3, va_up_ne _ _ z4]; exact hk a z1 z2 z3 z4)
    · by_cases ej : j = k
      · rw [ej, va_up_self, eg]
      · rw [va_up_ne _ _ ej]
        exact i1 j (by omega)
    · by_cases ej : j = k
      · rw [ej, ← eg, va_up_self]
      · rw [va_up_ne _ _ (hne j (by omega))]
        exact i2 j (by omega)
    · rw [va_up_ne _ _ (fun e => q k (by omega) (by rw [← eg, e]))]
      exact i3 j (fun i qi => q i (by omega))

theorem c_cycleFrom {N d x M c n : Nat} {th wd pm fm mu um pr ts : Int} {T Pw Sn0 Cy : Nat → Int} {h0 : MH} (hc : inP M c) (hM : 2 ≤ M) (hM2 : M ≤ 64) (hn : isPer (wy M T c) 0 n) (h0s : ∀ k, Sn0 (wy M T c k) = 0) (hx0 : Hd (0, 0, N) h0 x (mdl x th wd pm fm mu um pr ts)) (hPw0 : Hd (0, 0, N) h0 (x + 11) (eA 0 25 Pw)) (rPw : rng Pw) (ecw : cw 3 Pw = stB M T 1) (hCy : Hd (0, 0, N) h0 (x + 24) (eA 0 4096 Cy)) (hSn : Hd (0, 0, N) h0 (x + 25) (eA 2 4096 Sn0)) (s13 : Sc N h0 (x + 13) 4) (s14 : Sc N h0 (x + 14) 4) : Ok mX11_cycleFrom (d + 2) 0 0 [vR x, vI (c : Int), vI (M : Int)] N h0 (fun r h2 => r = some (vI (n : Int)) ∧ Sc N h2 (x + 13) 4 ∧ Sc N h2 (x + 14) 4 ∧ (∃ Cy2, Hd (0, 0, N) h2 (x + 24) (eA 0 4096 Cy2) ∧ ∀ k, k < n → Cy2 k = (wy M T c k : Int)) ∧ (∃ Sn2, Hd (0, 0, N) h2 (x + 25) (eA 2 4096 Sn2) ∧ (∀ k, k < n → Sn2 (wy M T c k) = 1) ∧ ∀ j, (∀ k, k < n → wy M T c k ≠ j) → Sn2 j = Sn0 j) ∧ ∀ a, a ≠ x + 13 → a ≠ x + 14 → a ≠ x + 24 → a ≠ x + 25 → h2 a = h0 a) := by
  refine Ok.of pfX11_cycleFrom rfl (Nat.le_of_ble_eq_true rfl) (fun Ls sx => ?_)
  show G mX11_cycleFrom (d + 2, 0, 0, Ls, sx) 0 [(0, vR x), (1, vI (c : Int)), (2, vI (M : Int))] [] (0, 0, N) h0 _
  refine g_iconst (pc := 0) dX11_cycleFrom_0 ?_
  refine g_istore_n (pc := 1) (lo2 := [(0, vR x), (1, vI (c : Int)), (2, vI (M : Int)), (3, vI 0)]) dX11_cycleFrom_1 (by decide) rfl ?_
  refine g_iload_n (pc := 2) (x := (c : Int)) dX11_cycleFrom_2 rfl ?_
  refine g_istore (pc := 3) (lo2 := [(0, vR x), (1, vI (c : Int)), (2, vI (M : Int)), (3, vI 0), (4, vI (c : Int))]) dX11_cycleFrom_3 (by decide) rfl ?_
  exact cyf_l hM hM2 hn h0s hx0 hPw0 rPw ecw n 0 _ _ Cy Sn0 h0 (by omega) rfl (by rw [wy_0 hM hc]) hCy hSn s13 s14 (fun j q => absurd q (Nat.not_lt_zero j)) (fun j q => absurd q (Nat.not_lt_zero j)) (fun j q => rfl) (fun _ _ _ _ _ => rfl)

theorem c_cycleNo {N d x c : Nat} {M : Int} {th wd pm fm mu um pr ts : Int} {Sn : Nat → Int} {h : MH} (hc : c < 4096) (e1 : Sn c = 1) (hx : Hd (0, 0, N) h x (mdl x th wd pm fm mu um pr ts)) (hSn : Hd (0, 0, N) h (x + 25) (eA 2 4096 Sn)) : Ok mX11_cycleFrom (d + 2) 0 0 [vR x, vI (c : Int), vI M] N h (fun r h2 => h2 = h ∧ r = some (vI 0)) := by
  refine Ok.of pfX11_cycleFrom rfl (Nat.le_of_ble_eq_true rfl) (fun Ls sx => ?_)
  show G mX11_cycleFrom (d + 2, 0, 0, Ls, sx) 0 [(0, vR x), (1, vI (c : Int)), (2, vI M)] [] (0, 0, N) h _
  refine g_iconst (pc := 0) dX11_cycleFrom_0 ?_
  refine g_istore_n (pc := 1) (lo2 := [(0, vR x), (1, vI (c : Int)), (2, vI M), (3, vI 0)]) dX11_cycleFrom_1 (by decide) rfl ?_
  refine g_iload_n (pc := 2) (x := (c : Int)) dX11_cycleFrom_2 rfl ?_
  refine g_istore (pc := 3) (lo2 := [(0, vR x), (1, vI (c : Int)), (2, vI M), (3, vI 0), (4, vI (c : Int))]) dX11_cycleFrom_3 (by decide) rfl ?_
  refine g_aload_n (pc := 5) (r := .inl (some x)) dX11_cycleFrom_5 rfl ?_
  refine g_getf (pc := 6) (v := vR (x + 25)) flX11_85 dX11_cycleFrom_6 hx rfl ?_
  refine g_iload (pc := 9) (x := (c : Int)) dX11_cycleFrom_9 rfl ?_
  refine g_zaldN (pc := 11) (j := c) dX11_cycleFrom_11 hSn (by omega) (by omega) (by omega) ?_
  rw [e1]
  refine g_if_neT (pc := 12) (tgt := 54) dX11_cycleFrom_12 (by decide) (by omega) (by omega) ?_
  refine g_iload_n (pc := 54) (x := 0) dX11_cycleFrom_54 rfl ?_
  exact r_int (pc := 55) dX11_cycleFrom_55 rfl rfl (Nat.le_refl _) ⟨rfl, rfl⟩
