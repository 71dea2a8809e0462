/-! ===== the reference: its state; isMill, canTell, isNet, isPicture, isCell ===== -/
def RA (N : Nat) (h : MH) (x : Nat) (σ : Nat → Option MSt) (Th Kd Ms Sz Tb Mo Pl Pi : Nat → Int) : Prop := Hd (0, 0, N) h (x + 1) (eA 2 6 Th) ∧ Hd (0, 0, N) h (x + 2) (eA 0 6 Kd) ∧ Hd (0, 0, N) h (x + 3) (eA 0 6 Ms) ∧ Hd (0, 0, N) h (x + 4) (eA 0 6 Sz) ∧ Hd (0, 0, N) h (x + 5) (eA 0 96 Tb) ∧ Hd (0, 0, N) h (x + 6) (eA 0 24 Mo) ∧ Hd (0, 0, N) h (x + 7) (eA 0 24 Pl) ∧ Hd (0, 0, N) h (x + 8) (eA 1 24576 Pi) ∧ (rng Tb ∧ rng Mo ∧ rng Pl) ∧ ∀ i, i < 6 → MI9 i (σ i) Th Kd Ms Sz Tb Mo Pl Pi
theorem RMs.ra {N : Nat} {h : MH} {x : Nat} {σ : Nat → Option MSt} {pr ts : Int} (s : RMs N h x σ pr ts) : ∃ Th Kd Ms Sz Tb Mo Pl Pi, RA N h x σ Th Kd Ms Sz Tb Mo Pl Pi := s.2.2
theorem RMs.of {N : Nat} {h : MH} {x : Nat} {σ : Nat → Option MSt} {pr ts : Int} {Th Kd Ms Sz Tb Mo Pl Pi : Nat → Int} (h1 : MO N h x pr ts) (h2 : SC3 N h x) (h3 : RA N h x σ Th Kd Ms Sz Tb Mo Pl Pi) : RMs N h x σ pr ts := ⟨h1, h2, Th, Kd, Ms, Sz, Tb, Mo, Pl, Pi, h3⟩
theorem RA.keep {N : Nat} {h h2 : MH} {x : Nat} {σ : Nat → Option MSt} {Th Kd Ms Sz Tb Mo Pl Pi : Nat → Int} (s : RA N h x σ Th Kd Ms Sz Tb Mo Pl Pi) (k : ∀ a, x + 1 ≤ a → a ≤ x + 8 → h2 a = h a) : RA N h2 x σ Th Kd Ms Sz Tb Mo Pl Pi := by
  obtain ⟨a1, a2, a3, a4, a5, a6, a7, a8, a9⟩ := s
  exact ⟨a1.keep (k _ (by omega) (by omega)), a2.keep (k _ (by omega) (by omega)), a3.keep (k _ (by omega) (by omega)), a4.keep (k _ (by omega) (by omega)), a5.keep (k _ (by omega) (by omega)), a6.keep (k _ (by omega) (by omega)), a7.keep (k _ (by omega) (by omega)), a8.keep (k _ (by omega) (by omega)), a9⟩
/-- what a call of the reference on mills leaves -/
def rP (N : Nat) (h h2 : MH) (x : Nat) (σ : Nat → Option MSt) (pr ts : Int) : Prop := RMs N h2 x σ pr ts ∧ ∀ a, (a < x ∨ x + 26 ≤ a) → h2 a = h a
theorem MI9.out {i : Nat} {o : Option MSt} {Th Kd Ms Sz Tb Mo Pl Pi : Nat → Int} {kd M n : Nat} {T Y : Nat → Int} {P : Nat → Nat → Int} (m : MI9 i o Th Kd Ms Sz Tb Mo Pl Pi) (e : o = some (kd, M, n, T, Y, P)) : okS kd M n T Y P ∧ Th i = 1 ∧ Kd i = (kd : Int) ∧ Ms i = (M : Int) ∧ Sz i = (n : Int) ∧ (∀ r c, r < n → c < n → Tb (16 * i + 4 * r + c) = T (5 * r + c)) ∧ (∀ r, r < n → Mo (4 * i + r) = T (5 * r + 4)) ∧ (∀ r, r < n → Pl (4 * i + r) = Y r) ∧ (kd = 3 → ∀ x y, x < M → y < M → Pi (4096 * i + 64 * y + x) = sb (P x y)) := m.2 _ e
theorem MI9.mk {i : Nat} {Th Kd Ms Sz Tb Mo Pl Pi : Nat → Int} {kd M n : Nat} {T Y : Nat → Int} {P : Nat → Nat → Int} (c : okS kd M n T Y P ∧ Th i = 1 ∧ Kd i = (kd : Int) ∧ Ms i = (M : Int) ∧ Sz i = (n : Int) ∧ (∀ r c, r < n → c < n → Tb (16 * i + 4 * r + c) = T (5 * r + c)) ∧ (∀ r, r < n → Mo (4 * i + r) = T (5 * r + 4)) ∧ (∀ r, r < n → Pl (4 * i + r) = Y r) ∧ (kd = 3 → ∀ x y, x < M → y < M → Pi (4096 * i + 64 * y + x) = sb (P x y))) : MI9 i (some (kd, M, n, T, Y, P)) Th Kd Ms Sz Tb Mo Pl Pi := ⟨fun e => (nomatch e), fun s e => by cases e; exact c⟩
theorem MI9.keep {i : Nat} {o : Option MSt} {Th Kd Ms Sz Tb Mo Pl Pi Th2 Kd2 Ms2 Sz2 Tb2 Mo2 Pl2 Pi2 : Nat → Int} (m : MI9 i o Th Kd Ms Sz Tb Mo Pl Pi) (k1 : Th2 i = Th i) (k2 : Kd2 i = Kd i) (k3 : Ms2 i = Ms i) (k4 : Sz2 i = Sz i) (k5 : ∀ k, 16 * i ≤ k → k < 16 * i + 16 → Tb2 k = Tb k) (k6 : ∀ k, 4 * i ≤ k → k < 4 * i + 4 → Mo2 k = Mo k) (k7 : ∀ k, 4 * i ≤ k → k < 4 * i + 4 → Pl2 k = Pl k) (k8 : ∀ k, 4096 * i ≤ k → k < 4096 * i + 4096 → Pi2 k = Pi k) : MI9 i o Th2 Kd2 Ms2 Sz2 Tb2 Mo2 Pl2 Pi2 := by
  refine ⟨fun e => k1.trans (m.1 e), fun s e => ?_⟩
  obtain ⟨kd, M, n, T, Y, P⟩ := s
  obtain ⟨ok, a1, a2, a3, a4, a5, a6, a7, a8⟩ := m.out e
  obtain ⟨hkd, hM, hM2, n1, hn, hk1, hk3, -⟩ := id ok
  refine ⟨ok, k1.trans a1, k2.trans a2, k3.trans a3, k4.trans a4, fun r c hr hc => ?_, fun r hr => ?_, fun r hr => ?_, fun z x y hx hy => ?_⟩
  · dsimp only at hr hc
    exact (k5 _ (by omega) (by omega)).trans (a5 r c hr hc)
  · dsimp only at hr
    exact (k6 _ (by omega) (by omega)).trans (a6 r hr)
  · dsimp only at hr
    exact (k7 _ (by omega) (by omega)).trans (a7 r hr)
  · dsimp only at hx hy z
    have := hk3 z
    exact (k8 _ (by omega) (by omega)).trans (a8 z x y hx hy)

theorem RA.plate {N : Nat} {h h2 : MH} {x i kd M n : Nat} {σ : Nat → Option MSt} {Th Kd Ms Sz Tb Mo Pl Pi T Y A2 : Nat → Int} {P : Nat → Nat → Int} {V : Nat → Int} (s : RA N h x σ Th Kd Ms Sz Tb Mo Pl Pi) (hi : i < 6) (es : σ i = some (kd, M, n, T, Y, P)) (e2 : h2 (x + 7) = eA 0 24 A2) (k : ∀ a, x + 1 ≤ a → a ≤ x + 8 → a ≠ x + 7 → h2 a = h a) (hV : ∀ r, r < n → 0 ≤ V r ∧ V r < M) (k9 : ∀ r, r < n → A2 (4 * i + r) = V r) (kO : ∀ j, (j < 4 * i ∨ 4 * i + 4 ≤ j) → A2 j = Pl j) (rA : rng A2) : RA N h2 x (va_up σ i (some (kd, M, n, T, V, P))) Th Kd Ms Sz Tb Mo A2 Pi := by
  obtain ⟨a1, a2, a3, a4, a5, a6, a7, a8, ⟨rT, rM, rP⟩, a9⟩ := s
  refine ⟨a1.keep (k _ (by omega) (by omega) (by omega)), a2.keep (k _ (by omega) (by omega) (by omega)), a3.keep (k _ (by omega) (by omega) (by omega)), a4.keep (k _ (by omega) (by omega) (by omega)), a5.keep (k _ (by omega) (by omega) (by omega)), a6.keep (k _ (by omega) (by omega) (by omega)), ⟨a7.1, e2⟩, a8.keep (k _ (by omega) (by omega) (by omega)), ⟨rT, rM, rA⟩, fun j hj => ?_⟩
  by_cases e : j = i
  · subst e
    rw [va_up_self]
    obtain ⟨ok, e1, e2, e3, e4, e5, e6, e7, e8⟩ := (a9 j hj).out es
    obtain ⟨hkd, hM, hM2, n1, hn, hk1, hk3, hT, hYb, hPb⟩ := id ok
    exact MI9.mk ⟨⟨hkd, hM, hM2, n1, hn, hk1, hk3, hT, hV, hPb⟩, e1, e2, e3, e4, e5, e6, k9, e8⟩
  · rw [va_up_ne _ _ e]
    exact (a9 j hj).keep rfl rfl rfl rfl (fun _ _ _ => rfl) (fun _ _ _ => rfl) (fun z z1 z2 => kO z (by omega)) (fun _ _ _ => rfl)

theorem RA.tab {N : Nat} {h h2 : MH} {x i kd M n : Nat} {σ : Nat → Option MSt} {Th Kd Ms Sz Tb Mo Pl Pi T Y A2 : Nat → Int} {P : Nat → Nat → Int} {V : Nat → Int} (s : RA N h x σ Th Kd Ms Sz Tb Mo Pl Pi) (hi : i < 6) (es : σ i = some (kd, M, n, T, Y, P)) (e2 : h2 (x + 5) = eA 0 96 A2) (k : ∀ a, x + 1 ≤ a → a ≤ x + 8 → a ≠ x + 5 → h2 a = h a) (hV : ∀ r c, r < n → (c < n ∨ c = 4) → 0 ≤ V (5 * r + c) ∧ V (5 * r + c) < M) (k9 : ∀ r c, r < n → c < n → A2 (16 * i + 4 * r + c) = V (5 * r + c)) (kM : ∀ r, r < n → V (5 * r + 4) = T (5 * r + 4)) (kO : ∀ j, (j < 16 * i ∨ 16 * i + 16 ≤ j) → A2 j = Tb j) (rA : rng A2) : RA N h2 x (va_up σ i (some (kd, M, n, V, Y, P))) Th Kd Ms Sz A2 Mo Pl Pi := by
  obtain ⟨a1, a2, a3, a4, a5, a6, a7, a8, ⟨rT, rM, rP⟩, a9⟩ := s
  refine ⟨a1.keep (k _ (by omega) (by omega) (by omega)), a2.keep (k _ (by omega) (by omega) (by omega)), a3.keep (k _ (by omega) (by omega) (by omega)), a4.keep (k _ (by omega) (by omega) (by omega)), ⟨a5.1, e2⟩, a6.keep (k _ (by omega) (by omega) (by omega)), a7.keep (k _ (by omega) (by omega) (by omega)), a8.keep (k _ (by omega) (by omega) (by omega)), ⟨rA, rM, rP⟩, fun j hj => ?_⟩
  by_cases e : j = i
  · subst e
    rw [va_up_self]
    obtain ⟨ok, e1, e2, e3, e4, e5, e6, e7, e8⟩ := (a9 j hj).out es
    obtain ⟨hkd, hM, hM2, n1, hn, hk1, hk3, hT, hYb, hPb⟩ := id ok
    exact MI9.mk ⟨⟨hkd, hM, hM2, n1, hn, hk1, hk3, hV, hYb, hPb⟩, e1, e2, e3, e4, k9, fun r hr => by rw [kM r hr]; exact e6 r hr, e7, e8⟩
  · rw [va_up_ne _ _ e]
    exact (a9 j hj).keep rfl rfl rfl rfl (fun z z1 z2 => kO z (by omega)) (fun _ _ _ => rfl) (fun _ _ _ => rfl) (fun _ _ _ => rfl)

theorem RA.mor {N : Nat} {h h2 : MH} {x i kd M n : Nat} {σ : Nat → Option MSt} {Th Kd Ms Sz Tb Mo Pl Pi T Y A2 : Nat → Int} {P : Nat → Nat → Int} {V : Nat → Int} (s : RA N h x σ Th Kd Ms Sz Tb Mo Pl Pi) (hi : i < 6) (es : σ i = some (kd, M, n, T, Y, P)) (e2 : h2 (x + 6) = eA 0 24 A2) (k : ∀ a, x + 1 ≤ a → a ≤ x + 8 → a ≠ x + 6 → h2 a = h a) (hV : ∀ r c, r < n → (c < n ∨ c = 4) → 0 ≤ V (5 * r + c) ∧ V (5 * r + c) < M) (k9 : ∀ r, r < n → A2 (4 * i + r) = V (5 * r + 4)) (kM : ∀ r c, r < n → c < n → V (5 * r + c) = T (5 * r + c)) (kO : ∀ j, (j < 4 * i ∨ 4 * i + 4 ≤ j) → A2 j = Mo j) (rA : rng A2) : RA N h2 x (va_up σ i (some (kd, M, n, V, Y, P))) Th Kd Ms Sz Tb A2 Pl Pi := by
  obtain ⟨a1, a2, a3, a4, a5, a6, a7, a8, ⟨rT, rM, rP⟩, a9⟩ := s
  refine ⟨a1.keep (k _ (by omega) (by omega) (by omega)), a2.keep (k _ (by omega) (by omega) (by omega)), a3.keep (k _ (by omega) (by omega) (by omega)), a4.keep (k _ (by omega) (by omega) (by omega)), a5.keep (k _ (by omega) (by omega) (by omega)), ⟨a6.1, e2⟩, a7.keep (k _ (by omega) (by omega) (by omega)), a8.keep (k _ (by omega) (by omega) (by omega)), ⟨rT, rA, rP⟩, fun j hj => ?_⟩
  by_cases e : j = i
  · subst e
    rw [va_up_self]
    obtain ⟨ok, e1, e2, e3, e4, e5, e6, e7, e8⟩ := (a9 j hj).out es
    obtain ⟨hkd, hM, hM2, n1, hn, hk1, hk3, hT, hYb, hPb⟩ := id ok
    exact MI9.mk ⟨⟨hkd, hM, hM2, n1, hn, hk1, hk3, hV, hYb, hPb⟩, e1, e2, e3, e4, fun r c hr hc => by rw [kM r c hr hc]; exact e5 r c hr hc, k9, e7, e8⟩
  · rw [va_up_ne _ _ e]
    exact (a9 j hj).keep rfl rfl rfl rfl (fun _ _ _ => rfl) (fun z z1 z2 => kO z (by omega)) (fun _ _ _ => rfl) (fun _ _ _ => rfl)

theorem RA.pic {N : Nat} {h h2 : MH} {x i kd M n : Nat} {σ : Nat → Option MSt} {Th Kd Ms Sz Tb Mo Pl Pi T Y A2 : Nat → Int} {P : Nat → Nat → Int} {V : Nat → Nat → Int} (s : RA N h x σ Th Kd Ms Sz Tb Mo Pl Pi) (hi : i < 6) (es : σ i = some (kd, M, n, T, Y, P)) (e2 : h2 (x + 8) = eA 1 24576 A2) (k : ∀ a, x + 1 ≤ a → a ≤ x + 8 → a ≠ x + 8 → h2 a = h a) (hV : ∀ x y, 0 ≤ V x y ∧ V x y ≤ 255) (k9 : kd = 3 → ∀ x y, x < M → y < M → A2 (4096 * i + 64 * y + x) = sb (V x y)) (kO : ∀ j, (j < 4096 * i ∨ 4096 * i + 4096 ≤ j) → A2 j = Pi j) : RA N h2 x (va_up σ i (some (kd, M, n, T, Y, V))) Th Kd Ms Sz Tb Mo Pl A2 := by
  obtain ⟨a1, a2, a3, a4, a5, a6, a7, a8, ⟨rT, rM, rP⟩, a9⟩ := s
  refine ⟨a1.keep (k _ (by omega) (by omega) (by omega)), a2.keep (k _ (by omega) (by omega) (by omega)), a3.keep (k _ (by omega) (by omega) (by omega)), a4.keep (k _ (by omega) (by omega) (by omega)), a5.keep (k _ (by omega) (by omega) (by omega)), a6.keep (k _ (by omega) (by omega) (by omega)), a7.keep (k _ (by omega) (by omega) (by omega)), ⟨a8.1, e2⟩, ⟨rT, rM, rP⟩, fun j hj => ?_⟩
  by_cases e : j = i
  · subst e
    rw [va_up_self]
    obtain ⟨ok, e1, e2, e3, e4, e5, e6, e7, e8⟩ := (a9 j hj).out es
    obtain ⟨hkd, hM, hM2, n1, hn, hk1, hk3, hT, hYb, hPb⟩ := id ok
    exact MI9.mk ⟨⟨hkd, hM, hM2, n1, hn, hk1, hk3, hT, hYb, hV⟩, e1, e2, e3, e4, e5, e6, e7, k9⟩
  · rw [va_up_ne _ _ e]
    exact (a9 j hj).keep rfl rfl rfl rfl (fun _ _ _ => rfl) (fun _ _ _ => rfl) (fun _ _ _ => rfl) (fun z z1 z2 => kO z (by omega))

theorem c_isM {N d x : Nat} {th wd pm fm mu um pr ts : Int} {m : Int} {σ : Nat → Option MSt} {Th Kd Ms Sz Tb Mo Pl Pi : Nat → Int} {h : MH} (hm : i32 m) (hx : Hd (0, 0, N) h x (mdl x th wd pm fm mu um pr ts)) (ra : RA N h x σ Th Kd Ms Sz Tb Mo Pl Pi) : Ok mX11_isMill d 0 0 [vR x, vI m] N h (fun r h2 => h2 = h ∧ r = some (vI (qM σ m 0 (fun kd M n T Y P => 1)))) := by
  have hT : ∀ i, i < 6 → Th i = 0 ∨ Th i = 1 := fun i hi => by
    have mi := ra.2.2.2.2.2.2.2.2.2 i hi
    rcases es : σ i with _ | ⟨kd, M, n, T, Y, P⟩
    · exact Or.inl (mi.1 es)
    · exact Or.inr (mi.out es).2.1
  refine (c_isMill hm hT hx ra.1).mono (fun r h2 ⟨e1, e2⟩ => ⟨e1, ?_⟩)
  rw [e2]
  congr 2
  by_cases c : 0 ≤ m ∧ m < 6
  · obtain ⟨i, ei⟩ : ∃ i : Nat, m = (i : Int) := ⟨m.toNat, by omega⟩
    subst ei
    have hi : i < 6 := by omega
    have mi := ra.2.2.2.2.2.2.2.2.2 i hi
    have eg := gt_at (σ := σ) hi
    rw [Int.toNat_natCast]
    rcases es : σ i with _ | ⟨kd, M, n, T, Y, P⟩
    · rw [qM_none (eg.trans es), if_neg (fun z => by have := mi.1 es; omega)]
    · rw [qM_some (eg.trans es), if_pos ⟨c, (mi.out es).2.1⟩]
  · rw [if_neg (fun z => c z.1), qM_none (by unfold gt; rw [if_neg c])]

theorem c_mcanTell {N d x : Nat} {th wd pm fm mu um pr ts : Int} {m : Int} {σ : Nat → Option MSt} {Th Kd Ms Sz Tb Mo Pl Pi : Nat → Int} {h : MH} {r : Int} (hm : i32 m) (hr : i32 r) (hx : Hd (0, 0, N) h x (mdl x th wd pm fm mu um pr ts)) (ra : RA N h x σ Th Kd Ms Sz Tb Mo Pl Pi) : Ok mX11_canTell (d + 1) 0 0 [vR x, vI m, vI r] N h (fun r9 h2 => h2 = h ∧ r9 = some (vI (qM σ m 0 (fun kd M n T Y P => if (0 ≤ r ∧ r < n) ∧ (kd ≠ 2 ∨ r = n - 1) then 1 else 0)))) := by
  refine Ok.of pfX11_canTell rfl (Nat.le_of_ble_eq_true rfl) (fun Ls sx => ?_)
  show G mX11_canTell (d + 1, 0, 0, Ls, sx) 0 [(0, vR x), (1, vI m), (2, vI r)] [] (0, 0, N) h _
  refine g_aload_n (pc := 0) (r := .inl (some x)) dX11_canTell_0 rfl ?_
  refine g_iload_n (pc := 1) (x := m) dX11_canTell_1 rfl ?_
  refine g_callV0 (pc := 2) (as := [vI m]) (b := x) (st := []) lvX11_108 dX11_canTell_2 hx (Nat.le_of_ble_eq_true rfl) (by omega) (Nat.zero_le _) (Nat.zero_le _) (c_isM (d := d) hm hx ra) ?_
  rintro r8 h9 ⟨e9, e8⟩
  subst e9
  subst e8
  rcases eg : gt σ m with _ | ⟨kd, M, n, T, Y, P⟩
  · rw [qM_none eg]
    refine g_if_eqT (pc := 5) (tgt := 48) dX11_canTell_5 (by decide) (by omega) (by omega) ?_
    refine g_iconst (pc := 48) dX11_canTell_48 ?_
    exact r_bool (pc := 49) dX11_canTell_49 rfl rfl (Nat.le_refl _) (Or.inl rfl) ⟨rfl, by rw [qM_none eg]⟩
  · rw [qM_some eg]
    obtain ⟨i, hi, em, es⟩ := gt_some eg
    subst em
    obtain ⟨a1, a2, a3, a4, a5, a6, a7, a8, ⟨rT, rM, rP⟩, mi⟩ := id ra
    obtain ⟨ok, eTh, eKd, eMs, eSz, eTb, eMo, ePl, ePi⟩ := (mi i hi).out es
    obtain ⟨hkd, hM, hM2, n1, hn, hk1, hk3, hT, hYb, hPb⟩ := id ok
    refine g_if_eqF (pc := 5) (tgt := 48) dX11_canTell_5 (by decide) (by omega) (by omega) ?_
    refine g_iload_n (pc := 8) (x := r) dX11_canTell_8 rfl ?_
    refine g_if_lt (pc := 9) (tgt := 48) dX11_canTell_9 (by decide) (by omega) (fun k0 => ?_) (fun k0 => ?_)
    · refine g_iconst (pc := 48) dX11_canTell_48 ?_
      exact r_bool (pc := 49) dX11_canTell_49 rfl rfl (Nat.le_refl _) (Or.inl rfl) ⟨rfl, by rw [qM_some eg, if_neg (by omega)]⟩
    · refine g_iload_n (pc := 12) (x := r) dX11_canTell_12 rfl ?_
      refine g_aload_n (pc := 13) (r := .inl (some x)) dX11_canTell_13 rfl ?_
      refine g_getf (pc := 14) (v := vR (x + 4)) flX11_20 dX11_canTell_14 hx rfl ?_
      refine g_iload_n (pc := 17) (x := (i : Int)) dX11_canTell_17 rfl ?_
      refine g_ialdN (pc := 18) (j := i) dX11_canTell_18 a4 (by omega) (by omega) (by omega) ?_
      rw [eSz]
      refine g_icmp_ge (pc := 19) (tgt := 48) dX11_canTell_19 (by decide) (by omega) (by omega) (fun k1 => ?_) (fun k1 => ?_)
      · refine g_iconst (pc := 48) dX11_canTell_48 ?_
        exact r_bool (pc := 49) dX11_canTell_49 rfl rfl (Nat.le_refl _) (Or.inl rfl) ⟨rfl, by rw [qM_some eg, if_neg (by omega)]⟩
      · refine g_aload_n (pc := 22) (r := .inl (some x)) dX11_canTell_22 rfl ?_
        refine g_getf (pc := 23) (v := vR (x + 2)) flX11_13 dX11_canTell_23 hx rfl ?_
        refine g_iload_n (pc := 26) (x := (i : Int)) dX11_canTell_26 rfl ?_
        refine g_ialdN (pc := 27) (j := i) dX11_canTell_27 a2 (by omega) (by omega) (by omega) ?_
        rw [eKd]
        refine g_iconst (pc := 28) dX11_canTell_28 ?_
        refine g_icmp_ne (pc := 29) (tgt := 44) dX11_canTell_29 (by decide) (by omega) (by omega) (fun k2 => ?_) (fun k2 => ?_)
        · refine g_iconst (pc := 44) dX11_canTell_44 ?_
          refine g_goto (pc := 45) (tgt := 49) dX11_canTell_45 (by decide) ?_
          exact r_bool (pc := 49) dX11_canTell_49 rfl rfl (Nat.le_refl _) (Or.inr rfl) ⟨rfl, by rw [qM_some eg, if_pos (by omega)]⟩
        · refine g_iload_n (pc := 32) (x := r) dX11_canTell_32 rfl ?_
          refine g_aload_n (pc := 33) (r := .inl (some x)) dX11_canTell_33 rfl ?_
          refine g_getf (pc := 34) (v := vR (x + 4)) flX11_20 dX11_canTell_34 hx rfl ?_
          refine g_iload_n (pc := 37) (x := (i : Int)) dX11_canTell_37 rfl ?_
          refine g_ialdN (pc := 38) (j := i) dX11_canTell_38 a4 (by omega) (by omega) (by omega) ?_
          rw [eSz]
          refine g_iconst (pc := 39) dX11_canTell_39 ?_
          refine g_isub (pc := 40) dX11_canTell_40 ?_
          refine g_icmp_ne (pc := 41) (tgt := 48) dX11_canTell_41 (by decide) (by omega) (by omega) (fun k3 => ?_) (fun k3 => ?_)
          · refine g_iconst (pc := 48) dX11_canTell_48 ?_
            exact r_bool (pc := 49) dX11_canTell_49 rfl rfl (Nat.le_refl _) (Or.inl rfl) ⟨rfl, by rw [qM_some eg, if_neg (by omega)]⟩
          · refine g_iconst (pc := 44) dX11_canTell_44 ?_
            refine g_goto (pc := 45) (tgt := 49) dX11_canTell_45 (by decide) ?_
            exact r_bool (pc := 49) dX11_canTell_49 rfl rfl (Nat.le_refl _) (Or.inr rfl) ⟨rfl, by rw [qM_some eg, if_pos (by omega)]⟩

theorem c_misNet {N d x : Nat} {th wd pm fm mu um pr ts : Int} {m : Int} {σ : Nat → Option MSt} {Th Kd Ms Sz Tb Mo Pl Pi : Nat → Int} {h : MH} {k : Int} (hm : i32 m) (hk : i32 k) (hx : Hd (0, 0, N) h x (mdl x th wd pm fm mu um pr ts)) (ra : RA N h x σ Th Kd Ms Sz Tb Mo Pl Pi) : Ok mX11_isNet (d + 1) 0 0 [vR x, vI m, vI k] N h (fun r9 h2 => h2 = h ∧ r9 = some (vI (qM σ m 0 (fun kd M n T Y P => if kd = 1 ∧ (2 ≤ k ∧ k ≤ 4) then 1 else 0)))) := by
  refine Ok.of pfX11_isNet rfl (Nat.le_of_ble_eq_true rfl) (fun Ls sx => ?_)
  show G mX11_isNet (d + 1, 0, 0, Ls, sx) 0 [(0, vR x), (1, vI m), (2, vI k)] [] (0, 0, N) h _
  refine g_aload_n (pc := 0) (r := .inl (some x)) dX11_isNet_0 rfl ?_
  refine g_iload_n (pc := 1) (x := m) dX11_isNet_1 rfl ?_
  refine g_callV0 (pc := 2) (as := [vI m]) (b := x) (st := []) lvX11_108 dX11_isNet_2 hx (Nat.le_of_ble_eq_true rfl) (by omega) (Nat.zero_le _) (Nat.zero_le _) (c_isM (d := d) hm hx ra) ?_
  rintro r8 h9 ⟨e9, e8⟩
  subst e9
  subst e8
  rcases eg : gt σ m with _ | ⟨kd, M, n, T, Y, P⟩
  · rw [qM_none eg]
    refine g_if_eqT (pc := 5) (tgt := 32) dX11_isNet_5 (by decide) (by omega) (by omega) ?_
    refine g_iconst (pc := 32) dX11_isNet_32 ?_
    exact r_bool (pc := 33) dX11_isNet_33 rfl rfl (Nat.le_refl _) (Or.inl rfl) ⟨rfl, by rw [qM_none eg]⟩
  · rw [qM_some eg]
    obtain ⟨i, hi, em, es⟩ := gt_some eg
    subst em
    obtain ⟨a1, a2, a3, a4, a5, a6, a7, a8, ⟨rT, rM, rP⟩, mi⟩ := id ra
    obtain ⟨ok, eTh, eKd, eMs, eSz, eTb, eMo, ePl, ePi⟩ := (mi i hi).out es
    obtain ⟨hkd, hM, hM2, n1, hn, hk1, hk3, hT, hYb, hPb⟩ := id ok
    refine g_if_eqF (pc := 5) (tgt := 32) dX11_isNet_5 (by decide) (by omega) (by omega) ?_
    refine g_aload_n (pc := 8) (r := .inl (some x)) dX11_isNet_8 rfl ?_
    refine g_getf (pc := 9) (v := vR (x + 2)) flX11_13 dX11_isNet_9 hx rfl ?_
    refine g_iload_n (pc := 12) (x := (i : Int)) dX11_isNet_12 rfl ?_
    refine g_ialdN (pc := 13) (j := i) dX11_isNet_13 a2 (by omega) (by omega) (by omega) ?_
    rw [eKd]
    refine g_iconst (pc := 14) dX11_isNet_14 ?_
    refine g_icmp_ne (pc := 15) (tgt := 32) dX11_isNet_15 (by decide) (by omega) (by omega) (fun k0 => ?_) (fun k0 => ?_)
    · refine g_iconst (pc := 32) dX11_isNet_32 ?_
      exact r_bool (pc := 33) dX11_isNet_33 rfl rfl (Nat.le_refl _) (Or.inl rfl) ⟨rfl, by rw [qM_some eg, if_neg (by omega)]⟩
    · refine g_iload_n (pc := 18) (x := k) dX11_isNet_18 rfl ?_
      refine g_iconst (pc := 19) dX11_isNet_19 ?_
      refine g_icmp_lt (pc := 20) (tgt := 32) dX11_isNet_20 (by decide) (by omega) (by omega) (fun k1 => ?_) (fun k1 => ?_)
      · refine g_iconst (pc := 32) dX11_isNet_32 ?_
        exact r_bool (pc := 33) dX11_isNet_33 rfl rfl (Nat.le_refl _) (Or.inl rfl) ⟨rfl, by rw [qM_some eg, if_neg (by omega)]⟩
      · refine g_iload_n (pc := 23) (x := k) dX11_isNet_23 rfl ?_
        refine g_iconst (pc := 24) dX11_isNet_24 ?_
        refine g_icmp_gt (pc := 25) (tgt := 32) dX11_isNet_25 (by decide) (by omega) (by omega) (fun k2 => ?_) (fun k2 => ?_)
        · refine g_iconst (pc := 32) dX11_isNet_32 ?_
          exact r_bool (pc := 33) dX11_isNet_33 rfl rfl (Nat.le_refl _) (Or.inl rfl) ⟨rfl, by rw [qM_some eg, if_neg (by omega)]⟩
        · refine g_iconst (pc := 28) dX11_isNet_28 ?_
          refine g_goto (pc := 29) (tgt := 33) dX11_isNet_29 (by decide) ?_
          exact r_bool (pc := 33) dX11_isNet_33 rfl rfl (Nat.le_refl _) (Or.inr rfl) ⟨rfl, by rw [qM_some eg, if_pos (by omega)]⟩

theorem c_misPicture {N d x : Nat} {th wd pm fm mu um pr ts : Int} {m : Int} {σ : Nat → Option MSt} {Th Kd Ms Sz Tb Mo Pl Pi : Nat → Int} {h : MH} (hm : i32 m) (hx : Hd (0, 0, N) h x (mdl x th wd pm fm mu um pr ts)) (ra : RA N h x σ Th Kd Ms Sz Tb Mo Pl Pi) : Ok mX11_isPicture (d + 1) 0 0 [vR x, vI m] N h (fun r9 h2 => h2 = h ∧ r9 = some (vI (qM σ m 0 (fun kd M n T Y P => if kd = 3 then 1 else 0)))) := by
  refine Ok.of pfX11_isPicture rfl (Nat.le_of_ble_eq_true rfl) (fun Ls sx => ?_)
  show G mX11_isPicture (d + 1, 0, 0, Ls, sx) 0 [(0, vR x), (1, vI m)] [] (0, 0, N) h _
  refine g_aload_n (pc := 0) (r := .inl (some x)) dX11_isPicture_0 rfl ?_
  refine g_iload_n (pc := 1) (x := m) dX11_isPicture_1 rfl ?_
  refine g_callV0 (pc := 2) (as := [vI m]) (b := x) (st := []) lvX11_108 dX11_isPicture_2 hx (Nat.le_of_ble_eq_true rfl) (by omega) (Nat.zero_le _) (Nat.zero_le _) (c_isM (d := d) hm hx ra) ?_
  rintro r8 h9 ⟨e9, e8⟩
  subst e9
  subst e8
  rcases eg : gt σ m with _ | ⟨kd, M, n, T, Y, P⟩
  · rw [qM_none eg]
    refine g_if_eqT (pc := 5) (tgt := 22) dX11_isPicture_5 (by decide) (by omega) (by omega) ?_
    refine g_iconst (pc := 22) dX11_isPicture_22 ?_
    exact r_bool (pc := 23) dX11_isPicture_23 rfl rfl (Nat.le_refl _) (Or.inl rfl) ⟨rfl, by rw [qM_none eg]⟩
  · rw [qM_some eg]
    obtain ⟨i, hi, em, es⟩ := gt_some eg
    subst em
    obtain ⟨a1, a2, a3, a4, a5, a6, a7, a8, ⟨rT, rM, rP⟩, mi⟩ := id ra
    obtain ⟨ok, eTh, eKd, eMs, eSz, eTb, eMo, ePl, ePi⟩ := (mi i hi).out es
    obtain ⟨hkd, hM, hM2, n1, hn, hk1, hk3, hT, hYb, hPb⟩ := id ok
    refine g_if_eqF (pc := 5) (tgt := 22) dX11_isPicture_5 (by decide) (by omega) (by omega) ?_
    refine g_aload_n (pc := 8) (r := .inl (some x)) dX11_isPicture_8 rfl ?_
    refine g_getf (pc := 9) (v := vR (x + 2)) flX11_13 dX11_isPicture_9 hx rfl ?_
    refine g_iload_n (pc := 12) (x := (i : Int)) dX11_isPicture_12 rfl ?_
    refine g_ialdN (pc := 13) (j := i) dX11_isPicture_13 a2 (by omega) (by omega) (by omega) ?_
    rw [eKd]
    refine g_iconst (pc := 14) dX11_isPicture_14 ?_
    refine g_icmp_ne (pc := 15) (tgt := 22) dX11_isPicture_15 (by decide) (by omega) (by omega) (fun k0 => ?_) (fun k0 => ?_)
    · refine g_iconst (pc := 22) dX11_isPicture_22 ?_
      exact r_bool (pc := 23) dX11_isPicture_23 rfl rfl (Nat.le_refl _) (Or.inl rfl) ⟨rfl, by rw [qM_some eg, if_neg (by omega)]⟩
    · refine g_iconst (pc := 18) dX11_isPicture_18 ?_
      refine g_goto (pc := 19) (tgt := 23) dX11_isPicture_19 (by decide) ?_
      exact r_bool (pc := 23) dX11_isPicture_23 rfl rfl (Nat.le_refl _) (Or.inr rfl) ⟨rfl, by rw [qM_some eg, if_pos (by omega)]⟩

theorem c_misCell {N d x : Nat} {th wd pm fm mu um pr ts : Int} {m : Int} {σ : Nat → Option MSt} {Th Kd Ms Sz Tb Mo Pl Pi : Nat → Int} {h : MH} {u v : Int} (hm : i32 m) (hu : i32 u) (hv : i32 v) (hx : Hd (0, 0, N) h x (mdl x th wd pm fm mu um pr ts)) (ra : RA N h x σ Th Kd Ms Sz Tb Mo Pl Pi) : Ok mX11_isCell (d + 2) 0 0 [vR x, vI m, vI u, vI v] N h (fun r9 h2 => h2 = h ∧ r9 = some (vI (qM σ m 0 (fun kd M n T Y P => if kd = 3 ∧ ((0 ≤ u ∧ u < M) ∧ (0 ≤ v ∧ v < M)) then 1 else 0)))) := by
  refine Ok.of pfX11_isCell rfl (Nat.le_of_ble_eq_true rfl) (fun Ls sx => ?_)
  show G mX11_isCell (d + 2, 0, 0, Ls, sx) 0 [(0, vR x), (1, vI m), (2, vI u), (3, vI v)] [] (0, 0, N) h _
  refine g_aload_n (pc := 0) (r := .inl (some x)) dX11_isCell_0 rfl ?_
  refine g_iload_n (pc := 1) (x := m) dX11_isCell_1 rfl ?_
  refine g_callV0 (pc := 2) (as := [vI m]) (b := x) (st := []) lvX11_248 dX11_isCell_2 hx (Nat.le_of_ble_eq_true rfl) (by omega) (Nat.zero_le _) (Nat.zero_le _) (c_misPicture (d := d) hm hx ra) ?_
  rintro r8 h9 ⟨e9, e8⟩
  subst e9
  subst e8
  rcases eg : gt σ m with _ | ⟨kd, M, n, T, Y, P⟩
  · rw [qM_none eg]
    refine g_if_eqT (pc := 5) (tgt := 40) dX11_isCell_5 (by decide) (by omega) (by omega) ?_
    refine g_iconst (pc := 40) dX11_isCell_40 ?_
    exact r_bool (pc := 41) dX11_isCell_41 rfl rfl (Nat.le_refl _) (Or.inl rfl) ⟨rfl, by rw [qM_none eg]⟩
  · rw [qM_some eg]
    obtain ⟨i, hi, em, es⟩ := gt_some eg
    subst em
    obtain ⟨a1, a2, a3, a4, a5, a6, a7, a8, ⟨rT, rM, rP⟩, mi⟩ := id ra
    obtain ⟨ok, eTh, eKd, eMs, eSz, eTb, eMo, ePl, ePi⟩ := (mi i hi).out es
    obtain ⟨hkd, hM, hM2, n1, hn, hk1, hk3, hT, hYb, hPb⟩ := id ok
    by_cases hk : kd = 3
    · rw [if_pos hk]
      refine g_if_eqF (pc := 5) (tgt := 40) dX11_isCell_5 (by decide) (by omega) (by omega) ?_
      refine g_iload_n (pc := 8) (x := u) dX11_isCell_8 rfl ?_
      refine g_if_lt (pc := 9) (tgt := 40) dX11_isCell_9 (by decide) (by omega) (fun k0 => ?_) (fun k0 => ?_)
      · refine g_iconst (pc := 40) dX11_isCell_40 ?_
        exact r_bool (pc := 41) dX11_isCell_41 rfl rfl (Nat.le_refl _) (Or.inl rfl) ⟨rfl, by rw [qM_some eg, if_neg (by omega)]⟩
      · refine g_iload_n (pc := 12) (x := u) dX11_isCell_12 rfl ?_
        refine g_aload_n (pc := 13) (r := .inl (some x)) dX11_isCell_13 rfl ?_
        refine g_getf (pc := 14) (v := vR (x + 3)) flX11_17 dX11_isCell_14 hx rfl ?_
        refine g_iload_n (pc := 17) (x := (i : Int)) dX11_isCell_17 rfl ?_
        refine g_ialdN (pc := 18) (j := i) dX11_isCell_18 a3 (by omega) (by omega) (by omega) ?_
        rw [eMs]
        refine g_icmp_ge (pc := 19) (tgt := 40) dX11_isCell_19 (by decide) (by omega) (by omega) (fun k1 => ?_) (fun k1 => ?_)
        · refine g_iconst (pc := 40) dX11_isCell_40 ?_
          exact r_bool (pc := 41) dX11_isCell_41 rfl rfl (Nat.le_refl _) (Or.inl rfl) ⟨rfl, by rw [qM_some eg, if_neg (by omega)]⟩
        · refine g_iload_n (pc := 22) (x := v) dX11_isCell_22 rfl ?_
          refine g_if_lt (pc := 23) (tgt := 40) dX11_isCell_23 (by decide) (by omega) (fun k2 => ?_) (fun k2 => ?_)
          · refine g_iconst (pc := 40) dX11_isCell_40 ?_
            exact r_bool (pc := 41) dX11_isCell_41 rfl rfl (Nat.le_refl _) (Or.inl rfl) ⟨rfl, by rw [qM_some eg, if_neg (by omega)]⟩
          · refine g_iload_n (pc := 26) (x := v) dX11_isCell_26 rfl ?_
            refine g_aload_n (pc := 27) (r := .inl (some x)) dX11_isCell_27 rfl ?_
            refine g_getf (pc := 28) (v := vR (x + 3)) flX11_17 dX11_isCell_28 hx rfl ?_
            refine g_iload_n (pc := 31) (x := (i : Int)) dX11_isCell_31 rfl ?_
            refine g_ialdN (pc := 32) (j := i) dX11_isCell_32 a3 (by omega) (by omega) (by omega) ?_
            rw [eMs]
            refine g_icmp_ge (pc := 33) (tgt := 40) dX11_isCell_33 (by decide) (by omega) (by omega) (fun k3 => ?_) (fun k3 => ?_)
            · refine g_iconst (pc := 40) dX11_isCell_40 ?_
              exact r_bool (pc := 41) dX11_isCell_41 rfl rfl (Nat.le_refl _) (Or.inl rfl) ⟨rfl, by rw [qM_some eg, if_neg (by omega)]⟩
            · refine g_iconst (pc := 36) dX11_isCell_36 ?_
              refine g_goto (pc := 37) (tgt := 41) dX11_isCell_37 (by decide) ?_
              exact r_bool (pc := 41) dX11_isCell_41 rfl rfl (Nat.le_refl _) (Or.inr rfl) ⟨rfl, by rw [qM_some eg, if_pos (by omega)]⟩
    · rw [if_neg hk]
      refine g_if_eqT (pc := 5) (tgt := 40) dX11_isCell_5 (by decide) (by omega) (by omega) ?_
      refine g_iconst (pc := 40) dX11_isCell_40 ?_
      exact r_bool (pc := 41) dX11_isCell_41 rfl rfl (Nat.le_refl _) (Or.inl rfl) ⟨rfl, by rw [qM_some eg, if_neg (fun y => hk y.1)]⟩
