/-! ===== the reference: rules told back ===== -/
theorem ss_rev (f : Nat → Int) : ∀ l, ss (fun c => f (l - c)) 0 l = ss f 1 l
  | 0 => rfl
  | l + 1 => by
    show f (l + 1 - 0) + ss (fun c => f (l + 1 - c)) (0 + 1) l = _
    have e := ss_shift (fun c => f (l + 1 - c)) 1 l 0
    rw [e, ss_congr (g := fun c => f (l - c)) l 0 (fun i _ _ => by rw [show l + 1 - (i + 1) = l - i by omega]), ss_rev f l, ss_last, Nat.sub_zero, Nat.add_comm 1 l]
    omega
theorem cs_split (C s : Nat → Int) (l r : Nat) : cs C s l (r + l) = C 0 * s (r + l) + ss (fun c => C (l - c) * s (r + c)) 0 l := by
  show C 0 * s (r + l - 0) + ss (fun j => C j * s (r + l - j)) (0 + 1) l = _
  rw [Nat.sub_zero, Nat.zero_add, ← ss_rev (fun j => C j * s (r + l - j)) l]
  congr 1
  exact ss_congr _ _ (fun i _ hi => by rw [show r + l - (l - i) = r + i by omega])
theorem has_iff {p ct l : Nat} {s : Nat → Int} (hl : l ≤ ct) : hasL p ct l s ↔ ∃ y, sol p (ct - l) l (F0s s) y := by
  have key : ∀ (C y : Nat → Int) (r : Nat), C 0 = 1 → (∀ c, c < l → C (l - c) = -(y c)) → cs C s l (r + l) = -(rsd l (F0s s) y r) := fun C y r c0 hy => by
    rw [cs_split, c0, Int.one_mul]
    unfold rsd F0s
    have e : ss (fun c => C (l - c) * s (r + c)) 0 l = (-1) * ss (fun k => s (r + k) * y k) 0 l := by
      rw [← ss_mul]
      exact ss_congr _ _ (fun i _ hi => by rw [hy i (by omega)]; grind)
    rw [e]
    omega
  constructor
  · rintro ⟨C, c0, hC⟩
    refine ⟨fun c => -(C (l - c)), fun r hr => ?_⟩
    have z := hC (r + l) (by omega) (by omega)
    rw [key C (fun c => -(C (l - c))) r c0 (fun c _ => by omega)] at z
    have := Int.dvd_neg.mpr z
    rwa [Int.neg_neg] at this
  · rintro ⟨y, hy⟩
    refine ⟨fun j => if j = 0 then 1 else -(y (l - j)), rfl, fun n n1 n2 => ?_⟩
    have z := key (fun j => if j = 0 then 1 else -(y (l - j))) y (n - l) rfl (fun c hc => by
      show (if l - c = 0 then (1 : Int) else -(y (l - (l - c)))) = -(y c)
      rw [if_neg (by omega), show l - (l - c) = c by omega])
    rw [show n - l + l = n by omega] at z
    rw [z]
    exact Int.dvd_neg.mpr (hy _ (by omega))
def mir (l k : Nat) : Nat := if k < l then l - 1 - k else k
theorem mir_lt {l k : Nat} (h : k < l) : mir l k = l - 1 - k := if_pos h
theorem mir_l (l : Nat) : mir l l = l := if_neg (by omega)
theorem mir_le {l k : Nat} (h : k ≤ l) : mir l k ≤ l := by
  unfold mir
  split <;> omega

theorem miv_l {N d x p ct Ls : Nat} {th wd pm fm mu um : Int} {v : Int} {sx : Nat → Int} {h : MH} (hp : prm p) (hp2 : p ≤ 499) (hv : 0 < v ∧ v < p) (hx : Hd (0, 0, N) h x (mdl x th wd pm fm mu um (p : Int) (ct : Int))) : ∀ (f i : Nat) (xi : Int), (i : Int) + f = pin p v → xi = (i : Int) → 1 ≤ i → G mX11_inverse (d, 0, 0, Ls, sx) 2 [(0, vR x), (1, vI v), (2, vI xi)] [] (0, 0, N) h (Pq mX11_inverse 0 0 (fun r h2 => h2 = h ∧ r = some (vI (pin p v)))) := by
  intro f
  obtain ⟨w1, w2⟩ := pin_ex hp hv
  have p2 := hp.1
  have e1 : (1 : Int).tmod (p : Int) = 1 := by rw [Int.tmod_eq_emod_of_nonneg (by omega)]; exact Int.emod_eq_of_lt (by omega) (by omega)
  induction f with
  | zero =>
    intro i xi hf ex i1
    subst ex
    have m1 := mul_bd (A := 500) (B := 500) (x := v) (y := (i : Int)) (by omega) (by omega)
    have m2 : 0 ≤ v * (i : Int) := Int.mul_nonneg (by omega) (by omega)
    have e2 : (v * (i : Int)).tmod (p : Int) = v * (i : Int) % (p : Int) := Int.tmod_eq_emod_of_nonneg m2
    have r0 := Int.emod_nonneg (v * (i : Int)) (show (p : Int) ≠ 0 by omega)
    have r1 := Int.emod_lt_of_pos (v * (i : Int)) (show (0 : Int) < p by omega)
    refine g_iload_n (pc := 2) (x := v) dX11_inverse_2 rfl ?_
    refine g_iload_n (pc := 3) (x := (i : Int)) dX11_inverse_3 rfl ?_
    refine g_imul (pc := 4) dX11_inverse_4 ?_
    refine g_aload_n (pc := 5) (r := .inl (some x)) dX11_inverse_5 rfl ?_
    refine g_getf (pc := 6) (v := vI (p : Int)) flX11_267 dX11_inverse_6 hx rfl ?_
    refine g_irem (pc := 9) dX11_inverse_9 (by omega) (by omega) (by omega) ?_
    rw [e2]
    refine g_iconst (pc := 10) dX11_inverse_10 ?_
    refine g_aload_n (pc := 11) (r := .inl (some x)) dX11_inverse_11 rfl ?_
    refine g_getf (pc := 12) (v := vI (p : Int)) flX11_267 dX11_inverse_12 hx rfl ?_
    refine g_irem (pc := 15) dX11_inverse_15 (by omega) (by omega) (by omega) ?_
    rw [e1]
    have ew : (i : Int) = pin p v := by omega
    have hone : v * (i : Int) % (p : Int) = 1 := by
      have z : v * (i : Int) % (p : Int) = 1 % (p : Int) := Int.emod_eq_emod_iff_emod_sub_eq_zero.mpr (Int.emod_eq_zero_of_dvd (by rw [Int.mul_comm, ew]; exact w2))
      rw [z]
      exact Int.emod_eq_of_lt (by omega) (by omega)
    refine g_icmp_eqT (pc := 16) (tgt := 25) dX11_inverse_16 (by decide) (by omega) (by omega) (by omega) ?_
    refine g_iload_n (pc := 25) (x := (i : Int)) dX11_inverse_25 rfl ?_
    exact r_int (pc := 26) dX11_inverse_26 rfl rfl (Nat.le_refl _) ⟨rfl, by rw [ew]⟩
  | succ f ih =>
    intro i xi hf ex i1
    subst ex
    have m1 := mul_bd (A := 500) (B := 500) (x := v) (y := (i : Int)) (by omega) (by omega)
    have m2 : 0 ≤ v * (i : Int) := Int.mul_nonneg (by omega) (by omega)
    have e2 : (v * (i : Int)).tmod (p : Int) = v * (i : Int) % (p : Int) := Int.tmod_eq_emod_of_nonneg m2
    have r0 := Int.emod_nonneg (v * (i : Int)) (show (p : Int) ≠ 0 by omega)
    have r1 := Int.emod_lt_of_pos (v * (i : Int)) (show (0 : Int) < p by omega)
    refine g_iload_n (pc := 2) (x := v) dX11_inverse_2 rfl ?_
    refine g_iload_n (pc := 3) (x := (i : Int)) dX11_inverse_3 rfl ?_
    refine g_imul (pc := 4) dX11_inverse_4 ?_
    refine g_aload_n (pc := 5) (r := .inl (some x)) dX11_inverse_5 rfl ?_
    refine g_getf (pc := 6) (v := vI (p : Int)) flX11_267 dX11_inverse_6 hx rfl ?_
    refine g_irem (pc := 9) dX11_inverse_9 (by omega) (by omega) (by omega) ?_
    rw [e2]
    refine g_iconst (pc := 10) dX11_inverse_10 ?_
    refine g_aload_n (pc := 11) (r := .inl (some x)) dX11_inverse_11 rfl ?_
    refine g_getf (pc := 12) (v := vI (p : Int)) flX11_267 dX11_inverse_12 hx rfl ?_
    refine g_irem (pc := 15) dX11_inverse_15 (by omega) (by omega) (by omega) ?_
    rw [e1]
    have hno : ¬ v * (i : Int) % (p : Int) = 1 := fun z => by
      have := inv_one (v := v) hp (a := (i : Int)) (b := pin p v) (by omega) w1 (by rw [Int.mul_comm]; exact ⟨v * (i : Int) / (p : Int), by have := Int.mul_ediv_add_emod (v * (i : Int)) p; omega⟩) w2
      omega
    refine g_icmp_eqF (pc := 16) (tgt := 25) dX11_inverse_16 (by decide) (by omega) (by omega) (by omega) ?_
    refine g_iinc (pc := 19) (x := (i : Int)) (lo2 := [(0, vR x), (1, vI v), (2, vI ((i : Int) + 1))]) dX11_inverse_19 rfl (by decide) rfl ?_
    refine g_goto (pc := 22) (tgt := 2) dX11_inverse_22 (by decide) ?_
    exact ih (i + 1) _ (by omega) (by omega) (by omega)
theorem c_minverse {N d x p ct : Nat} {th wd pm fm mu um : Int} {v : Int} {h : MH} (hp : prm p) (hp2 : p ≤ 499) (hv : 0 < v ∧ v < p) (hx : Hd (0, 0, N) h x (mdl x th wd pm fm mu um (p : Int) (ct : Int))) : Ok mX11_inverse d 0 0 [vR x, vI v] N h (fun r h2 => h2 = h ∧ r = some (vI (pin p v))) := by
  refine Ok.of pfX11_inverse rfl (Nat.le_of_ble_eq_true rfl) (fun Ls sx => ?_)
  show G mX11_inverse (d, 0, 0, Ls, sx) 0 [(0, vR x), (1, vI v)] [] (0, 0, N) h _
  obtain ⟨w1, w2⟩ := pin_ex hp hv
  have p2 := hp.1
  have hn0 : pin p v ≠ 0 := fun z => by
    rw [z, Int.zero_mul] at w2
    have y := Int.dvd_neg.mpr w2
    have := Nat.le_of_dvd (by omega) (Int.ofNat_dvd.mp (show ((p : Nat) : Int) ∣ ((1 : Nat) : Int) from y))
    omega
  refine g_iconst (pc := 0) dX11_inverse_0 ?_
  refine g_istore_n (pc := 1) (lo2 := [(0, vR x), (1, vI v), (2, vI 1)]) dX11_inverse_1 (by decide) rfl ?_
  exact miv_l hp hp2 hv hx (pin p v - 1).toNat 1 _ (by omega) rfl (Nat.le_refl 1)

theorem mcl_1 {N d x p ct q u c l m Ls : Nat} {th wd pm fm mu um : Int} {sx : Nat → Int} {R0 : Nat → Int} {h0 : MH} {Q : Option MV → MR → MH → Prop} (hp : prm p) (hp2 : p ≤ 499) (hq : q < m) (hu : u < m) (hc : c < l) (hml : m + l ≤ 64) (hx0 : Hd (0, 0, N) h0 x (mdl x th wd pm fm mu um (p : Int) (ct : Int))) (hK : ∀ (Rw : Nat → Int) (h : MH), Hd (0, 0, N) h (x + 27) (eA 0 4160 Rw) → (∀ i j, i < m → j ≤ l → Rw (65 * i + j) = if j < (l + 1) then R0 (65 * (tsp u q i) + j) else R0 (65 * i + j)) → (∀ a, a ≠ x + 27 → h a = h0 a) → G mX11_clears (d + 1, 0, 0, Ls, sx) 68 [(0, vR x), (1, vI (q : Int)), (2, vI (u : Int)), (3, vI (c : Int)), (4, vI (l : Int)), (5, vI (m : Int))] [] (0, 0, N) h Q) : ∀ (f k : Nat) (xk : Int) (Rw : Nat → Int) (h : MH), k + f = l + 1 → xk = (k : Int) → Hd (0, 0, N) h (x + 27) (eA 0 4160 Rw) → (∀ i j, i < m → j ≤ l → Rw (65 * i + j) = if j < k then R0 (65 * (tsp u q i) + j) else R0 (65 * i + j)) → (∀ a, a ≠ x + 27 → h a = h0 a) → G mX11_clears (d + 1, 0, 0, Ls, sx) 3 [(0, vR x), (1, vI (q : Int)), (2, vI (u : Int)), (3, vI (c : Int)), (4, vI (l : Int)), (5, vI (m : Int)), (6, vI xk)] [] (0, 0, N) h Q := by
  intro f
  induction f with
  | zero =>
    intro k xk Rw h hf ex hR f1 hk
    have hx := hx0.keep (hk x (by omega))
    refine g_iload (pc := 3) (x := xk) dX11_clears_3 rfl ?_
    refine g_iload (pc := 5) (x := (l : Int)) dX11_clears_5 rfl ?_
    refine g_icmp_gtT (pc := 7) (tgt := 68) dX11_clears_7 (by decide) (by omega) (by omega) (by omega) ?_
    refine g_pick [0, 1, 2, 3, 4, 5] (lo2 := [(0, vR x), (1, vI (q : Int)), (2, vI (u : Int)), (3, vI (c : Int)), (4, vI (l : Int)), (5, vI (m : Int))]) rfl ?_
    exact hK Rw h hR (fun i j z1 z2 => by rw [f1 i j z1 z2, show k = l + 1 by omega]) hk
  | succ f ih =>
    intro k xk Rw h hf ex hR f1 hk
    have hx := hx0.keep (hk x (by omega))
    subst ex
    refine g_iload (pc := 3) (x := (k : Int)) dX11_clears_3 rfl ?_
    refine g_iload (pc := 5) (x := (l : Int)) dX11_clears_5 rfl ?_
    refine g_icmp_gtF (pc := 7) (tgt := 68) dX11_clears_7 (by decide) (by omega) (by omega) (by omega) ?_
    refine g_aload_n (pc := 10) (r := .inl (some x)) dX11_clears_10 rfl ?_
    refine g_getf (pc := 11) (v := vR (x + 27)) flX11_91 dX11_clears_11 hx rfl ?_
    refine g_bipush (pc := 14) dX11_clears_14 (by decide +kernel) ?_
    refine g_iload_n (pc := 16) (x := (q : Int)) dX11_clears_16 rfl ?_
    refine g_imul (pc := 17) dX11_clears_17 ?_
    refine g_iload (pc := 18) (x := (k : Int)) dX11_clears_18 rfl ?_
    refine g_iadd (pc := 20) dX11_clears_20 ?_
    refine g_ialdN (pc := 21) (j := (65 * q) + k) dX11_clears_21 hR (by omega) (by omega) (by omega) ?_
    refine g_istore (pc := 22) (lo2 := [(0, vR x), (1, vI (q : Int)), (2, vI (u : Int)), (3, vI (c : Int)), (4, vI (l : Int)), (5, vI (m : Int)), (6, vI (k : Int)), (7, vI (Rw ((65 * q) + k)))]) dX11_clears_22 (by decide) rfl ?_
    refine g_aload_n (pc := 24) (r := .inl (some x)) dX11_clears_24 rfl ?_
    refine g_getf (pc := 25) (v := vR (x + 27)) flX11_91 dX11_clears_25 hx rfl ?_
    refine g_bipush (pc := 28) dX11_clears_28 (by decide +kernel) ?_
    refine g_iload_n (pc := 30) (x := (q : Int)) dX11_clears_30 rfl ?_
    refine g_imul (pc := 31) dX11_clears_31 ?_
    refine g_iload (pc := 32) (x := (k : Int)) dX11_clears_32 rfl ?_
    refine g_iadd (pc := 34) dX11_clears_34 ?_
    refine g_aload_n (pc := 35) (r := .inl (some x)) dX11_clears_35 rfl ?_
    refine g_getf (pc := 36) (v := vR (x + 27)) flX11_91 dX11_clears_36 hx rfl ?_
    refine g_bipush (pc := 39) dX11_clears_39 (by decide +kernel) ?_
    refine g_iload_n (pc := 41) (x := (u : Int)) dX11_clears_41 rfl ?_
    refine g_imul (pc := 42) dX11_clears_42 ?_
    refine g_iload (pc := 43) (x := (k : Int)) dX11_clears_43 rfl ?_
    refine g_iadd (pc := 45) dX11_clears_45 ?_
    refine g_ialdN (pc := 46) (j := (65 * u) + k) dX11_clears_46 hR (by omega) (by omega) (by omega) ?_
    refine g_iastN (pc := 47) (j := (65 * q) + k) dX11_clears_47 hR (by omega) (by omega) (by omega) ?_
    have hx_1 := hx.ne (e := eA 0 4160 (va_up Rw ((65 * q) + k) (Rw ((65 * u) + k)))) (a := x + 27) (by omega)
    have hR_1 := hR.self (e := eA 0 4160 (va_up Rw ((65 * q) + k) (Rw ((65 * u) + k))))
    refine g_aload_n (pc := 48) (r := .inl (some x)) dX11_clears_48 rfl ?_
    refine g_getf (pc := 49) (v := vR (x + 27)) flX11_91 dX11_clears_49 hx_1 rfl ?_
    refine g_bipush (pc := 52) dX11_clears_52 (by decide +kernel) ?_
    refine g_iload_n (pc := 54) (x := (u : Int)) dX11_clears_54 rfl ?_
    refine g_imul (pc := 55) dX11_clears_55 ?_
    refine g_iload (pc := 56) (x := (k : Int)) dX11_clears_56 rfl ?_
    refine g_iadd (pc := 58) dX11_clears_58 ?_
    refine g_iload (pc := 59) (x := Rw ((65 * q) + k)) dX11_clears_59 rfl ?_
    refine g_iastN (pc := 61) (j := (65 * u) + k) dX11_clears_61 hR_1 (by omega) (by omega) (by omega) ?_
    have hx_2 := hx_1.ne (e := eA 0 4160 (va_up (va_up Rw ((65 * q) + k) (Rw ((65 * u) + k))) ((65 * u) + k) (Rw ((65 * q) + k)))) (a := x + 27) (by omega)
    have hR_2 := hR_1.self (e := eA 0 4160 (va_up (va_up Rw ((65 * q) + k) (Rw ((65 * u) + k))) ((65 * u) + k) (Rw ((65 * q) + k))))
    refine g_iinc (pc := 62) (x := (k : Int)) (lo2 := [(0, vR x), (1, vI (q : Int)), (2, vI (u : Int)), (3, vI (c : Int)), (4, vI (l : Int)), (5, vI (m : Int)), (6, vI ((k : Int) + 1)), (7, vI (Rw ((65 * q) + k)))]) dX11_clears_62 rfl (by decide) rfl ?_
    refine g_goto (pc := 65) (tgt := 3) dX11_clears_65 (by decide) ?_
    refine g_pick [0, 1, 2, 3, 4, 5, 6] (lo2 := [(0, vR x), (1, vI (q : Int)), (2, vI (u : Int)), (3, vI (c : Int)), (4, vI (l : Int)), (5, vI (m : Int)), (6, vI ((k : Int) + 1))]) rfl ?_
    refine ih (k + 1) _ _ _ (by omega) (by omega) hR_2 (fun i j z1 z2 => ?_) (fun a z1 => (va_up_ne _ _ z1).trans ((va_up_ne _ _ z1).trans (hk a z1)))
    have e1 := f1 i j z1 z2
    have e2 := f1 u k hu (by omega)
    have e3 := f1 q k hq (by omega)
    rw [if_neg (by omega)] at e2 e3
    have eqq : 65 * i + j = 65 * u + k ↔ i = u ∧ j = k := by omega
    have eqr : 65 * i + j = 65 * q + k ↔ i = q ∧ j = k := by omega
    by_cases c1 : i = u ∧ j = k
    · rw [eqq.mpr c1, va_up_self, c1.1, c1.2, if_pos (by omega), tsp_l]
      exact e3
    · rw [va_up_ne _ _ (fun y => c1 (eqq.mp y))]
      by_cases c2 : i = q ∧ j = k
      · rw [eqr.mpr c2, va_up_self, c2.1, c2.2, if_pos (by omega), show tsp u q q = u by unfold tsp; split <;> simp_all]
        exact e2
      · rw [va_up_ne _ _ (fun y => c2 (eqr.mp y)), e1]
        by_cases cj : j < k
        · rw [if_pos cj, if_pos (by omega)]
        · rw [if_neg cj]
          by_cases cj2 : j < k + 1
          · rw [if_pos cj2, show tsp u q i = i by unfold tsp; rw [if_neg (by omega), if_neg (by omega)]]
          · rw [if_neg cj2]

theorem mcl_2 {N d x p ct q u c l m Ls : Nat} {th wd pm fm mu um : Int} {sx : Nat → Int} {w : Int} {R0 : Nat → Int} {h0 : MH} {Q : Option MV → MR → MH → Prop} (hp : prm p) (hp2 : p ≤ 499) (hq : q < m) (hu : u < m) (hc : c < l) (hml : m + l ≤ 64) (hw : 0 ≤ w ∧ w < p) (hrg : (∀ i j, i < m → j ≤ l → 0 ≤ R0 (65 * i + j) ∧ R0 (65 * i + j) < p)) (hx0 : Hd (0, 0, N) h0 x (mdl x th wd pm fm mu um (p : Int) (ct : Int))) (hK : ∀ (Rw : Nat → Int) (h : MH), Hd (0, 0, N) h (x + 27) (eA 0 4160 Rw) → (∀ i j, i < m → j ≤ l → Rw (65 * i + j) = if i = u ∧ j < (l + 1) then R0 (65 * u + j) * w % (p : Int) else R0 (65 * i + j)) → (∀ a, a ≠ x + 27 → h a = h0 a) → G mX11_clears (d + 1, 0, 0, Ls, sx) 133 [(0, vR x), (1, vI (q : Int)), (2, vI (u : Int)), (3, vI (c : Int)), (4, vI (l : Int)), (5, vI (m : Int)), (6, vI w)] [] (0, 0, N) h Q) : ∀ (f k : Nat) (xk : Int) (Rw : Nat → Int) (h : MH), k + f = l + 1 → xk = (k : Int) → Hd (0, 0, N) h (x + 27) (eA 0 4160 Rw) → (∀ i j, i < m → j ≤ l → Rw (65 * i + j) = if i = u ∧ j < k then R0 (65 * u + j) * w % (p : Int) else R0 (65 * i + j)) → (∀ a, a ≠ x + 27 → h a = h0 a) → G mX11_clears (d + 1, 0, 0, Ls, sx) 88 [(0, vR x), (1, vI (q : Int)), (2, vI (u : Int)), (3, vI (c : Int)), (4, vI (l : Int)), (5, vI (m : Int)), (6, vI w), (7, vI xk)] [] (0, 0, N) h Q := by
  intro f
  induction f with
  | zero =>
    intro k xk Rw h hf ex hR f1 hk
    have hx := hx0.keep (hk x (by omega))
    refine g_iload (pc := 88) (x := xk) dX11_clears_88 rfl ?_
    refine g_iload (pc := 90) (x := (l : Int)) dX11_clears_90 rfl ?_
    refine g_icmp_gtT (pc := 92) (tgt := 133) dX11_clears_92 (by decide) (by omega) (by omega) (by omega) ?_
    refine g_pick [0, 1, 2, 3, 4, 5, 6] (lo2 := [(0, vR x), (1, vI (q : Int)), (2, vI (u : Int)), (3, vI (c : Int)), (4, vI (l : Int)), (5, vI (m : Int)), (6, vI w)]) rfl ?_
    exact hK Rw h hR (fun i j z1 z2 => by rw [f1 i j z1 z2, show k = l + 1 by omega]) hk
  | succ f ih =>
    intro k xk Rw h hf ex hR f1 hk
    have hx := hx0.keep (hk x (by omega))
    subst ex
    have p2 := hp.1
    have e1 := f1 u k hu (by omega)
    rw [if_neg (by omega)] at e1
    have b1 := hrg u k hu (by omega)
    have m1 := mul_bd (A := 500) (B := 500) (x := R0 (65 * u + k)) (y := w) (by omega) (by omega)
    have m2 : 0 ≤ R0 (65 * u + k) * w := Int.mul_nonneg b1.1 hw.1
    have em : (R0 (65 * u + k) * w).tmod (p : Int) = R0 (65 * u + k) * w % (p : Int) := Int.tmod_eq_emod_of_nonneg m2
    refine g_iload (pc := 88) (x := (k : Int)) dX11_clears_88 rfl ?_
    refine g_iload (pc := 90) (x := (l : Int)) dX11_clears_90 rfl ?_
    refine g_icmp_gtF (pc := 92) (tgt := 133) dX11_clears_92 (by decide) (by omega) (by omega) (by omega) ?_
    refine g_aload_n (pc := 95) (r := .inl (some x)) dX11_clears_95 rfl ?_
    refine g_getf (pc := 96) (v := vR (x + 27)) flX11_91 dX11_clears_96 hx rfl ?_
    refine g_bipush (pc := 99) dX11_clears_99 (by decide +kernel) ?_
    refine g_iload_n (pc := 101) (x := (u : Int)) dX11_clears_101 rfl ?_
    refine g_imul (pc := 102) dX11_clears_102 ?_
    refine g_iload (pc := 103) (x := (k : Int)) dX11_clears_103 rfl ?_
    refine g_iadd (pc := 105) dX11_clears_105 ?_
    refine g_aload_n (pc := 106) (r := .inl (some x)) dX11_clears_106 rfl ?_
    refine g_getf (pc := 107) (v := vR (x + 27)) flX11_91 dX11_clears_107 hx rfl ?_
    refine g_bipush (pc := 110) dX11_clears_110 (by decide +kernel) ?_
    refine g_iload_n (pc := 112) (x := (u : Int)) dX11_clears_112 rfl ?_
    refine g_imul (pc := 113) dX11_clears_113 ?_
    refine g_iload (pc := 114) (x := (k : Int)) dX11_clears_114 rfl ?_
    refine g_iadd (pc := 116) dX11_clears_116 ?_
    refine g_ialdN (pc := 117) (j := (65 * u) + k) dX11_clears_117 hR (by omega) (by omega) (by omega) ?_
    rw [e1]
    refine g_iload (pc := 118) (x := w) dX11_clears_118 rfl ?_
    refine g_imul (pc := 120) dX11_clears_120 ?_
    refine g_aload_n (pc := 121) (r := .inl (some x)) dX11_clears_121 rfl ?_
    refine g_getf (pc := 122) (v := vI (p : Int)) flX11_267 dX11_clears_122 hx rfl ?_
    refine g_irem (pc := 125) dX11_clears_125 (by omega) (by omega) (by omega) ?_
    rw [em]
    refine g_iastN (pc := 126) (j := (65 * u) + k) dX11_clears_126 hR (by omega) (by omega) (by omega) ?_
    have hx_1 := hx.ne (e := eA 0 4160 (va_up Rw ((65 * u) + k) (R0 (65 * u + k) * w % (p : Int)))) (a := x + 27) (by omega)
    have hR_1 := hR.self (e := eA 0 4160 (va_up Rw ((65 * u) + k) (R0 (65 * u + k) * w % (p : Int))))
    refine g_iinc (pc := 127) (x := (k : Int)) (lo2 := [(0, vR x), (1, vI (q : Int)), (2, vI (u : Int)), (3, vI (c : Int)), (4, vI (l : Int)), (5, vI (m : Int)), (6, vI w), (7, vI ((k : Int) + 1))]) dX11_clears_127 rfl (by decide) rfl ?_
    refine g_goto (pc := 130) (tgt := 88) dX11_clears_130 (by decide) ?_
    refine ih (k + 1) _ _ _ (by omega) (by omega) hR_1 (fun i j z1 z2 => ?_) (fun a z1 => (va_up_ne _ _ z1).trans (hk a z1))
    have eqq : 65 * i + j = 65 * u + k ↔ i = u ∧ j = k := by omega
    by_cases c1 : i = u ∧ j = k
    · rw [eqq.mpr c1, va_up_self, if_pos ⟨c1.1, by omega⟩, c1.2]
    · rw [va_up_ne _ _ (fun y => c1 (eqq.mp y)), f1 i j z1 z2]
      by_cases cj : i = u ∧ j < k
      · rw [if_pos cj, if_pos ⟨cj.1, by omega⟩]
      · rw [if_neg cj, if_neg (by omega)]

theorem mcl_3 {N d x p ct q u c l m Ls : Nat} {th wd pm fm mu um : Int} {sx : Nat → Int} {r : Nat} {w tm : Int} {R0 : Nat → Int} {h0 : MH} {Q : Option MV → MR → MH → Prop} (hp : prm p) (hp2 : p ≤ 499) (hq : q < m) (hu : u < m) (hc : c < l) (hml : m + l ≤ 64) (hr : r < m) (hru : r ≠ u) (htm : 0 ≤ tm ∧ tm < p) (hrg : (∀ i j, i < m → j ≤ l → 0 ≤ R0 (65 * i + j) ∧ R0 (65 * i + j) < p)) (hx0 : Hd (0, 0, N) h0 x (mdl x th wd pm fm mu um (p : Int) (ct : Int))) (hK : ∀ (Rw : Nat → Int) (h : MH), Hd (0, 0, N) h (x + 27) (eA 0 4160 Rw) → (∀ i j, i < m → j ≤ l → Rw (65 * i + j) = if i = r ∧ j < (l + 1) then (R0 (65 * r + j) - tm * R0 (65 * u + j)) % (p : Int) else R0 (65 * i + j)) → (∀ a, a ≠ x + 27 → h a = h0 a) → G mX11_clears (d + 1, 0, 0, Ls, sx) 237 [(0, vR x), (1, vI (q : Int)), (2, vI (u : Int)), (3, vI (c : Int)), (4, vI (l : Int)), (5, vI (m : Int)), (6, vI w), (7, vI (r : Int))] [] (0, 0, N) h Q) : ∀ (f k : Nat) (xk : Int) (Rw : Nat → Int) (h : MH), k + f = l + 1 → xk = (k : Int) → Hd (0, 0, N) h (x + 27) (eA 0 4160 Rw) → (∀ i j, i < m → j ≤ l → Rw (65 * i + j) = if i = r ∧ j < k then (R0 (65 * r + j) - tm * R0 (65 * u + j)) % (p : Int) else R0 (65 * i + j)) → (∀ a, a ≠ x + 27 → h a = h0 a) → G mX11_clears (d + 1, 0, 0, Ls, sx) 174 [(0, vR x), (1, vI (q : Int)), (2, vI (u : Int)), (3, vI (c : Int)), (4, vI (l : Int)), (5, vI (m : Int)), (6, vI w), (7, vI (r : Int)), (8, vI tm), (9, vI xk)] [] (0, 0, N) h Q := by
  intro f
  induction f with
  | zero =>
    intro k xk Rw h hf ex hR f1 hk
    have hx := hx0.keep (hk x (by omega))
    refine g_iload (pc := 174) (x := xk) dX11_clears_174 rfl ?_
    refine g_iload (pc := 176) (x := (l : Int)) dX11_clears_176 rfl ?_
    refine g_icmp_gtT (pc := 178) (tgt := 237) dX11_clears_178 (by decide) (by omega) (by omega) (by omega) ?_
    refine g_pick [0, 1, 2, 3, 4, 5, 6, 7] (lo2 := [(0, vR x), (1, vI (q : Int)), (2, vI (u : Int)), (3, vI (c : Int)), (4, vI (l : Int)), (5, vI (m : Int)), (6, vI w), (7, vI (r : Int))]) rfl ?_
    exact hK Rw h hR (fun i j z1 z2 => by rw [f1 i j z1 z2, show k = l + 1 by omega]) hk
  | succ f ih =>
    intro k xk Rw h hf ex hR f1 hk
    have hx := hx0.keep (hk x (by omega))
    subst ex
    have p2 := hp.1
    have e1 := f1 r k hr (by omega)
    have e2 := f1 u k hu (by omega)
    rw [if_neg (by omega)] at e1 e2
    have b1 := hrg r k hr (by omega)
    have b2 := hrg u k hu (by omega)
    have m1 := mul_bd (A := 500) (B := 500) (x := tm) (y := R0 (65 * u + k)) (by omega) (by omega)
    refine g_iload (pc := 174) (x := (k : Int)) dX11_clears_174 rfl ?_
    refine g_iload (pc := 176) (x := (l : Int)) dX11_clears_176 rfl ?_
    refine g_icmp_gtF (pc := 178) (tgt := 237) dX11_clears_178 (by decide) (by omega) (by omega) (by omega) ?_
    refine g_aload_n (pc := 181) (r := .inl (some x)) dX11_clears_181 rfl ?_
    refine g_getf (pc := 182) (v := vR (x + 27)) flX11_91 dX11_clears_182 hx rfl ?_
    refine g_bipush (pc := 185) dX11_clears_185 (by decide +kernel) ?_
    refine g_iload (pc := 187) (x := (r : Int)) dX11_clears_187 rfl ?_
    refine g_imul (pc := 189) dX11_clears_189 ?_
    refine g_iload (pc := 190) (x := (k : Int)) dX11_clears_190 rfl ?_
    refine g_iadd (pc := 192) dX11_clears_192 ?_
    refine g_aload_n (pc := 193) (r := .inl (some x)) dX11_clears_193 rfl ?_
    refine g_getf (pc := 194) (v := vR (x + 27)) flX11_91 dX11_clears_194 hx rfl ?_
    refine g_bipush (pc := 197) dX11_clears_197 (by decide +kernel) ?_
    refine g_iload (pc := 199) (x := (r : Int)) dX11_clears_199 rfl ?_
    refine g_imul (pc := 201) dX11_clears_201 ?_
    refine g_iload (pc := 202) (x := (k : Int)) dX11_clears_202 rfl ?_
    refine g_iadd (pc := 204) dX11_clears_204 ?_
    refine g_ialdN (pc := 205) (j := (65 * r) + k) dX11_clears_205 hR (by omega) (by omega) (by omega) ?_
    rw [e1]
    refine g_iload (pc := 206) (x := tm) dX11_clears_206 rfl ?_
    refine g_aload_n (pc := 208) (r := .inl (some x)) dX11_clears_208 rfl ?_
    refine g_getf (pc := 209) (v := vR (x + 27)) flX11_91 dX11_clears_209 hx rfl ?_
    refine g_bipush (pc := 212) dX11_clears_212 (by decide +kernel) ?_
    refine g_iload_n (pc := 214) (x := (u : Int)) dX11_clears_214 rfl ?_
    refine g_imul (pc := 215) dX11_clears_215 ?_
    refine g_iload (pc := 216) (x := (k : Int)) dX11_clears_216 rfl ?_
    refine g_iadd (pc := 218) dX11_clears_218 ?_
    refine g_ialdN (pc := 219) (j := (65 * u) + k) dX11_clears_219 hR (by omega) (by omega) (by omega) ?_
    rw [e2]
    refine g_imul (pc := 220) dX11_clears_220 ?_
    refine g_isub (pc := 221) dX11_clears_221 ?_
    refine g_i2l (pc := 222) dX11_clears_222 (by omega) ?_
    refine g_aload_n (pc := 223) (r := .inl (some x)) dX11_clears_223 rfl ?_
    refine g_getf (pc := 224) (v := vI (p : Int)) flX11_267 dX11_clears_224 hx rfl ?_
    refine g_callS0 (pc := 227) (as := [vJ ((R0 (65 * r + k)) - (tm * (R0 (65 * u + k)))), vI (p : Int)]) (st := [vI ((65 * (r : Int)) + (k : Int)), vR (x + 27)]) lsX11_116 dX11_clears_227 (Nat.le_of_ble_eq_true rfl) (by omega) (Nat.zero_le _) (Nat.zero_le _) (c_mrestOf (d := d) (by omega) (by omega) (by omega)) ?_
    rintro r9 h1 ⟨e9, e8⟩
    subst e9
    subst e8
    refine g_iastN (pc := 230) (j := (65 * r) + k) dX11_clears_230 hR (by omega) (by omega) (by omega) ?_
    have hx_1 := hx.ne (e := eA 0 4160 (va_up Rw ((65 * r) + k) ((R0 (65 * r + k) - tm * R0 (65 * u + k)) % (p : Int)))) (a := x + 27) (by omega)
    have hR_1 := hR.self (e := eA 0 4160 (va_up Rw ((65 * r) + k) ((R0 (65 * r + k) - tm * R0 (65 * u + k)) % (p : Int))))
    refine g_iinc (pc := 231) (x := (k : Int)) (lo2 := [(0, vR x), (1, vI (q : Int)), (2, vI (u : Int)), (3, vI (c : Int)), (4, vI (l : Int)), (5, vI (m : Int)), (6, vI w), (7, vI (r : Int)), (8, vI tm), (9, vI ((k : Int) + 1))]) dX11_clears_231 rfl (by decide) rfl ?_
    refine g_goto (pc := 234) (tgt := 174) dX11_clears_234 (by decide) ?_
    refine ih (k + 1) _ _ _ (by omega) (by omega) hR_1 (fun i j z1 z2 => ?_) (fun a z1 => (va_up_ne _ _ z1).trans (hk a z1))
    have eqq : 65 * i + j = 65 * r + k ↔ i = r ∧ j = k := by omega
    by_cases c1 : i = r ∧ j = k
    · rw [eqq.mpr c1, va_up_self, if_pos ⟨c1.1, by omega⟩, c1.2]
    · rw [va_up_ne _ _ (fun y => c1 (eqq.mp y)), f1 i j z1 z2]
      by_cases cj : i = r ∧ j < k
      · rw [if_pos cj, if_pos ⟨cj.1, by omega⟩]
      · rw [if_neg cj, if_neg (by omega)]

theorem mcl_4 {N d x p ct q u c l m Ls : Nat} {th wd pm fm mu um : Int} {sx : Nat → Int} {w : Int} {R0 : Nat → Int} {h0 : MH} (hp : prm p) (hp2 : p ≤ 499) (hq : q < m) (hu : u < m) (hc : c < l) (hml : m + l ≤ 64) (hrg : (∀ i j, i < m → j ≤ l → 0 ≤ R0 (65 * i + j) ∧ R0 (65 * i + j) < p)) (hx0 : Hd (0, 0, N) h0 x (mdl x th wd pm fm mu um (p : Int) (ct : Int))) : ∀ (f r : Nat) (xr : Int) (Rw : Nat → Int) (h : MH), r + f = m → xr = (r : Int) → Hd (0, 0, N) h (x + 27) (eA 0 4160 Rw) → (∀ i j, i < m → j ≤ l → Rw (65 * i + j) = if i < r ∧ i ≠ u then (R0 (65 * i + j) - R0 (65 * i + c) * R0 (65 * u + j)) % (p : Int) else R0 (65 * i + j)) → (∀ a, a ≠ x + 27 → h a = h0 a) → G mX11_clears (d + 1, 0, 0, Ls, sx) 136 [(0, vR x), (1, vI (q : Int)), (2, vI (u : Int)), (3, vI (c : Int)), (4, vI (l : Int)), (5, vI (m : Int)), (6, vI w), (7, vI xr)] [] (0, 0, N) h (Pq mX11_clears 0 0 (fun r9 h2 => r9 = none ∧ (∃ R2, Hd (0, 0, N) h2 (x + 27) (eA 0 4160 R2) ∧ ∀ i j, i < m → j ≤ l → R2 (65 * i + j) = if i = u then R0 (65 * u + j) else (R0 (65 * i + j) - R0 (65 * i + c) * R0 (65 * u + j)) % (p : Int)) ∧ ∀ a, a ≠ x + 27 → h2 a = h0 a)) := by
  intro f
  induction f with
  | zero =>
    intro r xr Rw h hf ex hR f1 hk
    have hx := hx0.keep (hk x (by omega))
    refine g_iload (pc := 136) (x := xr) dX11_clears_136 rfl ?_
    refine g_iload (pc := 138) (x := (m : Int)) dX11_clears_138 rfl ?_
    refine g_icmp_geT (pc := 140) (tgt := 243) dX11_clears_140 (by decide) (by omega) (by omega) (by omega) ?_
    refine r_void (pc := 243) dX11_clears_243 rfl rfl (Nat.le_refl _) ⟨rfl, ⟨Rw, hR, fun i j z1 z2 => ?_⟩, hk⟩
    rw [f1 i j z1 z2]
    by_cases e : i = u
    · rw [if_neg (by omega), if_pos e, e]
    · rw [if_pos ⟨by omega, e⟩, if_neg e]
  | succ f ih =>
    intro r xr Rw h hf ex hR f1 hk
    have hx := hx0.keep (hk x (by omega))
    subst ex
    have p2 := hp.1
    have e1 := f1 r c (by omega) (by omega)
    rw [if_neg (by omega)] at e1
    have b1 := hrg r c (by omega) (by omega)
    refine g_iload (pc := 136) (x := (r : Int)) dX11_clears_136 rfl ?_
    refine g_iload (pc := 138) (x := (m : Int)) dX11_clears_138 rfl ?_
    refine g_icmp_geF (pc := 140) (tgt := 243) dX11_clears_140 (by decide) (by omega) (by omega) (by omega) ?_
    refine g_aload_n (pc := 143) (r := .inl (some x)) dX11_clears_143 rfl ?_
    refine g_getf (pc := 144) (v := vR (x + 27)) flX11_91 dX11_clears_144 hx rfl ?_
    refine g_bipush (pc := 147) dX11_clears_147 (by decide +kernel) ?_
    refine g_iload (pc := 149) (x := (r : Int)) dX11_clears_149 rfl ?_
    refine g_imul (pc := 151) dX11_clears_151 ?_
    refine g_iload_n (pc := 152) (x := (c : Int)) dX11_clears_152 rfl ?_
    refine g_iadd (pc := 153) dX11_clears_153 ?_
    refine g_ialdN (pc := 154) (j := (65 * r) + c) dX11_clears_154 hR (by omega) (by omega) (by omega) ?_
    rw [e1]
    refine g_istore (pc := 155) (lo2 := [(0, vR x), (1, vI (q : Int)), (2, vI (u : Int)), (3, vI (c : Int)), (4, vI (l : Int)), (5, vI (m : Int)), (6, vI w), (7, vI (r : Int)), (8, vI (R0 (65 * r + c)))]) dX11_clears_155 (by decide) rfl ?_
    refine g_iload (pc := 157) (x := (r : Int)) dX11_clears_157 rfl ?_
    refine g_iload_n (pc := 159) (x := (u : Int)) dX11_clears_159 rfl ?_
    refine g_icmp_eq (pc := 160) (tgt := 237) dX11_clears_160 (by decide) (by omega) (by omega) (fun hru => ?_) (fun hru => ?_)
    · refine g_iinc (pc := 237) (x := (r : Int)) (lo2 := [(0, vR x), (1, vI (q : Int)), (2, vI (u : Int)), (3, vI (c : Int)), (4, vI (l : Int)), (5, vI (m : Int)), (6, vI w), (7, vI ((r : Int) + 1)), (8, vI (R0 (65 * r + c)))]) dX11_clears_237 rfl (by decide) rfl ?_
      refine g_goto (pc := 240) (tgt := 136) dX11_clears_240 (by decide) ?_
      refine g_pick [0, 1, 2, 3, 4, 5, 6, 7] (lo2 := [(0, vR x), (1, vI (q : Int)), (2, vI (u : Int)), (3, vI (c : Int)), (4, vI (l : Int)), (5, vI (m : Int)), (6, vI w), (7, vI ((r : Int) + 1))]) rfl ?_
      refine ih (r + 1) _ Rw h (by omega) (by omega) hR (fun i j z1 z2 => ?_) hk
      rw [f1 i j z1 z2]
      by_cases cj : i < r ∧ i ≠ u
      · rw [if_pos cj, if_pos ⟨by omega, cj.2⟩]
      · rw [if_neg cj, if_neg (by omega)]
    · refine g_iload (pc := 163) (x := R0 (65 * r + c)) dX11_clears_163 rfl ?_
      refine g_if_ne (pc := 165) (tgt := 171) dX11_clears_165 (by decide) (by omega) (fun htm => ?_) (fun htm => ?_)
      · refine g_iconst (pc := 171) dX11_clears_171 ?_
        refine g_istore (pc := 172) (lo2 := [(0, vR x), (1, vI (q : Int)), (2, vI (u : Int)), (3, vI (c : Int)), (4, vI (l : Int)), (5, vI (m : Int)), (6, vI w), (7, vI (r : Int)), (8, vI (R0 (65 * r + c))), (9, vI 0)]) dX11_clears_172 (by decide) rfl ?_
        have hrg2 : ∀ i j, i < m → j ≤ l → 0 ≤ Rw (65 * i + j) ∧ Rw (65 * i + j) < p := fun i j z1 z2 => by
          rw [f1 i j z1 z2]
          split
          · exact ⟨Int.emod_nonneg _ (by omega), Int.emod_lt_of_pos _ (by omega)⟩
          · exact hrg i j z1 z2
        refine mcl_3 (R0 := Rw) (h0 := h0) hp hp2 hq hu hc hml (show r < m by omega) (by omega) b1 hrg2 hx0 (fun R3 h3 hR3 g3 k3 => ?_) (l + 1) 0 _ Rw h (by omega) rfl hR (fun i j z1 z2 => by rw [if_neg (by omega)]) hk
        refine g_iinc (pc := 237) (x := (r : Int)) (lo2 := [(0, vR x), (1, vI (q : Int)), (2, vI (u : Int)), (3, vI (c : Int)), (4, vI (l : Int)), (5, vI (m : Int)), (6, vI w), (7, vI ((r : Int) + 1))]) dX11_clears_237 rfl (by decide) rfl ?_
        refine g_goto (pc := 240) (tgt := 136) dX11_clears_240 (by decide) ?_
        refine ih (r + 1) _ R3 h3 (by omega) (by omega) hR3 (fun i j z1 z2 => ?_) k3
        have eu := f1 u j hu z2
        have er := f1 r j (by omega) z2
        rw [if_neg (by omega)] at eu er
        rw [g3 i j z1 z2]
        by_cases ci : i = r
        · rw [if_pos ⟨ci, by omega⟩, if_pos ⟨by omega, by omega⟩, er, eu, ci]
        · rw [if_neg (by omega), f1 i j z1 z2]
          by_cases cj : i < r ∧ i ≠ u
          · rw [if_pos cj, if_pos ⟨by omega, cj.2⟩]
          · rw [if_neg cj, if_neg (by omega)]
      · refine g_goto (pc := 168) (tgt := 237) dX11_clears_168 (by decide) ?_
        refine g_iinc (pc := 237) (x := (r : Int)) (lo2 := [(0, vR x), (1, vI (q : Int)), (2, vI (u : Int)), (3, vI (c : Int)), (4, vI (l : Int)), (5, vI (m : Int)), (6, vI w), (7, vI ((r : Int) + 1)), (8, vI (R0 (65 * r + c)))]) dX11_clears_237 rfl (by decide) rfl ?_
        refine g_goto (pc := 240) (tgt := 136) dX11_clears_240 (by decide) ?_
        refine g_pick [0, 1, 2, 3, 4, 5, 6, 7] (lo2 := [(0, vR x), (1, vI (q : Int)), (2, vI (u : Int)), (3, vI (c : Int)), (4, vI (l : Int)), (5, vI (m : Int)), (6, vI w), (7, vI ((r : Int) + 1))]) rfl ?_
        refine ih (r + 1) _ Rw h (by omega) (by omega) hR (fun i j z1 z2 => ?_) hk
        rw [f1 i j z1 z2]
        by_cases cj : i < r ∧ i ≠ u
        · rw [if_pos cj, if_pos ⟨by omega, cj.2⟩]
        · rw [if_neg cj]
          by_cases ci : i < r + 1 ∧ i ≠ u
          · have eir : i = r := by omega
            have bb := hrg i j z1 z2
            rw [eir] at bb
            rw [if_pos ci, eir, htm, Int.zero_mul, Int.sub_zero]
            exact (Int.emod_eq_of_lt bb.1 bb.2).symm
          · rw [if_neg ci]

theorem c_clears {N d x p ct q u c l m : Nat} {th wd pm fm mu um : Int} {R0 : Nat → Int} {h : MH} (hp : prm p) (hp2 : p ≤ 499) (hq : q < m) (hu : u < m) (hc : c < l) (hml : m + l ≤ 64) (huq : u ≤ q) (hne : R0 (65 * q + c) ≠ 0) (hrg : (∀ i j, i < m → j ≤ l → 0 ≤ R0 (65 * i + j) ∧ R0 (65 * i + j) < p)) (hx : Hd (0, 0, N) h x (mdl x th wd pm fm mu um (p : Int) (ct : Int))) (hR : Hd (0, 0, N) h (x + 27) (eA 0 4160 R0)) : Ok mX11_clears (d + 1) 0 0 [vR x, vI (q : Int), vI (u : Int), vI (c : Int), vI (l : Int), vI (m : Int)] N h (fun r9 h2 => r9 = none ∧ (∃ R2, Hd (0, 0, N) h2 (x + 27) (eA 0 4160 R2) ∧ ∀ i j, i < m → j ≤ l → R2 (65 * i + j) = elm p (fun i j => R0 (65 * i + j)) u c q (pin p (R0 (65 * q + c))) i j) ∧ ∀ a, a ≠ x + 27 → h2 a = h a) := by
  refine Ok.of pfX11_clears rfl (Nat.le_of_ble_eq_true rfl) (fun Ls sx => ?_)
  show G mX11_clears (d + 1, 0, 0, Ls, sx) 0 [(0, vR x), (1, vI (q : Int)), (2, vI (u : Int)), (3, vI (c : Int)), (4, vI (l : Int)), (5, vI (m : Int))] [] (0, 0, N) h _
  have p2 := hp.1
  have tlt : ∀ r, r < m → tsp u q r < m := fun r hr => (tsp_ge huq hq hr).2.1
  refine g_iconst (pc := 0) dX11_clears_0 ?_
  refine g_istore (pc := 1) (lo2 := [(0, vR x), (1, vI (q : Int)), (2, vI (u : Int)), (3, vI (c : Int)), (4, vI (l : Int)), (5, vI (m : Int)), (6, vI 0)]) dX11_clears_1 (by decide) rfl ?_
  refine mcl_1 (R0 := R0) (h0 := h) hp hp2 hq hu hc hml hx (fun R1 h1 hR1 f1 k1 => ?_) (l + 1) 0 _ R0 h (by omega) rfl hR (fun i j _ _ => by rw [if_neg (by omega)]) (fun _ _ => rfl)
  have hx1 := hx.keep (k1 x (by omega))
  have f1' : ∀ i j, i < m → j ≤ l → R1 (65 * i + j) = R0 (65 * (tsp u q i) + j) := fun i j z1 z2 => by rw [f1 i j z1 z2, if_pos (by omega)]
  have e0 : R1 (65 * u + c) = R0 (65 * q + c) := by rw [f1' u c hu (by omega), tsp_l]
  have b0 := hrg q c hq (by omega)
  have hrg1 : ∀ i j, i < m → j ≤ l → 0 ≤ R1 (65 * i + j) ∧ R1 (65 * i + j) < p := fun i j z1 z2 => by rw [f1' i j z1 z2]; exact hrg _ j (tlt i z1) z2
  obtain ⟨w1, -⟩ := pin_ex (v := R0 (65 * q + c)) hp (by omega)
  refine g_aload_n (pc := 68) (r := .inl (some x)) dX11_clears_68 rfl ?_
  refine g_aload_n (pc := 69) (r := .inl (some x)) dX11_clears_69 rfl ?_
  refine g_getf (pc := 70) (v := vR (x + 27)) flX11_91 dX11_clears_70 hx1 rfl ?_
  refine g_bipush (pc := 73) dX11_clears_73 (by decide +kernel) ?_
  refine g_iload_n (pc := 75) (x := (u : Int)) dX11_clears_75 rfl ?_
  refine g_imul (pc := 76) dX11_clears_76 ?_
  refine g_iload_n (pc := 77) (x := (c : Int)) dX11_clears_77 rfl ?_
  refine g_iadd (pc := 78) dX11_clears_78 ?_
  refine g_ialdN (pc := 79) (j := (65 * u) + c) dX11_clears_79 hR1 (by omega) (by omega) (by omega) ?_
  rw [e0]
  refine g_callV0 (pc := 80) (as := [vI (R0 (65 * q + c))]) (b := x) (st := []) lvX11_279 dX11_clears_80 hx1 (Nat.le_of_ble_eq_true rfl) (by omega) (Nat.zero_le _) (Nat.zero_le _) (c_minverse (d := d) hp hp2 (by omega) hx1) ?_
  rintro r h2 ⟨e9, e8⟩
  subst e9
  subst e8
  refine g_istore (pc := 83) (lo2 := [(0, vR x), (1, vI (q : Int)), (2, vI (u : Int)), (3, vI (c : Int)), (4, vI (l : Int)), (5, vI (m : Int)), (6, vI (pin p (R0 (65 * q + c))))]) dX11_clears_83 (by decide) rfl ?_
  refine g_iconst (pc := 85) dX11_clears_85 ?_
  refine g_istore (pc := 86) (lo2 := [(0, vR x), (1, vI (q : Int)), (2, vI (u : Int)), (3, vI (c : Int)), (4, vI (l : Int)), (5, vI (m : Int)), (6, vI (pin p (R0 (65 * q + c)))), (7, vI 0)]) dX11_clears_86 (by decide) rfl ?_
  refine mcl_2 (R0 := R1) (h0 := h2) hp hp2 hq hu hc hml w1 hrg1 hx1 (fun R2 h3 hR2 f2 k2 => ?_) (l + 1) 0 _ R1 h2 (by omega) rfl hR1 (fun i j _ _ => by rw [if_neg (by omega)]) (fun _ _ => rfl)
  refine g_iconst (pc := 133) dX11_clears_133 ?_
  refine g_istore (pc := 134) (lo2 := [(0, vR x), (1, vI (q : Int)), (2, vI (u : Int)), (3, vI (c : Int)), (4, vI (l : Int)), (5, vI (m : Int)), (6, vI (pin p (R0 (65 * q + c)))), (7, vI 0)]) dX11_clears_134 (by decide) rfl ?_
  have hrg2 : ∀ i j, i < m → j ≤ l → 0 ≤ R2 (65 * i + j) ∧ R2 (65 * i + j) < p := fun i j z1 z2 => by
    rw [f2 i j z1 z2]
    split
    · exact ⟨Int.emod_nonneg _ (by omega), Int.emod_lt_of_pos _ (by omega)⟩
    · exact hrg1 i j z1 z2
  refine Q_mono (mcl_4 (R0 := R2) (h0 := h3) hp hp2 hq hu hc hml hrg2 (hx1.keep (k2 x (by omega))) m 0 _ R2 h3 (by omega) rfl hR2 (fun i j _ _ => by rw [if_neg (by omega)]) (fun _ _ => rfl)) ?_
  rintro r9 h4 ⟨g0, ⟨R4, g1, g2⟩, g3⟩
  refine ⟨g0, ⟨R4, g1, fun i j z1 z2 => ?_⟩, fun a z => (g3 a z).trans ((k2 a z).trans (k1 a z))⟩
  have eu := f2 u j hu z2
  rw [if_pos ⟨rfl, by omega⟩, f1' u j hu z2, tsp_l] at eu
  rw [g2 i j z1 z2]
  unfold elm
  by_cases ci : i = u
  · rw [if_pos ci, if_pos ci]
    exact eu
  · have ei := f2 i j z1 z2
    have ec := f2 i c z1 (by omega)
    rw [if_neg (fun y => ci y.1), f1' i j z1 z2] at ei
    rw [if_neg (fun y => ci y.1), f1' i c z1 (by omega)] at ec
    rw [if_neg ci, if_neg ci, eu, ei, ec]
