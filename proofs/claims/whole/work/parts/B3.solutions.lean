/-! ===== the reference: solutions ===== -/
def shm (q : Nat) (E : Nat → Int) (r c : Nat) : Nat := Nat.gcd (E (5 * r + c)).toNat q
def bs2 (q n : Nat) (E Rk Pv : Nat → Int) (b : Nat) (rw9 cl9 : Int) : Prop := (b = q ∧ rw9 = -1 ∧ cl9 = -1) ∨ ∃ a c : Nat, (a < n ∧ Rk a = 0) ∧ (c < n ∧ Pv c = 0) ∧ rw9 = (a : Int) ∧ cl9 = (c : Int) ∧ b = shm q E a c ∧ b < q

theorem sol_l1 {N d x n q Ls : Nat} {K xs : Int} {th wd pm fm mu um pr ts : Int} {sx E Rk Pv : Nat → Int} {h : MH} {Q : Option MV → MR → MH → Prop} (hn : n ≤ 4) (hq : 0 < q) (hq2 : q ≤ 500) (hRk : ∀ r, r < 4 → Rk r = 0 ∨ Rk r = 1) (hPk : ∀ r, r < 4 → Pv r = 0 ∨ Pv r = 1) (hEr : ∀ r c, r < n → c ≤ n → 0 ≤ E (5 * r + c) ∧ E (5 * r + c) < q) (hx : Hd (0, 0, N) h x (mdl x th wd pm fm mu um pr ts)) (hE : Hd (0, 0, N) h (x + 19) (eA 0 20 E)) (hR : Hd (0, 0, N) h (x + 20) (eA 2 4 Rk)) (hPv : Hd (0, 0, N) h (x + 21) (eA 2 4 Pv)) {r : Nat} (hr : r < n) (hK : ∀ (b2 : Nat) (rw2 cl2 : Int), b2 ≤ q → bs2 q n E Rk Pv b2 rw2 cl2 → (∀ r2 c2, (r2 < n ∧ Rk r2 = 0) → (c2 < n ∧ Pv c2 = 0) → (r2 < r + 1) → b2 ≤ shm q E r2 c2) → G mX11_solutions (d + 2, 0, 0, Ls, sx) 131 [(0, vR x), (1, vI (n : Int)), (2, vI (q : Int)), (3, vJ K), (5, vI xs), (6, vI ((b2 : Nat) : Int)), (7, vI rw2), (8, vI cl2), (9, vI (r : Int))] [] (0, 0, N) h Q) : ∀ (f c bb : Nat) (xc rw9 cl9 : Int), c + f = n → xc = (c : Int) → bb ≤ q → bs2 q n E Rk Pv bb rw9 cl9 → (∀ r2 c2, (r2 < n ∧ Rk r2 = 0) → (c2 < n ∧ Pv c2 = 0) → (r2 < r ∨ (r2 = r ∧ c2 < c)) → bb ≤ shm q E r2 c2) → G mX11_solutions (d + 2, 0, 0, Ls, sx) 59 [(0, vR x), (1, vI (n : Int)), (2, vI (q : Int)), (3, vJ K), (5, vI xs), (6, vI (bb : Int)), (7, vI rw9), (8, vI cl9), (9, vI (r : Int)), (10, vI xc)] [] (0, 0, N) h Q := by
  intro f
  induction f with
  | zero =>
    intro c bb xc rw9 cl9 hf ex hbq hb hp
    refine g_iload (pc := 59) (x := xc) dX11_solutions_59 rfl ?_
    refine g_iload_n (pc := 61) (x := (n : Int)) dX11_solutions_61 rfl ?_
    refine g_icmp_geT (pc := 62) (tgt := 131) dX11_solutions_62 (by decide) (by omega) (by omega) (by omega) ?_
    refine g_pick [0, 1, 2, 3, 4, 5, 6, 7, 8] (lo2 := [(0, vR x), (1, vI (n : Int)), (2, vI (q : Int)), (3, vJ K), (5, vI xs), (6, vI (bb : Int)), (7, vI rw9), (8, vI cl9), (9, vI (r : Int))]) rfl ?_
    exact hK bb rw9 cl9 hbq hb (fun r2 c2 z1 z2 z3 => hp r2 c2 z1 z2 (by omega))
  | succ f ih =>
    intro c bb xc rw9 cl9 hf ex hbq hb hp
    have b1 := hEr r c hr (by omega)
    have rr := hRk r (by omega)
    have pp := hPk c (by omega)
    obtain ⟨v, ev⟩ : ∃ v : Nat, E (5 * r + c) = (v : Int) := ⟨(E (5 * r + c)).toNat, by omega⟩
    have es : shm q E r c = Nat.gcd v q := by unfold shm; rw [ev, Int.toNat_natCast]
    have g1 := Nat.gcd_le_right v hq
    refine g_iload (pc := 59) (x := xc) dX11_solutions_59 rfl ?_
    refine g_iload_n (pc := 61) (x := (n : Int)) dX11_solutions_61 rfl ?_
    refine g_icmp_geF (pc := 62) (tgt := 131) dX11_solutions_62 (by decide) (by omega) (by omega) (by omega) ?_
    refine g_aload_n (pc := 65) (r := .inl (some x)) dX11_solutions_65 rfl ?_
    refine g_getf (pc := 66) (v := vR (x + 19)) flX11_67 dX11_solutions_66 hx rfl ?_
    refine g_iconst (pc := 69) dX11_solutions_69 ?_
    refine g_iload (pc := 70) (x := (r : Int)) dX11_solutions_70 rfl ?_
    refine g_imul (pc := 72) dX11_solutions_72 ?_
    refine g_iload (pc := 73) (x := xc) dX11_solutions_73 rfl ?_
    refine g_iadd (pc := 75) dX11_solutions_75 ?_
    refine g_ialdN (pc := 76) (j := 5 * r + c) dX11_solutions_76 hE (by omega) (by omega) (by omega) ?_
    rw [ev]
    refine g_iload_n (pc := 77) (x := (q : Int)) dX11_solutions_77 rfl ?_
    refine g_callS0 (pc := 78) (as := [vI (v : Int), vI (q : Int)]) (st := []) lsX11_154 dX11_solutions_78 (Nat.le_of_ble_eq_true rfl) (by omega) (Nat.zero_le _) (Nat.zero_le _) (c_common (d := d + 1) (x := v) (y := q) (by omega) (by omega)) ?_
    rintro r8 h2 ⟨e9, e8⟩
    subst e9
    subst e8
    rw [← es] at g1 ⊢
    refine g_istore (pc := 81) (lo2 := [(0, vR x), (1, vI (n : Int)), (2, vI (q : Int)), (3, vJ K), (5, vI xs), (6, vI (bb : Int)), (7, vI rw9), (8, vI cl9), (9, vI (r : Int)), (10, vI xc), (11, vI ((shm q E r c : Nat) : Int))]) dX11_solutions_81 (by decide) rfl ?_
    refine g_aload_n (pc := 83) (r := .inl (some x)) dX11_solutions_83 rfl ?_
    refine g_getf (pc := 84) (v := vR (x + 20)) flX11_70 dX11_solutions_84 hx rfl ?_
    refine g_iload (pc := 87) (x := (r : Int)) dX11_solutions_87 rfl ?_
    refine g_zaldN (pc := 89) (j := r) dX11_solutions_89 hR (by omega) (by omega) (by omega) ?_
    refine g_if_ne (pc := 90) (tgt := 125) dX11_solutions_90 (by decide) (by omega) (fun h7 => ?_) (fun h7 => ?_)
    · refine g_iinc (pc := 125) (x := xc) (lo2 := [(0, vR x), (1, vI (n : Int)), (2, vI (q : Int)), (3, vJ K), (5, vI xs), (6, vI (bb : Int)), (7, vI rw9), (8, vI cl9), (9, vI (r : Int)), (10, vI (xc + 1)), (11, vI ((shm q E r c : Nat) : Int))]) dX11_solutions_125 rfl (by decide) rfl ?_
      refine g_goto (pc := 128) (tgt := 59) dX11_solutions_128 (by decide) ?_
      refine g_pick [0, 1, 2, 3, 4, 5, 6, 7, 8, 9] (lo2 := [(0, vR x), (1, vI (n : Int)), (2, vI (q : Int)), (3, vJ K), (5, vI xs), (6, vI (bb : Int)), (7, vI rw9), (8, vI cl9), (9, vI (r : Int)), (10, vI (xc + 1))]) rfl ?_
      refine ih (c + 1) bb _ rw9 cl9 (by omega) (by omega) hbq hb (fun r2 c2 z1 z2 z3 => ?_)
      by_cases hcc : r2 = r ∧ c2 = c
      · exfalso
        rw [hcc.1] at z1
        rw [hcc.2] at z2
        omega
      · exact hp r2 c2 z1 z2 (by omega)
    · refine g_aload_n (pc := 93) (r := .inl (some x)) dX11_solutions_93 rfl ?_
      refine g_getf (pc := 94) (v := vR (x + 21)) flX11_73 dX11_solutions_94 hx rfl ?_
      refine g_iload (pc := 97) (x := xc) dX11_solutions_97 rfl ?_
      refine g_zaldN (pc := 99) (j := c) dX11_solutions_99 hPv (by omega) (by omega) (by omega) ?_
      refine g_if_ne (pc := 100) (tgt := 125) dX11_solutions_100 (by decide) (by omega) (fun h8 => ?_) (fun h8 => ?_)
      · refine g_iinc (pc := 125) (x := xc) (lo2 := [(0, vR x), (1, vI (n : Int)), (2, vI (q : Int)), (3, vJ K), (5, vI xs), (6, vI (bb : Int)), (7, vI rw9), (8, vI cl9), (9, vI (r : Int)), (10, vI (xc + 1)), (11, vI ((shm q E r c : Nat) : Int))]) dX11_solutions_125 rfl (by decide) rfl ?_
        refine g_goto (pc := 128) (tgt := 59) dX11_solutions_128 (by decide) ?_
        refine g_pick [0, 1, 2, 3, 4, 5, 6, 7, 8, 9] (lo2 := [(0, vR x), (1, vI (n : Int)), (2, vI (q : Int)), (3, vJ K), (5, vI xs), (6, vI (bb : Int)), (7, vI rw9), (8, vI cl9), (9, vI (r : Int)), (10, vI (xc + 1))]) rfl ?_
        refine ih (c + 1) bb _ rw9 cl9 (by omega) (by omega) hbq hb (fun r2 c2 z1 z2 z3 => ?_)
        by_cases hcc : r2 = r ∧ c2 = c
        · exfalso
          rw [hcc.1] at z1
          rw [hcc.2] at z2
          omega
        · exact hp r2 c2 z1 z2 (by omega)
      · refine g_iload (pc := 103) (x := ((shm q E r c : Nat) : Int)) dX11_solutions_103 rfl ?_
        refine g_iload (pc := 105) (x := (bb : Int)) dX11_solutions_105 rfl ?_
        refine g_icmp_lt (pc := 107) (tgt := 113) dX11_solutions_107 (by decide) (by omega) (by omega) (fun h6 => ?_) (fun h6 => ?_)
        · refine g_iload (pc := 113) (x := ((shm q E r c : Nat) : Int)) dX11_solutions_113 rfl ?_
          refine g_istore (pc := 115) (lo2 := [(0, vR x), (1, vI (n : Int)), (2, vI (q : Int)), (3, vJ K), (5, vI xs), (6, vI ((shm q E r c : Nat) : Int)), (7, vI rw9), (8, vI cl9), (9, vI (r : Int)), (10, vI xc), (11, vI ((shm q E r c : Nat) : Int))]) dX11_solutions_115 (by decide) rfl ?_
          refine g_iload (pc := 117) (x := (r : Int)) dX11_solutions_117 rfl ?_
          refine g_istore (pc := 119) (lo2 := [(0, vR x), (1, vI (n : Int)), (2, vI (q : Int)), (3, vJ K), (5, vI xs), (6, vI ((shm q E r c : Nat) : Int)), (7, vI (r : Int)), (8, vI cl9), (9, vI (r : Int)), (10, vI xc), (11, vI ((shm q E r c : Nat) : Int))]) dX11_solutions_119 (by decide) rfl ?_
          refine g_iload (pc := 121) (x := xc) dX11_solutions_121 rfl ?_
          refine g_istore (pc := 123) (lo2 := [(0, vR x), (1, vI (n : Int)), (2, vI (q : Int)), (3, vJ K), (5, vI xs), (6, vI ((shm q E r c : Nat) : Int)), (7, vI (r : Int)), (8, vI xc), (9, vI (r : Int)), (10, vI xc), (11, vI ((shm q E r c : Nat) : Int))]) dX11_solutions_123 (by decide) rfl ?_
          refine g_iinc (pc := 125) (x := xc) (lo2 := [(0, vR x), (1, vI (n : Int)), (2, vI (q : Int)), (3, vJ K), (5, vI xs), (6, vI ((shm q E r c : Nat) : Int)), (7, vI (r : Int)), (8, vI xc), (9, vI (r : Int)), (10, vI (xc + 1)), (11, vI ((shm q E r c : Nat) : Int))]) dX11_solutions_125 rfl (by decide) rfl ?_
          refine g_goto (pc := 128) (tgt := 59) dX11_solutions_128 (by decide) ?_
          refine g_pick [0, 1, 2, 3, 4, 5, 6, 7, 8, 9] (lo2 := [(0, vR x), (1, vI (n : Int)), (2, vI (q : Int)), (3, vJ K), (5, vI xs), (6, vI ((shm q E r c : Nat) : Int)), (7, vI (r : Int)), (8, vI xc), (9, vI (r : Int)), (10, vI (xc + 1))]) rfl ?_
          refine ih (c + 1) (shm q E r c) _ _ _ (by omega) (by omega) (by omega) (Or.inr ⟨r, c, ⟨hr, by omega⟩, ⟨by omega, by omega⟩, rfl, by omega, rfl, by omega⟩) (fun r2 c2 z1 z2 z3 => ?_)
          by_cases hcc : r2 = r ∧ c2 = c
          · rw [hcc.1, hcc.2]
            exact Nat.le_refl _
          · have := hp r2 c2 z1 z2 (by omega)
            omega
        · refine g_goto (pc := 110) (tgt := 125) dX11_solutions_110 (by decide) ?_
          refine g_iinc (pc := 125) (x := xc) (lo2 := [(0, vR x), (1, vI (n : Int)), (2, vI (q : Int)), (3, vJ K), (5, vI xs), (6, vI (bb : Int)), (7, vI rw9), (8, vI cl9), (9, vI (r : Int)), (10, vI (xc + 1)), (11, vI ((shm q E r c : Nat) : Int))]) dX11_solutions_125 rfl (by decide) rfl ?_
          refine g_goto (pc := 128) (tgt := 59) dX11_solutions_128 (by decide) ?_
          refine g_pick [0, 1, 2, 3, 4, 5, 6, 7, 8, 9] (lo2 := [(0, vR x), (1, vI (n : Int)), (2, vI (q : Int)), (3, vJ K), (5, vI xs), (6, vI (bb : Int)), (7, vI rw9), (8, vI cl9), (9, vI (r : Int)), (10, vI (xc + 1))]) rfl ?_
          refine ih (c + 1) bb _ rw9 cl9 (by omega) (by omega) hbq hb (fun r2 c2 z1 z2 z3 => ?_)
          by_cases hcc : r2 = r ∧ c2 = c
          · rw [hcc.1, hcc.2]
            omega
          · exact hp r2 c2 z1 z2 (by omega)

theorem sol_l2 {N d x n q Ls : Nat} {K xs : Int} {th wd pm fm mu um pr ts : Int} {sx E Rk Pv : Nat → Int} {h : MH} {Q : Option MV → MR → MH → Prop} (hn : n ≤ 4) (hq : 0 < q) (hq2 : q ≤ 500) (hRk : ∀ r, r < 4 → Rk r = 0 ∨ Rk r = 1) (hPk : ∀ r, r < 4 → Pv r = 0 ∨ Pv r = 1) (hEr : ∀ r c, r < n → c ≤ n → 0 ≤ E (5 * r + c) ∧ E (5 * r + c) < q) (hx : Hd (0, 0, N) h x (mdl x th wd pm fm mu um pr ts)) (hE : Hd (0, 0, N) h (x + 19) (eA 0 20 E)) (hR : Hd (0, 0, N) h (x + 20) (eA 2 4 Rk)) (hPv : Hd (0, 0, N) h (x + 21) (eA 2 4 Pv)) (hK : ∀ (b2 : Nat) (rw2 cl2 : Int), b2 ≤ q → bs2 q n E Rk Pv b2 rw2 cl2 → (∀ r2 c2, (r2 < n ∧ Rk r2 = 0) → (c2 < n ∧ Pv c2 = 0) → (r2 < n) → b2 ≤ shm q E r2 c2) → G mX11_solutions (d + 2, 0, 0, Ls, sx) 137 [(0, vR x), (1, vI (n : Int)), (2, vI (q : Int)), (3, vJ K), (5, vI xs), (6, vI ((b2 : Nat) : Int)), (7, vI rw2), (8, vI cl2)] [] (0, 0, N) h Q) : ∀ (f r bb : Nat) (xr rw9 cl9 : Int), r + f = n → xr = (r : Int) → bb ≤ q → bs2 q n E Rk Pv bb rw9 cl9 → (∀ r2 c2, (r2 < n ∧ Rk r2 = 0) → (c2 < n ∧ Pv c2 = 0) → (r2 < r) → bb ≤ shm q E r2 c2) → G mX11_solutions (d + 2, 0, 0, Ls, sx) 50 [(0, vR x), (1, vI (n : Int)), (2, vI (q : Int)), (3, vJ K), (5, vI xs), (6, vI (bb : Int)), (7, vI rw9), (8, vI cl9), (9, vI xr)] [] (0, 0, N) h Q := by
  intro f
  induction f with
  | zero =>
    intro r bb xr rw9 cl9 hf ex hbq hb hp
    refine g_iload (pc := 50) (x := xr) dX11_solutions_50 rfl ?_
    refine g_iload_n (pc := 52) (x := (n : Int)) dX11_solutions_52 rfl ?_
    refine g_icmp_geT (pc := 53) (tgt := 137) dX11_solutions_53 (by decide) (by omega) (by omega) (by omega) ?_
    refine g_pick [0, 1, 2, 3, 4, 5, 6, 7] (lo2 := [(0, vR x), (1, vI (n : Int)), (2, vI (q : Int)), (3, vJ K), (5, vI xs), (6, vI (bb : Int)), (7, vI rw9), (8, vI cl9)]) rfl ?_
    exact hK bb rw9 cl9 hbq hb (fun r2 c2 z1 z2 z3 => hp r2 c2 z1 z2 (by omega))
  | succ f ih =>
    intro r bb xr rw9 cl9 hf ex hbq hb hp
    refine g_iload (pc := 50) (x := xr) dX11_solutions_50 rfl ?_
    refine g_iload_n (pc := 52) (x := (n : Int)) dX11_solutions_52 rfl ?_
    refine g_icmp_geF (pc := 53) (tgt := 137) dX11_solutions_53 (by decide) (by omega) (by omega) (by omega) ?_
    refine g_iconst (pc := 56) dX11_solutions_56 ?_
    refine g_istore (pc := 57) (lo2 := [(0, vR x), (1, vI (n : Int)), (2, vI (q : Int)), (3, vJ K), (5, vI xs), (6, vI (bb : Int)), (7, vI rw9), (8, vI cl9), (9, vI xr), (10, vI 0)]) dX11_solutions_57 (by decide) rfl ?_
    subst ex
    refine sol_l1 hn hq hq2 hRk hPk hEr hx hE hR hPv (show r < n by omega) (fun b2 rw2 cl2 y1 y2 y3 => ?_) n 0 bb _ rw9 cl9 (by omega) rfl hbq hb (fun r2 c2 z1 z2 z3 => hp r2 c2 z1 z2 (by omega))
    refine g_iinc (pc := 131) (x := (r : Int)) (lo2 := [(0, vR x), (1, vI (n : Int)), (2, vI (q : Int)), (3, vJ K), (5, vI xs), (6, vI ((b2 : Nat) : Int)), (7, vI rw2), (8, vI cl2), (9, vI ((r : Int) + 1))]) dX11_solutions_131 rfl (by decide) rfl ?_
    refine g_goto (pc := 134) (tgt := 50) dX11_solutions_134 (by decide) ?_
    exact ih (r + 1) b2 _ rw2 cl2 (by omega) (by omega) y1 y2 y3

theorem shm_dvd {p k q n b : Nat} {E Rk Pv : Nat → Int} (hp : prm p) (hq : q = p ^ k) (hEr : ∀ r c, r < n → c ≤ n → 0 ≤ E (5 * r + c) ∧ E (5 * r + c) < q) (hbq : b ∣ q) (hmin : ∀ r2 c2, (r2 < n ∧ Rk r2 = 0) → (c2 < n ∧ Pv c2 = 0) → (r2 < n) → b ≤ shm q E r2 c2) {r2 c2 : Nat} (h1 : r2 < n ∧ Rk r2 = 0) (h2 : c2 < n ∧ Pv c2 = 0) : (b : Int) ∣ E (5 * r2 + c2) := by
  have hd : b ∣ shm q E r2 c2 := by
    refine ppow_le hp (k := k) ?_ ?_ (hmin r2 c2 h1 h2 h1.1)
    · rw [← hq]
      exact hbq
    · rw [← hq]
      exact Nat.gcd_dvd_right _ _
  have hd2 : b ∣ (E (5 * r2 + c2)).toNat := Nat.dvd_trans hd (Nat.gcd_dvd_left _ _)
  have b1 := hEr r2 c2 h1.1 (by omega)
  have := Int.ofNat_dvd.mpr hd2
  rw [show (((E (5 * r2 + c2)).toNat : Nat) : Int) = E (5 * r2 + c2) by omega] at this
  exact this
theorem dvd_mod_self {q X : Int} (h : q ∣ X) : q ∣ X % q := by
  rw [Int.emod_eq_zero_of_dvd h]
  exact Int.dvd_zero _
theorem up01 {Rk : Nat → Int} (h : ∀ r, r < 4 → Rk r = 0 ∨ Rk r = 1) (a : Nat) : ∀ r, r < 4 → va_up Rk a 1 r = 0 ∨ va_up Rk a 1 r = 1 := fun r hr => by
  by_cases e : r = a
  · rw [e, va_up_self]
    exact Or.inr rfl
  · rw [va_up_ne _ _ e]
    exact h r hr

theorem sol_l3 {N d x n q p k tot Ls : Nat} {th wd pm fm mu um pr ts : Int} {sx : Nat → Int} {h0 : MH} (n1 : 1 ≤ n) (hn : n ≤ 4) (hp : prm p) (eq : q = p ^ k) (hq1 : 2 ≤ q) (hq2 : q ≤ 500) (hx0 : Hd (0, 0, N) h0 x (mdl x th wd pm fm mu um pr ts)) : ∀ (f s K : Nat) (xs : Int) (E Rk Pv : Nat → Int) (h : MH), s + f = n → xs = (s : Int) → (∀ r, r < 4 → Rk r = 0 ∨ Rk r = 1) → (∀ r, r < 4 → Pv r = 0 ∨ Pv r = 1) → (cof n Rk).length = n - s → (cof n Pv).length = n - s → K * SPx q n Rk Pv (fun r c => E (5 * r + c)) = tot → (∀ r c, r < n → c ≤ n → 0 ≤ E (5 * r + c) ∧ E (5 * r + c) < q) → Hd (0, 0, N) h (x + 19) (eA 0 20 E) → Hd (0, 0, N) h (x + 20) (eA 2 4 Rk) → Hd (0, 0, N) h (x + 21) (eA 2 4 Pv) → (∀ a, a ≠ x + 19 → a ≠ x + 20 → a ≠ x + 21 → h a = h0 a) → G mX11_solutions (d + 2, 0, 0, Ls, sx) 32 [(0, vR x), (1, vI (n : Int)), (2, vI (q : Int)), (3, vJ (K : Int)), (5, vI xs)] [] (0, 0, N) h (Pq mX11_solutions 0 0 (fun r9 h2 => r9 = some (vJ (tot : Int)) ∧ (∃ E2, h2 (x + 19) = eA 0 20 E2) ∧ (∃ R2, h2 (x + 20) = eA 2 4 R2) ∧ (∃ P2, h2 (x + 21) = eA 2 4 P2) ∧ ∀ a, a ≠ x + 19 → a ≠ x + 20 → a ≠ x + 21 → h2 a = h0 a)) := by
  intro f
  induction f with
  | zero =>
    intro s K xs E Rk Pv h hf ex hRk hPk hcr hcp ht hEr hE hR hPv hk
    have hx := hx0.keep (hk x (by omega) (by omega) (by omega))
    have hz : ∀ r, r < n → ¬ Rk r = 0 := fun r r1 r2 => by
      have hm := cof_mem.mpr ⟨r1, r2⟩
      rw [List.eq_nil_of_length_eq_zero (show (cof n Rk).length = 0 by omega)] at hm
      cases hm
    rw [SPx_end hz (by omega), Nat.mul_one] at ht
    refine g_iload (pc := 32) (x := xs) dX11_solutions_32 rfl ?_
    refine g_iload_n (pc := 34) (x := (n : Int)) dX11_solutions_34 rfl ?_
    refine g_icmp_geT (pc := 35) (tgt := 215) dX11_solutions_35 (by decide) (by omega) (by omega) (by omega) ?_
    refine g_lload_n (pc := 215) (x := (K : Int)) dX11_solutions_215 rfl ?_
    rw [ht]
    exact r_long (pc := 216) dX11_solutions_216 rfl rfl (Nat.le_refl _) ⟨rfl, ⟨E, hE.2⟩, ⟨Rk, hR.2⟩, ⟨Pv, hPv.2⟩, hk⟩
  | succ f ih =>
    intro s K xs E Rk Pv h hf ex hRk hPk hcr hcp ht hEr hE hR hPv hk
    have hx := hx0.keep (hk x (by omega) (by omega) (by omega))
    refine g_iload (pc := 32) (x := xs) dX11_solutions_32 rfl ?_
    refine g_iload_n (pc := 34) (x := (n : Int)) dX11_solutions_34 rfl ?_
    refine g_icmp_geF (pc := 35) (tgt := 215) dX11_solutions_35 (by decide) (by omega) (by omega) (by omega) ?_
    refine g_iload_n (pc := 38) (x := (q : Int)) dX11_solutions_38 rfl ?_
    refine g_istore (pc := 39) (lo2 := [(0, vR x), (1, vI (n : Int)), (2, vI (q : Int)), (3, vJ (K : Int)), (5, vI xs), (6, vI (q : Int))]) dX11_solutions_39 (by decide) rfl ?_
    refine g_iconst (pc := 41) dX11_solutions_41 ?_
    refine g_istore (pc := 42) (lo2 := [(0, vR x), (1, vI (n : Int)), (2, vI (q : Int)), (3, vJ (K : Int)), (5, vI xs), (6, vI (q : Int)), (7, vI (-1))]) dX11_solutions_42 (by decide) rfl ?_
    refine g_iconst (pc := 44) dX11_solutions_44 ?_
    refine g_istore (pc := 45) (lo2 := [(0, vR x), (1, vI (n : Int)), (2, vI (q : Int)), (3, vJ (K : Int)), (5, vI xs), (6, vI (q : Int)), (7, vI (-1)), (8, vI (-1))]) dX11_solutions_45 (by decide) rfl ?_
    refine g_iconst (pc := 47) dX11_solutions_47 ?_
    refine g_istore (pc := 48) (lo2 := [(0, vR x), (1, vI (n : Int)), (2, vI (q : Int)), (3, vJ (K : Int)), (5, vI xs), (6, vI (q : Int)), (7, vI (-1)), (8, vI (-1)), (9, vI 0)]) dX11_solutions_48 (by decide) rfl ?_
    refine sol_l2 (Q := _) hn (by omega) hq2 hRk hPk hEr hx hE hR hPv (fun b rw2 cl2 y1 y2 y3 => ?_) n 0 q _ _ _ (by omega) rfl (Nat.le_refl q) (Or.inl ⟨rfl, rfl, rfl⟩) (fun r2 c2 z1 z2 z3 => absurd z3 (Nat.not_lt_zero r2))
    rcases y2 with ⟨e1, e2, e3⟩ | ⟨ro, co, hro, hco, e2, e3, e4, e5⟩
    · subst e2
      subst e3
      have hall : ∀ r, r < n → Rk r = 0 → ∀ c, c < n → Pv c = 0 → (q : Int) ∣ E (5 * r + c) := fun r r1 r2 c c1 c2 => shm_dvd hp eq hEr (Nat.dvd_refl q) (fun r2 c2 w1 w2 w3 => by have := y3 r2 c2 w1 w2 w3; omega) ⟨r1, r2⟩ ⟨c1, c2⟩
      obtain ⟨st1, st2⟩ := SPx_stays (F := fun r c => E (5 * r + c)) hall
      refine g_iload (pc := 137) (x := (-1)) dX11_solutions_137 rfl ?_
      refine g_iconst (pc := 139) dX11_solutions_139 ?_
      refine g_icmp_neF (pc := 140) (tgt := 156) dX11_solutions_140 (by decide) (by omega) (by omega) (by omega) ?_
      refine g_lload_n (pc := 143) (x := (K : Int)) dX11_solutions_143 rfl ?_
      refine g_aload_n (pc := 144) (r := .inl (some x)) dX11_solutions_144 rfl ?_
      refine g_iload_n (pc := 145) (x := (n : Int)) dX11_solutions_145 rfl ?_
      refine g_iload_n (pc := 146) (x := (q : Int)) dX11_solutions_146 rfl ?_
      refine g_iload_n (pc := 147) (x := (n : Int)) dX11_solutions_147 rfl ?_
      refine g_iload (pc := 148) (x := xs) dX11_solutions_148 rfl ?_
      refine g_isub (pc := 150) dX11_solutions_150 ?_
      rw [show (n : Int) - xs = ((n - s : Nat) : Int) by omega]
      refine g_callV0 (pc := 151) (as := [vI (n : Int), vI (q : Int), vI ((n - s : Nat) : Int)]) (b := x) (st := [vJ (K : Int)]) lvX11_214 dX11_solutions_151 hx (Nat.le_of_ble_eq_true rfl) (by omega) (Nat.zero_le _) (Nat.zero_le _) (c_stays (d := d + 1) (lf := n - s) hn (by omega) hq2 (by omega) hRk hEr hx hE hR) ?_
      rintro r8 h2 ⟨e9, hres⟩
      subst e9
      rcases hres with ⟨hyes, rfl⟩ | ⟨hno, rfl⟩
      · refine g_lmul (pc := 154) dX11_solutions_154 ?_
        rw [← Int.natCast_mul, ← hcp, ← st1 hyes, ht]
        exact r_long (pc := 155) dX11_solutions_155 rfl rfl (Nat.le_refl _) ⟨rfl, ⟨E, hE.2⟩, ⟨Rk, hR.2⟩, ⟨Pv, hPv.2⟩, hk⟩
      · refine g_lmul (pc := 154) dX11_solutions_154 ?_
        rw [Int.mul_zero]
        rw [st2 hno, Nat.mul_zero] at ht
        rw [show (0 : Int) = (tot : Int) by omega]
        exact r_long (pc := 155) dX11_solutions_155 rfl rfl (Nat.le_refl _) ⟨rfl, ⟨E, hE.2⟩, ⟨Rk, hR.2⟩, ⟨Pv, hPv.2⟩, hk⟩
    · subst e2
      subst e3
      have bdq : b ∣ q := by rw [e4]; exact Nat.gcd_dvd_right _ _
      have bE := hEr ro co hro.1 (by omega)
      obtain ⟨v, ev⟩ : ∃ v : Nat, E (5 * ro + co) = (v : Int) := ⟨(E (5 * ro + co)).toNat, by omega⟩
      have ebv : b = Nat.gcd v q := by rw [e4]; unfold shm; rw [ev, Int.toNat_natCast]
      have b0 : 0 < b := by rw [ebv]; exact Nat.gcd_pos_of_pos_right _ (by omega)
      have v0 : v ≠ 0 := fun z => by
        rw [z, Nat.gcd_zero_left] at ebv
        omega
      have bdv : b ∣ v := by rw [ebv]; exact Nat.gcd_dvd_left _ _
      obtain ⟨u, hu⟩ := bdv
      have hgm := Nat.mul_div_cancel' bdq
      obtain ⟨m, em⟩ : ∃ m, q / b = m := ⟨_, rfl⟩
      rw [em] at hgm
      have m2 : 2 ≤ m := by
        apply Nat.le_of_not_lt
        intro z
        have hc : m = 0 ∨ m = 1 := by omega
        rcases hc with hc | hc <;> rw [hc] at hgm <;> omega
      have hcop : Nat.Coprime u m := by
        have h9 := ppow_cop hp (x := v) (k := k) (by omega) (by rw [← eq]; omega)
        rw [← eq, Nat.gcd_comm q v, ← ebv, hu, Nat.mul_div_cancel_left _ b0] at h9
        exact Nat.Coprime.coprime_dvd_right ⟨b, by rw [Nat.mul_comm]; exact hgm.symm⟩ (Nat.Coprime.symm h9)
      have hdv : ∀ c, c < n → Pv c = 0 → (b : Int) ∣ E (5 * ro + c) := fun c c1 c2 => shm_dvd hp eq hEr bdq y3 hro ⟨c1, c2⟩
      have bN := hEr ro n hro.1 (Nat.le_refl n)
      obtain ⟨z9, ez⟩ : ∃ z9 : Nat, E (5 * ro + n) = (z9 : Int) := ⟨(E (5 * ro + n)).toNat, by omega⟩
      have emz := tmodN (rfl : (z9 : Int) = (z9 : Int)) (rfl : (b : Int) = (b : Int))
      have hmz := Nat.mod_lt z9 b0
      refine g_iload (pc := 137) (x := (ro : Int)) dX11_solutions_137 rfl ?_
      refine g_iconst (pc := 139) dX11_solutions_139 ?_
      refine g_icmp_neT (pc := 140) (tgt := 156) dX11_solutions_140 (by decide) (by omega) (by omega) (by omega) ?_
      refine g_aload_n (pc := 156) (r := .inl (some x)) dX11_solutions_156 rfl ?_
      refine g_getf (pc := 157) (v := vR (x + 20)) flX11_70 dX11_solutions_157 hx rfl ?_
      refine g_iload (pc := 160) (x := (ro : Int)) dX11_solutions_160 rfl ?_
      refine g_iconst (pc := 162) dX11_solutions_162 ?_
      refine g_zastN (pc := 163) (j := ro) dX11_solutions_163 hR (by omega) (by omega) (by omega) (by omega) ?_
      have hx_1 := hx.ne (e := eA 2 4 (va_up Rk ro 1)) (a := x + 20) (by omega)
      have hE_1 := hE.ne (e := eA 2 4 (va_up Rk ro 1)) (a := x + 20) (by omega)
      have hR_1 := hR.self (e := eA 2 4 (va_up Rk ro 1))
      have hPv_1 := hPv.ne (e := eA 2 4 (va_up Rk ro 1)) (a := x + 20) (by omega)
      refine g_aload_n (pc := 164) (r := .inl (some x)) dX11_solutions_164 rfl ?_
      refine g_getf (pc := 165) (v := vR (x + 21)) flX11_73 dX11_solutions_165 hx_1 rfl ?_
      refine g_iload (pc := 168) (x := (co : Int)) dX11_solutions_168 rfl ?_
      refine g_iconst (pc := 170) dX11_solutions_170 ?_
      refine g_zastN (pc := 171) (j := co) dX11_solutions_171 hPv_1 (by omega) (by omega) (by omega) (by omega) ?_
      have hx_2 := hx_1.ne (e := eA 2 4 (va_up Pv co 1)) (a := x + 21) (by omega)
      have hE_2 := hE_1.ne (e := eA 2 4 (va_up Pv co 1)) (a := x + 21) (by omega)
      have hR_2 := hR_1.ne (e := eA 2 4 (va_up Pv co 1)) (a := x + 21) (by omega)
      have hPv_2 := hPv_1.self (e := eA 2 4 (va_up Pv co 1))
      refine g_aload_n (pc := 172) (r := .inl (some x)) dX11_solutions_172 rfl ?_
      refine g_getf (pc := 173) (v := vR (x + 19)) flX11_67 dX11_solutions_173 hx_2 rfl ?_
      refine g_iconst (pc := 176) dX11_solutions_176 ?_
      refine g_iload (pc := 177) (x := (ro : Int)) dX11_solutions_177 rfl ?_
      refine g_imul (pc := 179) dX11_solutions_179 ?_
      refine g_iload_n (pc := 180) (x := (n : Int)) dX11_solutions_180 rfl ?_
      refine g_iadd (pc := 181) dX11_solutions_181 ?_
      refine g_ialdN (pc := 182) (j := 5 * ro + n) dX11_solutions_182 hE_2 (by omega) (by omega) (by omega) ?_
      rw [ez]
      refine g_iload (pc := 183) (x := ((b : Nat) : Int)) dX11_solutions_183 rfl ?_
      refine g_irem (pc := 185) dX11_solutions_185 (by omega) (by omega) (by omega) ?_
      rw [emz]
      refine g_if_eq (pc := 186) (tgt := 191) dX11_solutions_186 (by decide) (by omega) (fun h9 => ?_) (fun h9 => ?_)
      · have hdn : (b : Int) ∣ E (5 * ro + n) := by rw [ez]; exact Int.ofNat_dvd.mpr (Nat.dvd_of_mod_eq_zero (by omega))
        refine g_lload_n (pc := 191) (x := (K : Int)) dX11_solutions_191 rfl ?_
        refine g_iload (pc := 192) (x := ((b : Nat) : Int)) dX11_solutions_192 rfl ?_
        refine g_i2l (pc := 194) dX11_solutions_194 (by omega) ?_
        refine g_lmul (pc := 195) dX11_solutions_195 ?_
        refine g_lstore_n (pc := 196) (lo2 := [(0, vR x), (1, vI (n : Int)), (2, vI (q : Int)), (3, vJ ((K : Int) * ((b : Nat) : Int))), (5, vI xs), (6, vI ((b : Nat) : Int)), (7, vI (ro : Int)), (8, vI (co : Int))]) dX11_solutions_196 (by decide) rfl ?_
        refine g_aload_n (pc := 197) (r := .inl (some x)) dX11_solutions_197 rfl ?_
        refine g_iload_n (pc := 198) (x := (n : Int)) dX11_solutions_198 rfl ?_
        refine g_iload_n (pc := 199) (x := (q : Int)) dX11_solutions_199 rfl ?_
        refine g_iload (pc := 200) (x := (ro : Int)) dX11_solutions_200 rfl ?_
        refine g_iload (pc := 202) (x := (co : Int)) dX11_solutions_202 rfl ?_
        refine g_iload (pc := 204) (x := ((b : Nat) : Int)) dX11_solutions_204 rfl ?_
        refine g_callV0 (pc := 206) (as := [vI (n : Int), vI (q : Int), vI (ro : Int), vI (co : Int), vI ((b : Nat) : Int)]) (b := x) (st := []) lvX11_218 dX11_solutions_206 hx_2 (Nat.le_of_ble_eq_true rfl) (by omega) (Nat.zero_le _) (Nat.zero_le _) (c_sweeps (d := d) (u := u) (m := m) hn (by omega) hq2 hro.1 hco.1 b0 (by omega) (up01 hRk ro) (va_up_self _ _ _) hEr hx_2 hR_2 em m2 (by have := Nat.le_mul_of_pos_left u b0; omega) (by rw [ev, hu]) hcop hE_2) ?_
        rintro r8 h2 ⟨iv, hiv, rfl, ⟨E2, g1, g2, g3⟩, g4⟩
        refine g_iinc (pc := 209) (x := xs) (lo2 := [(0, vR x), (1, vI (n : Int)), (2, vI (q : Int)), (3, vJ ((K : Int) * ((b : Nat) : Int))), (5, vI (xs + 1)), (6, vI ((b : Nat) : Int)), (7, vI (ro : Int)), (8, vI (co : Int))]) dX11_solutions_209 rfl (by decide) rfl ?_
        refine g_goto (pc := 212) (tgt := 32) dX11_solutions_212 (by decide) ?_
        refine g_pick [0, 1, 2, 3, 4] (lo2 := [(0, vR x), (1, vI (n : Int)), (2, vI (q : Int)), (3, vJ ((K : Int) * ((b : Nat) : Int))), (5, vI (xs + 1))]) rfl ?_
        have hne0 : ∀ r, r ≠ ro → Rk r = 0 → va_up Rk ro 1 r = 0 := fun r z1 z2 => by rw [va_up_ne _ _ z1]; exact z2
        have hstep : SPx q n Rk Pv (fun r c => E (5 * r + c)) = b * SPx q n (va_up Rk ro 1) (va_up Pv co 1) (fun r c => E2 (5 * r + c)) := by
          refine SPx_step (t := fun r => ((((E (5 * r + co)).toNat / b * iv % q : Nat)) : Int)) (g := b) (m := m) (u := (u : Int)) (w := (iv : Int)) hro.1 hro.2 hco.1 hco.2 hgm.symm b0 (by omega) ?_ (by show E (5 * ro + co) = _; rw [ev, hu, Int.natCast_mul]) hdv hdn (fun r r1 r2 r3 c c1 => ?_) (fun r r1 r2 r3 => ?_)
          · have h7 := Nat.div_add_mod (iv * u) m
            rw [hiv] at h7
            refine ⟨((iv * u / m : Nat) : Int), ?_⟩
            rw [← Int.natCast_mul, ← Int.natCast_mul]
            omega
          · show (q : Int) ∣ E2 (5 * r + c) - (E (5 * r + c) - _ * E (5 * ro + c))
            rw [g2 r r1 (hne0 r r2 r3) c c1]
            have h8 := Int.mul_ediv_add_emod (E (5 * r + c) - ((((E (5 * r + co)).toNat / b * iv % q : Nat)) : Int) * E (5 * ro + c)) (q : Int)
            exact ⟨-((E (5 * r + c) - ((((E (5 * r + co)).toNat / b * iv % q : Nat)) : Int) * E (5 * ro + c)) / (q : Int)), by grind⟩
          · show (q : Int) ∣ E2 (5 * r + co)
            rw [g2 r r1 (hne0 r r2 r3) co (by omega), ev, hu]
            have h6 : (b : Int) ∣ E (5 * r + co) := shm_dvd hp eq hEr bdq y3 ⟨r1, r3⟩ hco
            have bb := hEr r co r1 (by omega)
            obtain ⟨e9, he9⟩ : ∃ e9 : Nat, E (5 * r + co) = (e9 : Int) := ⟨(E (5 * r + co)).toNat, by omega⟩
            rw [he9] at h6 ⊢
            obtain ⟨f9, rfl⟩ := Int.ofNat_dvd.mp h6
            rw [Int.toNat_natCast, Nat.mul_div_cancel_left _ b0]
            refine dvd_mod_self ?_
            · have h7 := Nat.div_add_mod (iv * u) m
              rw [hiv] at h7
              have h5 := Nat.div_add_mod (f9 * iv) q
              refine ⟨((f9 * iv / q : Nat) : Int) * ((b * u : Nat) : Int) - (f9 : Int) * ((iv * u / m : Nat) : Int), ?_⟩
              have h7I : (m : Int) * ((iv * u / m : Nat) : Int) + 1 = (iv : Int) * (u : Int) := by
                have h7' := congrArg (fun z : Nat => (z : Int)) h7
                rw [← Int.natCast_mul, ← Int.natCast_mul]
                exact h7'
              have h5I : (q : Int) * ((f9 * iv / q : Nat) : Int) + ((f9 * iv % q : Nat) : Int) = (f9 : Int) * (iv : Int) := by
                have h5' := congrArg (fun z : Nat => (z : Int)) h5
                rw [← Int.natCast_mul, ← Int.natCast_mul]
                exact h5'
              have hgI : (q : Int) = (b : Int) * (m : Int) := by rw [← hgm, Int.natCast_mul]
              rw [Int.natCast_mul, Int.natCast_mul]
              generalize ((iv * u / m : Nat) : Int) = d1 at *
              generalize ((f9 * iv / q : Nat) : Int) = d2 at *
              generalize ((f9 * iv % q : Nat) : Int) = d3 at *
              grind
        rw [← Int.natCast_mul]
        refine ih (s + 1) (K * b) _ E2 (va_up Rk ro 1) (va_up Pv co 1) h2 (by omega) (by omega) (up01 hRk ro) (up01 hPk co) (by have := cof_len hro.1 hro.2; omega) (by have := cof_len hco.1 hco.2; omega) (by rw [← ht, hstep, Nat.mul_assoc]) (fun r c r1 c1 => ?_) ⟨hE.1, g1⟩ ⟨hR.1, (g4 _ (by omega)).trans ((va_up_ne _ _ (by omega)).trans (va_up_self _ _ _))⟩ ⟨hPv.1, (g4 _ (by omega)).trans (va_up_self _ _ _)⟩ (fun a z1 z2 z3 => (g4 a z1).trans ((va_up_ne _ _ z3).trans ((va_up_ne _ _ z2).trans (hk a z1 z2 z3))))
        by_cases hrk : va_up Rk ro 1 r = 0
        · rw [g2 r r1 hrk c c1]
          exact ⟨Int.emod_nonneg _ (by omega), Int.emod_lt_of_pos _ (by omega)⟩
        · rw [g3 r (fun _ => hrk) c (by omega)]
          exact hEr r c r1 c1
      · have hdn : ¬ (b : Int) ∣ E (5 * ro + n) := fun y => by
          rw [ez] at y
          have := Nat.mod_eq_zero_of_dvd (Int.ofNat_dvd.mp y)
          omega
        rw [SPx_none (F := fun r c => E (5 * r + c)) hro.1 hro.2 bdq hdv hdn, Nat.mul_zero] at ht
        refine g_lconst0 (pc := 189) dX11_solutions_189 ?_
        rw [show (0 : Int) = (tot : Int) by omega]
        exact r_long (pc := 190) dX11_solutions_190 rfl rfl (Nat.le_refl _) ⟨rfl, ⟨E, hE_2.2⟩, ⟨_, hR_2.2⟩, ⟨_, hPv_2.2⟩, fun a z1 z2 z3 => (va_up_ne _ _ z3).trans ((va_up_ne _ _ z2).trans (hk a z1 z2 z3))⟩

theorem c_solutions {N d x n q p k : Nat} {th wd pm fm mu um pr ts : Int} {E R0 P0 : Nat → Int} {h : MH} (n1 : 1 ≤ n) (hn : n ≤ 4) (hp : prm p) (eq : q = p ^ k) (hq1 : 2 ≤ q) (hq2 : q ≤ 500) (hEr : ∀ r c, r < n → c ≤ n → 0 ≤ E (5 * r + c) ∧ E (5 * r + c) < q) (hx : Hd (0, 0, N) h x (mdl x th wd pm fm mu um pr ts)) (hE : Hd (0, 0, N) h (x + 19) (eA 0 20 E)) (hR : Hd (0, 0, N) h (x + 20) (eA 2 4 R0)) (hPv : Hd (0, 0, N) h (x + 21) (eA 2 4 P0)) : Ok mX11_solutions (d + 2) 0 0 [vR x, vI (n : Int), vI (q : Int)] N h (fun r9 h2 => r9 = some (vJ ((SS q 0 n (fun r c => E (5 * r + c)) : Nat) : Int)) ∧ (∃ E2, h2 (x + 19) = eA 0 20 E2) ∧ (∃ R2, h2 (x + 20) = eA 2 4 R2) ∧ (∃ P2, h2 (x + 21) = eA 2 4 P2) ∧ ∀ a, a ≠ x + 19 → a ≠ x + 20 → a ≠ x + 21 → h2 a = h a) := by
  refine Ok.of pfX11_solutions rfl (Nat.le_of_ble_eq_true rfl) (fun Ls sx => ?_)
  show G mX11_solutions (d + 2, 0, 0, Ls, sx) 0 [(0, vR x), (1, vI (n : Int)), (2, vI (q : Int))] [] (0, 0, N) h _
  refine g_iconst (pc := 0) dX11_solutions_0 ?_
  refine g_istore_n (pc := 1) (lo2 := [(0, vR x), (1, vI (n : Int)), (2, vI (q : Int)), (3, vI 0)]) dX11_solutions_1 (by decide) rfl ?_
  refine g_iload_n (pc := 2) (x := 0) dX11_solutions_2 rfl ?_
  refine g_iconst (pc := 3) dX11_solutions_3 ?_
  refine g_icmp_geF (pc := 4) (tgt := 27) dX11_solutions_4 (by decide) (by omega) (by omega) (by omega) ?_
  refine g_aload_n (pc := 7) (r := .inl (some x)) dX11_solutions_7 rfl ?_
  refine g_getf (pc := 8) (v := vR (x + 20)) flX11_70 dX11_solutions_8 hx rfl ?_
  refine g_iload_n (pc := 11) (x := 0) dX11_solutions_11 rfl ?_
  refine g_iconst (pc := 12) dX11_solutions_12 ?_
  refine g_zastN (pc := 13) (j := 0) dX11_solutions_13 hR (by omega) (by omega) (by omega) (by omega) ?_
  have hx_1 := hx.ne (e := eA 2 4 (va_up R0 0 0)) (a := x + 20) (by omega)
  have hE_1 := hE.ne (e := eA 2 4 (va_up R0 0 0)) (a := x + 20) (by omega)
  have hR_1 := hR.self (e := eA 2 4 (va_up R0 0 0))
  have hPv_1 := hPv.ne (e := eA 2 4 (va_up R0 0 0)) (a := x + 20) (by omega)
  refine g_aload_n (pc := 14) (r := .inl (some x)) dX11_solutions_14 rfl ?_
  refine g_getf (pc := 15) (v := vR (x + 21)) flX11_73 dX11_solutions_15 hx_1 rfl ?_
  refine g_iload_n (pc := 18) (x := 0) dX11_solutions_18 rfl ?_
  refine g_iconst (pc := 19) dX11_solutions_19 ?_
  refine g_zastN (pc := 20) (j := 0) dX11_solutions_20 hPv_1 (by omega) (by omega) (by omega) (by omega) ?_
  have hx_2 := hx_1.ne (e := eA 2 4 (va_up P0 0 0)) (a := x + 21) (by omega)
  have hE_2 := hE_1.ne (e := eA 2 4 (va_up P0 0 0)) (a := x + 21) (by omega)
  have hR_2 := hR_1.ne (e := eA 2 4 (va_up P0 0 0)) (a := x + 21) (by omega)
  have hPv_2 := hPv_1.self (e := eA 2 4 (va_up P0 0 0))
  refine g_iinc (pc := 21) (x := 0) (lo2 := [(0, vR x), (1, vI (n : Int)), (2, vI (q : Int)), (3, vI (0 + 1))]) dX11_solutions_21 rfl (by decide) rfl ?_
  refine g_goto (pc := 24) (tgt := 2) dX11_solutions_24 (by decide) ?_
  refine g_iload_n (pc := 2) (x := 0 + 1) dX11_solutions_2 rfl ?_
  refine g_iconst (pc := 3) dX11_solutions_3 ?_
  refine g_icmp_geF (pc := 4) (tgt := 27) dX11_solutions_4 (by decide) (by omega) (by omega) (by omega) ?_
  refine g_aload_n (pc := 7) (r := .inl (some x)) dX11_solutions_7 rfl ?_
  refine g_getf (pc := 8) (v := vR (x + 20)) flX11_70 dX11_solutions_8 hx_2 rfl ?_
  refine g_iload_n (pc := 11) (x := 0 + 1) dX11_solutions_11 rfl ?_
  refine g_iconst (pc := 12) dX11_solutions_12 ?_
  refine g_zastN (pc := 13) (j := 1) dX11_solutions_13 hR_2 (by omega) (by omega) (by omega) (by omega) ?_
  have hx_3 := hx_2.ne (e := eA 2 4 (va_up (va_up R0 0 0) 1 0)) (a := x + 20) (by omega)
  have hE_3 := hE_2.ne (e := eA 2 4 (va_up (va_up R0 0 0) 1 0)) (a := x + 20) (by omega)
  have hR_3 := hR_2.self (e := eA 2 4 (va_up (va_up R0 0 0) 1 0))
  have hPv_3 := hPv_2.ne (e := eA 2 4 (va_up (va_up R0 0 0) 1 0)) (a := x + 20) (by omega)
  refine g_aload_n (pc := 14) (r := .inl (some x)) dX11_solutions_14 rfl ?_
  refine g_getf (pc := 15) (v := vR (x + 21)) flX11_73 dX11_solutions_15 hx_3 rfl ?_
  refine g_iload_n (pc := 18) (x := 0 + 1) dX11_solutions_18 rfl ?_
  refine g_iconst (pc := 19) dX11_solutions_19 ?_
  refine g_zastN (pc := 20) (j := 1) dX11_solutions_20 hPv_3 (by omega) (by omega) (by omega) (by omega) ?_
  have hx_4 := hx_3.ne (e := eA 2 4 (va_up (va_up P0 0 0) 1 0)) (a := x + 21) (by omega)
  have hE_4 := hE_3.ne (e := eA 2 4 (va_up (va_up P0 0 0) 1 0)) (a := x + 21) (by omega)
  have hR_4 := hR_3.ne (e := eA 2 4 (va_up (va_up P0 0 0) 1 0)) (a := x + 21) (by omega)
  have hPv_4 := hPv_3.self (e := eA 2 4 (va_up (va_up P0 0 0) 1 0))
  refine g_iinc (pc := 21) (x := 0 + 1) (lo2 := [(0, vR x), (1, vI (n : Int)), (2, vI (q : Int)), (3, vI (0 + 1 + 1))]) dX11_solutions_21 rfl (by decide) rfl ?_
  refine g_goto (pc := 24) (tgt := 2) dX11_solutions_24 (by decide) ?_
  refine g_iload_n (pc := 2) (x := 0 + 1 + 1) dX11_solutions_2 rfl ?_
  refine g_iconst (pc := 3) dX11_solutions_3 ?_
  refine g_icmp_geF (pc := 4) (tgt := 27) dX11_solutions_4 (by decide) (by omega) (by omega) (by omega) ?_
  refine g_aload_n (pc := 7) (r := .inl (some x)) dX11_solutions_7 rfl ?_
  refine g_getf (pc := 8) (v := vR (x + 20)) flX11_70 dX11_solutions_8 hx_4 rfl ?_
  refine g_iload_n (pc := 11) (x := 0 + 1 + 1) dX11_solutions_11 rfl ?_
  refine g_iconst (pc := 12) dX11_solutions_12 ?_
  refine g_zastN (pc := 13) (j := 2) dX11_solutions_13 hR_4 (by omega) (by omega) (by omega) (by omega) ?_
  have hx_5 := hx_4.ne (e := eA 2 4 (va_up (va_up (va_up R0 0 0) 1 0) 2 0)) (a := x + 20) (by omega)
  have hE_5 := hE_4.ne (e := eA 2 4 (va_up (va_up (va_up R0 0 0) 1 0) 2 0)) (a := x + 20) (by omega)
  have hR_5 := hR_4.self (e := eA 2 4 (va_up (va_up (va_up R0 0 0) 1 0) 2 0))
  have hPv_5 := hPv_4.ne (e := eA 2 4 (va_up (va_up (va_up R0 0 0) 1 0) 2 0)) (a := x + 20) (by omega)
  refine g_aload_n (pc := 14) (r := .inl (some x)) dX11_solutions_14 rfl ?_
  refine g_getf (pc := 15) (v := vR (x + 21)) flX11_73 dX11_solutions_15 hx_5 rfl ?_
  refine g_iload_n (pc := 18) (x := 0 + 1 + 1) dX11_solutions_18 rfl ?_
  refine g_iconst (pc := 19) dX11_solutions_19 ?_
  refine g_zastN (pc := 20) (j := 2) dX11_solutions_20 hPv_5 (by omega) (by omega) (by omega) (by omega) ?_
  have hx_6 := hx_5.ne (e := eA 2 4 (va_up (va_up (va_up P0 0 0) 1 0) 2 0)) (a := x + 21) (by omega)
  have hE_6 := hE_5.ne (e := eA 2 4 (va_up (va_up (va_up P0 0 0) 1 0) 2 0)) (a := x + 21) (by omega)
  have hR_6 := hR_5.ne (e := eA 2 4 (va_up (va_up (va_up P0 0 0) 1 0) 2 0)) (a := x + 21) (by omega)
  have hPv_6 := hPv_5.self (e := eA 2 4 (va_up (va_up (va_up P0 0 0) 1 0) 2 0))
  refine g_iinc (pc := 21) (x := 0 + 1 + 1) (lo2 := [(0, vR x), (1, vI (n : Int)), (2, vI (q : Int)), (3, vI (0 + 1 + 1 + 1))]) dX11_solutions_21 rfl (by decide) rfl ?_
  refine g_goto (pc := 24) (tgt := 2) dX11_solutions_24 (by decide) ?_
  refine g_iload_n (pc := 2) (x := 0 + 1 + 1 + 1) dX11_solutions_2 rfl ?_
  refine g_iconst (pc := 3) dX11_solutions_3 ?_
  refine g_icmp_geF (pc := 4) (tgt := 27) dX11_solutions_4 (by decide) (by omega) (by omega) (by omega) ?_
  refine g_aload_n (pc := 7) (r := .inl (some x)) dX11_solutions_7 rfl ?_
  refine g_getf (pc := 8) (v := vR (x + 20)) flX11_70 dX11_solutions_8 hx_6 rfl ?_
  refine g_iload_n (pc := 11) (x := 0 + 1 + 1 + 1) dX11_solutions_11 rfl ?_
  refine g_iconst (pc := 12) dX11_solutions_12 ?_
  refine g_zastN (pc := 13) (j := 3) dX11_solutions_13 hR_6 (by omega) (by omega) (by omega) (by omega) ?_
  have hx_7 := hx_6.ne (e := eA 2 4 (va_up (va_up (va_up (va_up R0 0 0) 1 0) 2 0) 3 0)) (a := x + 20) (by omega)
  have hE_7 := hE_6.ne (e := eA 2 4 (va_up (va_up (va_up (va_up R0 0 0) 1 0) 2 0) 3 0)) (a := x + 20) (by omega)
  have hR_7 := hR_6.self (e := eA 2 4 (va_up (va_up (va_up (va_up R0 0 0) 1 0) 2 0) 3 0))
  have hPv_7 := hPv_6.ne (e := eA 2 4 (va_up (va_up (va_up (va_up R0 0 0) 1 0) 2 0) 3 0)) (a := x + 20) (by omega)
  refine g_aload_n (pc := 14) (r := .inl (some x)) dX11_solutions_14 rfl ?_
  refine g_getf (pc := 15) (v := vR (x + 21)) flX11_73 dX11_solutions_15 hx_7 rfl ?_
  refine g_iload_n (pc := 18) (x := 0 + 1 + 1 + 1) dX11_solutions_18 rfl ?_
  refine g_iconst (pc := 19) dX11_solutions_19 ?_
  refine g_zastN (pc := 20) (j := 3) dX11_solutions_20 hPv_7 (by omega) (by omega) (by omega) (by omega) ?_
  have hx_8 := hx_7.ne (e := eA 2 4 (va_up (va_up (va_up (va_up P0 0 0) 1 0) 2 0) 3 0)) (a := x + 21) (by omega)
  have hE_8 := hE_7.ne (e := eA 2 4 (va_up (va_up (va_up (va_up P0 0 0) 1 0) 2 0) 3 0)) (a := x + 21) (by omega)
  have hR_8 := hR_7.ne (e := eA 2 4 (va_up (va_up (va_up (va_up P0 0 0) 1 0) 2 0) 3 0)) (a := x + 21) (by omega)
  have hPv_8 := hPv_7.self (e := eA 2 4 (va_up (va_up (va_up (va_up P0 0 0) 1 0) 2 0) 3 0))
  refine g_iinc (pc := 21) (x := 0 + 1 + 1 + 1) (lo2 := [(0, vR x), (1, vI (n : Int)), (2, vI (q : Int)), (3, vI (0 + 1 + 1 + 1 + 1))]) dX11_solutions_21 rfl (by decide) rfl ?_
  refine g_goto (pc := 24) (tgt := 2) dX11_solutions_24 (by decide) ?_
  refine g_iload_n (pc := 2) (x := 0 + 1 + 1 + 1 + 1) dX11_solutions_2 rfl ?_
  refine g_iconst (pc := 3) dX11_solutions_3 ?_
  refine g_icmp_geT (pc := 4) (tgt := 27) dX11_solutions_4 (by decide) (by omega) (by omega) (by omega) ?_
  refine g_lconst1 (pc := 27) dX11_solutions_27 ?_
  refine g_lstore_n (pc := 28) (lo2 := [(0, vR x), (1, vI (n : Int)), (2, vI (q : Int)), (3, vJ 1)]) dX11_solutions_28 (by decide) rfl ?_
  refine g_iconst (pc := 29) dX11_solutions_29 ?_
  refine g_istore (pc := 30) (lo2 := [(0, vR x), (1, vI (n : Int)), (2, vI (q : Int)), (3, vJ 1), (5, vI 0)]) dX11_solutions_30 (by decide) rfl ?_
  have hz1 : ∀ r, r < 4 → (va_up (va_up (va_up (va_up R0 0 0) 1 0) 2 0) 3 0) r = 0 := fun r hr => by
    have hc : r = 0 ∨ r = 1 ∨ r = 2 ∨ r = 3 := by omega
    rcases hc with rfl | rfl | rfl | rfl <;> simp [va_up]
  have hz2 : ∀ r, r < 4 → (va_up (va_up (va_up (va_up P0 0 0) 1 0) 2 0) 3 0) r = 0 := fun r hr => by
    have hc : r = 0 ∨ r = 1 ∨ r = 2 ∨ r = 3 := by omega
    rcases hc with rfl | rfl | rfl | rfl <;> simp [va_up]
  refine Q_mono (sol_l3 (h0 := va_up (va_up (va_up (va_up (va_up (va_up (va_up (va_up h (x + 20) (eA 2 4 (va_up R0 0 0))) (x + 21) (eA 2 4 (va_up P0 0 0))) (x + 20) (eA 2 4 (va_up (va_up R0 0 0) 1 0))) (x + 21) (eA 2 4 (va_up (va_up P0 0 0) 1 0))) (x + 20) (eA 2 4 (va_up (va_up (va_up R0 0 0) 1 0) 2 0))) (x + 21) (eA 2 4 (va_up (va_up (va_up P0 0 0) 1 0) 2 0))) (x + 20) (eA 2 4 (va_up (va_up (va_up (va_up R0 0 0) 1 0) 2 0) 3 0))) (x + 21) (eA 2 4 (va_up (va_up (va_up (va_up P0 0 0) 1 0) 2 0) 3 0))) (tot := SS q 0 n (fun r c => E (5 * r + c))) n1 hn hp eq hq1 hq2 hx_8 n 0 1 _ E _ _ _ (by omega) rfl (fun r hr => Or.inl (hz1 r hr)) (fun r hr => Or.inl (hz2 r hr)) (by rw [cof_0 (fun c hc => hz1 c (by omega)), List.length_range', Nat.sub_zero]) (by rw [cof_0 (fun c hc => hz2 c (by omega)), List.length_range', Nat.sub_zero]) (by rw [Nat.one_mul, SPx_0 (fun r hr => hz1 r (by omega)) (fun r hr => hz2 r (by omega))]) hEr hE_8 hR_8 hPv_8 (fun _ _ _ _ => rfl)) ?_
  rintro r9 h2 ⟨f1, f2, f3, f4, f5⟩
  exact ⟨f1, f2, f3, f4, fun a z1 z2 z3 => (f5 a z1 z2 z3).trans ((va_up_ne _ _ z3).trans ((va_up_ne _ _ z2).trans ((va_up_ne _ _ z3).trans ((va_up_ne _ _ z2).trans ((va_up_ne _ _ z3).trans ((va_up_ne _ _ z2).trans ((va_up_ne _ _ z3).trans ((va_up_ne _ _ z2).trans (rfl)))))))))⟩
