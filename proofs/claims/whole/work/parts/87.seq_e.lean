/-! ===== the turns that bring back every settled row, modulo a prime's power ===== -/
/-- powers of p above the size, as both sides take them -/
def okN (p n N : Nat) : Prop := (5 ≤ p ∧ p ∣ N) ∨ (p = 3 ∧ (N = 9 ∨ (N = 3 ∧ n ≤ 2))) ∨ (p = 2 ∧ (N = 8 ∨ (N = 4 ∧ n ≤ 3) ∨ (N = 2 ∧ n ≤ 1)))
theorem okN_c {p n N : Nat} (hp : prm p) (h : okN p n N) : (1 ≤ n → (p : Int) ∣ (N : Int)) ∧ (2 ≤ n → (p : Int) ∣ c2 N) ∧ (3 ≤ n → n ≤ 4 → (p : Int) ∣ c3 N) ∧ (4 ≤ n → n ≤ 4 → (p : Int) ∣ c4 N) := by
  rcases h with ⟨h5, hN⟩ | ⟨rfl, h⟩ | ⟨rfl, h⟩
  · have hN2 : (p : Int) ∣ (N : Int) := Int.ofNat_dvd.mpr hN
    have nd : ∀ k : Nat, 1 ≤ k → k < 5 → ¬ (p : Int) ∣ (k : Int) := fun k k1 k2 h => by
      have := Nat.le_of_dvd (by omega) (Int.ofNat_dvd.mp h)
      omega
    refine ⟨fun _ => hN2, fun _ => ?_, fun _ _ => ?_, fun _ _ => ?_⟩
    · have h1 := c2_eq N
      have h2 : (p : Int) ∣ ((2 : Nat) : Int) * c2 N := by
        show (p : Int) ∣ 2 * c2 N
        rw [h1]
        exact Int.dvd_sub (Int.dvd_mul_of_dvd_right hN2) hN2
      exact (prm_mul hp h2).resolve_left (nd 2 (by omega) (by omega))
    · have h1 := c3_eq N
      have h2 : (p : Int) ∣ ((2 : Nat) : Int) * (((3 : Nat) : Int) * c3 N) := by
        have e : ((2 : Nat) : Int) * (((3 : Nat) : Int) * c3 N) = 6 * c3 N := by
          show 2 * (3 * c3 N) = 6 * c3 N
          omega
        rw [e, h1]
        exact Int.dvd_add (Int.dvd_sub (Int.dvd_mul_of_dvd_right hN2) (Int.dvd_mul_of_dvd_right (Int.dvd_mul_of_dvd_right hN2))) (Int.dvd_mul_of_dvd_right hN2)
      exact (prm_mul hp ((prm_mul hp h2).resolve_left (nd 2 (by omega) (by omega)))).resolve_left (nd 3 (by omega) (by omega))
    · have h1 := c4_eq N
      have h2 : (p : Int) ∣ ((2 : Nat) : Int) * (((3 : Nat) : Int) * (((4 : Nat) : Int) * c4 N)) := by
        have e : ((2 : Nat) : Int) * (((3 : Nat) : Int) * (((4 : Nat) : Int) * c4 N)) = 24 * c4 N := by
          show 2 * (3 * (4 * c4 N)) = 24 * c4 N
          omega
        rw [e, h1]
        exact Int.dvd_sub (Int.dvd_add (Int.dvd_sub (Int.dvd_mul_of_dvd_right hN2) (Int.dvd_mul_of_dvd_right (Int.dvd_mul_of_dvd_right hN2))) (Int.dvd_mul_of_dvd_right (Int.dvd_mul_of_dvd_right hN2))) (Int.dvd_mul_of_dvd_right hN2)
      exact (prm_mul hp ((prm_mul hp ((prm_mul hp h2).resolve_left (nd 2 (by omega) (by omega)))).resolve_left (nd 3 (by omega) (by omega)))).resolve_left (nd 4 (by omega) (by omega))
  · rcases h with rfl | ⟨rfl, hn⟩
    · exact ⟨fun _ => by decide +kernel, fun _ => by decide +kernel, fun _ _ => by decide +kernel, fun _ _ => by decide +kernel⟩
    · exact ⟨fun _ => by decide +kernel, fun _ => by decide +kernel, fun _ _ => by omega, fun _ _ => by omega⟩
  · rcases h with rfl | ⟨rfl, hn⟩ | ⟨rfl, hn⟩
    · exact ⟨fun _ => by decide +kernel, fun _ => by decide +kernel, fun _ _ => by decide +kernel, fun _ _ => by decide +kernel⟩
    · exact ⟨fun _ => by decide +kernel, fun _ => by decide +kernel, fun _ _ => by decide +kernel, fun _ _ => by omega⟩
    · exact ⟨fun _ => by decide +kernel, fun _ => by omega, fun _ _ => by omega, fun _ _ => by omega⟩
theorem dn_z {p L m i : Nat} {u : Nat → Int} (h : Zq p (dn L m u)) (hi : m ≤ i) : Zq p (dn L i u) := by
  have h1 : Zq p (fun j => dn L m u (j + 0)) := h
  exact dn_le hi h1
theorem pow_kill {p : Nat} (hp : prm p) {n N L : Nat} (hn : n ≤ 4) (hN : okN p n N) {u : Nat → Int} (h : Zq p (dn L (n + 1) u)) (j : Nat) : (p : Int) ∣ u (j + L * N) - u j := by
  have h5 : Zq p (dn L 5 u) := dn_z h (by omega)
  have h1 := newton h5 N j
  obtain ⟨a1, a2, a3, a4⟩ := okN_c hp hN
  have t1 : (p : Int) ∣ (N : Int) * dn L 1 u j := by
    by_cases hc : 1 ≤ n
    · exact Int.dvd_mul_of_dvd_left (a1 hc)
    · exact Int.dvd_mul_of_dvd_right (dn_z h (by omega) j)
  have t2 : (p : Int) ∣ c2 N * dn L 2 u j := by
    by_cases hc : 2 ≤ n
    · exact Int.dvd_mul_of_dvd_left (a2 hc)
    · exact Int.dvd_mul_of_dvd_right (dn_z h (by omega) j)
  have t3 : (p : Int) ∣ c3 N * dn L 3 u j := by
    by_cases hc : 3 ≤ n
    · exact Int.dvd_mul_of_dvd_left (a3 hc hn)
    · exact Int.dvd_mul_of_dvd_right (dn_z h (by omega) j)
  have t4 : (p : Int) ∣ c4 N * dn L 4 u j := by
    by_cases hc : 4 ≤ n
    · exact Int.dvd_mul_of_dvd_left (a4 hc hn)
    · exact Int.dvd_mul_of_dvd_right (dn_z h (by omega) j)
  have e : u (j + L * N) - u j = (u (j + L * N) - (u j + N * dn L 1 u j + c2 N * dn L 2 u j + c3 N * dn L 3 u j + c4 N * dn L 4 u j)) + ((N : Int) * dn L 1 u j + c2 N * dn L 2 u j + c3 N * dn L 3 u j + c4 N * dn L 4 u j) := by omega
  rw [e]
  exact Int.dvd_add h1 (Int.dvd_add (Int.dvd_add (Int.dvd_add t1 t2) t3) t4)
/-- modulo p -/
theorem per_p {p : Nat} (hp : prm p) {n N L : Nat} (hn : n ≤ 4) (hN : okN p n N) (hL : ∀ i, 1 ≤ i → i ≤ n → (p ^ i - 1) ∣ L) {A : Nat → Int} (hA : aff n A) (v : Nat → Int) (m : Nat) {r : Nat} (hr : r < n + 1) : (p : Int) ∣ pwv (n + 1) A (n + L * N * m) v r - pwv (n + 1) A n v r := by
  by_cases hrn : r < n
  · induction m with
    | zero =>
      have e : n + L * N * 0 = n := by rw [Nat.mul_zero]; rfl
      rw [e, Int.sub_self]
      exact Int.dvd_zero _
    | succ m ih =>
      have h1 := aff_kill hp hL hA v hrn
      have h2 : Zq p (dn L (n + 1) (fun j => pwv (n + 1) A (j + n) v r)) := fun j => by
        rw [dn_sh L n (n + 1) (fun t => pwv (n + 1) A t v r)]
        exact h1 j
      have h3 := pow_kill hp hn hN h2 (L * N * m)
      try dsimp only at h3
      have e : pwv (n + 1) A (n + L * N * (m + 1)) v r - pwv (n + 1) A n v r = (pwv (n + 1) A (L * N * m + L * N + n) v r - pwv (n + 1) A (L * N * m + n) v r) + (pwv (n + 1) A (n + L * N * m) v r - pwv (n + 1) A n v r) := by
        rw [show n + L * N * (m + 1) = L * N * m + L * N + n by rw [Nat.mul_succ]; omega, show L * N * m + n = n + L * N * m by omega]
        omega
      rw [e]
      exact Int.dvd_add h3 ih
  · have e : r = n := by omega
    subst e
    rw [pwv_last hA, pwv_last hA, Int.sub_self]
    exact Int.dvd_zero _
/-- modulo p^k -/
theorem per_pk {p : Nat} (hp : prm p) {n N L : Nat} (hn : n ≤ 4) (hN : okN p n N) (hL : ∀ i, 1 ≤ i → i ≤ n → (p ^ i - 1) ∣ L) {A : Nat → Int} (hA : aff n A) : ∀ (k : Nat) (v : Nat → Int) (r : Nat), r < n + 1 → ((p ^ (k + 1) : Nat) : Int) ∣ pwv (n + 1) A (n * (k + 1) + L * N * p ^ k) v r - pwv (n + 1) A (n * (k + 1)) v r
  | 0, v, r, hr => by
    have := per_p hp hn hN hL hA v 1 hr
    rw [Nat.pow_zero, Nat.pow_succ, Nat.pow_zero, Nat.one_mul, Nat.zero_add, Nat.mul_one]
    exact this
  | k + 1, v, r, hr => by
    have ih := per_pk hp hn hN hL hA k v
    obtain ⟨v2, hv2⟩ : ∃ v2 : Nat → Int, ∀ r, r < n + 1 → pwv (n + 1) A (n * (k + 1) + L * N * p ^ k) v r - pwv (n + 1) A (n * (k + 1)) v r = ((p ^ (k + 1) : Nat) : Int) * v2 r := by
      refine ⟨fun r => (pwv (n + 1) A (n * (k + 1) + L * N * p ^ k) v r - pwv (n + 1) A (n * (k + 1)) v r) / ((p ^ (k + 1) : Nat) : Int), fun r hr => ?_⟩
      exact (Int.mul_ediv_cancel' (ih r hr)).symm
    have hz : ∀ m, ((p ^ (k + 2) : Nat) : Int) ∣ pwv (n + 1) A (n * (k + 2) + L * N * p ^ k * m) v r - pwv (n + 1) A (n * (k + 2)) v r - (m : Int) * (((p ^ (k + 1) : Nat) : Int) * pwv (n + 1) A n v2 r) := by
      intro m
      induction m with
      | zero =>
        have e : n * (k + 2) + L * N * p ^ k * 0 = n * (k + 2) := by rw [Nat.mul_zero]; rfl
        rw [e, Int.sub_self]
        show _ ∣ 0 - 0 * _
        rw [Int.zero_mul, Int.sub_self]
        exact Int.dvd_zero _
      | succ m ihm =>
        have h1 : pwv (n + 1) A (n * (k + 2) + L * N * p ^ k * (m + 1)) v r - pwv (n + 1) A (n * (k + 2) + L * N * p ^ k * m) v r = ((p ^ (k + 1) : Nat) : Int) * pwv (n + 1) A (n + L * N * p ^ k * m) v2 r := by
          have e1 : pwv (n + 1) A (n * (k + 2) + L * N * p ^ k * (m + 1)) v = pwv (n + 1) A (n + L * N * p ^ k * m) (pwv (n + 1) A (n * (k + 1) + L * N * p ^ k) v) := by
            rw [← pwv_add]
            congr 1
            rw [Nat.mul_succ (L * N * p ^ k), Nat.mul_succ n (k + 1)]
            omega
          have e2 : pwv (n + 1) A (n * (k + 2) + L * N * p ^ k * m) v = pwv (n + 1) A (n + L * N * p ^ k * m) (pwv (n + 1) A (n * (k + 1)) v) := by
            rw [← pwv_add]
            congr 1
            rw [Nat.mul_succ n (k + 1)]
            omega
          have e3 := congrFun (pwv_lin (n + 1) A (pwv (n + 1) A (n * (k + 1) + L * N * p ^ k) v) (pwv (n + 1) A (n * (k + 1)) v) 1 (-1) (n + L * N * p ^ k * m)) r
          have e4 := congrFun (pwv_lin (n + 1) A v2 v2 ((p ^ (k + 1) : Nat) : Int) 0 (n + L * N * p ^ k * m)) r
          have e5 := pwv_congr (A := A) (u := fun i => 1 * pwv (n + 1) A (n * (k + 1) + L * N * p ^ k) v i + (-1) * pwv (n + 1) A (n * (k + 1)) v i) (v := fun i => ((p ^ (k + 1) : Nat) : Int) * v2 i + 0 * v2 i) (w := n + 1) (fun i hi => by
            have := hv2 i hi
            try dsimp only
            omega) (n + L * N * p ^ k * m) r hr
          rw [e1, e2]
          rw [e3, e4] at e5
          try dsimp only at e5
          omega
        have h2 : (p : Int) ∣ pwv (n + 1) A (n + L * N * p ^ k * m) v2 r - pwv (n + 1) A n v2 r := by
          have := per_p hp hn hN hL hA v2 (p ^ k * m) hr
          rw [← Nat.mul_assoc] at this
          exact this
        obtain ⟨y, hy⟩ := h2
        have h3 : ((p ^ (k + 2) : Nat) : Int) ∣ ((p ^ (k + 1) : Nat) : Int) * ((p : Int) * y) := by
          refine ⟨y, ?_⟩
          rw [Nat.pow_succ p (k + 1), Int.natCast_mul]
          grind
        have e : pwv (n + 1) A (n * (k + 2) + L * N * p ^ k * (m + 1)) v r - pwv (n + 1) A (n * (k + 2)) v r - ((m + 1 : Nat) : Int) * (((p ^ (k + 1) : Nat) : Int) * pwv (n + 1) A n v2 r) = (pwv (n + 1) A (n * (k + 2) + L * N * p ^ k * m) v r - pwv (n + 1) A (n * (k + 2)) v r - (m : Int) * (((p ^ (k + 1) : Nat) : Int) * pwv (n + 1) A n v2 r)) + ((p ^ (k + 1) : Nat) : Int) * ((p : Int) * y) := by
          rw [← hy, Int.natCast_succ]
          grind
        rw [e]
        exact Int.dvd_add ihm h3
    have h9 := hz p
    have e9 : (p : Int) * (((p ^ (k + 1) : Nat) : Int) * pwv (n + 1) A n v2 r) = ((p ^ (k + 2) : Nat) : Int) * pwv (n + 1) A n v2 r := by
      rw [Nat.pow_succ p (k + 1), Int.natCast_mul]
      grind
    rw [e9] at h9
    have e10 : pwv (n + 1) A (n * (k + 1 + 1) + L * N * p ^ (k + 1)) v r - pwv (n + 1) A (n * (k + 1 + 1)) v r = (pwv (n + 1) A (n * (k + 2) + L * N * p ^ k * p) v r - pwv (n + 1) A (n * (k + 2)) v r - ((p ^ (k + 2) : Nat) : Int) * pwv (n + 1) A n v2 r) + ((p ^ (k + 2) : Nat) : Int) * pwv (n + 1) A n v2 r := by
      have e11 : L * N * p ^ (k + 1) = L * N * p ^ k * p := by
        rw [Nat.pow_succ]
        exact (Nat.mul_assoc _ _ _).symm
      rw [e11]
      show pwv (n + 1) A (n * (k + 2) + L * N * p ^ k * p) v r - pwv (n + 1) A (n * (k + 2)) v r = _
      omega
    rw [e10]
    exact Int.dvd_add h9 (Int.dvd_mul_right _ _)
