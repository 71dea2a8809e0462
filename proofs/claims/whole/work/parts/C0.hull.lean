/-! ===== one round holds all: Hull and Dobell ===== -/
def gs (a : Int) : Nat → Int
  | 0 => 0
  | n + 1 => gs a n * a + 1
theorem gs_add (a : Int) (m : Nat) : ∀ n, gs a (m + n) = gs a m * a ^ n + gs a n
  | 0 => by
    show gs a m = gs a m * a ^ 0 + 0
    rw [Int.pow_zero]
    omega
  | n + 1 => by
    show gs a (m + n) * a + 1 = gs a m * a ^ (n + 1) + (gs a n * a + 1)
    rw [gs_add a m n, Int.pow_succ]
    grind
theorem gs_mul (a : Int) (p : Nat) : ∀ m, gs a (p * m) = gs a p * gs (a ^ p) m
  | 0 => by
    rw [Nat.mul_zero]
    show (0 : Int) = gs a p * 0
    omega
  | m + 1 => by
    rw [Nat.mul_succ, gs_add, gs_mul a p m]
    show _ = gs a p * (gs (a ^ p) m * a ^ p + 1)
    grind
theorem gs_lin {p : Nat} {a : Int} (h : (p : Int) ∣ a - 1) : ∀ n : Nat, (p : Int) ∣ gs a n - n
  | 0 => Int.dvd_zero _
  | n + 1 => by
    obtain ⟨u, hu⟩ := h
    obtain ⟨v, hv⟩ := gs_lin (p := p) (a := a) ⟨u, hu⟩ n
    refine ⟨gs a n * u + v, ?_⟩
    show gs a n * a + 1 - ((n + 1 : Nat) : Int) = _
    have e : a = p * u + 1 := by omega
    have e2 : gs a n = p * v + n := by omega
    generalize gs a n = g at *
    subst e
    subst e2
    grind
theorem gs_quad {p : Nat} {b : Int} : ∀ n : Nat, ((p * p : Nat) : Int) ∣ gs (1 + p * b) n - (n + p * b * c2 n)
  | 0 => ⟨0, by show (0 : Int) - ((0 : Nat) + p * b * 0) = _; grind⟩
  | n + 1 => by
    obtain ⟨v, hv⟩ := gs_quad (p := p) (b := b) n
    refine ⟨v * (1 + p * b) + b * b * c2 n, ?_⟩
    show gs (1 + p * b) n * (1 + p * b) + 1 - (((n + 1 : Nat) : Int) + p * b * (c2 n + n)) = _
    have e2 : gs (1 + p * b) n = ((p * p : Nat) : Int) * v + (n + p * b * c2 n) := by omega
    rw [e2]
    grind
theorem gs_p {p : Nat} (hp : prm p) {a : Int} (h : (p : Int) ∣ a - 1) (h4 : p ≠ 2 ∨ (4 : Int) ∣ a - 1) : ∃ u : Int, gs a p = p * u ∧ ¬ (p : Int) ∣ u := by
  have p2 := hp.1
  by_cases e : p = 2
  · subst e
    obtain ⟨w, hw⟩ := h4.resolve_left (fun z => z rfl)
    refine ⟨2 * w + 1, ?_, fun z => by omega⟩
    show ((0 : Int) * a + 1) * a + 1 = _
    grind
  · obtain ⟨b, hb⟩ := h
    have ea : a = 1 + p * b := by omega
    obtain ⟨v, hv⟩ := gs_quad (p := p) (b := b) p
    have hc : (p : Int) ∣ c2 p := by
      have z := c2_eq p
      have z2 : (p : Int) ∣ 2 * c2 p := ⟨(p : Int) - 1, by rw [z]; grind⟩
      rcases prm_mul hp z2 with y | y
      · have y2 : p ∣ 2 := Int.ofNat_dvd.mp y
        have := Nat.le_of_dvd (by omega) y2
        omega
      · exact y
    obtain ⟨w, hw⟩ := hc
    rw [← ea] at hv
    refine ⟨1 + p * (v + b * w), ?_, fun z => ?_⟩
    · have e2 : gs a p = ((p * p : Nat) : Int) * v + (p + p * b * c2 p) := by omega
      rw [e2, hw]
      grind
    · have z2 : (p : Int) ∣ 1 := by
        have := Int.dvd_sub z (Int.dvd_mul_right (p : Int) (v + b * w))
        rwa [show 1 + (p : Int) * (v + b * w) - p * (v + b * w) = 1 by omega] at this
      have y2 : p ∣ 1 := Int.ofNat_dvd.mp z2
      have := Nat.le_of_dvd (by omega) y2
      omega
theorem pk_cop {p k : Nat} (hp : prm p) {u g : Int} (hu : ¬ (p : Int) ∣ u) (h : ((p ^ k : Nat) : Int) ∣ u * g) : ((p ^ k : Nat) : Int) ∣ g := by
  have h1 : ¬ p ∣ u.natAbs := fun z => hu (Int.ofNat_dvd_left.mpr z)
  have h2 := Int.ofNat_dvd_left.mp h
  rw [Int.natAbs_mul] at h2
  exact Int.ofNat_dvd_left.mpr (Nat.Coprime.dvd_of_dvd_mul_left (Nat.Coprime.pow_left k (prm_cop hp h1)) h2)
theorem pow_one_dvd {q a : Int} (h : q ∣ a - 1) : ∀ n : Nat, q ∣ a ^ n - 1
  | 0 => by
    rw [Int.pow_zero]
    exact Int.dvd_zero _
  | n + 1 => by
    rw [Int.pow_succ, show a ^ n * a - 1 = (a ^ n - 1) * a + (a - 1) by grind]
    exact Int.dvd_add (Int.dvd_mul_of_dvd_left (pow_one_dvd h n)) h
theorem gs_dvd1 {p : Nat} {a : Int} (h : (p : Int) ∣ a - 1) (n : Nat) : (p : Int) ∣ gs a n ↔ p ∣ n := by
  have z := gs_lin h n
  constructor
  · intro y
    have := Int.dvd_sub y z
    rw [show gs a n - (gs a n - (n : Int)) = (n : Int) by omega] at this
    exact Int.ofNat_dvd.mp this
  · intro y
    have := Int.dvd_add z (Int.ofNat_dvd.mpr y)
    rwa [show gs a n - (n : Int) + (n : Int) = gs a n by omega] at this
theorem lte {p : Nat} (hp : prm p) : ∀ (k n : Nat) (a : Int), (k ≤ 1 ∨ p ≠ 2 ∨ (4 : Int) ∣ a - 1) → (p : Int) ∣ a - 1 → (((p ^ k : Nat) : Int) ∣ gs a n ↔ p ^ k ∣ n)
  | 0, n, a, _, _ => by
    rw [Nat.pow_zero]
    exact ⟨fun _ => Nat.one_dvd n, fun _ => Int.one_dvd _⟩
  | k + 1, n, a, h4, h1 => by
    have p2 := hp.1
    by_cases k0 : k = 0
    · subst k0
      rw [Nat.pow_one]
      exact gs_dvd1 h1 n
    have h4' : p ≠ 2 ∨ (4 : Int) ∣ a - 1 := h4.resolve_left (by omega)
    obtain ⟨u, hu, hu2⟩ := gs_p hp h1 h4'
    have key : ∀ m, ((p ^ (k + 1) : Nat) : Int) ∣ gs a (p * m) ↔ p ^ (k + 1) ∣ p * m := fun m => by
      have ih := lte hp k m (a ^ p) (h4'.elim (fun z => Or.inr (Or.inl z)) (fun z => Or.inr (Or.inr (pow_one_dvd z p)))) (pow_one_dvd h1 p)
      rw [gs_mul, hu, Nat.pow_succ, Nat.mul_comm (p ^ k) p]
      have c1 : ((p * p ^ k : Nat) : Int) ∣ (p : Int) * u * gs (a ^ p) m ↔ ((p ^ k : Nat) : Int) ∣ u * gs (a ^ p) m := by
        rw [Int.natCast_mul, Int.mul_assoc]
        exact Int.mul_dvd_mul_iff_left (by omega)
      have c2' : p * p ^ k ∣ p * m ↔ p ^ k ∣ m := Nat.mul_dvd_mul_iff_left (by omega)
      rw [c1, c2', ← ih]
      exact ⟨fun z => pk_cop hp hu2 z, fun z => Int.dvd_mul_of_dvd_right z⟩
    constructor
    · intro z
      have z1 : (p : Int) ∣ gs a n := Int.dvd_trans (Int.ofNat_dvd.mpr (Nat.dvd_trans (Nat.dvd_refl p) ⟨p ^ k, by rw [Nat.pow_succ, Nat.mul_comm]⟩)) z
      obtain ⟨m, hm⟩ := (gs_dvd1 h1 n).mp z1
      subst hm
      exact (key m).mp z
    · intro z
      have z1 : p ∣ n := Nat.dvd_trans ⟨p ^ k, by rw [Nat.pow_succ, Nat.mul_comm]⟩ z
      obtain ⟨m, hm⟩ := z1
      subst hm
      exact (key m).mpr z
/-- the rests that a SINGLE mill gives from 0 on -/
def ob (a c : Int) (M : Nat) : Nat → Int
  | 0 => 0
  | n + 1 => (ob a c M n * a + c) % (M : Int)
theorem ob_gs {a c : Int} {M : Nat} : ∀ n, (M : Int) ∣ ob a c M n - c * gs a n
  | 0 => ⟨0, by show (0 : Int) - c * 0 = _; omega⟩
  | n + 1 => by
    obtain ⟨v, hv⟩ := ob_gs (a := a) (c := c) (M := M) n
    have z := Int.mul_ediv_add_emod (ob a c M n * a + c) M
    refine ⟨v * a - (ob a c M n * a + c) / M, ?_⟩
    show (ob a c M n * a + c) % (M : Int) - c * (gs a n * a + 1) = _
    have e : ob a c M n = M * v + c * gs a n := by omega
    generalize (ob a c M n * a + c) / (M : Int) = q at *
    generalize (ob a c M n * a + c) % (M : Int) = r at *
    generalize ob a c M n = o at *
    subst e
    grind
theorem ob_bd {a c : Int} {M : Nat} (hM : 0 < M) : ∀ n, 0 ≤ ob a c M n ∧ ob a c M n < M
  | 0 => ⟨Int.le_refl 0, by show (0 : Int) < M; omega⟩
  | _ + 1 => ⟨Int.emod_nonneg _ (by omega), Int.emod_lt_of_pos _ (by omega)⟩
theorem ob_z {a c : Int} {M : Nat} (hM : 0 < M) (n : Nat) : ob a c M n = 0 ↔ (M : Int) ∣ c * gs a n := by
  have z := ob_gs (a := a) (c := c) (M := M) n
  have b := ob_bd (a := a) (c := c) hM n
  constructor
  · intro e
    rw [e] at z
    have := Int.dvd_neg.mpr z
    rwa [show -(0 - c * gs a n) = c * gs a n by omega] at this
  · intro e
    have := Int.dvd_add z e
    rw [show ob a c M n - c * gs a n + c * gs a n = ob a c M n by omega] at this
    exact eq_of_dvd b ⟨Int.le_refl 0, by omega⟩ (by rw [Int.sub_zero]; exact this)
theorem ob_det {a c : Int} {M : Nat} : detm (ob a c M) := fun s t h => by
  show (ob a c M s * a + c) % (M : Int) = (ob a c M t * a + c) % (M : Int)
  rw [h]
def allR (a c : Int) (M : Nat) : Prop := ob a c M M = 0 ∧ ∀ n, 1 ≤ n → n < M → ob a c M n ≠ 0
theorem all_per {a c : Int} {M : Nat} (hM : 0 < M) (h : allR a c M) : isPer (ob a c M) 0 M := by
  obtain ⟨W, hW⟩ := per_ex (x := ob a c M) (m := 0) ob_det (R := M) hM (by rw [Nat.zero_add]; exact h.1)
  have h1 := (hW.2 M).mp (by rw [Nat.zero_add]; exact h.1)
  have h2 := Nat.le_of_dvd hM h1
  have h3 := (hW.2 W).mpr (Nat.dvd_refl W)
  rw [Nat.zero_add] at h3
  by_cases e : W = M
  · rw [← e]
    rw [e] at hW ⊢
    exact hW
  · exact absurd h3 (h.2 W hW.1 (by omega))
theorem all_inj {a c : Int} {M : Nat} (hM : 0 < M) (h : isPer (ob a c M) 0 M) {i j : Nat} (hi : i < M) (hj : j < M) (e : ob a c M i = ob a c M j) : i = j := by
  have key : ∀ i j, i < j → j < M → ob a c M i ≠ ob a c M j := fun i j hij hj e => by
    have z := detm_add ob_det e (M - j)
    rw [show j + (M - j) = 0 + M by omega, (h.2 M).mpr (Nat.dvd_refl M), show i + (M - j) = 0 + (i + (M - j)) by omega] at z
    have := Nat.le_of_dvd (by omega) ((h.2 _).mp z)
    omega
  rcases Nat.lt_trichotomy i j with z | z | z
  · exact absurd e (key i j z hj)
  · exact z
  · exact absurd e.symm (key j i z hi)
theorem all_sur {a c : Int} {M : Nat} (hM : 0 < M) (h : isPer (ob a c M) 0 M) {v : Nat} (hv : v < M) : ∃ n, n < M ∧ ob a c M n = (v : Int) := by
  by_cases hn : v ∈ (List.range M).map (fun n => (ob a c M n).toNat)
  · obtain ⟨n, n1, n2⟩ := List.mem_map.mp hn
    have b := ob_bd (a := a) (c := c) hM n
    exact ⟨n, List.mem_range.mp n1, by omega⟩
  · have hd : ((List.range M).map (fun n => (ob a c M n).toNat)).Nodup := by
      unfold List.Nodup
      rw [List.pairwise_map]
      refine List.Pairwise.imp_of_mem ?_ List.nodup_range
      intro x y hx hy hxy e
      have b1 := ob_bd (a := a) (c := c) hM x
      have b2 := ob_bd (a := a) (c := c) hM y
      exact hxy (all_inj hM h (List.mem_range.mp hx) (List.mem_range.mp hy) (by omega))
    have h2 : (v :: (List.range M).map (fun n => (ob a c M n).toNat)).Nodup := List.nodup_cons.mpr ⟨hn, hd⟩
    have h3 := h2.length_le_of_subset (l₂ := List.range M) (fun x hx => by
      rcases List.mem_cons.mp hx with e | e
      · rw [e]
        exact List.mem_range.mpr hv
      · obtain ⟨n, -, n2⟩ := List.mem_map.mp e
        have b := ob_bd (a := a) (c := c) hM n
        exact List.mem_range.mpr (by omega))
    rw [List.length_cons, List.length_map, List.length_range] at h3
    omega
/-- modulo a divisor of M that fixes a rest -/
theorem ob_fix {a c z : Int} {M p : Nat} (hpM : p ∣ M) (hz : (p : Int) ∣ z * a + c - z) {n : Nat} (h : (p : Int) ∣ ob a c M n - z) : ∀ k, (p : Int) ∣ ob a c M (n + k) - z
  | 0 => h
  | k + 1 => by
    obtain ⟨u, hu⟩ := ob_fix hpM hz h k
    obtain ⟨w, hw⟩ := hz
    obtain ⟨t, ht⟩ := hpM
    have y := Int.mul_ediv_add_emod (ob a c M (n + k) * a + c) M
    refine ⟨u * a + w - t * ((ob a c M (n + k) * a + c) / M), ?_⟩
    show (ob a c M (n + k) * a + c) % (M : Int) - z = _
    have e : ob a c M (n + k) = p * u + z := by omega
    have eM : (M : Int) = p * t := by rw [ht]; exact Int.natCast_mul p t
    generalize (ob a c M (n + k) * a + c) / (M : Int) = q at *
    generalize (ob a c M (n + k) * a + c) % (M : Int) = r at *
    generalize ob a c M (n + k) = o at *
    generalize (M : Int) = Mi at *
    subst eM
    subst e
    grind
theorem ob_two {a c : Int} {M : Nat} (hM : 4 ∣ M) (ha : (4 : Int) ∣ a + 1) : ∀ k, (4 : Int) ∣ ob a c M (2 * k) ∧ (4 : Int) ∣ ob a c M (2 * k + 1) - c
  | 0 => by
    obtain ⟨t, ht⟩ := hM
    refine ⟨Int.dvd_zero _, ?_⟩
    show (4 : Int) ∣ ((0 : Int) * a + c) % (M : Int) - c
    have y := Int.mul_ediv_add_emod ((0 : Int) * a + c) M
    have eM : (M : Int) = 4 * t := by omega
    refine ⟨-(t * (((0 : Int) * a + c) / (M : Int))), ?_⟩
    generalize ((0 : Int) * a + c) / (M : Int) = q at *
    generalize ((0 : Int) * a + c) % (M : Int) = r at *
    rw [eM] at y
    grind
  | k + 1 => by
    obtain ⟨⟨u, hu⟩, v, hv⟩ := ob_two (c := c) hM ha k
    obtain ⟨t, ht⟩ := hM
    obtain ⟨w, hw⟩ := ha
    have eM : (M : Int) = 4 * t := by omega
    have s1 : (4 : Int) ∣ ob a c M (2 * (k + 1)) := by
      show (4 : Int) ∣ (ob a c M (2 * k + 1) * a + c) % (M : Int)
      have y := Int.mul_ediv_add_emod (ob a c M (2 * k + 1) * a + c) M
      refine ⟨v * a + c * w - t * ((ob a c M (2 * k + 1) * a + c) / (M : Int)), ?_⟩
      generalize (ob a c M (2 * k + 1) * a + c) / (M : Int) = q at *
      generalize (ob a c M (2 * k + 1) * a + c) % (M : Int) = r at *
      rw [eM] at y
      grind
    refine ⟨s1, ?_⟩
    obtain ⟨u2, hu2⟩ := s1
    show (4 : Int) ∣ (ob a c M (2 * (k + 1)) * a + c) % (M : Int) - c
    have y := Int.mul_ediv_add_emod (ob a c M (2 * (k + 1)) * a + c) M
    refine ⟨u2 * a - t * ((ob a c M (2 * (k + 1)) * a + c) / (M : Int)), ?_⟩
    generalize (ob a c M (2 * (k + 1)) * a + c) / (M : Int) = q at *
    generalize (ob a c M (2 * (k + 1)) * a + c) % (M : Int) = r at *
    rw [eM] at y
    grind
def hullOk (e : Nat × Nat) (a : Int) : Prop := ((if e.1 ^ e.2 % 4 = 0 then 4 else e.1 : Nat) : Int) ∣ a - 1
theorem four_all : (List.range 501).all (fun M => (fcs M).all (fun e => (decide (e.1 = 2) && (decide (e.2 = 1) && decide (e.1 ^ e.2 % 4 = 2) || decide (e.1 ^ e.2 % 4 = 0))) || (decide (e.1 ≠ 2) && decide (e.1 ^ e.2 % 4 ≠ 0)))) = true := by decide +kernel
theorem four_of {M : Nat} (h5 : M ≤ 500) {e : Nat × Nat} (he : e ∈ fcs M) : (e.1 = 2 ∧ ((e.2 = 1 ∧ e.1 ^ e.2 % 4 = 2) ∨ e.1 ^ e.2 % 4 = 0)) ∨ (e.1 ≠ 2 ∧ e.1 ^ e.2 % 4 ≠ 0) := by
  have h := List.all_eq_true.mp (List.all_eq_true.mp four_all M (List.mem_range.mpr (by omega))) e he
  simp only [Bool.or_eq_true, Bool.and_eq_true, decide_eq_true_eq] at h
  exact h
theorem hull_if {M : Nat} {a c : Int} (h2 : 2 ≤ M) (h5 : M ≤ 500) (hc : Nat.gcd M c.natAbs = 1) (hh : ∀ e ∈ fcs M, hullOk e a) : allR a c M := by
  have key : ∀ n, ob a c M n = 0 ↔ M ∣ n := fun n => by
    rw [ob_z (by omega)]
    have c1 : (M : Int) ∣ c * gs a n ↔ (M : Int) ∣ gs a n := by
      constructor
      · intro z
        have z2 := Int.ofNat_dvd_left.mp z
        rw [Int.natAbs_mul] at z2
        exact Int.ofNat_dvd_left.mpr (Nat.Coprime.dvd_of_dvd_mul_left hc z2)
      · exact fun z => Int.dvd_mul_of_dvd_right z
    rw [c1, fcs_dvdI h2 h5, fcs_dvd h2 h5]
    have each : ∀ e ∈ fcs M, (((e.1 ^ e.2 : Nat) : Int) ∣ gs a n ↔ e.1 ^ e.2 ∣ n) := fun e he => by
      have hp := ((fcs_ok h2 h5).2.1 e he).1
      have ho := hh e he
      unfold hullOk at ho
      rcases four_of h5 he with ⟨f1, f2 | f2⟩ | ⟨f1, f2⟩
      · rw [if_neg (by omega)] at ho
        exact lte hp e.2 n a (Or.inl (by omega)) ho
      · rw [if_pos f2] at ho
        exact lte hp e.2 n a (Or.inr (Or.inr ho)) (by rw [f1]; exact Int.dvd_trans (by decide) ho)
      · rw [if_neg f2] at ho
        exact lte hp e.2 n a (Or.inr (Or.inl f1)) ho
    exact ⟨fun z e he => (each e he).mp (z e he), fun z e he => (each e he).mpr (z e he)⟩
  refine ⟨(key M).mpr (Nat.dvd_refl M), fun n n1 n2 z => ?_⟩
  have := Nat.le_of_dvd (by omega) ((key n).mp z)
  omega
theorem hull_only {M : Nat} {a c : Int} (h2 : 2 ≤ M) (h5 : M ≤ 500) (h : allR a c M) : Nat.gcd M c.natAbs = 1 ∧ ∀ e ∈ fcs M, hullOk e a := by
  have hM : 0 < M := by omega
  have hp := all_per hM h
  obtain ⟨n1, n1M, e1⟩ := all_sur hM hp (v := 1) (by omega)
  have g1 : Nat.gcd M c.natAbs = 1 := by
    have z := ob_gs (a := a) (c := c) (M := M) n1
    rw [e1] at z
    have d1 : ((Nat.gcd M c.natAbs : Nat) : Int) ∣ (M : Int) := Int.ofNat_dvd.mpr (Nat.gcd_dvd_left _ _)
    have d2 : ((Nat.gcd M c.natAbs : Nat) : Int) ∣ c := Int.ofNat_dvd_left.mpr (Nat.gcd_dvd_right _ _)
    have d3 := Int.dvd_add (Int.dvd_trans d1 z) (Int.dvd_mul_of_dvd_left (c := gs a n1) d2)
    rw [show ((1 : Nat) : Int) - c * gs a n1 + c * gs a n1 = ((1 : Nat) : Int) by omega] at d3
    exact Nat.dvd_one.mp (Int.ofNat_dvd.mp d3)
  have hpr : ∀ e ∈ fcs M, (e.1 : Int) ∣ a - 1 := fun e he => by
    obtain ⟨q1, -, q3, q4⟩ := (fcs_ok h2 h5).2.1 e he
    have hpM : e.1 ∣ M := Nat.dvd_trans (Nat.dvd_trans ⟨e.1 ^ (e.2 - 1), by rw [← Nat.pow_succ']; congr 1; omega⟩ (Nat.dvd_refl (e.1 ^ e.2))) q4
    have hpl := Nat.le_of_dvd hM hpM
    have q2 := q1.1
    by_cases y : (e.1 : Int) ∣ a - 1
    · exact y
    obtain ⟨w, hw⟩ := prm_inv q1 y
    have hz : (e.1 : Int) ∣ (-(w * c)) * a + c - (-(w * c)) := by
      rw [show (-(w * c)) * a + c - (-(w * c)) = -((w * (a - 1) - 1) * c) by grind]
      exact Int.dvd_neg.mpr (Int.dvd_mul_of_dvd_left hw)
    have b0 := Int.emod_nonneg (-(w * c)) (show (e.1 : Int) ≠ 0 by omega)
    have b1 := Int.emod_lt_of_pos (-(w * c)) (show (0 : Int) < e.1 by omega)
    obtain ⟨m, mM, em⟩ := all_sur hM hp (v := (-(w * c) % (e.1 : Int)).toNat) (by omega)
    have hm : (e.1 : Int) ∣ ob a c M m - -(w * c) := by
      rw [em, Int.toNat_of_nonneg b0]
      exact ⟨-(-(w * c) / (e.1 : Int)), by have := Int.mul_ediv_add_emod (-(w * c)) e.1; grind⟩
    have f1 := ob_fix hpM hz hm (M - m)
    have f2 := ob_fix hpM hz hm (n1 + (M - m))
    rw [show m + (M - m) = M by omega, h.1] at f1
    have e3 := detm_mul ob_det (x := ob a c M) (m := n1) (R := M) (by
      have := detm_add ob_det (x := ob a c M) (s := M) (t := 0) h.1 n1
      rw [Nat.zero_add, Nat.add_comm] at this
      exact this) 1
    rw [show m + (n1 + (M - m)) = n1 + 1 * M by omega, e3, e1] at f2
    have f3 := Int.dvd_sub f2 f1
    rw [show ((1 : Nat) : Int) - -(w * c) - (0 - -(w * c)) = ((1 : Nat) : Int) by omega] at f3
    have := Nat.le_of_dvd (by omega) (Int.ofNat_dvd.mp f3)
    omega
  refine ⟨g1, fun e he => ?_⟩
  unfold hullOk
  rcases four_of h5 he with ⟨f1, f2 | f2⟩ | ⟨f1, f2⟩
  · rw [if_neg (by omega)]
    exact hpr e he
  · rw [if_pos f2]
    by_cases y : (4 : Int) ∣ a - 1
    · exact y
    have z := hpr e he
    rw [f1] at z
    have h4M : 4 ∣ M := Nat.dvd_trans (Nat.dvd_of_mod_eq_zero f2) ((fcs_ok h2 h5).2.1 e he).2.2.2
    have hl := Nat.le_of_dvd hM h4M
    have ha : (4 : Int) ∣ a + 1 := by omega
    obtain ⟨m2, -, e2⟩ := all_sur hM hp (v := 2) (by omega)
    have k1 := ob_two (c := c) h4M ha (n1 / 2)
    have k2 := ob_two (c := c) h4M ha (m2 / 2)
    have o1 : n1 = 2 * (n1 / 2) ∨ n1 = 2 * (n1 / 2) + 1 := by omega
    have o2 : m2 = 2 * (m2 / 2) ∨ m2 = 2 * (m2 / 2) + 1 := by omega
    have r1 : (4 : Int) ∣ 1 ∨ (4 : Int) ∣ 1 - c := o1.elim (fun o => Or.inl (by have := k1.1; rwa [← o, e1] at this)) (fun o => Or.inr (by have := k1.2; rwa [← o, e1] at this))
    have r2 : (4 : Int) ∣ 2 ∨ (4 : Int) ∣ 2 - c := o2.elim (fun o => Or.inl (by have := k2.1; rwa [← o, e2] at this)) (fun o => Or.inr (by have := k2.2; rwa [← o, e2] at this))
    omega
  · rw [if_neg f2]
    exact hpr e he
theorem hull_iff {M : Nat} {a c : Int} (h2 : 2 ≤ M) (h5 : M ≤ 500) : allR a c M ↔ Nat.gcd M c.natAbs = 1 ∧ ∀ e ∈ fcs M, hullOk e a := ⟨hull_only h2 h5, fun z => hull_if h2 h5 z.1 z.2⟩
