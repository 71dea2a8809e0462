/-! ===== nets: the reference's rows by number ===== -/
def hqs (l : Nat → Int) : Nat → Int
  | 0 => 0
  | k + 1 => hqs l k + l k * l k
def hby (M : Nat) (t : Int) : Nat → Int
  | 0 => 1
  | k + 1 => hby M t k * t % (M : Int)
def hsm (M : Nat) (t : Int) (l : Nat → Int) : Nat → Int
  | 0 => 0
  | k + 1 => (hsm M t l k + hby M t k * l k) % (M : Int)
def hfs (l : Nat → Int) : Nat → Int
  | 0 => 0
  | k + 1 => if hfs l k = 0 then l k else hfs l k
theorem hby_bd {M : Nat} {t : Int} (hM : 2 ≤ M) : ∀ k, 0 ≤ hby M t k ∧ hby M t k < M
  | 0 => ⟨by show (0 : Int) ≤ 1; omega, by show (1 : Int) < M; omega⟩
  | _ + 1 => ⟨Int.emod_nonneg _ (by omega), Int.emod_lt_of_pos _ (by omega)⟩
theorem hsm_bd {M : Nat} {t : Int} {l : Nat → Int} (hM : 2 ≤ M) : ∀ k, 0 ≤ hsm M t l k ∧ hsm M t l k < M
  | 0 => ⟨Int.le_refl 0, by show (0 : Int) < M; omega⟩
  | _ + 1 => ⟨Int.emod_nonneg _ (by omega), Int.emod_lt_of_pos _ (by omega)⟩
theorem hqs_bd {l : Nat → Int} : ∀ k, (∀ i, i < k → -24 ≤ l i ∧ l i ≤ 24) → 0 ≤ hqs l k ∧ hqs l k ≤ 576 * k
  | 0, _ => ⟨Int.le_refl 0, by show (0 : Int) ≤ 576 * ((0 : Nat) : Int); omega⟩
  | k + 1, h => by
    have z := hqs_bd k (fun i hi => h i (by omega))
    have y := mul_bd (A := 24) (B := 24) (h k (by omega)) (h k (by omega))
    have n := sq_nn (l k)
    show 0 ≤ hqs l k + l k * l k ∧ hqs l k + l k * l k ≤ 576 * ((k + 1 : Nat) : Int)
    omega
theorem hfs_bd {l : Nat → Int} : ∀ k, (∀ i, i < k → -24 ≤ l i ∧ l i ≤ 24) → -24 ≤ hfs l k ∧ hfs l k ≤ 24
  | 0, _ => by show -24 ≤ (0 : Int) ∧ (0 : Int) ≤ 24; omega
  | k + 1, h => by
    have z := hfs_bd k (fun i hi => h i (by omega))
    have y := h k (by omega)
    show -24 ≤ (if hfs l k = 0 then l k else hfs l k) ∧ (if hfs l k = 0 then l k else hfs l k) ≤ 24
    split <;> omega
theorem hby_pow {M : Nat} {t : Int} : ∀ k, (M : Int) ∣ hby M t k - t ^ k
  | 0 => by
    rw [Int.pow_zero]
    exact Int.dvd_zero _
  | k + 1 => by
    obtain ⟨q, hq⟩ := hby_pow (M := M) (t := t) k
    have z := Int.mul_ediv_add_emod (hby M t k * t) M
    refine ⟨q * t - hby M t k * t / M, ?_⟩
    show hby M t k * t % (M : Int) - t ^ (k + 1) = _
    rw [Int.pow_succ]
    have e : hby M t k = M * q + t ^ k := by omega
    generalize hby M t k * t / (M : Int) = u at *
    generalize hby M t k * t % (M : Int) = v at *
    generalize hby M t k = w at *
    subst e
    grind
theorem hsm_sum {M : Nat} {t : Int} {l : Nat → Int} : ∀ k, (M : Int) ∣ hsm M t l k - ss (fun i => t ^ i * l i) 0 k
  | 0 => Int.dvd_zero _
  | k + 1 => by
    obtain ⟨q, hq⟩ := hsm_sum (M := M) (t := t) (l := l) k
    obtain ⟨p, hp⟩ := hby_pow (M := M) (t := t) k
    have z := Int.mul_ediv_add_emod (hsm M t l k + hby M t k * l k) M
    rw [ss_last]
    refine ⟨q + p * l k - (hsm M t l k + hby M t k * l k) / M, ?_⟩
    show (hsm M t l k + hby M t k * l k) % (M : Int) - (ss (fun i => t ^ i * l i) 0 k + t ^ (0 + k) * l (0 + k)) = _
    rw [Nat.zero_add]
    have e : hsm M t l k = M * q + ss (fun i => t ^ i * l i) 0 k := by omega
    have e2 : hby M t k = M * p + t ^ k := by omega
    generalize (hsm M t l k + hby M t k * l k) / (M : Int) = u at *
    generalize (hsm M t l k + hby M t k * l k) % (M : Int) = v at *
    generalize hsm M t l k = w at *
    generalize hby M t k = w2 at *
    subst e
    subst e2
    grind
theorem hfs_or (l : Nat → Int) (k : Nat) : (hfs l k = 0 ∧ hfs l (k + 1) = l k) ∨ (hfs l k ≠ 0 ∧ hfs l (k + 1) = hfs l k) := by
  have e : hfs l (k + 1) = if hfs l k = 0 then l k else hfs l k := rfl
  by_cases c : hfs l k = 0
  · rw [if_pos c] at e
    exact Or.inl ⟨c, e⟩
  · rw [if_neg c] at e
    exact Or.inr ⟨c, e⟩
def zx (k : Nat) (l : Nat → Int) (i : Nat) : Int := if i < k then l i else 0
def hit (M k : Nat) (t s : Int) (l : Nat → Int) : Prop := hqs l k = s ∧ hsm M t l k = 0 ∧ 0 < hfs l k
theorem hqs_congr {l m : Nat → Int} : ∀ k, (∀ i, i < k → l i = m i) → hqs l k = hqs m k
  | 0, _ => rfl
  | k + 1, h => by
    show hqs l k + l k * l k = hqs m k + m k * m k
    rw [hqs_congr k (fun i hi => h i (by omega)), h k (by omega)]
theorem hsm_congr {M : Nat} {t : Int} {l m : Nat → Int} : ∀ k, (∀ i, i < k → l i = m i) → hsm M t l k = hsm M t m k
  | 0, _ => rfl
  | k + 1, h => by
    show (hsm M t l k + hby M t k * l k) % (M : Int) = (hsm M t m k + hby M t k * m k) % (M : Int)
    rw [hsm_congr k (fun i hi => h i (by omega)), h k (by omega)]
theorem hfs_congr {l m : Nat → Int} : ∀ k, (∀ i, i < k → l i = m i) → hfs l k = hfs m k
  | 0, _ => rfl
  | k + 1, h => by
    show (if hfs l k = 0 then l k else hfs l k) = (if hfs m k = 0 then m k else hfs m k)
    rw [hfs_congr k (fun i hi => h i (by omega)), h k (by omega)]
theorem hit_congr {M k : Nat} {t s : Int} {l m : Nat → Int} (h : ∀ i, i < k → l i = m i) : hit M k t s l ↔ hit M k t s m := by
  unfold hit
  rw [hqs_congr k h, hsm_congr k h, hfs_congr k h]
theorem hit_iff {M k : Nat} {t s : Int} {l : Nat → Int} (hM : 2 ≤ M) (k2 : 2 ≤ k) (k4 : k ≤ 4) : hit M k t s l ↔ lnOk t M k (zx k l) ∧ sq4 (zx k l) = s := by
  have hz : hsm M t l k = 0 ↔ (M : Int) ∣ ss (fun i => t ^ i * l i) 0 k := by
    have b := hsm_bd (t := t) (l := l) hM k
    have d := hsm_sum (M := M) (t := t) (l := l) k
    constructor
    · intro e
      rw [e] at d
      have := Int.dvd_neg.mpr d
      rwa [show -(0 - ss (fun i => t ^ i * l i) 0 k) = ss (fun i => t ^ i * l i) 0 k by omega] at this
    · intro e
      have := Int.dvd_add d e
      rw [show hsm M t l k - ss (fun i => t ^ i * l i) 0 k + ss (fun i => t ^ i * l i) 0 k = hsm M t l k by omega] at this
      exact eq_of_dvd b ⟨Int.le_refl 0, by omega⟩ (by rw [Int.sub_zero]; exact this)
  unfold hit lnOk
  rw [hz]
  have h0 : ∀ i, k ≤ i → i < 4 → zx k l i = 0 := fun i i1 _ => if_neg (by omega)
  have hc : k = 2 ∨ k = 3 ∨ k = 4 := by omega
  have z0 : zx k l 0 = l 0 := if_pos (by omega)
  have z1 : zx k l 1 = l 1 := if_pos (by omega)
  rcases hc with e | e | e <;> subst e
  · have z2 : zx 2 l 2 = (0 : Int) := if_neg (by omega)
    have z3 : zx 2 l 3 = (0 : Int) := if_neg (by omega)
    have es : ss (fun i => t ^ i * l i) 0 2 = l 0 + t * l 1 + t * t * (0 : Int) + t * t * t * (0 : Int) := by
      simp only [ss]
      grind
    have eq : hqs l 2 = sq4 (zx 2 l) := by
      unfold sq4
      rw [z0, z1, z2, z3]
      simp only [hqs]
      omega
    rw [es, eq]
    rw [z0, z1, z2, z3]
    have ef : 0 < hfs l 2 ↔ (0 < l 0 ∨ (l 0 = 0 ∧ (0 < l 1 ∨ (l 1 = 0 ∧ (0 < (0 : Int) ∨ ((0 : Int) = 0 ∧ 0 < (0 : Int))))))) := by
      have o0 : hfs l 0 = 0 := rfl
      have o1 := hfs_or l 0
      have o2 := hfs_or l 1
      have o3 := hfs_or l 2
      have o4 := hfs_or l 3
      simp only [Nat.reduceAdd] at o1 o2 o3 o4
      omega
    rw [ef]
    exact ⟨fun ⟨q1, q2, q3⟩ => ⟨⟨h0, q2, q3⟩, q1⟩, fun ⟨⟨_, q2, q3⟩, q1⟩ => ⟨q1, q2, q3⟩⟩
  · have z2 : zx 3 l 2 = l 2 := if_pos (by omega)
    have z3 : zx 3 l 3 = (0 : Int) := if_neg (by omega)
    have es : ss (fun i => t ^ i * l i) 0 3 = l 0 + t * l 1 + t * t * l 2 + t * t * t * (0 : Int) := by
      simp only [ss]
      grind
    have eq : hqs l 3 = sq4 (zx 3 l) := by
      unfold sq4
      rw [z0, z1, z2, z3]
      simp only [hqs]
      omega
    rw [es, eq]
    rw [z0, z1, z2, z3]
    have ef : 0 < hfs l 3 ↔ (0 < l 0 ∨ (l 0 = 0 ∧ (0 < l 1 ∨ (l 1 = 0 ∧ (0 < l 2 ∨ (l 2 = 0 ∧ 0 < (0 : Int))))))) := by
      have o0 : hfs l 0 = 0 := rfl
      have o1 := hfs_or l 0
      have o2 := hfs_or l 1
      have o3 := hfs_or l 2
      have o4 := hfs_or l 3
      simp only [Nat.reduceAdd] at o1 o2 o3 o4
      omega
    rw [ef]
    exact ⟨fun ⟨q1, q2, q3⟩ => ⟨⟨h0, q2, q3⟩, q1⟩, fun ⟨⟨_, q2, q3⟩, q1⟩ => ⟨q1, q2, q3⟩⟩
  · have z2 : zx 4 l 2 = l 2 := if_pos (by omega)
    have z3 : zx 4 l 3 = l 3 := if_pos (by omega)
    have es : ss (fun i => t ^ i * l i) 0 4 = l 0 + t * l 1 + t * t * l 2 + t * t * t * l 3 := by
      simp only [ss]
      grind
    have eq : hqs l 4 = sq4 (zx 4 l) := by
      unfold sq4
      rw [z0, z1, z2, z3]
      simp only [hqs]
      omega
    rw [es, eq]
    rw [z0, z1, z2, z3]
    have ef : 0 < hfs l 4 ↔ (0 < l 0 ∨ (l 0 = 0 ∧ (0 < l 1 ∨ (l 1 = 0 ∧ (0 < l 2 ∨ (l 2 = 0 ∧ 0 < l 3)))))) := by
      have o0 : hfs l 0 = 0 := rfl
      have o1 := hfs_or l 0
      have o2 := hfs_or l 1
      have o3 := hfs_or l 2
      have o4 := hfs_or l 3
      simp only [Nat.reduceAdd] at o1 o2 o3 o4
      omega
    rw [ef]
    exact ⟨fun ⟨q1, q2, q3⟩ => ⟨⟨h0, q2, q3⟩, q1⟩, fun ⟨⟨_, q2, q3⟩, q1⟩ => ⟨q1, q2, q3⟩⟩
def rst (side y : Nat) : Nat → Nat
  | 0 => y
  | j + 1 => rst side y j / side
def rwx (side w k y i : Nat) : Int := ((rst side y (k - 1 - i) % side : Nat) : Int) - w
theorem hor_lt {s a b x y : Nat} (hx : x < s) (h : a < b) : a * s + x < b * s + y := by
  have := Nat.mul_le_mul_right s (show a + 1 ≤ b by omega)
  rw [Nat.add_mul, Nat.one_mul] at this
  omega
theorem hor_dm {s a x : Nat} (hx : x < s) : (a * s + x) / s = a ∧ (a * s + x) % s = x := by
  have hs : 0 < s := by omega
  constructor
  · rw [Nat.mul_comm, Nat.mul_add_div hs, Nat.div_eq_of_lt hx, Nat.add_zero]
  · rw [Nat.mul_comm, Nat.mul_add_mod, Nat.mod_eq_of_lt hx]
theorem yz_2 {M w : Nat} {t S : Int} {Z : Nat → Int} (hM : 2 ≤ M) (hZ : isShort t M 2 S Z) (hw : S < ((w : Int) + 1) * (w + 1)) : ∃ yZ, yZ < 1 * (2 * w + 1) * (2 * w + 1) ∧ (∀ i, i < 2 → rwx (2 * w + 1) w 2 yZ i = Z i) ∧ ∀ y, y < yZ → ¬ hit M 2 t S (rwx (2 * w + 1) w 2 y) := by
  have hsq := hZ.2.1
  unfold sq4 at hsq
  have n0 := sq_nn (Z 0)
  have n1 := sq_nn (Z 1)
  have n2 := sq_nn (Z 2)
  have n3 := sq_nn (Z 3)
  have b0 := Z_box (x := Z 0) (B := ((w : Int) + 1) * (w + 1)) (r := (w : Int)) (by omega) (by omega) (Int.le_refl _)
  have b1 := Z_box (x := Z 1) (B := ((w : Int) + 1) * (w + 1)) (r := (w : Int)) (by omega) (by omega) (Int.le_refl _)
  obtain ⟨a0, ea0⟩ : ∃ a : Nat, a = (Z 0 + w).toNat := ⟨_, rfl⟩
  obtain ⟨a1, ea1⟩ : ∃ a : Nat, a = (Z 1 + w).toNat := ⟨_, rfl⟩
  have c0 : (a0 : Int) = Z 0 + w ∧ a0 < 2 * w + 1 := by omega
  have c1 : (a1 : Int) = Z 1 + w ∧ a1 < 2 * w + 1 := by omega
  obtain ⟨s, es⟩ : ∃ s, s = 2 * w + 1 := ⟨_, rfl⟩
  rw [← es]
  rw [← es] at c0
  rw [← es] at c1
  have d1 := hor_dm (a := a0) c1.2
  have g0 : rst s ((a0) * s + a1) 0 = (a0) * s + a1 := rfl
  have g1 : rst s ((a0) * s + a1) 1 = a0 := by
    show rst s ((a0) * s + a1) 0 / s = _
    rw [g0]
    exact d1.1
  refine ⟨(a0) * s + a1, ?_, fun i hi => ?_, fun y hy hh => ?_⟩
  · have u0 : a0 < 1 * s := by omega
    have u1 : (a0) * s + a1 < 1 * s * s := by have := hor_lt (y := 0) c1.2 u0; omega
    exact u1
  · have hi4 : i = 0 ∨ i = 1 := by omega
    unfold rwx
    rcases hi4 with e | e <;> subst e
    · rw [show 2 - 1 - 0 = 1 from rfl, g1]
      rw [Nat.mod_eq_of_lt c0.2]
      omega
    · rw [show 2 - 1 - 1 = 0 from rfl, g0]
      rw [d1.2]
      omega
  · obtain ⟨q1, q2⟩ := (hit_iff hM (by omega) (by omega)).mp hh
    have hns := (hZ.2.2 _ q1).resolve_left (by omega)
    have hl : ¬ lexlt (zx 2 (rwx s w 2 y)) Z := hns.2
    have hzx : ∀ i, i < 2 → zx 2 (rwx s w 2 y) i = ((rst s y (2 - 1 - i) % s : Nat) : Int) - w := fun i hi => if_pos hi
    have sp : 0 < s := by omega
    have x0 := hzx 0 (by omega)
    have x1 := hzx 1 (by omega)
    rw [show 2 - 1 - 0 = 1 from rfl] at x0
    rw [show 2 - 1 - 1 = 0 from rfl] at x1
    obtain ⟨v0, ev0⟩ : ∃ v, v = rst s y 1 % s := ⟨_, rfl⟩
    have vb0 : v0 < s := by rw [ev0]; exact Nat.mod_lt _ sp
    rw [← ev0] at x0
    obtain ⟨v1, ev1⟩ : ∃ v, v = rst s y 0 % s := ⟨_, rfl⟩
    have vb1 : v1 < s := by rw [ev1]; exact Nat.mod_lt _ sp
    rw [← ev1] at x1
    have y2 : zx 2 (rwx s w 2 y) 2 = 0 := if_neg (by omega)
    have w2 : Z 2 = 0 := hZ.1.1 2 (by omega) (by omega)
    have y3 : zx 2 (rwx s w 2 y) 3 = 0 := if_neg (by omega)
    have w3 : Z 3 = 0 := hZ.1.1 3 (by omega) (by omega)
    have p0 : rst s y 1 * s + v1 = rst s y 0 := by rw [ev1, Nat.mul_comm]; exact Nat.div_add_mod _ s
    have pt : v0 ≤ rst s y 1 := by rw [ev0]; exact Nat.mod_le _ _
    have p9 : rst s y 0 = y := rfl
    have r0 : v0 ≤ rst s y 1 := pt
    have r1 : (v0) * s + v1 ≤ rst s y 0 := by have := Nat.mul_le_mul_right s r0; omega
    have hge : (a0) * s + a1 ≤ (v0) * s + v1 := by
      rcases Nat.lt_trichotomy a0 v0 with o0 | o0 | o0
      · have f0 : a0 < v0 := by exact o0
        have f1 : (a0) * s + a1 < (v0) * s + v1 := hor_lt c1.2 f0
        omega
      · skip
        rcases Nat.lt_trichotomy a1 v1 with o1 | o1 | o1
        · have f1 : (a0) * s + a1 < (v0) * s + v1 := by rw [o0]; omega
          omega
        · rw [o0, o1]
          exact Nat.le_refl _
        · exfalso
          apply hl
          unfold lexlt
          omega
      · exfalso
        apply hl
        unfold lexlt
        omega
    omega

theorem yz_3 {M w : Nat} {t S : Int} {Z : Nat → Int} (hM : 2 ≤ M) (hZ : isShort t M 3 S Z) (hw : S < ((w : Int) + 1) * (w + 1)) : ∃ yZ, yZ < 1 * (2 * w + 1) * (2 * w + 1) * (2 * w + 1) ∧ (∀ i, i < 3 → rwx (2 * w + 1) w 3 yZ i = Z i) ∧ ∀ y, y < yZ → ¬ hit M 3 t S (rwx (2 * w + 1) w 3 y) := by
  have hsq := hZ.2.1
  unfold sq4 at hsq
  have n0 := sq_nn (Z 0)
  have n1 := sq_nn (Z 1)
  have n2 := sq_nn (Z 2)
  have n3 := sq_nn (Z 3)
  have b0 := Z_box (x := Z 0) (B := ((w : Int) + 1) * (w + 1)) (r := (w : Int)) (by omega) (by omega) (Int.le_refl _)
  have b1 := Z_box (x := Z 1) (B := ((w : Int) + 1) * (w + 1)) (r := (w : Int)) (by omega) (by omega) (Int.le_refl _)
  have b2 := Z_box (x := Z 2) (B := ((w : Int) + 1) * (w + 1)) (r := (w : Int)) (by omega) (by omega) (Int.le_refl _)
  obtain ⟨a0, ea0⟩ : ∃ a : Nat, a = (Z 0 + w).toNat := ⟨_, rfl⟩
  obtain ⟨a1, ea1⟩ : ∃ a : Nat, a = (Z 1 + w).toNat := ⟨_, rfl⟩
  obtain ⟨a2, ea2⟩ : ∃ a : Nat, a = (Z 2 + w).toNat := ⟨_, rfl⟩
  have c0 : (a0 : Int) = Z 0 + w ∧ a0 < 2 * w + 1 := by omega
  have c1 : (a1 : Int) = Z 1 + w ∧ a1 < 2 * w + 1 := by omega
  have c2 : (a2 : Int) = Z 2 + w ∧ a2 < 2 * w + 1 := by omega
  obtain ⟨s, es⟩ : ∃ s, s = 2 * w + 1 := ⟨_, rfl⟩
  rw [← es]
  rw [← es] at c0
  rw [← es] at c1
  rw [← es] at c2
  have d1 := hor_dm (a := a0) c1.2
  have d2 := hor_dm (a := (a0) * s + a1) c2.2
  have g0 : rst s (((a0) * s + a1) * s + a2) 0 = ((a0) * s + a1) * s + a2 := rfl
  have g1 : rst s (((a0) * s + a1) * s + a2) 1 = (a0) * s + a1 := by
    show rst s (((a0) * s + a1) * s + a2) 0 / s = _
    rw [g0]
    exact d2.1
  have g2 : rst s (((a0) * s + a1) * s + a2) 2 = a0 := by
    show rst s (((a0) * s + a1) * s + a2) 1 / s = _
    rw [g1]
    exact d1.1
  refine ⟨((a0) * s + a1) * s + a2, ?_, fun i hi => ?_, fun y hy hh => ?_⟩
  · have u0 : a0 < 1 * s := by omega
    have u1 : (a0) * s + a1 < 1 * s * s := by have := hor_lt (y := 0) c1.2 u0; omega
    have u2 : ((a0) * s + a1) * s + a2 < 1 * s * s * s := by have := hor_lt (y := 0) c2.2 u1; omega
    exact u2
  · have hi4 : i = 0 ∨ i = 1 ∨ i = 2 := by omega
    unfold rwx
    rcases hi4 with e | e | e <;> subst e
    · rw [show 3 - 1 - 0 = 2 from rfl, g2]
      rw [Nat.mod_eq_of_lt c0.2]
      omega
    · rw [show 3 - 1 - 1 = 1 from rfl, g1]
      rw [d1.2]
      omega
    · rw [show 3 - 1 - 2 = 0 from rfl, g0]
      rw [d2.2]
      omega
  · obtain ⟨q1, q2⟩ := (hit_iff hM (by omega) (by omega)).mp hh
    have hns := (hZ.2.2 _ q1).resolve_left (by omega)
    have hl : ¬ lexlt (zx 3 (rwx s w 3 y)) Z := hns.2
    have hzx : ∀ i, i < 3 → zx 3 (rwx s w 3 y) i = ((rst s y (3 - 1 - i) % s : Nat) : Int) - w := fun i hi => if_pos hi
    have sp : 0 < s := by omega
    have x0 := hzx 0 (by omega)
    have x1 := hzx 1 (by omega)
    have x2 := hzx 2 (by omega)
    rw [show 3 - 1 - 0 = 2 from rfl] at x0
    rw [show 3 - 1 - 1 = 1 from rfl] at x1
    rw [show 3 - 1 - 2 = 0 from rfl] at x2
    obtain ⟨v0, ev0⟩ : ∃ v, v = rst s y 2 % s := ⟨_, rfl⟩
    have vb0 : v0 < s := by rw [ev0]; exact Nat.mod_lt _ sp
    rw [← ev0] at x0
    obtain ⟨v1, ev1⟩ : ∃ v, v = rst s y 1 % s := ⟨_, rfl⟩
    have vb1 : v1 < s := by rw [ev1]; exact Nat.mod_lt _ sp
    rw [← ev1] at x1
    obtain ⟨v2, ev2⟩ : ∃ v, v = rst s y 0 % s := ⟨_, rfl⟩
    have vb2 : v2 < s := by rw [ev2]; exact Nat.mod_lt _ sp
    rw [← ev2] at x2
    have y3 : zx 3 (rwx s w 3 y) 3 = 0 := if_neg (by omega)
    have w3 : Z 3 = 0 := hZ.1.1 3 (by omega) (by omega)
    have p0 : rst s y 1 * s + v2 = rst s y 0 := by rw [ev2, Nat.mul_comm]; exact Nat.div_add_mod _ s
    have p1 : rst s y 2 * s + v1 = rst s y 1 := by rw [ev1, Nat.mul_comm]; exact Nat.div_add_mod _ s
    have pt : v0 ≤ rst s y 2 := by rw [ev0]; exact Nat.mod_le _ _
    have p9 : rst s y 0 = y := rfl
    have r0 : v0 ≤ rst s y 2 := pt
    have r1 : (v0) * s + v1 ≤ rst s y 1 := by have := Nat.mul_le_mul_right s r0; omega
    have r2 : ((v0) * s + v1) * s + v2 ≤ rst s y 0 := by have := Nat.mul_le_mul_right s r1; omega
    have hge : ((a0) * s + a1) * s + a2 ≤ ((v0) * s + v1) * s + v2 := by
      rcases Nat.lt_trichotomy a0 v0 with o0 | o0 | o0
      · have f0 : a0 < v0 := by exact o0
        have f1 : (a0) * s + a1 < (v0) * s + v1 := hor_lt c1.2 f0
        have f2 : ((a0) * s + a1) * s + a2 < ((v0) * s + v1) * s + v2 := hor_lt c2.2 f1
        omega
      · skip
        rcases Nat.lt_trichotomy a1 v1 with o1 | o1 | o1
        · have f1 : (a0) * s + a1 < (v0) * s + v1 := by rw [o0]; omega
          have f2 : ((a0) * s + a1) * s + a2 < ((v0) * s + v1) * s + v2 := hor_lt c2.2 f1
          omega
        · skip
          rcases Nat.lt_trichotomy a2 v2 with o2 | o2 | o2
          · have f2 : ((a0) * s + a1) * s + a2 < ((v0) * s + v1) * s + v2 := by rw [o0, o1]; omega
            omega
          · rw [o0, o1, o2]
            exact Nat.le_refl _
          · exfalso
            apply hl
            unfold lexlt
            omega
        · exfalso
          apply hl
          unfold lexlt
          omega
      · exfalso
        apply hl
        unfold lexlt
        omega
    omega

theorem yz_4 {M w : Nat} {t S : Int} {Z : Nat → Int} (hM : 2 ≤ M) (hZ : isShort t M 4 S Z) (hw : S < ((w : Int) + 1) * (w + 1)) : ∃ yZ, yZ < 1 * (2 * w + 1) * (2 * w + 1) * (2 * w + 1) * (2 * w + 1) ∧ (∀ i, i < 4 → rwx (2 * w + 1) w 4 yZ i = Z i) ∧ ∀ y, y < yZ → ¬ hit M 4 t S (rwx (2 * w + 1) w 4 y) := by
  have hsq := hZ.2.1
  unfold sq4 at hsq
  have n0 := sq_nn (Z 0)
  have n1 := sq_nn (Z 1)
  have n2 := sq_nn (Z 2)
  have n3 := sq_nn (Z 3)
  have b0 := Z_box (x := Z 0) (B := ((w : Int) + 1) * (w + 1)) (r := (w : Int)) (by omega) (by omega) (Int.le_refl _)
  have b1 := Z_box (x := Z 1) (B := ((w : Int) + 1) * (w + 1)) (r := (w : Int)) (by omega) (by omega) (Int.le_refl _)
  have b2 := Z_box (x := Z 2) (B := ((w : Int) + 1) * (w + 1)) (r := (w : Int)) (by omega) (by omega) (Int.le_refl _)
  have b3 := Z_box (x := Z 3) (B := ((w : Int) + 1) * (w + 1)) (r := (w : Int)) (by omega) (by omega) (Int.le_refl _)
  obtain ⟨a0, ea0⟩ : ∃ a : Nat, a = (Z 0 + w).toNat := ⟨_, rfl⟩
  obtain ⟨a1, ea1⟩ : ∃ a : Nat, a = (Z 1 + w).toNat := ⟨_, rfl⟩
  obtain ⟨a2, ea2⟩ : ∃ a : Nat, a = (Z 2 + w).toNat := ⟨_, rfl⟩
  obtain ⟨a3, ea3⟩ : ∃ a : Nat, a = (Z 3 + w).toNat := ⟨_, rfl⟩
  have c0 : (a0 : Int) = Z 0 + w ∧ a0 < 2 * w + 1 := by omega
  have c1 : (a1 : Int) = Z 1 + w ∧ a1 < 2 * w + 1 := by omega
  have c2 : (a2 : Int) = Z 2 + w ∧ a2 < 2 * w + 1 := by omega
  have c3 : (a3 : Int) = Z 3 + w ∧ a3 < 2 * w + 1 := by omega
  obtain ⟨s, es⟩ : ∃ s, s = 2 * w + 1 := ⟨_, rfl⟩
  rw [← es]
  rw [← es] at c0
  rw [← es] at c1
  rw [← es] at c2
  rw [← es] at c3
  have d1 := hor_dm (a := a0) c1.2
  have d2 := hor_dm (a := (a0) * s + a1) c2.2
  have d3 := hor_dm (a := ((a0) * s + a1) * s + a2) c3.2
  have g0 : rst s ((((a0) * s + a1) * s + a2) * s + a3) 0 = (((a0) * s + a1) * s + a2) * s + a3 := rfl
  have g1 : rst s ((((a0) * s + a1) * s + a2) * s + a3) 1 = ((a0) * s + a1) * s + a2 := by
    show rst s ((((a0) * s + a1) * s + a2) * s + a3) 0 / s = _
    rw [g0]
    exact d3.1
  have g2 : rst s ((((a0) * s + a1) * s + a2) * s + a3) 2 = (a0) * s + a1 := by
    show rst s ((((a0) * s + a1) * s + a2) * s + a3) 1 / s = _
    rw [g1]
    exact d2.1
  have g3 : rst s ((((a0) * s + a1) * s + a2) * s + a3) 3 = a0 := by
    show rst s ((((a0) * s + a1) * s + a2) * s + a3) 2 / s = _
    rw [g2]
    exact d1.1
  refine ⟨(((a0) * s + a1) * s + a2) * s + a3, ?_, fun i hi => ?_, fun y hy hh => ?_⟩
  · have u0 : a0 < 1 * s := by omega
    have u1 : (a0) * s + a1 < 1 * s * s := by have := hor_lt (y := 0) c1.2 u0; omega
    have u2 : ((a0) * s + a1) * s + a2 < 1 * s * s * s := by have := hor_lt (y := 0) c2.2 u1; omega
    have u3 : (((a0) * s + a1) * s + a2) * s + a3 < 1 * s * s * s * s := by have := hor_lt (y := 0) c3.2 u2; omega
    exact u3
  · have hi4 : i = 0 ∨ i = 1 ∨ i = 2 ∨ i = 3 := by omega
    unfold rwx
    rcases hi4 with e | e | e | e <;> subst e
    · rw [show 4 - 1 - 0 = 3 from rfl, g3]
      rw [Nat.mod_eq_of_lt c0.2]
      omega
    · rw [show 4 - 1 - 1 = 2 from rfl, g2]
      rw [d1.2]
      omega
    · rw [show 4 - 1 - 2 = 1 from rfl, g1]
      rw [d2.2]
      omega
    · rw [show 4 - 1 - 3 = 0 from rfl, g0]
      rw [d3.2]
      omega
  · obtain ⟨q1, q2⟩ := (hit_iff hM (by omega) (by omega)).mp hh
    have hns := (hZ.2.2 _ q1).resolve_left (by omega)
    have hl : ¬ lexlt (zx 4 (rwx s w 4 y)) Z := hns.2
    have hzx : ∀ i, i < 4 → zx 4 (rwx s w 4 y) i = ((rst s y (4 - 1 - i) % s : Nat) : Int) - w := fun i hi => if_pos hi
    have sp : 0 < s := by omega
    have x0 := hzx 0 (by omega)
    have x1 := hzx 1 (by omega)
    have x2 := hzx 2 (by omega)
    have x3 := hzx 3 (by omega)
    rw [show 4 - 1 - 0 = 3 from rfl] at x0
    rw [show 4 - 1 - 1 = 2 from rfl] at x1
    rw [show 4 - 1 - 2 = 1 from rfl] at x2
    rw [show 4 - 1 - 3 = 0 from rfl] at x3
    obtain ⟨v0, ev0⟩ : ∃ v, v = rst s y 3 % s := ⟨_, rfl⟩
    have vb0 : v0 < s := by rw [ev0]; exact Nat.mod_lt _ sp
    rw [← ev0] at x0
    obtain ⟨v1, ev1⟩ : ∃ v, v = rst s y 2 % s := ⟨_, rfl⟩
    have vb1 : v1 < s := by rw [ev1]; exact Nat.mod_lt _ sp
    rw [← ev1] at x1
    obtain ⟨v2, ev2⟩ : ∃ v, v = rst s y 1 % s := ⟨_, rfl⟩
    have vb2 : v2 < s := by rw [ev2]; exact Nat.mod_lt _ sp
    rw [← ev2] at x2
    obtain ⟨v3, ev3⟩ : ∃ v, v = rst s y 0 % s := ⟨_, rfl⟩
    have vb3 : v3 < s := by rw [ev3]; exact Nat.mod_lt _ sp
    rw [← ev3] at x3
    have p0 : rst s y 1 * s + v3 = rst s y 0 := by rw [ev3, Nat.mul_comm]; exact Nat.div_add_mod _ s
    have p1 : rst s y 2 * s + v2 = rst s y 1 := by rw [ev2, Nat.mul_comm]; exact Nat.div_add_mod _ s
    have p2 : rst s y 3 * s + v1 = rst s y 2 := by rw [ev1, Nat.mul_comm]; exact Nat.div_add_mod _ s
    have pt : v0 ≤ rst s y 3 := by rw [ev0]; exact Nat.mod_le _ _
    have p9 : rst s y 0 = y := rfl
    have r0 : v0 ≤ rst s y 3 := pt
    have r1 : (v0) * s + v1 ≤ rst s y 2 := by have := Nat.mul_le_mul_right s r0; omega
    have r2 : ((v0) * s + v1) * s + v2 ≤ rst s y 1 := by have := Nat.mul_le_mul_right s r1; omega
    have r3 : (((v0) * s + v1) * s + v2) * s + v3 ≤ rst s y 0 := by have := Nat.mul_le_mul_right s r2; omega
    have hge : (((a0) * s + a1) * s + a2) * s + a3 ≤ (((v0) * s + v1) * s + v2) * s + v3 := by
      rcases Nat.lt_trichotomy a0 v0 with o0 | o0 | o0
      · have f0 : a0 < v0 := by exact o0
        have f1 : (a0) * s + a1 < (v0) * s + v1 := hor_lt c1.2 f0
        have f2 : ((a0) * s + a1) * s + a2 < ((v0) * s + v1) * s + v2 := hor_lt c2.2 f1
        have f3 : (((a0) * s + a1) * s + a2) * s + a3 < (((v0) * s + v1) * s + v2) * s + v3 := hor_lt c3.2 f2
        omega
      · skip
        rcases Nat.lt_trichotomy a1 v1 with o1 | o1 | o1
        · have f1 : (a0) * s + a1 < (v0) * s + v1 := by rw [o0]; omega
          have f2 : ((a0) * s + a1) * s + a2 < ((v0) * s + v1) * s + v2 := hor_lt c2.2 f1
          have f3 : (((a0) * s + a1) * s + a2) * s + a3 < (((v0) * s + v1) * s + v2) * s + v3 := hor_lt c3.2 f2
          omega
        · skip
          rcases Nat.lt_trichotomy a2 v2 with o2 | o2 | o2
          · have f2 : ((a0) * s + a1) * s + a2 < ((v0) * s + v1) * s + v2 := by rw [o0, o1]; omega
            have f3 : (((a0) * s + a1) * s + a2) * s + a3 < (((v0) * s + v1) * s + v2) * s + v3 := hor_lt c3.2 f2
            omega
          · skip
            rcases Nat.lt_trichotomy a3 v3 with o3 | o3 | o3
            · have f3 : (((a0) * s + a1) * s + a2) * s + a3 < (((v0) * s + v1) * s + v2) * s + v3 := by rw [o0, o1, o2]; omega
              omega
            · rw [o0, o1, o2, o3]
              exact Nat.le_refl _
            · exfalso
              apply hl
              unfold lexlt
              omega
          · exfalso
            apply hl
            unfold lexlt
            omega
        · exfalso
          apply hl
          unfold lexlt
          omega
      · exfalso
        apply hl
        unfold lexlt
        omega
    omega

