/-! ===== systems of equations modulo q ===== -/
def tsp (a b k : Nat) : Nat := if k = a then b else if k = b then a else k
theorem tsp_inv (a b k : Nat) : tsp a b (tsp a b k) = k := by
  unfold tsp
  repeat' split
  all_goals omega
theorem tsp_in {a b k i n : Nat} (ha : i ≤ a ∧ a < n) (hb : i ≤ b ∧ b < n) (hk : i ≤ k ∧ k < n) : i ≤ tsp a b k ∧ tsp a b k < n := by
  unfold tsp
  repeat' split
  all_goals omega
def lsm (l : List Nat) (f : Nat → Int) : Int := l.foldr (fun c a => f c + a) 0
theorem lsm_perm {l l2 : List Nat} (h : l.Perm l2) (f : Nat → Int) : lsm l f = lsm l2 f := by
  induction h with
  | nil => rfl
  | cons x _ ih => show f x + lsm _ f = f x + lsm _ f; rw [ih]
  | swap x y l => show f y + (f x + lsm l f) = f x + (f y + lsm l f); omega
  | trans _ _ h1 h2 => exact h1.trans h2
theorem lsm_map (τ : Nat → Nat) (f : Nat → Int) : ∀ l : List Nat, lsm (l.map τ) f = lsm l (fun c => f (τ c))
  | [] => rfl
  | x :: l => by
    show f (τ x) + lsm (l.map τ) f = f (τ x) + lsm l (fun c => f (τ c))
    rw [lsm_map τ f l]
theorem ss_lsm (f : Nat → Int) : ∀ k j, ss f j k = lsm (List.range' j k) f
  | 0, _ => rfl
  | k + 1, j => by
    show f j + ss f (j + 1) k = lsm (j :: List.range' (j + 1) k) f
    rw [ss_lsm f k (j + 1)]
    rfl
theorem rng_perm {a b i n : Nat} (ha : i ≤ a ∧ a < n) (hb : i ≤ b ∧ b < n) : ((List.range' i (n - i)).map (tsp a b)).Perm (List.range' i (n - i)) := by
  refine (List.perm_ext_iff_of_nodup ?_ (List.nodup_range' (step := 1))).mpr (fun k => ?_)
  · show List.Pairwise _ _
    rw [List.pairwise_map]
    refine List.Pairwise.imp ?_ (List.nodup_range' (s := i) (n := n - i) (step := 1))
    intro x y hxy he
    exact hxy (by rw [← tsp_inv a b x, he, tsp_inv])
  · rw [List.mem_map, List.mem_range'_1]
    constructor
    · rintro ⟨x, hx, rfl⟩
      rw [List.mem_range'_1] at hx
      have := tsp_in ha hb (show i ≤ x ∧ x < n by omega)
      omega
    · intro hk
      have := tsp_in ha hb (show i ≤ k ∧ k < n by omega)
      exact ⟨tsp a b k, by rw [List.mem_range'_1]; omega, tsp_inv a b k⟩
theorem ss_tsp {a b i n : Nat} (ha : i ≤ a ∧ a < n) (hb : i ≤ b ∧ b < n) (f : Nat → Int) : ss (fun c => f (tsp a b c)) i (n - i) = ss f i (n - i) := by
  rw [ss_lsm, ss_lsm, ← lsm_map]
  exact lsm_perm (rng_perm ha hb) f
/-- row r's equation, from unknown i on -/
def eqn (q i n : Nat) (F : Nat → Nat → Int) (y : Nat → Int) (r : Nat) : Prop := (q : Int) ∣ ss (fun c => F r c * y c) i (n - i) - F r n
def sysI (q i n : Nat) (F : Nat → Nat → Int) (y : Nat → Int) : Prop := ∀ r, i ≤ r → r < n → eqn q i n F y r
/-- how many solutions -/
noncomputable def SS (q i n : Nat) (F : Nat → Nat → Int) : Nat := sm q (List.range' i (n - i)) (fun y => ind (sysI q i n F y)) (fun _ => 0)
theorem SS_congr {q i n : Nat} {F G : Nat → Nat → Int} (h : ∀ y, sysI q i n F y ↔ sysI q i n G y) : SS q i n F = SS q i n G := sm_congr _ _ (fun y => ind_congr (h y))
theorem SS_swap {q i n a b : Nat} {F G : Nat → Nat → Int} (ha : i ≤ a ∧ a < n) (hb : i ≤ b ∧ b < n) (hi : i < n) (h : ∀ r c, r < n → c ≤ n → G r c = F (tsp i a r) (tsp i b c)) : SS q i n G = SS q i n F := by
  have hii : i ≤ i ∧ i < n := ⟨Nat.le_refl _, hi⟩
  have h1 : ∀ y, sysI q i n G y ↔ sysI q i n F (fun k => y (tsp i b k)) := by
    intro y
    have key : ∀ r, i ≤ r → r < n → (eqn q i n G y r ↔ eqn q i n F (fun k => y (tsp i b k)) (tsp i a r)) := by
      intro r r1 r2
      unfold eqn
      have e1 : ss (fun c => G r c * y c) i (n - i) = ss (fun c => F (tsp i a r) c * y (tsp i b c)) i (n - i) := by
        rw [← ss_tsp hii hb (fun c => F (tsp i a r) c * y (tsp i b c))]
        exact ss_congr (n - i) i (fun c c1 c2 => by rw [h r c r2 (by omega), tsp_inv])
      have e2 : G r n = F (tsp i a r) n := by
        rw [h r n r2 (Nat.le_refl n)]
        congr 1
        unfold tsp
        rw [if_neg (by omega), if_neg (by omega)]
      rw [e1, e2]
    constructor
    · intro z r r1 r2
      have := tsp_in hii ha ⟨r1, r2⟩
      have h2 := (key (tsp i a r) this.1 this.2).mp (z _ this.1 this.2)
      rw [tsp_inv] at h2
      exact h2
    · intro z r r1 r2
      have := tsp_in hii ha ⟨r1, r2⟩
      exact (key r r1 r2).mpr (z _ this.1 this.2)
  unfold SS
  rw [sm_congr (g := fun y => ind (sysI q i n F (fun k => y (tsp i b k)))) _ _ (fun y => ind_congr (h1 y))]
  have h3 := sm_ren (q := q) (tsp_inv i b) (List.range' i (n - i)) (fun y => ind (sysI q i n F y)) (fun _ => 0)
  rw [← h3]
  exact sm_perm (rng_perm hii hb) _ _
theorem SS_pivot {q i n g m : Nat} {F : Nat → Nat → Int} (hi : i < n) (hq : q = g * m) (hg : 0 < g) (hm : 0 < m) {u w : Int} (hu : (m : Int) ∣ w * u - 1) (hp : F i i = g * u) (hd : ∀ c, i < c → c < n → (g : Int) ∣ F i c) (hz : ∀ r, i < r → r < n → F r i = 0) : SS q i n F = (if (g : Int) ∣ F i n then g else 0) * SS q (i + 1) n F := by
  have hsplit : ∀ (y : Nat → Int) r, ss (fun c => F r c * y c) i (n - i) = F r i * y i + ss (fun c => F r c * y c) (i + 1) (n - (i + 1)) := by
    intro y r
    rw [show n - i = (n - (i + 1)) + 1 by omega]
    rfl
  have h1 : ∀ y, sysI q i n F y ↔ ((q : Int) ∣ g * u * y i + ss (fun c => F i c * y c) (i + 1) (n - (i + 1)) - F i n ∧ sysI q (i + 1) n F y) := by
    intro y
    constructor
    · intro z
      refine ⟨?_, fun r r1 r2 => ?_⟩
      · have := z i (Nat.le_refl _) hi
        unfold eqn at this
        rw [hsplit, hp] at this
        exact this
      · have := z r (by omega) r2
        unfold eqn at this ⊢
        rw [hsplit, hz r (by omega) r2, Int.zero_mul, Int.zero_add] at this
        exact this
    · rintro ⟨z1, z2⟩ r r1 r2
      unfold eqn
      rw [hsplit]
      by_cases hr : r = i
      · subst hr
        rw [hp]
        exact z1
      · rw [hz r (by omega) r2, Int.zero_mul, Int.zero_add]
        exact z2 r (by omega) r2
  unfold SS
  rw [sm_congr (g := fun y => ind ((q : Int) ∣ g * u * y i + ss (fun c => F i c * y c) (i + 1) (n - (i + 1)) - F i n ∧ sysI q (i + 1) n F y)) _ _ (fun y => ind_congr (h1 y)), show n - i = (n - (i + 1)) + 1 by omega]
  show sm q (i :: List.range' (i + 1) (n - (i + 1))) _ _ = _
  have hup : ∀ (y : Nat → Int) (a : Int) r, ss (fun c => F r c * va_up y i a c) (i + 1) (n - (i + 1)) = ss (fun c => F r c * y c) (i + 1) (n - (i + 1)) := fun y a r => ss_congr _ _ (fun c c1 c2 => by rw [va_up_ne _ _ (by omega)])
  refine sm_pivot (L := fun y => ss (fun c => F i c * y c) (i + 1) (n - (i + 1))) (P := fun y => sysI q (i + 1) n F y) hq hg hm hu (fun y a => hup y a i) (fun y => ?_) (fun y a => ?_) _
  · have : ∀ (k j : Nat), i < j → j + k ≤ n → (g : Int) ∣ ss (fun c => F i c * y c) j k := by
      intro k
      induction k with
      | zero => exact fun j _ _ => Int.dvd_zero _
      | succ k ih => exact fun j j1 j2 => Int.dvd_add (Int.dvd_mul_of_dvd_left (hd j j1 (by omega))) (ih (j + 1) (by omega) (by omega))
    exact this (n - (i + 1)) (i + 1) (by omega) (by omega)
  · constructor
    · intro z r r1 r2
      have := z r r1 r2
      unfold eqn at this ⊢
      rw [hup] at this
      exact this
    · intro z r r1 r2
      have := z r r1 r2
      unfold eqn at this ⊢
      rw [hup]
      exact this
theorem SS_end {q n : Nat} {F : Nat → Nat → Int} : SS q n n F = 1 := by
  unfold SS
  rw [Nat.sub_self]
  exact ind_t (fun r r1 r2 => by omega)
/-- a row times a number that can be turned, and rows less multiples of it -/
theorem SS_rows {q i n : Nat} {F G : Nat → Nat → Int} {w w2 : Int} {t : Nat → Int} (hi : i < n) (hw : (q : Int) ∣ w2 * w - 1) (h1 : ∀ c, i ≤ c → c ≤ n → (q : Int) ∣ G i c - w * F i c) (h2 : ∀ r, i < r → r < n → ∀ c, i ≤ c → c ≤ n → (q : Int) ∣ G r c - (F r c - t r * G i c)) : SS q i n G = SS q i n F := by
  have lin : ∀ (A B : Nat → Int) (y : Nat → Int), (∀ c, i ≤ c → c < n → (q : Int) ∣ A c - B c) → (q : Int) ∣ ss (fun c => A c * y c) i (n - i) - ss (fun c => B c * y c) i (n - i) := by
    intro A B y hAB
    have : ∀ k j, i ≤ j → j + k ≤ n → (q : Int) ∣ ss (fun c => A c * y c) j k - ss (fun c => B c * y c) j k := by
      intro k
      induction k with
      | zero => exact fun j _ _ => ⟨0, by simp [ss]⟩
      | succ k ih =>
        intro j j1 j2
        have e : ss (fun c => A c * y c) j (k + 1) - ss (fun c => B c * y c) j (k + 1) = (A j - B j) * y j + (ss (fun c => A c * y c) (j + 1) k - ss (fun c => B c * y c) (j + 1) k) := by
          show A j * y j + ss (fun c => A c * y c) (j + 1) k - (B j * y j + ss (fun c => B c * y c) (j + 1) k) = _
          grind
        rw [e]
        exact Int.dvd_add (Int.dvd_mul_of_dvd_left (hAB j j1 (by omega))) (ih (j + 1) (by omega) (by omega))
    exact this (n - i) i (Nat.le_refl _) (by omega)
  refine SS_congr (fun y => ?_)
  -- row i
  have hrow : eqn q i n G y i ↔ eqn q i n F y i := by
    unfold eqn
    have a1 := lin (G i) (fun c => w * F i c) y (fun c c1 c2 => h1 c c1 (by omega))
    have a2 := h1 n (by omega) (Nat.le_refl _)
    have e0 : ss (fun c => w * F i c * y c) i (n - i) = w * ss (fun c => F i c * y c) i (n - i) := by
      rw [← ss_mul]
      exact ss_congr _ _ (fun c _ _ => Int.mul_assoc _ _ _)
    rw [e0] at a1
    generalize ss (fun c => G i c * y c) i (n - i) = sg at *
    generalize ss (fun c => F i c * y c) i (n - i) = sf at *
    constructor
    · intro z
      have b1 : (q : Int) ∣ w * (sf - F i n) := by
        have := Int.dvd_sub (Int.dvd_add z a2) a1
        rw [show sg - G i n + (G i n - w * F i n) - (sg - w * sf) = w * (sf - F i n) by grind] at this
        exact this
      have b2 : sf - F i n = w2 * (w * (sf - F i n)) - (w2 * w - 1) * (sf - F i n) := by grind
      rw [b2]
      exact Int.dvd_sub (Int.dvd_mul_of_dvd_right b1) (Int.dvd_mul_of_dvd_left hw)
    · intro z
      have : sg - G i n = w * (sf - F i n) + (sg - w * sf) - (G i n - w * F i n) := by grind
      rw [this]
      exact Int.dvd_sub (Int.dvd_add (Int.dvd_mul_of_dvd_right z) a1) a2
  have hrows : ∀ r, i < r → r < n → eqn q i n G y i → (eqn q i n G y r ↔ eqn q i n F y r) := by
    intro r r1 r2 zi
    unfold eqn at zi ⊢
    have a1 := lin (G r) (fun c => F r c - t r * G i c) y (fun c c1 c2 => h2 r r1 r2 c c1 (by omega))
    have a2 := h2 r r1 r2 n (by omega) (Nat.le_refl _)
    have e0 : ss (fun c => (F r c - t r * G i c) * y c) i (n - i) = ss (fun c => F r c * y c) i (n - i) - t r * ss (fun c => G i c * y c) i (n - i) := by
      rw [← ss_mul, show ss (fun c => F r c * y c) i (n - i) - ss (fun c => t r * (G i c * y c)) i (n - i) = ss (fun c => F r c * y c) i (n - i) + (-1) * ss (fun c => t r * (G i c * y c)) i (n - i) by omega, ← ss_mul, ← ss_add]
      exact ss_congr _ _ (fun c _ _ => by grind)
    rw [e0] at a1
    generalize ss (fun c => G i c * y c) i (n - i) = sg at *
    generalize ss (fun c => F r c * y c) i (n - i) = sf at *
    generalize ss (fun c => G r c * y c) i (n - i) = sr at *
    constructor
    · intro z
      have : sf - F r n = (sr - G r n) - (sr - (sf - t r * sg)) + (G r n - (F r n - t r * G i n)) + t r * (sg - G i n) := by grind
      rw [this]
      exact Int.dvd_add (Int.dvd_add (Int.dvd_sub z a1) a2) (Int.dvd_mul_of_dvd_right zi)
    · intro z
      have : sr - G r n = (sf - F r n) + (sr - (sf - t r * sg)) - (G r n - (F r n - t r * G i n)) - t r * (sg - G i n) := by grind
      rw [this]
      exact Int.dvd_sub (Int.dvd_sub (Int.dvd_add z a1) a2) (Int.dvd_mul_of_dvd_right zi)
  constructor
  · intro z r r1 r2
    by_cases hr : r = i
    · rw [hr]
      exact hrow.mp (z i (Nat.le_refl _) hi)
    · exact (hrows r (by omega) r2 (z i (Nat.le_refl _) hi)).mp (z r r1 r2)
  · intro z r r1 r2
    have zi := hrow.mpr (z i (Nat.le_refl _) hi)
    by_cases hr : r = i
    · rw [hr]
      exact zi
    · exact (hrows r (by omega) r2 zi).mpr (z r r1 r2)
/-- the divisors of a prime's power -/
theorem dvd_ppow {p : Nat} (hp : prm p) : ∀ (k d : Nat), d ∣ p ^ k → ∃ j, j ≤ k ∧ d = p ^ j
  | 0, d, h => ⟨0, Nat.le_refl _, by rw [Nat.pow_zero] at h ⊢; exact Nat.dvd_one.mp h⟩
  | k + 1, d, h => by
    by_cases hd : p ∣ d
    · obtain ⟨e, rfl⟩ := hd
      have p0 : 0 < p := by have := hp.1; omega
      rw [Nat.pow_succ, Nat.mul_comm (p ^ k)] at h
      obtain ⟨j, j1, j2⟩ := dvd_ppow hp k e (Nat.dvd_of_mul_dvd_mul_left p0 h)
      exact ⟨j + 1, by omega, by rw [j2, Nat.pow_succ, Nat.mul_comm]⟩
    · rw [Nat.pow_succ] at h
      obtain ⟨j, j1, j2⟩ := dvd_ppow hp k d ((prm_cop hp hd).symm.dvd_of_dvd_mul_right h)
      exact ⟨j, by omega, j2⟩
theorem ppow_le {p k a b : Nat} (hp : prm p) (ha : a ∣ p ^ k) (hb : b ∣ p ^ k) (h : a ≤ b) : a ∣ b := by
  obtain ⟨i, i1, rfl⟩ := dvd_ppow hp k a ha
  obtain ⟨j, j1, rfl⟩ := dvd_ppow hp k b hb
  by_cases hij : i ≤ j
  · exact Nat.pow_dvd_pow p hij
  · have := Nat.pow_lt_pow_right hp.1 (show j < i by omega)
    omega
/-- a number over what it shares with the power has no prime of it left -/
theorem ppow_cop {p k x : Nat} (hp : prm p) (x0 : 0 < x) (xq : x < p ^ k) : Nat.gcd (p ^ k) (x / Nat.gcd (p ^ k) x) = 1 := by
  have hg0 := Nat.gcd_pos_of_pos_right (p ^ k) x0
  obtain ⟨y, hy⟩ := Nat.gcd_dvd_right (p ^ k) x
  obtain ⟨j, j1, j2⟩ := dvd_ppow hp k _ (Nat.gcd_dvd_left (p ^ k) x)
  have e1 : x / Nat.gcd (p ^ k) x = y := by
    have h9 : Nat.gcd (p ^ k) x * y / Nat.gcd (p ^ k) x = y := Nat.mul_div_cancel_left _ hg0
    rw [← hy] at h9
    exact h9
  rw [e1]
  by_cases hpy : p ∣ y
  · exfalso
    obtain ⟨z, rfl⟩ := hpy
    have jk : j < k := by
      apply Nat.lt_of_not_le
      intro hz
      have hjk : j = k := by omega
      rw [hjk] at j2
      rw [j2] at hy
      have hz0 : 0 < p * z := Nat.pos_of_ne_zero (fun q => by rw [q, Nat.mul_zero] at hy; omega)
      have := Nat.mul_le_mul_left (p ^ k) hz0
      omega
    have h1 : p ^ (j + 1) ∣ Nat.gcd (p ^ k) x := by
      refine Nat.dvd_gcd (Nat.pow_dvd_pow p (by omega)) ⟨z, ?_⟩
      rw [Nat.pow_succ, Nat.mul_assoc, ← j2]
      exact hy
    rw [j2] at h1
    have h2 := Nat.le_of_dvd (Nat.pow_pos (by have := hp.1; omega)) h1
    have := Nat.pow_lt_pow_right hp.1 (show j < j + 1 by omega)
    omega
  · exact Nat.Coprime.pow_left k (prm_cop hp hpy)
