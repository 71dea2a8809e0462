/-! ===== numbers of rows by their rounds ===== -/
def cD : List Nat → Nat → Nat
  | [], _ => 0
  | a :: l, m => (if a ∣ m then 1 else 0) + cD l m
theorem cD_app (m : Nat) : ∀ a b : List Nat, cD (a ++ b) m = cD a m + cD b m
  | [], b => by show cD b m = 0 + cD b m; rw [Nat.zero_add]
  | x :: a, b => by
    show (if x ∣ m then 1 else 0) + cD (a ++ b) m = (if x ∣ m then 1 else 0) + cD a m + cD b m
    rw [cD_app m a b, Nat.add_assoc]
/-- f counts rounds that divide, all of them dividing W -/
def LC (W : Nat) (f : Nat → Nat) : Prop := ∃ l : List Nat, (∀ x ∈ l, 1 ≤ x ∧ x ∣ W) ∧ ∀ m, 1 ≤ m → f m = cD l m
theorem LC_zero (W : Nat) : LC W (fun _ => 0) := ⟨[], fun x hx => absurd hx List.not_mem_nil, fun _ _ => rfl⟩
theorem LC_add {W : Nat} {f g : Nat → Nat} (hf : LC W f) (hg : LC W g) : LC W (fun m => f m + g m) := by
  obtain ⟨a, a1, a2⟩ := hf
  obtain ⟨b, b1, b2⟩ := hg
  exact ⟨a ++ b, fun x hx => (List.mem_append.mp hx).elim (a1 x) (b1 x), fun m hm => by show f m + g m = _; rw [cD_app, a2 m hm, b2 m hm]⟩
theorem LC_congr {W : Nat} {f g : Nat → Nat} (hf : LC W f) (h : ∀ m, 1 ≤ m → g m = f m) : LC W g := by
  obtain ⟨a, a1, a2⟩ := hf
  exact ⟨a, a1, fun m hm => (h m hm).trans (a2 m hm)⟩
theorem LC_up {W V : Nat} {f : Nat → Nat} (hf : LC W f) (h : W ∣ V) : LC V f := by
  obtain ⟨a, a1, a2⟩ := hf
  exact ⟨a, fun x hx => ⟨(a1 x hx).1, Nat.dvd_trans (a1 x hx).2 h⟩, a2⟩
theorem LC_sN {W : Nat} {f : Nat → Nat → Nat} : ∀ q, (∀ a, a < q → LC W (f a)) → LC W (fun m => sN (fun a => f a m) q)
  | 0, _ => LC_zero W
  | q + 1, h => LC_add (LC_sN q (fun a ha => h a (by omega))) (h q (by omega))
theorem LC_sm {W q : Nat} : ∀ (vs : List Nat) (g : (Nat → Int) → Nat → Nat) (x : Nat → Int), (∀ y, LC W (g y)) → LC W (fun m => sm q vs (fun y => g y m) x)
  | [], g, x, h => h x
  | v :: vs, g, x, h => LC_sm vs (fun y m => sN (fun a => g (va_up y v (a : Int)) m) q) x (fun y => LC_sN q (fun a _ => h _))
theorem cD_lcm (a m : Nat) : ∀ l : List Nat, cD (l.map (Nat.lcm a)) m = (if a ∣ m then 1 else 0) * cD l m
  | [] => by show 0 = _ * 0; rw [Nat.mul_zero]
  | x :: l => by
    show (if Nat.lcm a x ∣ m then 1 else 0) + cD (l.map (Nat.lcm a)) m = (if a ∣ m then 1 else 0) * ((if x ∣ m then 1 else 0) + cD l m)
    rw [cD_lcm a m l]
    have h := Nat.lcm_dvd_iff (m := a) (n := x) (k := m)
    by_cases h1 : a ∣ m
    · by_cases h2 : x ∣ m
      · rw [if_pos (h.mpr ⟨h1, h2⟩), if_pos h1, if_pos h2]
        omega
      · rw [if_neg (fun z => h2 (h.mp z).2), if_pos h1, if_neg h2]
        omega
    · rw [if_neg (fun z => h1 (h.mp z).1), if_neg h1]
      omega
theorem LC_mul {W : Nat} {f g : Nat → Nat} (hf : LC W f) (hg : LC W g) (hW : 1 ≤ W) : LC W (fun m => f m * g m) := by
  obtain ⟨a, a1, a2⟩ := hf
  obtain ⟨b, b1, b2⟩ := hg
  refine ⟨a.flatMap (fun x => b.map (Nat.lcm x)), fun x hx => ?_, fun m hm => ?_⟩
  · obtain ⟨y, hy, hx2⟩ := List.mem_flatMap.mp hx
    obtain ⟨z, hz, rfl⟩ := List.mem_map.mp hx2
    exact ⟨Nat.lcm_pos (a1 y hy).1 (b1 z hz).1, Nat.lcm_dvd (a1 y hy).2 (b1 z hz).2⟩
  · show f m * g m = _
    rw [a2 m hm, b2 m hm]
    have : ∀ l : List Nat, cD (l.flatMap (fun x => b.map (Nat.lcm x))) m = cD l m * cD b m := by
      intro l
      induction l with
      | nil => show 0 = 0 * _; rw [Nat.zero_mul]
      | cons x l ih =>
        rw [List.flatMap_cons, cD_app, cD_lcm, ih]
        show _ = ((if x ∣ m then 1 else 0) + cD l m) * cD b m
        rw [Nat.add_mul]
    exact (this a).symm
theorem LC_one {W : Nat} (hW : 1 ≤ W) : LC W (fun _ => 1) := ⟨[1], fun x hx => by
    rw [List.mem_singleton] at hx
    rw [hx]
    exact ⟨Nat.le_refl _, Nat.one_dvd W⟩, fun m _ => by
    show 1 = (if 1 ∣ m then 1 else 0) + 0
    rw [if_pos (Nat.one_dvd m)]⟩
/-- one thing that comes back after the multiples of its round, or never -/
theorem LC_ind {W : Nat} {P : Nat → Prop} (h : (∀ m, 1 ≤ m → ¬ P m) ∨ ∃ p, 1 ≤ p ∧ p ∣ W ∧ ∀ m, 1 ≤ m → (P m ↔ p ∣ m)) : LC W (fun m => ind (P m)) := by
  rcases h with h | ⟨p, p1, p2, p3⟩
  · exact LC_congr (LC_zero W) (fun m hm => ind_f (h m hm))
  · refine ⟨[p], fun x hx => by rw [List.mem_singleton] at hx; rw [hx]; exact ⟨p1, p2⟩, fun m hm => ?_⟩
    show ind (P m) = (if p ∣ m then 1 else 0) + 0
    by_cases hp : p ∣ m
    · rw [if_pos hp, ind_t ((p3 m hm).mpr hp)]
    · rw [if_neg hp, ind_f (fun z => hp ((p3 m hm).mp z))]
theorem LC_prI {W : Nat} (hW : 1 ≤ W) {f : Nat → Nat → Nat} : ∀ k, (∀ j, j < k → LC W (f j)) → LC W (fun m => prI (fun j => f j m) k)
  | 0, _ => LC_one hW
  | k + 1, h => LC_mul (LC_prI hW k (fun j hj => h j (by omega))) (h k (by omega)) hW
/-! ===== inclusion and exclusion ===== -/
/-- the length divided by the primes whose bits stand in x -/
def dvd9 (ps : Nat → Nat) (l x : Nat) : Nat → Nat
  | 0 => l
  | k + 1 => if x / 2 ^ k % 2 = 1 then dvd9 ps l x k / ps k else dvd9 ps l x k
def bits9 (x : Nat) : Nat → Nat
  | 0 => 0
  | k + 1 => bits9 x k + x / 2 ^ k % 2
theorem dvd9_add (ps : Nat → Nat) (l : Nat) {k : Nat} (x : Nat) : ∀ j, j ≤ k → dvd9 ps l (x + 2 ^ k) j = dvd9 ps l x j
  | 0, _ => rfl
  | j + 1, hj => by
    have h1 : (x + 2 ^ k) / 2 ^ j % 2 = x / 2 ^ j % 2 := by
      rw [show (2 : Nat) ^ k = 2 ^ j * (2 * 2 ^ (k - (j + 1))) by rw [← Nat.mul_assoc, Nat.mul_comm (2 ^ j) 2, ← Nat.pow_succ', ← Nat.pow_add]; congr 1; omega, Nat.add_mul_div_left _ _ (Nat.pow_pos (by omega)), Nat.add_mul_mod_self_left]
    show (if (x + 2 ^ k) / 2 ^ j % 2 = 1 then dvd9 ps l (x + 2 ^ k) j / ps j else dvd9 ps l (x + 2 ^ k) j) = (if x / 2 ^ j % 2 = 1 then dvd9 ps l x j / ps j else dvd9 ps l x j)
    rw [h1, dvd9_add ps l x j (by omega)]
theorem bits9_add {k : Nat} (x : Nat) : ∀ j, j ≤ k → bits9 (x + 2 ^ k) j = bits9 x j
  | 0, _ => rfl
  | j + 1, hj => by
    have h1 : (x + 2 ^ k) / 2 ^ j % 2 = x / 2 ^ j % 2 := by
      rw [show (2 : Nat) ^ k = 2 ^ j * (2 * 2 ^ (k - (j + 1))) by rw [← Nat.mul_assoc, Nat.mul_comm (2 ^ j) 2, ← Nat.pow_succ', ← Nat.pow_add]; congr 1; omega, Nat.add_mul_div_left _ _ (Nat.pow_pos (by omega)), Nat.add_mul_mod_self_left]
    show bits9 (x + 2 ^ k) j + (x + 2 ^ k) / 2 ^ j % 2 = bits9 x j + x / 2 ^ j % 2
    rw [h1, bits9_add x j (by omega)]
/-- the sum with signs over the first k primes -/
def ie (ps : Nat → Nat) (l k : Nat) (f : Nat → Int) : Int := ss (fun x => if bits9 x k % 2 = 0 then f (dvd9 ps l x k) else -(f (dvd9 ps l x k))) 0 (2 ^ k)
theorem ss_shift (f : Nat → Int) (a : Nat) : ∀ k j, ss f (j + a) k = ss (fun i => f (i + a)) j k
  | 0, _ => rfl
  | k + 1, j => by
    show f (j + a) + ss f (j + a + 1) k = f (j + a) + ss (fun i => f (i + a)) (j + 1) k
    rw [show j + a + 1 = j + 1 + a by omega, ss_shift f a k (j + 1)]
theorem ie_succ (ps : Nat → Nat) (l k : Nat) (f : Nat → Int) : ie ps l (k + 1) f = ie ps l k f - ie ps l k (fun d => f (d / ps k)) := by
  unfold ie
  rw [show 2 ^ (k + 1) = 2 ^ k + 2 ^ k by rw [Nat.pow_succ]; omega, ss_split, show 0 + 2 ^ k = 0 + 2 ^ k from rfl, ss_shift]
  have h1 : ∀ x, x < 2 ^ k → dvd9 ps l x (k + 1) = dvd9 ps l x k ∧ bits9 x (k + 1) = bits9 x k := fun x hx => by
    have hz : x / 2 ^ k % 2 = 0 := by rw [Nat.div_eq_of_lt hx]
    constructor
    · show (if x / 2 ^ k % 2 = 1 then _ else _) = _
      rw [hz]
      rfl
    · show bits9 x k + x / 2 ^ k % 2 = _
      rw [hz]
      rfl
  have h2 : ∀ x, x < 2 ^ k → dvd9 ps l (x + 2 ^ k) (k + 1) = dvd9 ps l x k / ps k ∧ bits9 (x + 2 ^ k) (k + 1) = bits9 x k + 1 := fun x hx => by
    have hz : (x + 2 ^ k) / 2 ^ k % 2 = 1 := by rw [Nat.add_div_right _ (Nat.pow_pos (by omega)), Nat.div_eq_of_lt hx]
    constructor
    · show (if (x + 2 ^ k) / 2 ^ k % 2 = 1 then dvd9 ps l (x + 2 ^ k) k / ps k else _) = _
      rw [hz, dvd9_add ps l x k (Nat.le_refl k)]
      rfl
    · show bits9 (x + 2 ^ k) k + (x + 2 ^ k) / 2 ^ k % 2 = _
      rw [hz, bits9_add x k (Nat.le_refl k)]
  rw [ss_congr (f := fun x => if bits9 x (k + 1) % 2 = 0 then f (dvd9 ps l x (k + 1)) else -(f (dvd9 ps l x (k + 1)))) (g := fun x => if bits9 x k % 2 = 0 then f (dvd9 ps l x k) else -(f (dvd9 ps l x k))) (2 ^ k) 0 (fun x _ hx => by rw [(h1 x (by omega)).1, (h1 x (by omega)).2])]
  rw [ss_congr (f := fun i => if bits9 (i + 2 ^ k) (k + 1) % 2 = 0 then f (dvd9 ps l (i + 2 ^ k) (k + 1)) else -(f (dvd9 ps l (i + 2 ^ k) (k + 1)))) (g := fun x => (-1) * (if bits9 x k % 2 = 0 then f (dvd9 ps l x k / ps k) else -(f (dvd9 ps l x k / ps k)))) (2 ^ k) 0 (fun x _ hx => by
    rw [(h2 x (by omega)).1, (h2 x (by omega)).2]
    by_cases hb : bits9 x k % 2 = 0
    · rw [if_pos hb, if_neg (by omega)]
      omega
    · rw [if_neg hb, if_pos (by omega)]
      omega)]
  rw [ss_mul]
  dsimp only
  omega
theorem ie_congr {ps : Nat → Nat} {l k : Nat} {f g : Nat → Int} (h : ∀ x, f (dvd9 ps l x k) = g (dvd9 ps l x k)) : ie ps l k f = ie ps l k g := ss_congr _ _ (fun x _ _ => by rw [h x])
theorem ie_add {ps : Nat → Nat} {l k : Nat} (f g : Nat → Int) : ie ps l k (fun d => f d + g d) = ie ps l k f + ie ps l k g := by
  unfold ie
  rw [← ss_add]
  refine ss_congr _ _ (fun x _ _ => ?_)
  dsimp only
  split <;> omega
theorem ie_zero {ps : Nat → Nat} {l k : Nat} : ie ps l k (fun _ => 0) = 0 := by
  unfold ie
  rw [ss_congr (g := fun _ => 0) _ _ (fun x _ _ => by split <;> rfl), ss_zero]
/-- the primes that were not taken still divide -/
theorem dvd9_dvd {ps : Nat → Nat} {l x : Nat} : ∀ k, (∀ i, i < k → prm (ps i) ∧ ps i ∣ l) → (∀ i j, i < k → j < k → ps i = ps j → i = j) → 1 ≤ l → (1 ≤ dvd9 ps l x k ∧ dvd9 ps l x k ∣ l) ∧ ∀ p, prm p → p ∣ l → (∀ i, i < k → p ≠ ps i) → p ∣ dvd9 ps l x k
  | 0, _, _, hl => ⟨⟨hl, Nat.dvd_refl l⟩, fun p _ h _ => h⟩
  | k + 1, h1, h2, hl => by
    obtain ⟨⟨a1, a2⟩, a3⟩ := dvd9_dvd (x := x) k (fun i hi => h1 i (by omega)) (fun i j hi hj => h2 i j (by omega) (by omega)) hl
    obtain ⟨b1, b2⟩ := h1 k (by omega)
    have b0 : 0 < ps k := by have := b1.1; omega
    have hk : ps k ∣ dvd9 ps l x k := a3 (ps k) b1 b2 (fun i hi z => by have := h2 k i (by omega) (by omega) z; omega)
    show (1 ≤ (if x / 2 ^ k % 2 = 1 then dvd9 ps l x k / ps k else dvd9 ps l x k) ∧ (if x / 2 ^ k % 2 = 1 then dvd9 ps l x k / ps k else dvd9 ps l x k) ∣ l) ∧ ∀ p, prm p → p ∣ l → (∀ i, i < k + 1 → p ≠ ps i) → p ∣ (if x / 2 ^ k % 2 = 1 then dvd9 ps l x k / ps k else dvd9 ps l x k)
    split
    · obtain ⟨c, hc⟩ := hk
      rw [hc, Nat.mul_div_cancel_left _ b0]
      rw [hc] at a1 a2
      refine ⟨⟨Nat.pos_of_ne_zero (fun z => by rw [z, Nat.mul_zero] at a1; omega), Nat.dvd_trans (Nat.dvd_mul_left _ _) a2⟩, fun p p1 p2 p3 => ?_⟩
      have h3 := a3 p p1 p2 (fun i hi => p3 i (by omega))
      rw [hc] at h3
      exact (prm_dvd_mul p1 h3).resolve_left (fun z => p3 k (by omega) (prm_eq p1 b1 z))
    · exact ⟨⟨a1, a2⟩, fun p p1 p2 p3 => a3 p p1 p2 (fun i hi => p3 i (by omega))⟩
theorem ie_div {ps : Nat → Nat} {l : Nat} (hl : 1 ≤ l) : ∀ k, (∀ i, i < k → prm (ps i) ∧ ps i ∣ l) → (∀ i j, i < k → j < k → ps i = ps j → i = j) → ∀ π, 1 ≤ π → ie ps l k (fun d => ((if π ∣ d then 1 else 0 : Nat) : Int)) = ((ind (π ∣ l ∧ ∀ i, i < k → ¬ π ∣ l / ps i) : Nat) : Int)
  | 0, _, _, π, _ => by
    have h1 : ie ps l 0 (fun d => ((if π ∣ d then 1 else 0 : Nat) : Int)) = ((if π ∣ l then 1 else 0 : Nat) : Int) := by
      show ss _ 0 1 = _
      show ((if π ∣ l then 1 else 0 : Nat) : Int) + (0 : Int) = _
      rw [Int.add_zero]
    rw [h1]
    by_cases h : π ∣ l
    · rw [if_pos h, ind_t ⟨h, fun i hi => absurd hi (Nat.not_lt_zero i)⟩]
    · rw [if_neg h, ind_f (fun z => h z.1)]
  | k + 1, h1, h2, π, p1 => by
    obtain ⟨b1, b2⟩ := h1 k (by omega)
    have b0 : 0 < ps k := by have := b1.1; omega
    have g1 : ∀ i, i < k → prm (ps i) ∧ ps i ∣ l := fun i hi => h1 i (by omega)
    have g2 : ∀ i j, i < k → j < k → ps i = ps j → i = j := fun i j hi hj => h2 i j (by omega) (by omega)
    have e1 : ie ps l k (fun d => ((if π ∣ d / ps k then 1 else 0 : Nat) : Int)) = ie ps l k (fun d => ((if π * ps k ∣ d then 1 else 0 : Nat) : Int)) := by
      refine ie_congr (fun x => ?_)
      have hk : ps k ∣ dvd9 ps l x k := (dvd9_dvd k g1 g2 hl).2 (ps k) b1 b2 (fun i hi z => by have := h2 k i (by omega) (by omega) z; omega)
      obtain ⟨c, hc⟩ := hk
      rw [hc, Nat.mul_div_cancel_left _ b0, Nat.mul_comm π]
      have : π ∣ c ↔ ps k * π ∣ ps k * c := ⟨Nat.mul_dvd_mul_left _, Nat.dvd_of_mul_dvd_mul_left b0⟩
      by_cases h : π ∣ c
      · rw [if_pos h, if_pos (this.mp h)]
      · rw [if_neg h, if_neg (fun z => h (this.mpr z))]
    rw [ie_succ, e1, ie_div hl k g1 g2 π p1, ie_div hl k g1 g2 (π * ps k) (Nat.mul_pos p1 b0)]
    -- l / p as a product
    have hdiv : ∀ p a, prm p → p ∣ l → (a ∣ l / p ↔ a * p ∣ l) := fun p a hp ⟨c, hc⟩ => by
      have p0 : 0 < p := by have := hp.1; omega
      rw [hc, Nat.mul_div_cancel_left _ p0, Nat.mul_comm a]
      exact ⟨Nat.mul_dvd_mul_left _, Nat.dvd_of_mul_dvd_mul_left p0⟩
    by_cases hk : π * ps k ∣ l
    · have hl1 : π ∣ l := Nat.dvd_trans (Nat.dvd_mul_right _ _) hk
      have same : (π ∣ l ∧ ∀ i, i < k → ¬ π ∣ l / ps i) ↔ (π * ps k ∣ l ∧ ∀ i, i < k → ¬ π * ps k ∣ l / ps i) := by
        constructor
        · rintro ⟨_, z⟩
          refine ⟨hk, fun i hi y => z i hi ?_⟩
          exact Nat.dvd_trans (Nat.dvd_mul_right _ _) y
        · rintro ⟨_, z⟩
          refine ⟨hl1, fun i hi y => z i hi ?_⟩
          rw [hdiv _ _ (g1 i hi).1 (g1 i hi).2] at y ⊢
          obtain ⟨c, hc⟩ := hk
          have y2 : ps i ∣ ps k * c := by
            rw [hc, Nat.mul_assoc] at y
            exact Nat.dvd_of_mul_dvd_mul_left p1 y
          have hne : ¬ ps i ∣ ps k := fun w => by
            have := h2 i k (by omega) (by omega) (prm_eq (g1 i hi).1 b1 w)
            omega
          obtain ⟨c2, hc2⟩ := (prm_dvd_mul (g1 i hi).1 y2).resolve_left hne
          exact ⟨c2, by rw [hc, hc2]; grind⟩
      rw [ind_congr same, Int.sub_self, ind_f (fun z => z.2 k (by omega) ((hdiv _ _ b1 b2).mpr hk))]
      rfl
    · rw [ind_f (P := π * ps k ∣ l ∧ ∀ i, i < k → ¬ π * ps k ∣ l / ps i) (fun z => hk z.1)]
      have : (π ∣ l ∧ ∀ i, i < k → ¬ π ∣ l / ps i) ↔ (π ∣ l ∧ ∀ i, i < k + 1 → ¬ π ∣ l / ps i) := by
        refine and_congr_right fun _ => ⟨fun z i hi => ?_, fun z i hi => z i (by omega)⟩
        by_cases h : i = k
        · rw [h, hdiv _ _ b1 b2]
          exact hk
        · exact z i (by omega)
      rw [ind_congr this]
      show _ - (0 : Int) = _
      omega
/-- how many have just this round -/
def cE (l : List Nat) (m : Nat) : Nat := l.countP (fun x => x == m)
theorem ie_cD {ps : Nat → Nat} {l k : Nat} (hl : 1 ≤ l) (h1 : ∀ i, i < k → prm (ps i) ∧ ps i ∣ l) (h2 : ∀ i j, i < k → j < k → ps i = ps j → i = j) (h3 : ∀ p, prm p → p ∣ l → ∃ i, i < k ∧ ps i = p) : ∀ L : List Nat, (∀ x ∈ L, 1 ≤ x) → ie ps l k (fun d => (cD L d : Int)) = (cE L l : Int)
  | [], _ => ie_zero
  | x :: L, hL => by
    have e1 : ie ps l k (fun d => (cD (x :: L) d : Int)) = ie ps l k (fun d => ((if x ∣ d then 1 else 0 : Nat) : Int)) + ie ps l k (fun d => (cD L d : Int)) := by
      rw [← ie_add]
      exact ie_congr (fun y => Int.natCast_add _ _)
    rw [e1, ie_cD hl h1 h2 h3 L (fun y hy => hL y (List.mem_cons_of_mem _ hy)), ie_div hl k h1 h2 x (hL x List.mem_cons_self)]
    have hiff : (x ∣ l ∧ ∀ i, i < k → ¬ x ∣ l / ps i) ↔ x = l := by
      constructor
      · rintro ⟨z1, z2⟩
        refine (red_end hl z1 (fun p p1 p2 => ?_)).symm
        obtain ⟨i, hi, rfl⟩ := h3 p p1 p2
        exact z2 i hi
      · rintro rfl
        refine ⟨Nat.dvd_refl x, fun i hi z => ?_⟩
        have p2 := (h1 i hi).1.1
        have := Nat.div_lt_self hl p2
        have h4 : 0 < x / ps i := Nat.div_pos (Nat.le_of_dvd hl (h1 i hi).2) (by omega)
        have := Nat.le_of_dvd h4 z
        omega
    unfold cE
    rw [List.countP_cons]
    by_cases hx : x = l
    · rw [ind_t (hiff.mpr hx), if_pos (by rw [hx]; exact beq_self_eq_true l)]
      omega
    · rw [ind_f (fun z => hx (hiff.mp z)), if_neg (by simpa using hx)]
      omega
/-- no round is as long as what doesn't divide W -/
theorem cE_zero {W l : Nat} (h : ¬ l ∣ W) : ∀ L : List Nat, (∀ x ∈ L, 1 ≤ x ∧ x ∣ W) → cE L l = 0 := fun L hL => by
  unfold cE
  rw [List.countP_eq_zero]
  intro x hx z
  exact h ((eq_of_beq z) ▸ (hL x hx).2)
