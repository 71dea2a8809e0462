/-! ===== rounds of sequences ===== -/
def isPer {α : Type} (x : Nat → α) (m W : Nat) : Prop := 1 ≤ W ∧ ∀ R, x (m + R) = x m ↔ W ∣ R
/-- what comes next depends on what is there alone -/
def detm {α : Type} (x : Nat → α) : Prop := ∀ s t, x s = x t → x (s + 1) = x (t + 1)
theorem detm_add {α : Type} {x : Nat → α} (hx : detm x) {s t : Nat} (h : x s = x t) : ∀ k, x (s + k) = x (t + k)
  | 0 => h
  | k + 1 => hx _ _ (detm_add hx h k)
theorem detm_mul {α : Type} {x : Nat → α} (hx : detm x) {m R : Nat} (h : x (m + R) = x m) : ∀ k, x (m + k * R) = x m
  | 0 => by rw [Nat.zero_mul]; rfl
  | k + 1 => by
    have h1 := detm_add hx h (k * R)
    rw [show m + (k + 1) * R = m + R + k * R by rw [Nat.succ_mul]; omega, h1]
    exact detm_mul hx h k
theorem per_ex {α : Type} {x : Nat → α} (hx : detm x) {m R : Nat} (hR : 1 ≤ R) (h : x (m + R) = x m) : ∃ W, isPer x m W := by
  obtain ⟨W, ⟨w1, w2⟩, w3⟩ := least_ex (P := fun W => 1 ≤ W ∧ x (m + W) = x m) ⟨R, hR, h⟩
  refine ⟨W, w1, fun R => ⟨fun hR => ?_, ?_⟩⟩
  · have h1 := Nat.div_add_mod R W
    have h2 := Nat.mod_lt R w1
    have h3 := detm_add hx (detm_mul hx w2 (R / W)) (R % W)
    rw [show m + R / W * W + R % W = m + R by rw [Nat.mul_comm]; omega, hR] at h3
    apply Nat.dvd_of_mod_eq_zero
    apply Classical.byContradiction
    intro hz
    exact w3 (R % W) h2 ⟨by omega, h3.symm⟩
  · rintro ⟨k, rfl⟩
    rw [Nat.mul_comm]
    exact detm_mul hx w2 k
theorem per_uniq {α : Type} {x : Nat → α} {m W V : Nat} (h1 : isPer x m W) (h2 : isPer x m V) : W = V :=
  Nat.dvd_antisymm ((h1.2 V).mp ((h2.2 V).mpr (Nat.dvd_refl V))) ((h2.2 W).mp ((h1.2 W).mpr (Nat.dvd_refl W)))
theorem prm_ex {c : Nat} (hc : 2 ≤ c) : ∃ l, prm l ∧ l ∣ c := by
  obtain ⟨l, ⟨l1, l2⟩, l3⟩ := least_ex (P := fun l => 2 ≤ l ∧ l ∣ c) ⟨c, hc, Nat.dvd_refl c⟩
  exact ⟨l, ⟨l1, fun j j2 jl hj => l3 j jl ⟨j2, Nat.dvd_trans hj l2⟩⟩, l2⟩
/-- a number that no prime brings nearer is the round -/
theorem red_end {W t : Nat} (ht : 1 ≤ t) (hW : W ∣ t) (h : ∀ l, prm l → l ∣ t → ¬ W ∣ t / l) : t = W := by
  obtain ⟨c, rfl⟩ := hW
  by_cases c1 : c = 1
  · rw [c1, Nat.mul_one]
  · have c0 : c ≠ 0 := fun z => by rw [z, Nat.mul_zero] at ht; omega
    obtain ⟨l, hl, k, rfl⟩ := prm_ex (show 2 ≤ c by omega)
    have l0 : 0 < l := by have := hl.1; omega
    refine absurd ⟨k, ?_⟩ (h l hl ⟨W * k, by grind⟩)
    rw [show W * (l * k) = l * (W * k) by grind, Nat.mul_div_cancel_left _ l0]
/-- not nearer at t: not nearer at what divides t -/
theorem red_keep {W t s l : Nat} (hl : 0 < l) (hs : s ∣ t) (h : ¬ (l ∣ t ∧ W ∣ t / l)) : ¬ (l ∣ s ∧ W ∣ s / l) := by
  rintro ⟨⟨a, rfl⟩, h2⟩
  obtain ⟨c, rfl⟩ := hs
  refine h ⟨⟨a * c, by grind⟩, ?_⟩
  rw [Nat.mul_div_cancel_left _ hl] at h2
  rw [show l * a * c = l * (a * c) by grind, Nat.mul_div_cancel_left _ hl]
  exact Nat.dvd_mul_right_of_dvd h2 c
theorem red_dvd {W t l : Nat} (hl : prm l) (hW : W ∣ t) (h : ¬ (l ∣ t ∧ W ∣ t / l)) : l ∣ t ↔ l ∣ W := by
  have l0 : 0 < l := by have := hl.1; omega
  constructor
  · intro ht
    apply Classical.byContradiction
    intro hn
    obtain ⟨c, rfl⟩ := hW
    have hc : l ∣ c := (prm_dvd_mul hl ht).resolve_left hn
    obtain ⟨k, rfl⟩ := hc
    refine h ⟨ht, ⟨k, ?_⟩⟩
    rw [show W * (l * k) = l * (W * k) by grind, Nat.mul_div_cancel_left _ l0]
  · exact fun h => Nat.dvd_trans h hW
theorem mp_det {w q : Nat} {A : Nat → Int} : detm (mp w q A) := fun s t h => by
  show mm w q (mp w q A s) A = mm w q (mp w q A t) A
  rw [h]
theorem mp_red {w q M : Nat} {A : Nat → Int} (h : q ∣ M) : ∀ t j, mp w q A t j = mp w M A t j % (q : Int)
  | 0, j => by
    show m1 w q j = m1 w M j % (q : Int)
    unfold m1
    split
    · split
      · rw [Int.emod_emod_of_dvd _ (Int.ofNat_dvd.mpr h)]
      · rfl
    · rfl
  | t + 1, j => by
    show mm w q (mp w q A t) A j = mm w M (mp w M A t) A j % (q : Int)
    unfold mm
    split
    · rw [Int.emod_emod_of_dvd _ (Int.ofNat_dvd.mpr h), ← ss_md1 (q : Int) (fun i => mp w M A t (5 * (j / 5) + i))]
      congr 1
      exact ss_congr w 0 (fun i _ _ => by rw [mp_red h t])
    · rfl
theorem mm_1A {w q : Nat} {A B : Nat → Int} (hw : w ≤ 5) (hq : 0 < q) : mm w q (mm w q (m1 w q) A) B = mm w q A B := by
  rw [mm_assoc hw, mm_1l hw (mm_can hq)]
theorem mp_left {w q : Nat} {A : Nat → Int} (hw : w ≤ 5) (hq : 0 < q) (t : Nat) : mp w q A (t + 1) = mm w q A (mp w q A t) := by
  rw [Nat.add_comm, mp_add hw hq 1 t]
  exact mm_1A hw hq
theorem mp_pwv {w q : Nat} {A : Nat → Int} (hw : w ≤ 5) (hq : 0 < q) : ∀ (t r c : Nat), r < w → c < w → mp w q A t (5 * r + c) = pwv w A t (fun i => if i = c then 1 else 0) r % (q : Int)
  | 0, r, c, hr, hc => by
    show m1 w q (5 * r + c) = (if r = c then 1 else 0) % (q : Int)
    rw [m1_at hw hr hc]
    split
    · rfl
    · rfl
  | t + 1, r, c, hr, hc => by
    rw [mp_left hw hq, mm_at hw hr hc]
    show _ = stv w A (pwv w A t _) r % (q : Int)
    unfold stv
    rw [← ss_md2 (q : Int) (fun i => A (5 * r + i)) (pwv w A t (fun i => if i = c then 1 else 0))]
    congr 1
    exact ss_congr w 0 (fun i _ hi => by rw [mp_pwv hw hq t i c (by omega) hc])
theorem Lf_ok {p n : Nat} (hp : 1 ≤ p) (hn : n ≤ 4) : ∀ i, 1 ≤ i → i ≤ n → (p ^ i - 1) ∣ Lf p n := by
  obtain ⟨a, rfl⟩ : ∃ a, p = a + 1 := ⟨p - 1, by omega⟩
  intro i i1 i2
  have hc : i = 1 ∨ i = 2 ∨ i = 3 ∨ i = 4 := by omega
  unfold Lf
  rw [show a + 1 - 1 = a by omega]
  rcases hc with rfl | rfl | rfl | rfl
  · rw [Nat.pow_one, show a + 1 - 1 = a by omega]
    exact Nat.dvd_mul_right_of_dvd (Nat.dvd_mul_right_of_dvd (Nat.dvd_mul_right _ _) _) _
  · have e : (a + 1) ^ 2 - 1 = a * (a + 1 + 1) := by
      have : (a + 1) ^ 2 = a * (a + 1 + 1) + 1 := by grind
      omega
    rw [e, if_pos (by omega)]
    exact Nat.dvd_mul_right_of_dvd (Nat.dvd_mul_right _ _) _
  · have e : (a + 1) ^ 3 - 1 = a * ((a + 1) * (a + 1) + (a + 1) + 1) := by
      have : (a + 1) ^ 3 = a * ((a + 1) * (a + 1) + (a + 1) + 1) + 1 := by grind
      omega
    rw [e, if_pos (by omega), if_pos (by omega)]
    refine Nat.dvd_mul_right_of_dvd ⟨a + 1 + 1, by grind⟩ _
  · have e : (a + 1) ^ 4 - 1 = a * (a + 1 + 1) * ((a + 1) * (a + 1) + 1) := by
      have : (a + 1) ^ 4 = a * (a + 1 + 1) * ((a + 1) * (a + 1) + 1) + 1 := by grind
      omega
    rw [e, if_pos (by omega), if_pos (by omega), if_pos (by omega)]
    exact ⟨(a + 1) * (a + 1) + (a + 1) + 1, by grind⟩
theorem Nf_ok {p n : Nat} (hp : prm p) (n1 : 1 ≤ n) (hn : n ≤ 4) : okN p n (Nf p n) := by
  have hp2 := hp.1
  unfold okN
  by_cases h5 : 5 ≤ p
  · left
    refine ⟨h5, ?_⟩
    unfold Nf
    rw [if_neg (by omega)]
    exact Nat.dvd_refl p
  · right
    have hc : p = 2 ∨ p = 3 ∨ p = 4 := by omega
    rcases hc with rfl | rfl | rfl
    · right
      have hn2 : n = 1 ∨ n = 2 ∨ n = 3 ∨ n = 4 := by omega
      rcases hn2 with rfl | rfl | rfl | rfl <;> simp [Nf]
    · left
      have hn2 : n = 1 ∨ n = 2 ∨ n = 3 ∨ n = 4 := by omega
      rcases hn2 with rfl | rfl | rfl | rfl <;> simp [Nf]
    · exact absurd (by decide) (hp.2 2 (by omega) (by omega))
theorem k_le {p k : Nat} (hp : 2 ≤ p) (hb : p ^ (k + 1) ≤ 500) : k + 1 ≤ 8 := by
  apply Nat.le_of_not_lt
  intro z
  have h1 : 2 ^ 9 ≤ 2 ^ (k + 1) := Nat.pow_le_pow_right (by omega) (by omega)
  have h2 : 2 ^ (k + 1) ≤ p ^ (k + 1) := Nat.pow_le_pow_left hp _
  omega
/-- E turns bring back every settled step modulo p^(k+1) -/
theorem per_mp {p n k N L : Nat} (hp : prm p) (hn : n ≤ 4) (hb : p ^ (k + 1) ≤ 500) (hN : okN p n N) (hL : ∀ i, 1 ≤ i → i ≤ n → (p ^ i - 1) ∣ L) {A : Nat → Int} (hA : aff n A) {m : Nat} (hm : 32 ≤ m) : mp (n + 1) (p ^ (k + 1)) A (m + L * N * p ^ k) = mp (n + 1) (p ^ (k + 1)) A m := by
  have hq : 0 < p ^ (k + 1) := Nat.pow_pos (by have := hp.1; omega)
  have hk := k_le hp.1 hb
  have hnk : n * (k + 1) ≤ 32 := by
    have := Nat.mul_le_mul hn hk
    omega
  have h1 : mp (n + 1) (p ^ (k + 1)) A (n * (k + 1) + L * N * p ^ k) = mp (n + 1) (p ^ (k + 1)) A (n * (k + 1)) := by
    refine ext5 (mp_can hq _).1 (mp_can hq _).1 (fun r c hr hc => ?_)
    rw [mp_pwv (by omega) hq _ r c hr hc, mp_pwv (by omega) hq _ r c hr hc]
    exact Int.emod_eq_emod_iff_emod_sub_eq_zero.mpr (Int.emod_eq_zero_of_dvd (per_pk hp hn hN hL hA k _ r hr))
  have h2 := detm_add mp_det h1 (m - n * (k + 1))
  rw [show n * (k + 1) + L * N * p ^ k + (m - n * (k + 1)) = m + L * N * p ^ k by omega, show n * (k + 1) + (m - n * (k + 1)) = m by omega] at h2
  exact h2
/-- what settledComeBack says -/
theorem sett_iff {n M q t : Nat} {T A B : Nat → Int} (hn : n ≤ 4) (hq : 0 < q) (hM : 2 ≤ M) (hqM : q ∣ M) (hT : aff n T) (eA : au n A = mp (n + 1) M T (t + 32)) (eB : au n B = mp (n + 1) M T 32) : (∀ r, r < n → ∀ c, (c < n ∨ c = 4) → (A (5 * r + c) - B (5 * r + c)) % (q : Int) = 0) ↔ mp (n + 1) q T (32 + t) = mp (n + 1) q T 32 := by
  rw [Nat.add_comm 32 t]
  constructor
  · intro h
    refine ext5 (mp_can hq _).1 (mp_can hq _).1 (fun r c hr hc => ?_)
    rw [mp_red hqM, mp_red hqM, ← eA, ← eB, au_at hn hr hc, au_at hn hr hc]
    by_cases hrn : r = n
    · rw [if_pos hrn, if_pos hrn]
    · rw [if_neg hrn, if_neg hrn]
      by_cases hcn : c = n
      · rw [if_pos hcn, if_pos hcn]
        exact Int.emod_eq_emod_iff_emod_sub_eq_zero.mpr (h r (by omega) 4 (Or.inr rfl))
      · rw [if_neg hcn, if_neg hcn]
        exact Int.emod_eq_emod_iff_emod_sub_eq_zero.mpr (h r (by omega) c (Or.inl (by omega)))
  · intro h r hr c hc
    have key : ∀ c', c' < n + 1 → au n A (5 * r + c') % (q : Int) = au n B (5 * r + c') % (q : Int) := fun c' _ => by
      rw [eA, eB, ← mp_red hqM, ← mp_red hqM, h]
    rcases hc with hc | rfl
    · have := key c (by omega)
      rw [au_at hn (by omega) (by omega), au_at hn (by omega) (by omega), if_neg (by omega), if_neg (by omega), if_neg (by omega), if_neg (by omega)] at this
      exact Int.emod_eq_emod_iff_emod_sub_eq_zero.mp this
    · have := key n (by omega)
      rw [au_at hn (by omega) (by omega), au_at hn (by omega) (by omega), if_neg (by omega), if_pos rfl, if_neg (by omega), if_pos rfl] at this
      exact Int.emod_eq_emod_iff_emod_sub_eq_zero.mp this
