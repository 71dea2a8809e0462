/-! ===== rules told back: the rows made simple ===== -/
/-- the first row from r on with a number in column c; m if there is none -/
def frow (F : Nat → Nat → Int) (c : Nat) : Nat → Nat → Nat
  | 0, r => r
  | f + 1, r => if F r c = 0 then frow F c f (r + 1) else r
theorem frow_spec {F : Nat → Nat → Int} {c : Nat} : ∀ (f r : Nat), r ≤ frow F c f r ∧ frow F c f r ≤ r + f ∧ (∀ j, r ≤ j → j < frow F c f r → F j c = 0) ∧ (frow F c f r < r + f → F (frow F c f r) c ≠ 0)
  | 0, r => ⟨Nat.le_refl r, Nat.le_refl r, fun j h1 h2 => absurd h2 (by show ¬ j < r; omega), fun h => absurd h (by show ¬ r < r + 0; omega)⟩
  | f + 1, r => by
    have e : frow F c (f + 1) r = if F r c = 0 then frow F c f (r + 1) else r := rfl
    by_cases h : F r c = 0
    · rw [if_pos h] at e
      obtain ⟨a1, a2, a3, a4⟩ := frow_spec (F := F) (c := c) f (r + 1)
      rw [e]
      refine ⟨by omega, by omega, fun j h1 h2 => ?_, fun h1 => a4 (by omega)⟩
      by_cases ej : j = r
      · rw [ej]
        exact h
      · exact a3 j (by omega) h2
    · rw [if_neg h] at e
      rw [e]
      exact ⟨Nat.le_refl r, by omega, fun j h1 h2 => by omega, fun _ => h⟩
theorem frow_uniq {F : Nat → Nat → Int} {c f r q : Nat} (h1 : r ≤ q) (h2 : q < r + f) (h3 : ∀ j, r ≤ j → j < q → F j c = 0) (h4 : F q c ≠ 0) : frow F c f r = q := by
  obtain ⟨a1, a2, a3, a4⟩ := frow_spec (F := F) (c := c) f r
  rcases Nat.lt_trichotomy (frow F c f r) q with z | z | z
  · exact absurd (h3 _ a1 z) (a4 (by omega))
  · exact z
  · exact absurd (a3 q h1 z) h4
theorem frow_none {F : Nat → Nat → Int} {c f r : Nat} (h : ∀ j, r ≤ j → j < r + f → F j c = 0) : frow F c f r = r + f := by
  obtain ⟨a1, a2, a3, a4⟩ := frow_spec (F := F) (c := c) f r
  by_cases z : frow F c f r < r + f
  · exact absurd (h _ a1 z) (a4 z)
  · omega
/-- the number whose product with v is 1 -/
def pinv (p : Nat) (v : Int) : Nat → Nat → Int
  | 0, i => (i : Int)
  | f + 1, i => if v * (i : Int) % (p : Int) = 1 then (i : Int) else pinv p v f (i + 1)
abbrev pin (p : Nat) (v : Int) : Int := pinv p v p 0
theorem inv_one {p : Nat} {a b v : Int} (hp : prm p) (ha : 0 ≤ a ∧ a < p) (hb : 0 ≤ b ∧ b < p) (h1 : (p : Int) ∣ a * v - 1) (h2 : (p : Int) ∣ b * v - 1) : a = b := by
  refine eq_of_dvd ha hb ?_
  have e : a - b = b * (a * v - 1) - a * (b * v - 1) := by grind
  rw [e]
  exact Int.dvd_sub (Int.dvd_mul_of_dvd_right h1) (Int.dvd_mul_of_dvd_right h2)
theorem pinv_spec {p : Nat} {v : Int} (hp : prm p) {w : Nat} (hw : w < p) (hv : (p : Int) ∣ (w : Int) * v - 1) : ∀ (f i : Nat), i ≤ w → w < i + f → pinv p v f i = (w : Int)
  | 0, i, h1, h2 => by omega
  | f + 1, i, h1, h2 => by
    have p2 := hp.1
    have e : pinv p v (f + 1) i = if v * (i : Int) % (p : Int) = 1 then (i : Int) else pinv p v f (i + 1) := rfl
    rw [e]
    by_cases c : v * (i : Int) % (p : Int) = 1
    · rw [if_pos c]
      refine inv_one hp (by omega) (by omega) ?_ hv
      rw [Int.mul_comm]
      exact ⟨v * (i : Int) / (p : Int), by have := Int.mul_ediv_add_emod (v * (i : Int)) p; omega⟩
    · rw [if_neg c]
      by_cases ei : i = w
      · refine absurd ?_ c
        subst ei
        have z : v * (i : Int) % (p : Int) = 1 % (p : Int) := Int.emod_eq_emod_iff_emod_sub_eq_zero.mpr (Int.emod_eq_zero_of_dvd (by rw [Int.mul_comm]; exact hv))
        rw [z]
        exact Int.emod_eq_of_lt (by omega) (by omega)
      · exact pinv_spec hp hw hv f (i + 1) (by omega) (by omega)
theorem pin_uniq {p : Nat} {v w : Int} (hp : prm p) (hw : 0 ≤ w ∧ w < p) (hv : (p : Int) ∣ w * v - 1) : pin p v = w := by
  obtain ⟨n, rfl⟩ : ∃ n : Nat, w = (n : Int) := ⟨w.toNat, by omega⟩
  exact pinv_spec hp (by omega) hv p 0 (Nat.zero_le n) (by omega)
theorem pin_ex {p : Nat} {v : Int} (hp : prm p) (hv : 0 < v ∧ v < p) : (0 ≤ pin p v ∧ pin p v < p) ∧ (p : Int) ∣ pin p v * v - 1 := by
  have p2 := hp.1
  obtain ⟨x, hx⟩ := prm_inv hp (c := v) (fun z => by
    obtain ⟨k, hk⟩ := z
    have h1 : 0 < k := by
      rcases Int.lt_or_le 0 k with y | y
      · exact y
      · have := Int.mul_nonpos_of_nonneg_of_nonpos (show (0 : Int) ≤ p by omega) y
        omega
    have := Int.mul_le_mul_of_nonneg_left (show (1 : Int) ≤ k by omega) (show (0 : Int) ≤ p by omega)
    omega)
  have h0 := Int.emod_nonneg x (show (p : Int) ≠ 0 by omega)
  have h1 := Int.emod_lt_of_pos x (show (0 : Int) < p by omega)
  have h2 := dvd_red hx
  rw [pin_uniq hp ⟨h0, h1⟩ h2]
  exact ⟨⟨h0, h1⟩, h2⟩
def elm (p : Nat) (F : Nat → Nat → Int) (u c q : Nat) (w : Int) (r k : Nat) : Int := if r = u then F q k * w % (p : Int) else (F (tsp u q r) k - F (tsp u q r) c * (F q k * w % (p : Int))) % (p : Int)
def gj (p m : Nat) (F0 : Nat → Nat → Int) : Nat → (Nat → Nat → Int) × Nat × (Nat → Int)
  | 0 => (F0, 0, fun _ => -1)
  | c + 1 => if frow (gj p m F0 c).1 c (m - (gj p m F0 c).2.1) (gj p m F0 c).2.1 < m then (elm p (gj p m F0 c).1 (gj p m F0 c).2.1 c (frow (gj p m F0 c).1 c (m - (gj p m F0 c).2.1) (gj p m F0 c).2.1) (pin p ((gj p m F0 c).1 (frow (gj p m F0 c).1 c (m - (gj p m F0 c).2.1) (gj p m F0 c).2.1) c)), (gj p m F0 c).2.1 + 1, va_up (gj p m F0 c).2.2 c ((gj p m F0 c).2.1 : Int)) else ((gj p m F0 c).1, (gj p m F0 c).2.1, va_up (gj p m F0 c).2.2 c (-1))
theorem gj_yes {p m c q : Nat} {F0 : Nat → Nat → Int} (h1 : (gj p m F0 c).2.1 ≤ q) (h2 : q < m) (h3 : ∀ j, (gj p m F0 c).2.1 ≤ j → j < q → (gj p m F0 c).1 j c = 0) (h4 : (gj p m F0 c).1 q c ≠ 0) : gj p m F0 (c + 1) = (elm p (gj p m F0 c).1 (gj p m F0 c).2.1 c q (pin p ((gj p m F0 c).1 q c)), (gj p m F0 c).2.1 + 1, va_up (gj p m F0 c).2.2 c ((gj p m F0 c).2.1 : Int)) := by
  have e := frow_uniq (f := m - (gj p m F0 c).2.1) h1 (by omega) h3 h4
  show (if frow (gj p m F0 c).1 c (m - (gj p m F0 c).2.1) (gj p m F0 c).2.1 < m then _ else _) = _
  rw [e, if_pos h2]
theorem gj_no {p m c : Nat} {F0 : Nat → Nat → Int} (h1 : (gj p m F0 c).2.1 ≤ m) (h3 : ∀ j, (gj p m F0 c).2.1 ≤ j → j < m → (gj p m F0 c).1 j c = 0) : gj p m F0 (c + 1) = ((gj p m F0 c).1, (gj p m F0 c).2.1, va_up (gj p m F0 c).2.2 c (-1)) := by
  have e := frow_none (F := (gj p m F0 c).1) (c := c) (f := m - (gj p m F0 c).2.1) (r := (gj p m F0 c).2.1) (fun j j1 j2 => h3 j j1 (by omega))
  show (if frow (gj p m F0 c).1 c (m - (gj p m F0 c).2.1) (gj p m F0 c).2.1 < m then _ else _) = _
  rw [e, if_neg (by omega)]
/-- in ranges; rows below are 0 in the columns that are done; the pivots' columns are simple -/
def gjI (p m l c : Nat) (F : Nat → Nat → Int) (u : Nat) (pv : Nat → Int) : Prop :=
  (u ≤ m ∧ u ≤ c) ∧ (∀ r k, r < m → k ≤ l → 0 ≤ F r k ∧ F r k < p) ∧ (∀ r k, u ≤ r → r < m → k < c → F r k = 0) ∧ (∀ k, k < c → pv k = -1 ∨ ∃ t : Nat, pv k = (t : Int) ∧ t < u ∧ F t k = 1 ∧ ∀ r, r < m → r ≠ t → F r k = 0) ∧ (∀ t, t < u → ∃ k, k < c ∧ pv k = (t : Int)) ∧ ∀ k k2, k < c → k2 < c → pv k = pv k2 → pv k ≠ -1 → k = k2
theorem tsp_ge {u q r m : Nat} (hq : u ≤ q) (hqm : q < m) (hr : r < m) : (u ≤ r → u ≤ tsp u q r) ∧ tsp u q r < m ∧ (r < u → tsp u q r = r) := by
  unfold tsp
  refine ⟨fun h => ?_, ?_, fun h => ?_⟩
  all_goals (repeat' split) <;> omega
theorem elm_u {p u c q : Nat} {F : Nat → Nat → Int} {w : Int} (k : Nat) : elm p F u c q w u k = F q k * w % (p : Int) := if_pos rfl
theorem elm_r {p u c q r : Nat} {F : Nat → Nat → Int} {w : Int} (h : r ≠ u) (k : Nat) : elm p F u c q w r k = (F (tsp u q r) k - F (tsp u q r) c * elm p F u c q w u k) % (p : Int) := by
  rw [elm_u]
  exact if_neg h
theorem gjI_step {p m l c q : Nat} {F : Nat → Nat → Int} {u : Nat} {pv : Nat → Int} (hp : prm p) (hc : c < l) (h : gjI p m l c F u pv) (h1 : u ≤ q) (h2 : q < m) (h4 : F q c ≠ 0) : gjI p m l (c + 1) (elm p F u c q (pin p (F q c))) (u + 1) (va_up pv c (u : Int)) := by
  obtain ⟨⟨a1, a2⟩, a3, a4, a5, a6, a7⟩ := h
  have p2 := hp.1
  obtain ⟨w1, w2⟩ := pin_ex (v := F q c) hp (by have := a3 q c h2 (by omega); omega)
  have em : ∀ x : Int, 0 ≤ x % (p : Int) ∧ x % (p : Int) < p := fun x => ⟨Int.emod_nonneg _ (by omega), Int.emod_lt_of_pos _ (by omega)⟩
  have uz : ∀ k, k < c → elm p F u c q (pin p (F q c)) u k = 0 := fun k hk => by
    rw [elm_u, a4 q k h1 h2 hk, Int.zero_mul]
    exact Int.zero_emod _
  have u1 : elm p F u c q (pin p (F q c)) u c = 1 := by
    rw [elm_u, Int.mul_comm]
    have z : pin p (F q c) * F q c % (p : Int) = 1 % (p : Int) := Int.emod_eq_emod_iff_emod_sub_eq_zero.mpr (Int.emod_eq_zero_of_dvd w2)
    rw [z]
    exact Int.emod_eq_of_lt (by omega) (by omega)
  have rk : ∀ r k, r < m → r ≠ u → k < c → elm p F u c q (pin p (F q c)) r k = F (tsp u q r) k := fun r k hr hru hk => by
    have hb := a3 (tsp u q r) k (tsp_ge h1 h2 hr).2.1 (by omega)
    rw [elm_r hru, uz k hk, Int.mul_zero, Int.sub_zero]
    exact Int.emod_eq_of_lt hb.1 hb.2
  have rc : ∀ r, r < m → r ≠ u → elm p F u c q (pin p (F q c)) r c = 0 := fun r hr hru => by
    rw [elm_r hru, u1, Int.mul_one, Int.sub_self]
    exact Int.zero_emod _
  refine ⟨⟨by omega, by omega⟩, fun r k hr hk => ?_, fun r k hr hrm hk => ?_, fun k hk => ?_, fun t ht => ?_, fun k k2 hk hk2 e e1 => ?_⟩
  · unfold elm
    split <;> exact em _
  · by_cases ek : k = c
    · rw [ek]
      exact rc r hrm (by omega)
    · rw [rk r k hrm (by omega) (by omega)]
      exact a4 _ _ ((tsp_ge h1 h2 hrm).1 (by omega)) (tsp_ge h1 h2 hrm).2.1 (by omega)
  · by_cases ek : k = c
    · rw [ek, va_up_self]
      exact Or.inr ⟨u, rfl, by omega, u1, fun r hr hru => rc r hr hru⟩
    · rw [va_up_ne _ _ ek]
      rcases a5 k (by omega) with z | ⟨t, t1, t2, t3, t4⟩
      · exact Or.inl z
      · refine Or.inr ⟨t, t1, by omega, ?_, fun r hr hrt => ?_⟩
        · rw [rk t k (by omega) (by omega) (by omega), (tsp_ge h1 h2 (show t < m by omega)).2.2 t2]
          exact t3
        · by_cases eu : r = u
          · rw [eu]
            exact uz k (by omega)
          · rw [rk r k hr eu (by omega)]
            refine t4 _ (tsp_ge h1 h2 hr).2.1 (fun z => ?_)
            by_cases hru : r < u
            · rw [(tsp_ge h1 h2 hr).2.2 hru] at z
              exact hrt z
            · have := (tsp_ge h1 h2 hr).1 (by omega)
              omega
  · by_cases et : t = u
    · exact ⟨c, by omega, by rw [et, va_up_self]⟩
    · obtain ⟨k, k1, k2⟩ := a6 t (by omega)
      exact ⟨k, by omega, by rw [va_up_ne _ _ (by omega)]; exact k2⟩
  · have hlt : ∀ k, k < c → pv k ≠ (u : Int) := fun k hk z => by
      rcases a5 k hk with y | ⟨t, t1, t2, -⟩ <;> omega
    by_cases ek : k = c
    · by_cases ek2 : k2 = c
      · omega
      · rw [ek, va_up_self, va_up_ne _ _ ek2] at e
        exact absurd e.symm (hlt k2 (by omega))
    · by_cases ek2 : k2 = c
      · rw [ek2, va_up_self, va_up_ne _ _ ek] at e
        exact absurd e (hlt k (by omega))
      · rw [va_up_ne _ _ ek, va_up_ne _ _ ek2] at e
        rw [va_up_ne _ _ ek] at e1
        exact a7 k k2 (by omega) (by omega) e e1
theorem gjI_no {p m l c : Nat} {F : Nat → Nat → Int} {u : Nat} {pv : Nat → Int} (h : gjI p m l c F u pv) (h3 : ∀ j, u ≤ j → j < m → F j c = 0) : gjI p m l (c + 1) F u (va_up pv c (-1)) := by
  obtain ⟨⟨a1, a2⟩, a3, a4, a5, a6, a7⟩ := h
  refine ⟨⟨a1, by omega⟩, a3, fun r k hr hrm hk => ?_, fun k hk => ?_, fun t ht => ?_, fun k k2 hk hk2 e e1 => ?_⟩
  · by_cases ek : k = c
    · rw [ek]
      exact h3 r hr hrm
    · exact a4 r k hr hrm (by omega)
  · by_cases ek : k = c
    · rw [ek, va_up_self]
      exact Or.inl rfl
    · rw [va_up_ne _ _ ek]
      exact a5 k (by omega)
  · obtain ⟨k, k1, k2⟩ := a6 t ht
    exact ⟨k, by omega, by rw [va_up_ne _ _ (by omega)]; exact k2⟩
  · by_cases ek : k = c
    · rw [ek, va_up_self] at e1
      exact absurd rfl e1
    · by_cases ek2 : k2 = c
      · rw [ek2, va_up_self] at e
        exact absurd e e1
      · rw [va_up_ne _ _ ek, va_up_ne _ _ ek2] at e
        rw [va_up_ne _ _ ek] at e1
        exact a7 k k2 (by omega) (by omega) e e1
theorem gjI_0 {p m l : Nat} {F : Nat → Nat → Int} (h : ∀ r k, r < m → k ≤ l → 0 ≤ F r k ∧ F r k < p) : gjI p m l 0 F 0 (fun _ => -1) := ⟨⟨Nat.zero_le m, Nat.le_refl 0⟩, h, fun r k _ _ hk => absurd hk (Nat.not_lt_zero k), fun k hk => absurd hk (Nat.not_lt_zero k), fun t ht => absurd ht (Nat.not_lt_zero t), fun k k2 hk _ => absurd hk (Nat.not_lt_zero k)⟩
/-- what is wanting in row r -/
def rsd (l : Nat) (F : Nat → Nat → Int) (y : Nat → Int) (r : Nat) : Int := ss (fun k => F r k * y k) 0 l - F r l
def sol (p m l : Nat) (F : Nat → Nat → Int) (y : Nat → Int) : Prop := ∀ r, r < m → (p : Int) ∣ rsd l F y r
theorem rsd_lin {p l : Nat} {A B C : Nat → Int} {y : Nat → Int} {a b : Int} (h : ∀ k, k ≤ l → (p : Int) ∣ A k - (a * B k + b * C k)) : (p : Int) ∣ (ss (fun k => A k * y k) 0 l - A l) - (a * (ss (fun k => B k * y k) 0 l - B l) + b * (ss (fun k => C k * y k) 0 l - C l)) := by
  have e : ∀ (n j : Nat), ss (fun k => A k * y k) j n - (a * ss (fun k => B k * y k) j n + b * ss (fun k => C k * y k) j n) = ss (fun k => (A k - (a * B k + b * C k)) * y k) j n := fun n => by
    induction n with
    | zero =>
      intro j
      show (0 : Int) - (a * 0 + b * 0) = 0
      omega
    | succ n ih =>
      intro j
      have := ih (j + 1)
      show A j * y j + ss _ (j + 1) n - (a * (B j * y j + ss _ (j + 1) n) + b * (C j * y j + ss _ (j + 1) n)) = (A j - (a * B j + b * C j)) * y j + ss _ (j + 1) n
      rw [← this]
      grind
  have d1 : (p : Int) ∣ ss (fun k => (A k - (a * B k + b * C k)) * y k) 0 l := ss_dvdA _ _ (fun i _ hi => Int.dvd_mul_of_dvd_left (h i (by omega)))
  rw [← e] at d1
  have := Int.dvd_sub d1 (h l (Nat.le_refl l))
  rwa [show ss (fun k => A k * y k) 0 l - (a * ss (fun k => B k * y k) 0 l + b * ss (fun k => C k * y k) 0 l) - (A l - (a * B l + b * C l)) = (ss (fun k => A k * y k) 0 l - A l) - (a * (ss (fun k => B k * y k) 0 l - B l) + b * (ss (fun k => C k * y k) 0 l - C l)) by grind] at this
theorem emod_dvd9 (p : Nat) (x : Int) : (p : Int) ∣ x % (p : Int) - x := ⟨-(x / p), by have := Int.mul_ediv_add_emod x p; grind⟩
theorem sol_elm {p m l c q u : Nat} {F : Nat → Nat → Int} {w : Int} {y : Nat → Int} (hq : u ≤ q) (hqm : q < m) (hc : c ≤ l) (hw : (p : Int) ∣ w * F q c - 1) : sol p m l (elm p F u c q w) y ↔ sol p m l F y := by
  have A : (p : Int) ∣ rsd l (elm p F u c q w) y u - (w * rsd l F y q + 0 * rsd l F y q) := rsd_lin (A := elm p F u c q w u) (B := F q) (C := F q) (fun k _ => by
    rw [elm_u, show w * F q k + 0 * F q k = F q k * w by grind]
    exact emod_dvd9 p _)
  have R : ∀ r, r ≠ u → (p : Int) ∣ rsd l (elm p F u c q w) y r - (1 * rsd l F y (tsp u q r) + -(F (tsp u q r) c) * rsd l (elm p F u c q w) y u) := fun r hr => rsd_lin (A := elm p F u c q w r) (B := F (tsp u q r)) (C := elm p F u c q w u) (fun k _ => by
    rw [elm_r hr, show 1 * F (tsp u q r) k + -(F (tsp u q r) c) * elm p F u c q w u k = F (tsp u q r) k - F (tsp u q r) c * elm p F u c q w u k by grind]
    exact emod_dvd9 p _)
  constructor
  · intro h
    have hu := h u (by omega)
    have hqr : (p : Int) ∣ rsd l F y q := by
      have d1 := Int.dvd_sub hu A
      have d2 := Int.dvd_mul_of_dvd_right (b := F q c) d1
      have d3 := Int.dvd_sub d2 (Int.dvd_mul_of_dvd_left (c := rsd l F y q) hw)
      rwa [show F q c * (rsd l (elm p F u c q w) y u - (rsd l (elm p F u c q w) y u - (w * rsd l F y q + 0 * rsd l F y q))) - (w * F q c - 1) * rsd l F y q = rsd l F y q by grind] at d3
    intro r hr
    by_cases e : r = q
    · rw [e]
      exact hqr
    · have ht : tsp u q (tsp u q r) = r := tsp_inv u q r
      have hn : tsp u q r ≠ u := fun z => e (by rw [z] at ht; unfold tsp at ht; rw [if_pos rfl] at ht; exact ht.symm)
      have hlt : tsp u q r < m := (tsp_ge hq hqm hr).2.1
      have d1 := R _ hn
      rw [ht] at d1
      have d2 := Int.dvd_sub (Int.dvd_sub (h _ hlt) d1) (Int.dvd_mul_of_dvd_right (b := -(F r c)) hu)
      rwa [show rsd l (elm p F u c q w) y (tsp u q r) - (rsd l (elm p F u c q w) y (tsp u q r) - (1 * rsd l F y r + -(F r c) * rsd l (elm p F u c q w) y u)) - -(F r c) * rsd l (elm p F u c q w) y u = rsd l F y r by grind] at d2
  · intro h
    have hu : (p : Int) ∣ rsd l (elm p F u c q w) y u := by
      have d1 := Int.dvd_add A (Int.dvd_mul_of_dvd_right (b := w) (h q hqm))
      rwa [show rsd l (elm p F u c q w) y u - (w * rsd l F y q + 0 * rsd l F y q) + w * rsd l F y q = rsd l (elm p F u c q w) y u by grind] at d1
    intro r hr
    by_cases e : r = u
    · rw [e]
      exact hu
    · have d1 := Int.dvd_add (R r e) (Int.dvd_add (h _ (tsp_ge hq hqm hr).2.1) (Int.dvd_mul_of_dvd_right (b := -(F (tsp u q r) c)) hu))
      rwa [show rsd l (elm p F u c q w) y r - (1 * rsd l F y (tsp u q r) + -(F (tsp u q r) c) * rsd l (elm p F u c q w) y u) + (rsd l F y (tsp u q r) + -(F (tsp u q r) c) * rsd l (elm p F u c q w) y u) = rsd l (elm p F u c q w) y r by grind] at d1
theorem gj_all {p m l : Nat} {F0 : Nat → Nat → Int} (hp : prm p) (h0 : ∀ r k, r < m → k ≤ l → 0 ≤ F0 r k ∧ F0 r k < p) : ∀ c, c ≤ l → gjI p m l c (gj p m F0 c).1 (gj p m F0 c).2.1 (gj p m F0 c).2.2 ∧ ∀ y, sol p m l (gj p m F0 c).1 y ↔ sol p m l F0 y
  | 0, _ => ⟨gjI_0 h0, fun _ => Iff.rfl⟩
  | c + 1, hc => by
    obtain ⟨i1, i2⟩ := gj_all hp h0 c (by omega)
    have hum := i1.1.1
    obtain ⟨f1, f2, f3, f4⟩ := frow_spec (F := (gj p m F0 c).1) (c := c) (m - (gj p m F0 c).2.1) (gj p m F0 c).2.1
    by_cases hq : frow (gj p m F0 c).1 c (m - (gj p m F0 c).2.1) (gj p m F0 c).2.1 < m
    · have f5 := f4 (by omega)
      rw [gj_yes f1 hq f3 f5]
      have hb := i1.2.1 _ c hq (by omega)
      exact ⟨gjI_step hp (by omega) i1 f1 hq f5, fun y => (sol_elm f1 hq (by omega) (pin_ex hp (by omega)).2).trans (i2 y)⟩
    · have f6 : ∀ j, (gj p m F0 c).2.1 ≤ j → j < m → (gj p m F0 c).1 j c = 0 := fun j j1 j2 => f3 j j1 (by omega)
      rw [gj_no hum f6]
      exact ⟨gjI_no i1 f6, i2⟩
/-- the numbers of the least rule: column k -/
def nmb (l : Nat) (F : Nat → Nat → Int) (pv : Nat → Int) (k : Nat) : Int := if pv k = -1 then 0 else F (pv k).toNat l
theorem sol_end {p m l : Nat} {F : Nat → Nat → Int} {u : Nat} {pv : Nat → Int} (hp : prm p) (h : gjI p m l l F u pv) : (∃ y, sol p m l F y) ↔ ∀ r, u ≤ r → r < m → F r l = 0 := by
  obtain ⟨⟨a1, a2⟩, a3, a4, a5, a6, a7⟩ := h
  have p2 := hp.1
  constructor
  · rintro ⟨y, hy⟩ r hr hrm
    have z := hy r hrm
    unfold rsd at z
    rw [show ss (fun k => F r k * y k) 0 l = 0 by
      rw [ss_congr (g := fun _ => 0) l 0 (fun i _ hi => by rw [a4 r i hr hrm (by omega), Int.zero_mul])]
      exact ss_zero l 0] at z
    have hb := a3 r l hrm (Nat.le_refl l)
    have z2 := Int.dvd_neg.mpr z
    exact eq_of_dvd hb ⟨Int.le_refl 0, by omega⟩ (by rw [Int.sub_zero]; rwa [show -(0 - F r l) = F r l by omega] at z2)
  · intro hz
    refine ⟨nmb l F pv, fun r hr => ?_⟩
    unfold rsd
    by_cases hu : u ≤ r
    · rw [show ss (fun k => F r k * nmb l F pv k) 0 l = 0 by
        rw [ss_congr (g := fun _ => 0) l 0 (fun i _ hi => by rw [a4 r i hu hr (by omega), Int.zero_mul])]
        exact ss_zero l 0, hz r hu hr]
      exact Int.dvd_zero _
    · obtain ⟨c, c1, c2⟩ := a6 r (by omega)
      have hF : F r c = 1 := by
        rcases a5 c c1 with y | ⟨t, t1, t2, t3, t4⟩
        · omega
        · rw [show r = t by omega]
          exact t3
      have e : ss (fun k => F r k * nmb l F pv k) 0 l = F r l := by
        rw [ss_one (c := c) l 0 (Nat.zero_le c) (by omega) (fun i _ hi hne => ?_)]
        · rw [hF, Int.one_mul]
          unfold nmb
          rw [if_neg (by omega), c2, Int.toNat_natCast]
        · rcases a5 i (by omega) with y | ⟨t, t1, t2, t3, t4⟩
          · unfold nmb
            rw [if_pos y, Int.mul_zero]
          · rw [t4 r hr (fun q => hne (a7 i c (by omega) c1 (by omega) (by omega))), Int.zero_mul]
      rw [e, Int.sub_self]
      exact Int.dvd_zero _
