/-! ===== counting the values of variables ===== -/
def sN (f : Nat → Nat) : Nat → Nat
  | 0 => 0
  | q + 1 => sN f q + f q
theorem sN_congr {f g : Nat → Nat} : ∀ q, (∀ a, a < q → f a = g a) → sN f q = sN g q
  | 0, _ => rfl
  | q + 1, h => by
    show sN f q + f q = sN g q + g q
    rw [sN_congr q (fun a ha => h a (by omega)), h q (by omega)]
theorem sN_mul (c : Nat) (f : Nat → Nat) : ∀ q, sN (fun a => c * f a) q = c * sN f q
  | 0 => (Nat.mul_zero c).symm
  | q + 1 => by
    show sN (fun a => c * f a) q + c * f q = c * (sN f q + f q)
    rw [sN_mul c f q, Nat.mul_add]
theorem sN_add (f g : Nat → Nat) : ∀ q, sN (fun a => f a + g a) q = sN f q + sN g q
  | 0 => rfl
  | q + 1 => by
    show sN (fun a => f a + g a) q + (f q + g q) = (sN f q + f q) + (sN g q + g q)
    rw [sN_add f g q]
    omega
theorem sN_zero : ∀ q, sN (fun _ => 0) q = 0
  | 0 => rfl
  | q + 1 => by
    show sN (fun _ => 0) q + 0 = 0
    rw [sN_zero q]
theorem sN_const (c : Nat) : ∀ q, sN (fun _ => c) q = q * c
  | 0 => (Nat.zero_mul c).symm
  | q + 1 => by
    show sN (fun _ => c) q + c = (q + 1) * c
    rw [sN_const c q, Nat.succ_mul]
theorem sN_swap (f : Nat → Nat → Nat) (p : Nat) : ∀ q, sN (fun a => sN (f a) p) q = sN (fun b => sN (fun a => f a b) q) p
  | 0 => by
    show 0 = sN (fun _ => 0) p
    rw [sN_zero]
  | q + 1 => by
    show sN (fun a => sN (f a) p) q + sN (f q) p = sN (fun b => sN (fun a => f a b) q + f q b) p
    rw [sN_swap f p q, sN_add]
theorem sN_app (f : Nat → Nat) (p : Nat) : ∀ q, sN f (p + q) = sN f p + sN (fun a => f (p + a)) q
  | 0 => rfl
  | q + 1 => by
    show sN f (p + q) + f (p + q) = sN f p + (sN (fun a => f (p + a)) q + f (p + q))
    rw [sN_app f p q]
    omega
theorem sN_per {f : Nat → Nat} {m : Nat} (h : ∀ a, f (m + a) = f a) : ∀ g, sN f (g * m) = g * sN f m
  | 0 => by rw [Nat.zero_mul, Nat.zero_mul]; rfl
  | g + 1 => by
    rw [Nat.succ_mul, Nat.add_comm, sN_app, sN_congr (g := f) (g * m) (fun a _ => h a), sN_per h g, Nat.succ_mul]
    omega
theorem sN_one {f : Nat → Nat} {c : Nat} : ∀ q, c < q → (∀ a, a < q → a ≠ c → f a = 0) → sN f q = f c
  | 0, h, _ => absurd h (Nat.not_lt_zero c)
  | q + 1, h, hz => by
    show sN f q + f q = f c
    by_cases hc : c = q
    · subst hc
      rw [sN_congr (g := fun _ => 0) c (fun a ha => hz a (by omega) (by omega)), sN_zero, Nat.zero_add]
    · rw [sN_one q (by omega) (fun a ha => hz a (by omega)), hz q (by omega) (by omega), Nat.add_zero]
/-- 1 where it holds -/
noncomputable def ind (P : Prop) : Nat := @ite _ P (Classical.propDecidable P) 1 0
theorem ind_t {P : Prop} (h : P) : ind P = 1 := @if_pos _ (Classical.propDecidable P) h _ _ _
theorem ind_f {P : Prop} (h : ¬ P) : ind P = 0 := @if_neg _ (Classical.propDecidable P) h _ _ _
theorem ind_congr {P Q : Prop} (h : P ↔ Q) : ind P = ind Q := by
  by_cases hp : P
  · rw [ind_t hp, ind_t (h.mp hp)]
  · rw [ind_f hp, ind_f (fun z => hp (h.mpr z))]
theorem ind_and {P Q : Prop} : ind (P ∧ Q) = ind P * ind Q := by
  by_cases hp : P
  · by_cases hq : Q
    · rw [ind_t hp, ind_t hq, ind_t ⟨hp, hq⟩]
    · rw [ind_f hq, ind_f (fun z => hq z.2), Nat.mul_zero]
  · rw [ind_f hp, ind_f (fun z => hp z.1), Nat.zero_mul]
/-- how many values solve u a + e = 0 modulo m, where u can be turned -/
theorem sol_one {m : Nat} (hm : 0 < m) {u v e : Int} (hu : (m : Int) ∣ v * u - 1) : sN (fun a => ind ((m : Int) ∣ u * a + e)) m = 1 := by
  have n0 := Int.emod_nonneg (-(v * e)) (show (m : Int) ≠ 0 by omega)
  have n1 := Int.emod_lt_of_pos (-(v * e)) (show (0 : Int) < m by omega)
  obtain ⟨c, hc⟩ : ∃ c : Nat, (-(v * e)) % (m : Int) = (c : Int) := ⟨((-(v * e)) % (m : Int)).toNat, by omega⟩
  have hsol : ∀ a : Nat, (m : Int) ∣ u * a + e ↔ (m : Int) ∣ (a : Int) - c := by
    intro a
    have h1 := Int.mul_ediv_add_emod (-(v * e)) (m : Int)
    rw [hc] at h1
    obtain ⟨k, hk⟩ := hu
    constructor
    · rintro ⟨y, hy⟩
      refine ⟨v * y - a * k + (-(v * e)) / (m : Int), ?_⟩
      generalize (-(v * e)) / (m : Int) = z at *
      have : (c : Int) = -(v * e) - m * z := by omega
      rw [this]
      grind
    · rintro ⟨y, hy⟩
      refine ⟨u * y - u * ((-(v * e)) / (m : Int)) - k * e, ?_⟩
      generalize (-(v * e)) / (m : Int) = z at *
      have : (a : Int) = c + m * y := by omega
      have hcc : (c : Int) = -(v * e) - m * z := by omega
      rw [this, hcc]
      grind
  rw [sN_one (c := c) m (by omega) (fun a ha hne => ind_f (fun z => hne ?_)), ind_t ((hsol c).mpr (by rw [Int.sub_self]; exact Int.dvd_zero _))]
  have := eq_of_dvd (p := m) (a := (a : Int)) (b := (c : Int)) (by omega) (by omega) ((hsol a).mp z)
  omega
/-- how many values solve g u a + e = 0 modulo g m -/
theorem sol_many {g m : Nat} (hg : 0 < g) (hm : 0 < m) {u v e : Int} (hu : (m : Int) ∣ v * u - 1) : sN (fun a => ind (((g * m : Nat) : Int) ∣ g * u * a + e)) (g * m) = if (g : Int) ∣ e then g else 0 := by
  have hgm : ((g * m : Nat) : Int) = (g : Int) * m := Int.natCast_mul g m
  split
  · rename_i he
    obtain ⟨e2, rfl⟩ := he
    have h1 : ∀ a : Nat, ((g * m : Nat) : Int) ∣ g * u * a + g * e2 ↔ (m : Int) ∣ u * a + e2 := by
      intro a
      rw [hgm, show (g : Int) * u * a + g * e2 = g * (u * a + e2) by grind]
      exact Int.mul_dvd_mul_iff_left (by omega)
    have hper : ∀ a : Nat, ind ((m : Int) ∣ u * ((m + a : Nat) : Int) + e2) = ind ((m : Int) ∣ u * (a : Int) + e2) := fun a => ind_congr (by
      rw [Int.natCast_add]
      constructor
      · rintro ⟨y, hy⟩
        exact ⟨y - u, by grind⟩
      · rintro ⟨y, hy⟩
        exact ⟨y + u, by grind⟩)
    rw [sN_congr (g := fun a => ind ((m : Int) ∣ u * a + e2)) (g * m) (fun a _ => ind_congr (h1 a)), sN_per (f := fun a => ind ((m : Int) ∣ u * (a : Int) + e2)) hper, sol_one hm hu, Nat.mul_one]
  · rename_i he
    rw [sN_congr (g := fun _ => 0) (g * m) (fun a _ => ind_f (fun z => he ?_)), sN_zero]
    obtain ⟨y, hy⟩ := z
    refine ⟨m * y - u * a, ?_⟩
    rw [hgm] at hy
    grind
/-- the sum of f over all values below q of the variables, the head's first -/
def sm (q : Nat) : List Nat → ((Nat → Int) → Nat) → (Nat → Int) → Nat
  | [], f, x => f x
  | v :: vs, f, x => sm q vs (fun y => sN (fun a => f (va_up y v (a : Int))) q) x
theorem sm_congr {q : Nat} : ∀ (vs : List Nat) {f g : (Nat → Int) → Nat} (x : Nat → Int), (∀ y, f y = g y) → sm q vs f x = sm q vs g x
  | [], _, _, x, h => h x
  | v :: vs, f, g, x, h => sm_congr vs x (fun y => sN_congr q (fun a _ => h _))
theorem sm_mul {q : Nat} (c : Nat) : ∀ (vs : List Nat) (f : (Nat → Int) → Nat) (x : Nat → Int), sm q vs (fun y => c * f y) x = c * sm q vs f x
  | [], _, _ => rfl
  | v :: vs, f, x => by
    show sm q vs (fun y => sN (fun a => c * f (va_up y v (a : Int))) q) x = c * sm q vs (fun y => sN (fun a => f (va_up y v (a : Int))) q) x
    rw [← sm_mul c vs]
    exact sm_congr vs x (fun y => sN_mul c _ q)
theorem va_up_comm {α : Type} {f : Nat → α} {i j : Nat} {a b : α} (h : i ≠ j) : va_up (va_up f i a) j b = va_up (va_up f j b) i a := by
  funext k
  by_cases hi : k = i
  · subst hi
    rw [va_up_ne _ _ h, va_up_self, va_up_self]
  · by_cases hj : k = j
    · subst hj
      rw [va_up_self, va_up_ne _ _ hi, va_up_self]
    · rw [va_up_ne _ _ hj, va_up_ne _ _ hi, va_up_ne _ _ hi, va_up_ne _ _ hj]
theorem sm_perm {q : Nat} {vs ws : List Nat} (h : vs.Perm ws) : ∀ (f : (Nat → Int) → Nat) (x : Nat → Int), sm q vs f x = sm q ws f x := by
  induction h with
  | nil => exact fun f x => rfl
  | cons v _ ih => exact fun f x => ih _ x
  | swap v w l =>
    intro f x
    by_cases hvw : v = w
    · subst hvw
      rfl
    · refine sm_congr l x (fun y => ?_)
      rw [sN_swap]
      exact sN_congr q (fun a _ => sN_congr q (fun b _ => by rw [va_up_comm (Ne.symm hvw)]))
  | trans _ _ h1 h2 => exact fun f x => (h1 f x).trans (h2 f x)
/-- another name for the variables -/
theorem sm_ren {q : Nat} {τ : Nat → Nat} (hτ : ∀ i, τ (τ i) = i) : ∀ (vs : List Nat) (f : (Nat → Int) → Nat) (x : Nat → Int), sm q (vs.map τ) f x = sm q vs (fun y => f (fun i => y (τ i))) (fun i => x (τ i))
  | [], f, x => by
    show f x = f (fun i => x (τ (τ i)))
    congr 1
    funext i
    rw [hτ]
  | v :: vs, f, x => by
    show sm q (vs.map τ) (fun y => sN (fun a => f (va_up y (τ v) (a : Int))) q) x = _
    rw [sm_ren hτ vs]
    refine sm_congr vs _ (fun y => sN_congr q (fun a _ => ?_))
    congr 1
    funext i
    by_cases h : i = τ v
    · subst h
      rw [va_up_self, hτ, va_up_self]
    · rw [va_up_ne _ _ h, va_up_ne _ _ (fun z => h (by rw [← z, hτ]))]
/-- one equation's variable: its values, times the other equations' solutions -/
theorem sm_pivot {q g m v : Nat} {vs : List Nat} (hq : q = g * m) (hg : 0 < g) (hm : 0 < m) {u w b : Int} (hu : (m : Int) ∣ w * u - 1) {L : (Nat → Int) → Int} {P : (Nat → Int) → Prop} (hL : ∀ y a, L (va_up y v a) = L y) (hgL : ∀ y, (g : Int) ∣ L y) (hP : ∀ y a, P (va_up y v a) ↔ P y) (x : Nat → Int) : sm q (v :: vs) (fun y => ind ((q : Int) ∣ g * u * y v + L y - b ∧ P y)) x = (if (g : Int) ∣ b then g else 0) * sm q vs (fun y => ind (P y)) x := by
  show sm q vs (fun y => sN (fun a => ind ((q : Int) ∣ g * u * (va_up y v (a : Int)) v + L (va_up y v (a : Int)) - b ∧ P (va_up y v (a : Int)))) q) x = _
  rw [← sm_mul]
  refine sm_congr vs x (fun y => ?_)
  have h1 : sN (fun a => ind ((q : Int) ∣ g * u * (va_up y v (a : Int)) v + L (va_up y v (a : Int)) - b ∧ P (va_up y v (a : Int)))) q = sN (fun a => ind (P y) * ind (((g * m : Nat) : Int) ∣ g * u * a + (L y - b))) q := by
    refine sN_congr q (fun a _ => ?_)
    rw [ind_and, va_up_self, hL, ind_congr (hP y a), Nat.mul_comm, hq, show g * u * (a : Int) + L y - b = g * u * a + (L y - b) by omega]
  rw [h1, sN_mul]
  have h2 := sol_many hg hm (e := L y - b) hu
  rw [← hq] at h2
  have h3 : sN (fun a => ind (((g * m : Nat) : Int) ∣ g * u * a + (L y - b))) q = if (g : Int) ∣ b then g else 0 := by
    rw [← hq, h2]
    have h4 : (g : Int) ∣ L y - b ↔ (g : Int) ∣ b := by
      constructor
      · intro z
        have := Int.dvd_sub (hgL y) z
        rw [show L y - (L y - b) = b by omega] at this
        exact this
      · exact fun z => Int.dvd_sub (hgL y) z
    by_cases hb : (g : Int) ∣ b
    · rw [if_pos hb, if_pos (h4.mpr hb)]
    · rw [if_neg hb, if_neg (fun z => hb (h4.mp z))]
  rw [h3, Nat.mul_comm]
