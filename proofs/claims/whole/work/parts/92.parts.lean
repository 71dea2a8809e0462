/-! ===== the parts of a measure ===== -/
def mulP (p : Nat) : Nat → Nat → Nat
  | 0, _ => 0
  | f + 1, l => if l % p = 0 then mulP p f (l / p) + 1 else 0
/-- the primes from p on that are in l, and how often -/
def facL : Nat → Nat → Nat → List (Nat × Nat)
  | 0, _, _ => []
  | f + 1, p, l => if l < p then [] else if l % p = 0 then (p, mulP p 9 l) :: facL f (p + 1) (l / p ^ mulP p 9 l) else facL f (p + 1) l
def fcs (M : Nat) : List (Nat × Nat) := facL 499 2 M
def isP (p : Nat) : Bool := (List.range 23).all (fun j => decide (j < 2) || decide (p ≤ j) || decide (p % j ≠ 0)) && decide (2 ≤ p) && decide (p ≤ 499)
def lamb (l : List (Nat × Nat)) : Nat := l.foldr (fun e a => Nat.lcm (Lf e.1 4 * Nf e.1 4 * e.1 ^ (e.2 - 1)) a) 1
def prodF (l : List (Nat × Nat)) : Nat := l.foldr (fun e a => e.1 ^ e.2 * a) 1
def okF (M : Nat) : Bool := decide ((fcs M).length ≤ 4) && (fcs M).all (fun e => isP e.1 && decide (1 ≤ e.2) && decide (M % (e.1 ^ e.2) = 0)) && decide (prodF (fcs M) = M) && decide (((fcs M).map (fun e => e.1)).Nodup) && decide (lamb (fcs M) ≤ 8000000000000000000)
set_option maxRecDepth 100000 in
theorem okF_all : (List.range 501).all (fun M => decide (M < 2) || okF M) = true := by decide +kernel
theorem isP_prm {p : Nat} (h : isP p = true) : prm p ∧ p ≤ 499 := by
  unfold isP at h
  simp only [Bool.and_eq_true, decide_eq_true_eq, List.all_eq_true, List.mem_range, Bool.or_eq_true] at h
  obtain ⟨⟨h1, h2⟩, h3⟩ := h
  have h4 : ∀ j, 2 ≤ j → j < 23 → j < p → ¬ j ∣ p := fun j j2 j3 j4 hd => by
    have := h1 j j3
    have := Nat.mod_eq_zero_of_dvd hd
    omega
  refine ⟨?_, h3⟩
  by_cases hp : p < 23
  · exact ⟨h2, fun j j2 j3 => h4 j j2 (by omega) j3⟩
  · exact prm_of_sq (d := 23) h2 (by omega) (fun j j2 j3 => h4 j j2 j3 (by omega))
theorem fcs_ok {M : Nat} (h2 : 2 ≤ M) (h5 : M ≤ 500) : (fcs M).length ≤ 4 ∧ (∀ e ∈ fcs M, prm e.1 ∧ e.1 ≤ 499 ∧ 1 ≤ e.2 ∧ e.1 ^ e.2 ∣ M) ∧ prodF (fcs M) = M ∧ ((fcs M).map (fun e => e.1)).Nodup ∧ lamb (fcs M) ≤ 8000000000000000000 := by
  have h := List.all_eq_true.mp okF_all M (List.mem_range.mpr (by omega))
  simp only [Bool.or_eq_true, decide_eq_true_eq] at h
  have h := h.resolve_left (by omega)
  unfold okF at h
  simp only [Bool.and_eq_true, decide_eq_true_eq, List.all_eq_true] at h
  obtain ⟨⟨⟨⟨a1, a2⟩, a3⟩, a4⟩, a5⟩ := h
  refine ⟨a1, fun e he => ?_, a3, a4, a5⟩
  obtain ⟨⟨b1, b2⟩, b3⟩ := a2 e he
  exact ⟨(isP_prm b1).1, (isP_prm b1).2, b2, Nat.dvd_of_mod_eq_zero b3⟩
theorem prm_cop2 {p q : Nat} (hp : prm p) (hq : prm q) (h : p ≠ q) : Nat.Coprime p q := prm_cop hp (fun z => h (prm_eq hp hq z))
/-- divisible by all parts: divisible -/
theorem parts_dvd {a : Nat} : ∀ (l : List (Nat × Nat)), (∀ e ∈ l, prm e.1) → (l.map (fun e => e.1)).Nodup → (∀ e ∈ l, e.1 ^ e.2 ∣ a) → prodF l ∣ a ∧ ∀ p, prm p → (∀ e ∈ l, p ≠ e.1) → Nat.Coprime p (prodF l)
  | [], _, _, _ => ⟨Nat.one_dvd a, fun p _ _ => Nat.coprime_one_right p⟩
  | e :: l, hp, hn, hd => by
    have hn2 := List.nodup_cons.mp hn
    obtain ⟨h1, h2⟩ := parts_dvd (a := a) l (fun x hx => hp x (List.mem_cons_of_mem _ hx)) hn2.2 (fun x hx => hd x (List.mem_cons_of_mem _ hx))
    have he := hp e List.mem_cons_self
    have hc : Nat.Coprime (e.1 ^ e.2) (prodF l) := Nat.Coprime.pow_left _ (h2 e.1 he (fun x hx z => hn2.1 (List.mem_map.mpr ⟨x, hx, z.symm⟩)))
    refine ⟨hc.mul_dvd_of_dvd_of_dvd (hd e List.mem_cons_self) h1, fun p pp pn => ?_⟩
    exact Nat.Coprime.mul_right (Nat.Coprime.pow_right _ (prm_cop2 pp he (pn e List.mem_cons_self))) (h2 p pp (fun x hx => pn x (List.mem_cons_of_mem _ hx)))
theorem fcs_dvd {M a : Nat} (h2 : 2 ≤ M) (h5 : M ≤ 500) : M ∣ a ↔ ∀ e ∈ fcs M, e.1 ^ e.2 ∣ a := by
  obtain ⟨a1, a2, a3, a4, a5⟩ := fcs_ok h2 h5
  constructor
  · exact fun h e he => Nat.dvd_trans (a2 e he).2.2.2 h
  · intro h
    have := (parts_dvd (a := a) (fcs M) (fun e he => (a2 e he).1) a4 h).1
    rw [a3] at this
    exact this
theorem fcs_dvdI {M : Nat} {a : Int} (h2 : 2 ≤ M) (h5 : M ≤ 500) : (M : Int) ∣ a ↔ ∀ e ∈ fcs M, ((e.1 ^ e.2 : Nat) : Int) ∣ a := by
  rw [Int.ofNat_dvd_left, fcs_dvd h2 h5]
  exact ⟨fun h e he => Int.ofNat_dvd_left.mpr (h e he), fun h e he => Int.ofNat_dvd_left.mp (h e he)⟩
theorem mp_parts {w M s t : Nat} {A : Nat → Int} (h2 : 2 ≤ M) (h5 : M ≤ 500) : mp w M A s = mp w M A t ↔ ∀ e ∈ fcs M, mp w (e.1 ^ e.2) A s = mp w (e.1 ^ e.2) A t := by
  obtain ⟨-, a2, -⟩ := fcs_ok h2 h5
  constructor
  · intro h e he
    funext j
    rw [mp_red (a2 e he).2.2.2, mp_red (a2 e he).2.2.2, h]
  · intro h
    funext j
    refine eq_of_dvd ((mp_can (by omega) s).2 j) ((mp_can (by omega) t).2 j) ((fcs_dvdI h2 h5).mpr (fun e he => ?_))
    have h1 := congrFun (h e he) j
    rw [mp_red (a2 e he).2.2.2, mp_red (a2 e he).2.2.2] at h1
    exact dvd_sub_of_emod h1
/-- the parts by their places; where there is none: 0, as often as 0 -/
def pe (M i : Nat) : Nat × Nat := (fcs M).getD i (0, 0)
theorem pe_mem {M i : Nat} (hi : i < (fcs M).length) : pe M i ∈ fcs M := by
  unfold pe
  simp [List.getD, hi]
theorem pe_of {M : Nat} {e : Nat × Nat} (he : e ∈ fcs M) : ∃ i, i < (fcs M).length ∧ pe M i = e := by
  obtain ⟨i, hi, h⟩ := List.mem_iff_getElem.mp he
  refine ⟨i, hi, ?_⟩
  unfold pe
  simp [List.getD, hi, h]
theorem pe_out {M i : Nat} (hi : (fcs M).length ≤ i) : pe M i = (0, 0) := by
  unfold pe
  simp [List.getD, hi]
def lcmI (W : Nat → Nat) : Nat → Nat
  | 0 => 1
  | i + 1 => Nat.lcm (lcmI W i) (W i)
theorem lcmI_dvd {W : Nat → Nat} {R : Nat} : ∀ i, lcmI W i ∣ R ↔ ∀ j, j < i → W j ∣ R
  | 0 => ⟨fun _ j hj => absurd hj (Nat.not_lt_zero j), fun _ => Nat.one_dvd R⟩
  | i + 1 => by
    show Nat.lcm (lcmI W i) (W i) ∣ R ↔ _
    rw [Nat.lcm_dvd_iff, lcmI_dvd i]
    constructor
    · rintro ⟨h1, h2⟩ j hj
      by_cases hc : j = i
      · exact hc ▸ h2
      · exact h1 j (by omega)
    · exact fun h => ⟨fun j hj => h j (by omega), h i (by omega)⟩
theorem lcm_div_mul (a b : Nat) (ha : 0 < a) : a / Nat.gcd a b * b = Nat.lcm a b := by
  obtain ⟨c, hc⟩ := Nat.gcd_dvd_left a b
  have hg := Nat.gcd_pos_of_pos_left b ha
  generalize hgg : Nat.gcd a b = g at *
  rw [Nat.lcm_eq_mul_div, hgg]
  subst hc
  rw [Nat.mul_div_cancel_left _ hg, Nat.mul_assoc, Nat.mul_div_cancel_left _ hg]
theorem per_parts {n M m : Nat} {A : Nat → Int} {W : Nat → Nat} (h2 : 2 ≤ M) (h5 : M ≤ 500) (hW : ∀ i, i < (fcs M).length → isPer (mp (n + 1) ((pe M i).1 ^ (pe M i).2) A) m (W i)) (k : Nat) (hk : (fcs M).length ≤ k) (hW1 : ∀ i, (fcs M).length ≤ i → W i = 1) : isPer (mp (n + 1) M A) m (lcmI W k) := by
  constructor
  · have h : ∀ i, 1 ≤ lcmI W i := by
      intro i
      induction i with
      | zero => exact Nat.le_refl _
      | succ i ih =>
        refine Nat.lcm_pos ih ?_
        by_cases hi : i < (fcs M).length
        · exact (hW i hi).1
        · rw [hW1 i (by omega)]
          omega
    exact h k
  · intro R
    rw [mp_parts h2 h5, lcmI_dvd]
    constructor
    · intro h j hj
      by_cases hc : j < (fcs M).length
      · exact ((hW j hc).2 R).mp (h _ (pe_mem hc))
      · rw [hW1 j (by omega)]
        exact Nat.one_dvd R
    · intro h e he
      obtain ⟨i, hi, rfl⟩ := pe_of he
      exact ((hW i hi).2 R).mpr (h i (by omega))
theorem lamb_dvd {l : List (Nat × Nat)} {e : Nat × Nat} (he : e ∈ l) : Lf e.1 4 * Nf e.1 4 * e.1 ^ (e.2 - 1) ∣ lamb l := by
  induction l with
  | nil => cases he
  | cons x l ih =>
    show _ ∣ Nat.lcm (Lf x.1 4 * Nf x.1 4 * x.1 ^ (x.2 - 1)) (lamb l)
    rcases List.mem_cons.mp he with rfl | h
    · exact Nat.dvd_lcm_left _ _
    · exact Nat.dvd_trans (ih h) (Nat.dvd_lcm_right _ _)
theorem lamb_pos {l : List (Nat × Nat)} (h : ∀ e ∈ l, 2 ≤ e.1) : 1 ≤ lamb l := by
  induction l with
  | nil => exact Nat.le_refl _
  | cons x l ih => exact Nat.lcm_pos (E_pos (h x List.mem_cons_self) (by omega) (by omega)) (ih (fun e he => h e (List.mem_cons_of_mem _ he)))
theorem Lf_dvd4 {p n : Nat} : Lf p n ∣ Lf p 4 := by
  unfold Lf
  refine Nat.mul_dvd_mul (Nat.mul_dvd_mul (Nat.mul_dvd_mul (Nat.dvd_refl _) ?_) ?_) ?_
  · split
    · exact Nat.dvd_refl _
    · exact Nat.one_dvd _
  · split
    · exact Nat.dvd_refl _
    · exact Nat.one_dvd _
  · split
    · exact Nat.dvd_refl _
    · exact Nat.one_dvd _
theorem Nf_dvd4 {p n : Nat} (n4 : n ≤ 4) : Nf p n ∣ Nf p 4 := by
  unfold Nf
  by_cases h1 : p ≤ n
  · rw [if_pos h1, if_pos (show p ≤ 4 by omega)]
    by_cases h2 : p * p ≤ n
    · rw [if_pos h2, if_pos (show p * p ≤ 4 by omega)]
      exact Nat.dvd_refl _
    · rw [if_neg h2]
      split
      · exact Nat.dvd_mul_right _ _
      · exact Nat.dvd_refl _
  · rw [if_neg h1]
    split
    · split
      · exact Nat.dvd_mul_left _ _
      · exact Nat.dvd_mul_left _ _
    · exact Nat.dvd_refl _
theorem E_lamb {M n : Nat} {e : Nat × Nat} (n4 : n ≤ 4) (he : e ∈ fcs M) : Lf e.1 n * Nf e.1 n * e.1 ^ (e.2 - 1) ∣ lamb (fcs M) := Nat.dvd_trans (Nat.mul_dvd_mul (Nat.mul_dvd_mul Lf_dvd4 (Nf_dvd4 n4)) (Nat.dvd_refl _)) (lamb_dvd he)
/-! ===== few primes divide a number below 2^63 ===== -/
def prodL (l : List Nat) : Nat := l.foldr (fun x a => x * a) 1
theorem prodL_perm {l l2 : List Nat} (h : l.Perm l2) : prodL l = prodL l2 := by
  induction h with
  | nil => rfl
  | cons x _ ih => show x * _ = x * _; rw [show List.foldr _ _ _ = prodL _ from rfl, ih]; rfl
  | swap x y l => show y * (x * prodL l) = x * (y * prodL l); grind
  | trans _ _ h1 h2 => exact h1.trans h2
theorem prod_dvd {a : Nat} : ∀ (l : List Nat), (∀ x ∈ l, prm x) → l.Nodup → (∀ x ∈ l, x ∣ a) → prodL l ∣ a ∧ ∀ p, prm p → p ∉ l → Nat.Coprime p (prodL l)
  | [], _, _, _ => ⟨Nat.one_dvd a, fun p _ _ => Nat.coprime_one_right p⟩
  | x :: l, hp, hn, hd => by
    have hn2 := List.nodup_cons.mp hn
    obtain ⟨h1, h2⟩ := prod_dvd (a := a) l (fun y hy => hp y (List.mem_cons_of_mem _ hy)) hn2.2 (fun y hy => hd y (List.mem_cons_of_mem _ hy))
    have hx := hp x List.mem_cons_self
    refine ⟨(h2 x hx hn2.1).mul_dvd_of_dvd_of_dvd (hd x List.mem_cons_self) h1, fun p pp pn => ?_⟩
    exact Nat.Coprime.mul_right (prm_cop2 pp hx (fun z => pn (z ▸ List.mem_cons_self))) (h2 p pp (fun z => pn (List.mem_cons_of_mem _ z)))
theorem prod_swap : ∀ (P l : List Nat), P.Nodup → l.Nodup → P.length ≤ l.length → (∀ x ∈ l, 1 ≤ x) → (∀ x ∈ l, x ∉ P → ∀ y ∈ P, y ≤ x) → prodL P ≤ prodL l
  | [], l, _, _, _, h1, _ => by
    show 1 ≤ prodL l
    induction l with
    | nil => exact Nat.le_refl _
    | cons x l ih =>
      have := Nat.mul_pos (h1 x List.mem_cons_self) (ih (by assumption |> fun _ => (List.nodup_cons.mp (by assumption)).2) (Nat.zero_le _) (fun y hy => h1 y (List.mem_cons_of_mem _ hy)) (fun _ _ _ y hy => absurd hy List.not_mem_nil))
      exact this
  | y :: P, l, hP, hl, hlen, h1, h2 => by
    have hP2 := List.nodup_cons.mp hP
    have hlen2 : P.length + 1 ≤ l.length := hlen
    obtain ⟨x, xl, xy, xP⟩ : ∃ x, x ∈ l ∧ y ≤ x ∧ (x = y ∨ (y ∉ l ∧ x ∉ P)) := by
      by_cases hy : y ∈ l
      · exact ⟨y, hy, Nat.le_refl _, Or.inl rfl⟩
      · apply Classical.byContradiction
        intro hno
        have hsub : ∀ x, x ∈ l → x ∈ P := fun x hx => Classical.byContradiction fun hxP => by
          have hxy : x ∉ y :: P := fun z => by
            rcases List.mem_cons.mp z with z | z
            · exact hy (z ▸ hx)
            · exact hxP z
          exact hno ⟨x, hx, h2 x hx hxy y List.mem_cons_self, Or.inr ⟨hy, hxP⟩⟩
        have := hl.length_le_of_subset hsub
        omega
    have hperm := List.perm_cons_erase xl
    have hxP : x ∉ P := xP.elim (fun z => z ▸ hP2.1) (fun z => z.2)
    rw [prodL_perm hperm]
    show y * prodL P ≤ x * prodL (l.erase x)
    refine Nat.mul_le_mul xy (prod_swap P (l.erase x) hP2.2 (hl.erase x) ?_ (fun z hz => h1 z (List.mem_of_mem_erase hz)) (fun z hz hzP w hw => ?_))
    · have := hperm.length_eq
      rw [List.length_cons] at this
      omega
    · have hz2 := (hl.mem_erase_iff).mp hz
      by_cases hzy : z = y
      · rcases xP with q | q
        · exact absurd (hzy.trans q.symm) hz2.1
        · exact absurd (hzy ▸ hz2.2) q.1
      · exact h2 z hz2.2 (fun q => (List.mem_cons.mp q).elim hzy hzP) w (List.mem_cons_of_mem _ hw)

/-- at most 16 primes divide a number up to 8 * 10^18 -/
theorem few_primes {a : Nat} (ha : 1 ≤ a) (hb : a ≤ 8000000000000000000) {l : List Nat} (hl : l.Nodup) (hp : ∀ x ∈ l, prm x ∧ x ∣ a) : l.length ≤ 16 := by
  apply Nat.le_of_not_lt
  intro hlen
  have h1 := (prod_dvd (a := a) l (fun x hx => (hp x hx).1) hl (fun x hx => (hp x hx).2)).1
  have h2 := prod_swap [2, 3, 5, 7, 11, 13, 17, 19, 23, 29, 31, 37, 41, 43, 47, 53, 59] l (by decide) hl hlen (fun x hx => by have := (hp x hx).1.1; omega) (fun x hx hxP y hy => ?_)
  · have h3 := Nat.le_of_dvd ha h1
    have h4 : prodL [2, 3, 5, 7, 11, 13, 17, 19, 23, 29, 31, 37, 41, 43, 47, 53, 59] = 1922760350154212639070 := by decide +kernel
    omega
  · have hy59 : y ≤ 59 := by
      have : ∀ y ∈ [2, 3, 5, 7, 11, 13, 17, 19, 23, 29, 31, 37, 41, 43, 47, 53, 59], y ≤ 59 := by decide
      exact this y hy
    apply Classical.byContradiction
    intro hlt
    have hx1 := (hp x hx).1
    have hx2 : x < 60 := by omega
    have hall : ∀ x, x < 60 → x ∉ [2, 3, 5, 7, 11, 13, 17, 19, 23, 29, 31, 37, 41, 43, 47, 53, 59] → x < 2 ∨ (2 < x ∧ 2 ∣ x) ∨ (3 < x ∧ 3 ∣ x) ∨ (5 < x ∧ 5 ∣ x) ∨ (7 < x ∧ 7 ∣ x) := by decide
    rcases hall x hx2 hxP with z | z | z | z | z
    · have := hx1.1
      omega
    · exact hx1.2 2 (by omega) z.1 z.2
    · exact hx1.2 3 (by omega) z.1 z.2
    · exact hx1.2 5 (by omega) z.1 z.2
    · exact hx1.2 7 (by omega) z.1 z.2
/-- the primes that the rounds of a mill can ask for -/
noncomputable def BM (M : Nat) : List Nat := (List.range 300000).filter (fun x => @decide (prm x ∧ x ∣ lamb (fcs M)) (Classical.propDecidable _))
theorem BM_mem {M x : Nat} (hx : x ∈ BM M) : prm x ∧ x ∣ lamb (fcs M) ∧ x < 300000 := by
  obtain ⟨h1, h2⟩ := List.mem_filter.mp hx
  have h3 := @of_decide_eq_true _ (Classical.propDecidable _) h2
  exact ⟨h3.1, h3.2, List.mem_range.mp h1⟩
theorem BM_len {M : Nat} (h2 : 2 ≤ M) (h5 : M ≤ 500) : (BM M).length ≤ 16 := by
  obtain ⟨a1, a2, a3, a4, a5⟩ := fcs_ok h2 h5
  exact few_primes (lamb_pos (fun e he => (a2 e he).1.1)) a5 (List.nodup_range.sublist List.filter_sublist) (fun x hx => ⟨(BM_mem hx).1, (BM_mem hx).2.1⟩)
theorem prm_Lf {p n x : Nat} (hp : prm p) (p5 : p ≤ 499) (hx : prm x) (h : x ∣ Lf p n * p) : x < 300000 := by
  have hpp : p * p ≤ 249001 := by
    have := Nat.mul_le_mul p5 p5
    omega
  have hp2 := hp.1
  unfold Lf at h
  rcases prm_dvd_mul hx h with h | h
  · rcases prm_dvd_mul hx h with h | h
    · rcases prm_dvd_mul hx h with h | h
      · rcases prm_dvd_mul hx h with h | h
        · have := Nat.le_of_dvd (by omega) h
          omega
        · split at h
          · have := Nat.le_of_dvd (by omega) h
            omega
          · exact absurd h (prm_not_one hx)
      · split at h
        · have := Nat.le_of_dvd (by omega) h
          omega
        · exact absurd h (prm_not_one hx)
    · split at h
      · have := Nat.le_of_dvd (by omega) h
        omega
      · exact absurd h (prm_not_one hx)
  · have := Nat.le_of_dvd (by omega) h
    omega
theorem BM_has {M n x : Nat} {e : Nat × Nat} (h2 : 2 ≤ M) (h5 : M ≤ 500) (n1 : 1 ≤ n) (n4 : n ≤ 4) (he : e ∈ fcs M) (hx : prm x) (h : x ∣ Lf e.1 n * e.1) : x ∈ BM M := by
  obtain ⟨a1, a2, a3, a4, a5⟩ := fcs_ok h2 h5
  obtain ⟨b1, b2, b3, b4⟩ := a2 e he
  refine List.mem_filter.mpr ⟨List.mem_range.mpr (prm_Lf b1 b2 hx h), @decide_eq_true _ (Classical.propDecidable _) ⟨hx, ?_⟩⟩
  refine Nat.dvd_trans ?_ (E_lamb n4 he)
  rcases prm_dvd_mul hx h with h | h
  · exact Nat.dvd_mul_right_of_dvd (Nat.dvd_mul_right_of_dvd h _) _
  · refine Nat.dvd_mul_right_of_dvd (Nat.dvd_mul_left_of_dvd (Nat.dvd_trans h ?_) _) _
    unfold Nf
    split
    · split
      · exact Nat.dvd_mul_left _ _
      · exact Nat.dvd_mul_left _ _
    · exact Nat.dvd_refl _
