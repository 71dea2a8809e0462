/-! ===== tables over the whole numbers, acting on rows with MORE ===== -/
def stv (w : Nat) (A v : Nat → Int) (r : Nat) : Int := ss (fun c => A (5 * r + c) * v c) 0 w
def pwv (w : Nat) (A : Nat → Int) (t : Nat) (v : Nat → Int) : Nat → Int := itf (stv w A) t v
theorem stv_lin (w : Nat) (A u v : Nat → Int) (a b : Int) : stv w A (fun i => a * u i + b * v i) = fun i => a * stv w A u i + b * stv w A v i := by
  funext r
  unfold stv
  rw [← ss_mul, ← ss_mul, ← ss_add]
  exact ss_congr w 0 (fun i _ _ => by grind)
theorem pwv_lin (w : Nat) (A u v : Nat → Int) (a b : Int) : ∀ t, pwv w A t (fun i => a * u i + b * v i) = fun i => a * pwv w A t u i + b * pwv w A t v i
  | 0 => rfl
  | t + 1 => by
    show stv w A (pwv w A t _) = fun i => a * stv w A (pwv w A t u) i + b * stv w A (pwv w A t v) i
    rw [pwv_lin w A u v a b t, stv_lin]
theorem stv_congr {w : Nat} {A u v : Nat → Int} (h : ∀ r, r < w → u r = v r) (r : Nat) : stv w A u r = stv w A v r := ss_congr w 0 (fun i _ hi => by rw [h i (by omega)])
theorem pwv_congr {w : Nat} {A u v : Nat → Int} (h : ∀ r, r < w → u r = v r) : ∀ (t r : Nat), r < w → pwv w A t u r = pwv w A t v r
  | 0, r, hr => h r hr
  | t + 1, r, hr => stv_congr (fun i hi => pwv_congr h t i hi) r
theorem pwv_add (w : Nat) (A v : Nat → Int) (s t : Nat) : pwv w A (s + t) v = pwv w A s (pwv w A t v) := itf_add _ t v s
theorem stv_last {n : Nat} {A v : Nat → Int} (hA : aff n A) : stv (n + 1) A v n = v n := by
  unfold stv
  rw [ss_one (c := n) (n + 1) 0 (Nat.zero_le _) (by omega) (fun i _ hi hne => by rw [hA.1 i (by omega), Int.zero_mul]), hA.2, Int.one_mul]
theorem pwv_last {n : Nat} {A v : Nat → Int} (hA : aff n A) : ∀ t, pwv (n + 1) A t v n = v n
  | 0 => rfl
  | t + 1 => (stv_last hA).trans (pwv_last hA t)
theorem pf_ss (d : Nat) (f : Nat → Int) (a : Nat → Int) (U : Nat → Nat → Int) (j : Nat) : ∀ (w k : Nat), pf d f (fun i => ss (fun c => a c * U i c) k w) j = ss (fun c => a c * pf d f (fun i => U i c) j) k w
  | 0, k => by
    show pf d f (fun _ => 0) j = 0
    have := pf_lin d f (fun _ => 0) (fun _ => 0) 0 0 j
    simpa using this
  | w + 1, k => by
    have h1 : (fun i => ss (fun c => a c * U i c) k (w + 1)) = fun i => a k * U i k + 1 * ss (fun c => a c * U i c) (k + 1) w := by
      funext i
      show a k * U i k + ss (fun c => a c * U i c) (k + 1) w = _
      rw [Int.one_mul]
    rw [h1, pf_lin d f (fun i => U i k) (fun i => ss (fun c => a c * U i c) (k + 1) w), pf_ss d f a U j w (k + 1), Int.one_mul]
    rfl
/-- more rows than places: a relation between them -/
theorem rel_ex {p : Nat} (hp : prm p) (n : Nat) (U : Nat → Nat → Int) : ∃ c : Nat → Int, (¬ ∀ i, i < n + 1 → (p : Int) ∣ c i) ∧ ∀ r, r < n → (p : Int) ∣ pf (n + 1) c (fun i => U i r) 0 := by
  have hp2 := hp.1
  have hp0 : 0 < p := by omega
  let Im : Nat → Nat → Int := fun s r => if r < n then pf (n + 1) (dgf p (n + 1) s) (fun i => U i r) 0 % (p : Int) else 0
  have hIm : ∀ s, cano p n (Im s) := fun s => by
    refine ⟨fun i hi => ?_, fun i hi => ?_⟩
    · show 0 ≤ (if i < n then _ else _) ∧ (if i < n then _ else _) < _
      rw [if_pos hi]
      exact ⟨Int.emod_nonneg _ (by omega), Int.emod_lt_of_pos _ (by omega)⟩
    · exact if_neg (by omega)
  have hex : ∀ s, ∃ s', s' < p ^ n ∧ dgf p n s' = Im s := fun s => dgf_sur hp0 n _ (hIm s)
  obtain ⟨X, hX⟩ : ∃ X : Nat → Nat, ∀ s, X s < p ^ n ∧ dgf p n (X s) = Im s := ⟨fun s => Classical.choose (hex s), fun s => Classical.choose_spec (hex s)⟩
  have hlt : p ^ n < p ^ (n + 1) := by
    have := Nat.mul_le_mul_left (p ^ n) hp2
    have := Nat.pow_pos (n := n) hp0
    rw [Nat.pow_succ]
    omega
  have hcol : ∃ s t, s < t ∧ t < p ^ (n + 1) ∧ X s = X t := by
    apply Classical.byContradiction
    intro hno
    have hnd : ((List.range (p ^ (n + 1))).map X).Nodup := by
      show List.Pairwise _ _
      rw [List.pairwise_map]
      refine List.Pairwise.imp_of_mem ?_ (List.pairwise_lt_range (n := p ^ (n + 1)))
      intro i j _ hj hij he
      exact hno ⟨i, j, hij, List.mem_range.mp hj, he⟩
    have hle := hnd.length_le_of_subset (l₂ := List.range (p ^ n)) (fun y hy => by
      obtain ⟨j, _, rfl⟩ := List.mem_map.mp hy
      exact List.mem_range.mpr (hX j).1)
    simp only [List.length_map, List.length_range] at hle
    omega
  obtain ⟨s, t, hst, ht, he⟩ := hcol
  refine ⟨fun i => 1 * dgf p (n + 1) s i + (-1) * dgf p (n + 1) t i, fun hall => ?_, fun r hr => ?_⟩
  · have h1 : dgf p (n + 1) s = dgf p (n + 1) t := by
      funext i
      by_cases hi : i < n + 1
      · refine eq_of_dvd ((dgf_can hp0 (n + 1) s).1 i hi) ((dgf_can hp0 (n + 1) t).1 i hi) ?_
        have this : (p : Int) ∣ 1 * dgf p (n + 1) s i + (-1) * dgf p (n + 1) t i := hall i hi
        rw [Int.one_mul, Int.neg_mul, Int.one_mul, ← Int.sub_eq_add_neg] at this
        exact this
      · rw [(dgf_can hp0 (n + 1) s).2 i (by omega), (dgf_can hp0 (n + 1) t).2 i (by omega)]
    have := dgf_inj hp0 (n + 1) s t (by omega) ht h1
    omega
  · rw [pf_coef]
    have h1 : Im s r = Im t r := by rw [← (hX s).2, ← (hX t).2, he]
    have h2 : pf (n + 1) (dgf p (n + 1) s) (fun i => U i r) 0 % (p : Int) = pf (n + 1) (dgf p (n + 1) t) (fun i => U i r) 0 % (p : Int) := by
      have h3 : Im s r = pf (n + 1) (dgf p (n + 1) s) (fun i => U i r) 0 % (p : Int) := if_pos hr
      have h4 : Im t r = pf (n + 1) (dgf p (n + 1) t) (fun i => U i r) 0 % (p : Int) := if_pos hr
      rw [← h3, ← h4, h1]
    have h5 := dvd_sub_of_emod h2
    rw [Int.one_mul, Int.neg_mul, Int.one_mul, ← Int.sub_eq_add_neg]
    exact h5
theorem dn_lin (L : Nat) (a b : Int) : ∀ (m : Nat) (u v : Nat → Int), dn L m (fun i => a * u i + b * v i) = fun i => a * dn L m u i + b * dn L m v i
  | 0, _, _ => rfl
  | m + 1, u, v => by
    have h : dl L (fun i => a * u i + b * v i) = fun i => a * dl L u i + b * dl L v i := by
      funext j
      unfold dl
      grind
    show dn L m (dl L (fun i => a * u i + b * v i)) = _
    rw [h, dn_lin L a b m]
    rfl
theorem dn_le {p L a b k : Nat} {u : Nat → Int} (hab : a ≤ b) (h : Zq p (fun j => dn L a u (j + k))) : Zq p (fun j => dn L b u (j + k)) := by
  obtain ⟨c, rfl⟩ : ∃ c, b = a + c := ⟨b - a, by omega⟩
  intro j
  have h2 := dn_dvd (L := L) c _ h j
  rw [dn_sh, dn_add] at h2
  exact h2
/-- the linear part: x^n (x^L - 1)^n kills -/
theorem lin_kill {p : Nat} (hp : prm p) {n L : Nat} (hL : ∀ i, 1 ≤ i → i ≤ n → (p ^ i - 1) ∣ L) {A : Nat → Int} (hA : aff n A) {u : Nat → Int} (hu : u n = 0) {r : Nat} (hr : r < n) : Zq p (fun j => dn L n (fun t => pwv (n + 1) A t u r) (j + n)) := by
  obtain ⟨c, c1, c2⟩ := rel_ex hp n (fun i r => pwv (n + 1) A i u r)
  have h1 : ∀ j r, r < n + 1 → (p : Int) ∣ pf (n + 1) c (fun i => pwv (n + 1) A i u r) j := by
    intro j
    induction j with
    | zero =>
      intro r hr
      by_cases h : r < n
      · exact c2 r h
      · have e : r = n := by omega
        subst e
        have h2 : (fun i => pwv (r + 1) A i u r) = fun _ => 0 := funext fun i => (pwv_last hA i).trans hu
        rw [h2]
        have := pf_lin (r + 1) c (fun _ => 0) (fun _ => 0) 0 0 0
        simp at this
        rw [this]
        exact Int.dvd_zero _
    | succ j ih =>
      intro r hr
      have h2 : pf (n + 1) c (fun i => pwv (n + 1) A i u r) (j + 1) = pf (n + 1) c (fun i => ss (fun k => A (5 * r + k) * pwv (n + 1) A i u k) 0 (n + 1)) j := by
        rw [← pf_sh]
        rfl
      rw [h2, pf_ss (n + 1) c (fun k => A (5 * r + k)) (fun i k => pwv (n + 1) A i u k) j (n + 1) 0]
      have h3 : ∀ (w k : Nat), k + w ≤ n + 1 → (p : Int) ∣ ss (fun c_1 => A (5 * r + c_1) * pf (n + 1) c (fun i => pwv (n + 1) A i u c_1) j) k w := by
        intro w
        induction w with
        | zero => exact fun k _ => Int.dvd_zero _
        | succ w ih2 => exact fun k hk => Int.dvd_add (Int.dvd_mul_of_dvd_right (ih k (by omega))) (ih2 (k + 1) (by omega))
      exact h3 (n + 1) 0 (by omega)
  obtain ⟨t, g, t1, t2⟩ := monic_of hp c1
  have h2 := kill hp t (fun i i1 i2 => hL i i1 (by omega)) g _ (t2 (fun i => pwv (n + 1) A i u r) (fun j => h1 j r (by omega)))
  obtain ⟨k, hk⟩ : ∃ k, n = t + k := ⟨n - t, by omega⟩
  have h3 : Zq p (fun j => dn L t (fun t => pwv (n + 1) A t u r) (j + n)) := fun j => by
    have := h2 (j + k)
    show (p : Int) ∣ dn L t _ (j + n)
    rw [show j + n = j + k + t by omega]
    exact this
  exact dn_le (by omega) h3
/-- with MORE: x^n (x^L - 1)^(n+1) kills -/
theorem aff_kill {p : Nat} (hp : prm p) {n L : Nat} (hL : ∀ i, 1 ≤ i → i ≤ n → (p ^ i - 1) ∣ L) {A : Nat → Int} (hA : aff n A) (v : Nat → Int) {r : Nat} (hr : r < n) : Zq p (fun j => dn L (n + 1) (fun t => pwv (n + 1) A t v r) (j + n)) := by
  have hu : (fun i => 1 * stv (n + 1) A v i + (-1) * v i) n = 0 := by
    show 1 * stv (n + 1) A v n + (-1) * v n = 0
    rw [stv_last hA]
    omega
  have h1 := lin_kill (u := fun i => 1 * stv (n + 1) A v i + (-1) * v i) hp hL hA hu hr
  have h2 : (fun t => pwv (n + 1) A t (fun i => 1 * stv (n + 1) A v i + (-1) * v i) r) = dl 1 (fun t => pwv (n + 1) A t v r) := by
    funext t
    rw [pwv_lin]
    show 1 * pwv (n + 1) A t (stv (n + 1) A v) r + (-1) * pwv (n + 1) A t v r = pwv (n + 1) A (t + 1) v r - pwv (n + 1) A t v r
    have h3 : pwv (n + 1) A (t + 1) v = pwv (n + 1) A t (stv (n + 1) A v) := pwv_add (n + 1) A v t 1
    rw [h3]
    omega
  rw [h2] at h1
  have h4 : ∀ m, Zq p (fun j => dn L n (dl m (fun t => pwv (n + 1) A t v r)) (j + n)) := by
    intro m
    induction m with
    | zero =>
      have e : dl 0 (fun t => pwv (n + 1) A t v r) = fun _ => 0 := funext fun j => Int.sub_self _
      rw [e]
      exact fun j => dn_dvd n _ (fun _ => Int.dvd_zero _) _
    | succ m ih =>
      intro j
      have e : dl (m + 1) (fun t => pwv (n + 1) A t v r) = fun i => 1 * dl m (fun t => pwv (n + 1) A t v r) i + 1 * (fun i => dl 1 (fun t => pwv (n + 1) A t v r) (i + m)) i := by
        funext i
        unfold dl
        rw [show i + (m + 1) = i + m + 1 by omega]
        dsimp only
        omega
      show (p : Int) ∣ dn L n (dl (m + 1) _) (j + n)
      rw [e, dn_lin, dn_sh]
      show (p : Int) ∣ 1 * dn L n (dl m _) (j + n) + 1 * dn L n (dl 1 _) (j + n + m)
      rw [Int.one_mul, Int.one_mul]
      refine Int.dvd_add (ih j) ?_
      rw [show j + n + m = j + m + n by omega]
      exact h1 (j + m)
  exact h4 L
/-! ===== binomials up to 4 ===== -/
def c2 : Nat → Int
  | 0 => 0
  | t + 1 => c2 t + t
def c3 : Nat → Int
  | 0 => 0
  | t + 1 => c3 t + c2 t
def c4 : Nat → Int
  | 0 => 0
  | t + 1 => c4 t + c3 t
theorem c2_eq : ∀ t : Nat, 2 * c2 t = (t : Int) * t - t
  | 0 => rfl
  | t + 1 => by
    have := c2_eq t
    show 2 * (c2 t + t) = _
    rw [Int.natCast_succ]
    grind
theorem c3_eq : ∀ t : Nat, 6 * c3 t = (t : Int) * t * t - 3 * (t * t) + 2 * t
  | 0 => rfl
  | t + 1 => by
    have h1 := c3_eq t
    have h2 := c2_eq t
    show 6 * (c3 t + c2 t) = _
    rw [Int.natCast_succ]
    grind
theorem c4_eq : ∀ t : Nat, 24 * c4 t = (t : Int) * t * t * t - 6 * (t * t * t) + 11 * (t * t) - 6 * t
  | 0 => rfl
  | t + 1 => by
    have h1 := c4_eq t
    have h2 := c3_eq t
    show 24 * (c4 t + c3 t) = _
    rw [Int.natCast_succ]
    grind
/-- y^t = 1 + t (y - 1) + .. where (y - 1)^5 kills -/
theorem newton {p L : Nat} {u : Nat → Int} (h : Zq p (dn L 5 u)) : ∀ t j, (p : Int) ∣ u (j + L * t) - (u j + t * dn L 1 u j + c2 t * dn L 2 u j + c3 t * dn L 3 u j + c4 t * dn L 4 u j)
  | 0, j => by
    have e : u (j + L * 0) - (u j + ((0 : Nat) : Int) * dn L 1 u j + c2 0 * dn L 2 u j + c3 0 * dn L 3 u j + c4 0 * dn L 4 u j) = 0 := by
      show u (j + L * 0) - (u j + 0 * dn L 1 u j + 0 * dn L 2 u j + 0 * dn L 3 u j + 0 * dn L 4 u j) = 0
      rw [Nat.mul_zero, Nat.add_zero]
      omega
    rw [e]
    exact Int.dvd_zero _
  | t + 1, j => by
    have h1 := newton h t (j + L)
    have hs : ∀ i, dn L i u (j + L) = dn L (i + 1) u j + dn L i u j := by
      intro i
      have e : dn L (i + 1) u = dl L (dn L i u) := by
        have := dn_add L 1 i u
        exact this.symm
      rw [e]
      unfold dl
      omega
    have e0 : u (j + L) = dn L 1 u j + u j := hs 0
    rw [e0, hs 1, hs 2, hs 3, hs 4, show j + L + L * t = j + L * (t + 1) by rw [Nat.mul_succ]; omega] at h1
    have h5 := Int.dvd_mul_of_dvd_right (b := c4 t) (h j)
    have e9 : u (j + L * (t + 1)) - (u j + ((t + 1 : Nat) : Int) * dn L 1 u j + c2 (t + 1) * dn L 2 u j + c3 (t + 1) * dn L 3 u j + c4 (t + 1) * dn L 4 u j) = (u (j + L * (t + 1)) - (dn L 1 u j + u j + t * (dn L 2 u j + dn L 1 u j) + c2 t * (dn L 3 u j + dn L 2 u j) + c3 t * (dn L 4 u j + dn L 3 u j) + c4 t * (dn L 5 u j + dn L 4 u j))) + c4 t * dn L 5 u j := by
      show u (j + L * (t + 1)) - (u j + ((t + 1 : Nat) : Int) * dn L 1 u j + (c2 t + t) * dn L 2 u j + (c3 t + c2 t) * dn L 3 u j + (c4 t + c3 t) * dn L 4 u j) = _
      rw [Int.natCast_succ]
      grind
    rw [e9]
    exact Int.dvd_add h1 h5
