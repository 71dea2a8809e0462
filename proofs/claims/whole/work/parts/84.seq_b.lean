/-! ===== irreducible polynomials: all rounds are as long ===== -/
theorem bez : ∀ (a b : Nat), ∃ x y : Int, x * a + y * b = ((Nat.gcd a b : Nat) : Int) := by
  intro a
  induction a using Nat.strongRecOn with
  | ind a ih =>
    intro b
    by_cases a0 : a = 0
    · subst a0
      exact ⟨0, 1, by simp⟩
    · obtain ⟨x, y, h⟩ := ih (b % a) (Nat.mod_lt _ (Nat.pos_of_ne_zero a0)) a
      refine ⟨y - x * ((b / a : Nat) : Int), x, ?_⟩
      rw [Nat.gcd_rec, ← h]
      have h1 : ((b % a : Nat) : Int) = (b : Int) - (a : Int) * ((b / a : Nat) : Int) := by
        rw [← Int.natCast_mul]
        have := Nat.div_add_mod b a
        omega
      rw [h1]
      grind
def prm (p : Nat) : Prop := 2 ≤ p ∧ ∀ j, 2 ≤ j → j < p → ¬ j ∣ p
theorem prm_cop {p c : Nat} (hp : prm p) (hc : ¬ p ∣ c) : Nat.Coprime p c := by
  have h1 := Nat.gcd_dvd_left p c
  have h2 := Nat.gcd_dvd_right p c
  have h3 := Nat.le_of_dvd (by have := hp.1; omega) h1
  have h4 := Nat.gcd_pos_of_pos_left c (show 0 < p by have := hp.1; omega)
  by_cases h5 : Nat.gcd p c = p
  · rw [h5] at h2
    exact absurd h2 hc
  · by_cases h6 : Nat.gcd p c = 1
    · exact h6
    · exact absurd h1 (hp.2 _ (by omega) (by omega))
theorem prm_inv {p : Nat} (hp : prm p) {c : Int} (hc : ¬ (p : Int) ∣ c) : ∃ x : Int, (p : Int) ∣ x * c - 1 := by
  have h1 : ¬ p ∣ c.natAbs := fun h => hc (Int.ofNat_dvd_left.mpr h)
  obtain ⟨x, y, h⟩ := bez p c.natAbs
  rw [prm_cop hp h1] at h
  rcases Int.natAbs_eq c with hs | hs
  · refine ⟨y, ⟨-x, ?_⟩⟩
    generalize (c.natAbs : Int) = k at *
    subst hs
    grind
  · refine ⟨-y, ⟨-x, ?_⟩⟩
    generalize (c.natAbs : Int) = k at *
    subst hs
    grind
theorem prm_mul {p : Nat} (hp : prm p) {a b : Int} (h : (p : Int) ∣ a * b) : (p : Int) ∣ a ∨ (p : Int) ∣ b := by
  by_cases ha : (p : Int) ∣ a
  · exact Or.inl ha
  · obtain ⟨x, hx⟩ := prm_inv hp ha
    refine Or.inr ?_
    have h1 : b = x * (a * b) - (x * a - 1) * b := by grind
    rw [h1]
    exact Int.dvd_sub (Int.dvd_mul_of_dvd_right h) (Int.dvd_mul_of_dvd_left hx)
theorem top_ex {P : Nat → Prop} : ∀ (e : Nat), (∃ i, i < e ∧ P i) → ∃ t, t < e ∧ P t ∧ ∀ i, t < i → i < e → ¬ P i
  | 0, ⟨i, h, _⟩ => absurd h (Nat.not_lt_zero i)
  | e + 1, ⟨i, h, hP⟩ => by
    by_cases he : P e
    · exact ⟨e, by omega, he, fun k h1 h2 => by omega⟩
    · have hi : i ≠ e := fun z => he (z ▸ hP)
      obtain ⟨t, t1, t2, t3⟩ := top_ex e ⟨i, by omega, hP⟩
      refine ⟨t, by omega, t2, fun k h1 h2 => ?_⟩
      by_cases hk : k = e
      · rw [hk]; exact he
      · exact t3 k h1 (by omega)
theorem pf_cut {p : Nat} {r w : Nat → Int} {t : Nat} (j : Nat) : ∀ (k : Nat), (∀ i, t ≤ i → i < t + k → (p : Int) ∣ r i) → (p : Int) ∣ pf (t + k) r w j - pf t r w j
  | 0, _ => by
    rw [Nat.add_zero, Int.sub_self]
    exact Int.dvd_zero _
  | k + 1, h => by
    have h1 := pf_cut (p := p) (r := r) (w := w) (t := t) j k (fun i a b => h i a (by omega))
    have h2 := pf_last (t + k) r w j
    have h3 : pf (t + (k + 1)) r w j - pf t r w j = (pf (t + k) r w j - pf t r w j) + r (t + k) * w (j + (t + k)) := by
      rw [← Nat.add_assoc, h2]
      omega
    rw [h3]
    exact Int.dvd_add h1 (Int.dvd_mul_of_dvd_left (h _ (by omega) (by omega)))
/-- a polynomial that isn't 0 modulo p can be made monic -/
theorem monic_of {p : Nat} (hp : prm p) {e : Nat} {r : Nat → Int} (hr : ¬ ∀ i, i < e → (p : Int) ∣ r i) : ∃ (t : Nat) (g : Nat → Int), t < e ∧ ∀ w, Zq p (pf e r w) → Zq p (mf t g w) := by
  have h0 : ∃ i, i < e ∧ ¬ (p : Int) ∣ r i := by
    apply Classical.byContradiction
    intro h
    exact hr (fun i hi => Classical.byContradiction fun z => h ⟨i, hi, z⟩)
  obtain ⟨t, t1, t2, t3⟩ := top_ex e h0
  obtain ⟨c, hc⟩ := prm_inv hp t2
  refine ⟨t, fun i => c * r i + 0 * r i, t1, fun w hw j => ?_⟩
  obtain ⟨k, rfl⟩ : ∃ k, e = t + 1 + k := ⟨e - (t + 1), by omega⟩
  have h1 := pf_cut (p := p) (r := r) (w := w) (t := t + 1) j k (fun i a b => Classical.byContradiction fun z => t3 i (by omega) b z)
  have h2 := pf_last t r w j
  have h3 := mf_pf t (fun i => c * r i + 0 * r i) w j
  have h4 := pf_coef t r r w c 0 j
  have h5 : mf t (fun i => c * r i + 0 * r i) w j = c * pf (t + 1 + k) r w j - c * (pf (t + 1 + k) r w j - pf (t + 1) r w j) - (c * r t - 1) * w (j + t) := by
    rw [h3, h4, h2]
    grind
  rw [h5]
  exact Int.dvd_sub (Int.dvd_sub (Int.dvd_mul_of_dvd_right (hw j)) (Int.dvd_mul_of_dvd_right h1)) (Int.dvd_mul_of_dvd_left hc)
def redu (p d : Nat) (f : Nat → Int) : Prop := ∃ (a b : Nat) (g h : Nat → Int), 1 ≤ a ∧ 1 ≤ b ∧ a + b = d ∧ ∀ (u : Nat → Int) (j : Nat), (p : Int) ∣ mf d f u j - mf a g (mf b h u) j
theorem irr_C {p : Nat} (hp : prm p) {d : Nat} {f : Nat → Int} (hf : ¬ redu p d f) {w : Nat → Int} (hw : Zq p (mf d f w)) : ∀ (e : Nat) (g : Nat → Int), e < d → Zq p (mf e g w) → Zq p w := by
  intro e
  induction e using Nat.strongRecOn with
  | ind e ih =>
    intro g he hg
    by_cases e0 : e = 0
    · subst e0
      exact hg
    · obtain ⟨k, rfl⟩ : ∃ k, d = e + k := ⟨d - e, by omega⟩
      obtain ⟨Q, r, hd⟩ := mf_div e g (by omega) k f
      have hr : Zq p (pf e r w) := fun j => by
        have h1 : pf e r w j = mf (e + k) f w j - mf k Q (mf e g w) j := by rw [hd w j]; omega
        rw [h1]
        exact Int.dvd_sub (hw j) (mf_dvd hg j)
      by_cases hz : ∀ i, i < e → (p : Int) ∣ r i
      · refine absurd ⟨k, e, Q, g, by omega, by omega, by omega, fun u j => ?_⟩ hf
        have h1 : mf (e + k) f u j - mf k Q (mf e g u) j = pf e r u j := by rw [hd u j]; omega
        rw [h1]
        exact pf_z e r u hz j
      · obtain ⟨t, g2, t1, t2⟩ := monic_of hp hz
        exact ih t t1 g2 (by omega) (t2 w hr)
theorem mf_0 : ∀ (d : Nat) (u : Nat → Int) (j : Nat), mf d (fun _ => 0) u j = u (j + d)
  | 0, _, _ => rfl
  | d + 1, u, j => by
    show 0 * u j + mf d (fun _ => 0) u (j + 1) = _
    rw [mf_0 d, Int.zero_mul, Int.zero_add, show j + 1 + d = j + (d + 1) by omega]
theorem dl_mf (t : Nat) (ht : 1 ≤ t) (u : Nat → Int) (j : Nat) : dl t u j = mf t (fun i => if i = 0 then -1 else 0) u j := by
  obtain ⟨k, rfl⟩ : ∃ k, t = k + 1 := ⟨t - 1, by omega⟩
  show u (j + (k + 1)) - u j = -1 * u j + mf k (fun _ => 0) u (j + 1)
  rw [mf_0, show j + 1 + k = j + (k + 1) by omega]
  omega
/-- what comes back after t turns, not being 0, makes all come back -/
theorem irr_all {p : Nat} (hp : prm p) {d : Nat} (hd1 : 1 ≤ d) {f : Nat → Int} (hf : ¬ redu p d f) {w : Nat → Int} (hw : Zq p (mf d f w)) (hw0 : ¬ Zq p w) {t : Nat} (ht : 1 ≤ t) (hb : Zq p (dl t w)) {u : Nat → Int} (hu : Zq p (mf d f u)) : Zq p (dl t u) := by
  have hb2 : Zq p (mf t (fun i => if i = 0 then -1 else 0) w) := fun j => by rw [← dl_mf t ht]; exact hb j
  by_cases htd : t < d
  · exact absurd (irr_C hp hf hw t _ htd hb2) hw0
  · obtain ⟨k, rfl⟩ : ∃ k, t = d + k := ⟨t - d, by omega⟩
    obtain ⟨Q, r, hd⟩ := mf_div d f hd1 k (fun i => if i = 0 then -1 else 0)
    have hr : Zq p (pf d r w) := fun j => by
      have h1 : pf d r w j = mf (d + k) (fun i => if i = 0 then -1 else 0) w j - mf k Q (mf d f w) j := by rw [hd w j]; omega
      rw [h1]
      exact Int.dvd_sub (hb2 j) (mf_dvd hw j)
    by_cases hz : ∀ i, i < d → (p : Int) ∣ r i
    · intro j
      rw [dl_mf _ ht, hd u j]
      exact Int.dvd_add (mf_dvd hu j) (pf_z d r u hz j)
    · obtain ⟨t, g2, t1, t2⟩ := monic_of hp hz
      exact absurd (irr_C hp hf hw t g2 t1 (t2 w hr)) hw0
/-! ===== rounds of one length ===== -/
def itf {α : Type} (X : α → α) : Nat → α → α
  | 0, x => x
  | k + 1, x => X (itf X k x)
theorem itf_add {α : Type} (X : α → α) (b : Nat) (x : α) : ∀ a, itf X (a + b) x = itf X a (itf X b x)
  | 0 => by rw [Nat.zero_add]; rfl
  | a + 1 => by
    rw [show a + 1 + b = (a + b) + 1 by omega]
    show X (itf X (a + b) x) = X (itf X a (itf X b x))
    rw [itf_add X b x a]
theorem itf_mul {α : Type} (X : α → α) (r : Nat) {x : α} (h : itf X r x = x) : ∀ k, itf X (k * r) x = x
  | 0 => by rw [Nat.zero_mul]; rfl
  | k + 1 => by rw [show (k + 1) * r = k * r + r by rw [Nat.succ_mul], itf_add, h, itf_mul X r h k]
theorem orbit_dvd {X : Nat → Nat} {r : Nat} (hr : 1 ≤ r) : ∀ (m : Nat) (l : List Nat), l.length = m → l.Nodup → (∀ x ∈ l, X x ∈ l) → (∀ x ∈ l, itf X r x = x) → (∀ x ∈ l, ∀ t, 0 < t → t < r → itf X t x ≠ x) → r ∣ l.length := by
  intro m
  induction m using Nat.strongRecOn with
  | ind m ih =>
    intro l hl hn hX hR hN
    match l, hl, hn, hX, hR, hN with
    | [], _, _, _, _, _ => exact Nat.dvd_zero r
    | x :: l0, hl, hn, hX, hR, hN =>
      generalize hL : x :: l0 = l at hl hn hX hR hN ⊢
      have hx : x ∈ l := by rw [← hL]; exact List.mem_cons_self
      have hit : ∀ i, itf X i x ∈ l := by
        intro i
        induction i with
        | zero => exact hx
        | succ i ih2 => exact hX _ ih2
      let O := (List.range r).map (fun i => itf X i x)
      have hOl : ∀ y, y ∈ O → y ∈ l := fun y hy => by
        obtain ⟨i, _, rfl⟩ := List.mem_map.mp hy
        exact hit i
      have hmod : ∀ i, itf X i x ∈ O := fun i => by
        refine List.mem_map.mpr ⟨i % r, List.mem_range.mpr (Nat.mod_lt _ hr), ?_⟩
        have h1 := Nat.div_add_mod i r
        have h2 : itf X i x = itf X (i % r) (itf X (i / r * r) x) := by rw [← itf_add, Nat.mul_comm]; congr 1; omega
        rw [h2, itf_mul X r (hR x hx)]
      have hOn : O.Nodup := by
        show List.Pairwise _ _
        rw [List.pairwise_map]
        refine List.Pairwise.imp_of_mem ?_ (List.pairwise_lt_range (n := r))
        intro i j hi hj hij he
        have hj2 := List.mem_range.mp hj
        refine hN x hx (j - i) (by omega) (by omega) ?_
        have h1 : itf X (r - i) (itf X i x) = x := by rw [← itf_add, show r - i + i = r by omega]; exact hR x hx
        have h2 : itf X (r - i) (itf X j x) = itf X (j - i) x := by
          rw [← itf_add, show r - i + j = (j - i) + r by omega, itf_add, hR x hx]
        rw [← h2, ← he, h1]
      let l2 := l.filter (fun y => decide (y ∉ O))
      have hperm : l.Perm (O ++ l2) := by
        refine (List.perm_ext_iff_of_nodup hn ?_).mpr ?_
        · refine List.nodup_append.mpr ⟨hOn, hn.sublist List.filter_sublist, ?_⟩
          intro a ha b hb hab
          have := (List.mem_filter.mp hb).2
          simp at this
          exact this (hab ▸ ha)
        · intro a
          rw [List.mem_append, List.mem_filter]
          constructor
          · intro ha
            by_cases hO : a ∈ O
            · exact Or.inl hO
            · exact Or.inr ⟨ha, by simpa using hO⟩
          · rintro (h | h)
            · exact hOl a h
            · exact h.1
      have hlen := hperm.length_eq
      have hOlen : O.length = r := by simp [O]
      rw [List.length_append, hOlen] at hlen
      have h2 : r ∣ l2.length := by
        refine ih l2.length (by omega) l2 rfl (hn.sublist List.filter_sublist) ?_ (fun y hy => hR y (List.mem_filter.mp hy).1) (fun y hy => hN y (List.mem_filter.mp hy).1)
        intro y hy
        obtain ⟨y1, y2⟩ := List.mem_filter.mp hy
        refine List.mem_filter.mpr ⟨hX y y1, ?_⟩
        have y3 : y ∉ O := by simpa using y2
        have y4 : X y ∉ O := by
          intro h
          obtain ⟨i, _, hi⟩ := List.mem_map.mp h
          apply y3
          have h5 : y = itf X (r - 1) (X y) := by
            have := hR y y1
            rw [show r = (r - 1) + 1 by omega, itf_add] at this
            exact this.symm
          rw [h5, ← hi, ← itf_add]
          exact hmod _
        simpa using y4
      rw [hlen]
      exact Nat.dvd_add (Nat.dvd_refl r) h2
