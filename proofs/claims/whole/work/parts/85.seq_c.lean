/-! ===== the windows of a recurrence, as numbers below p^d ===== -/
def cano (p d : Nat) (w : Nat → Int) : Prop := (∀ i, i < d → 0 ≤ w i ∧ w i < p) ∧ ∀ i, d ≤ i → w i = 0
def dgf (p : Nat) : Nat → Nat → Nat → Int
  | 0, _, _ => 0
  | d + 1, s, i => if i = 0 then ((s % p : Nat) : Int) else dgf p d (s / p) (i - 1)
theorem dgf_can {p : Nat} (hp : 0 < p) : ∀ (d s : Nat), cano p d (dgf p d s)
  | 0, s => ⟨fun i hi => absurd hi (Nat.not_lt_zero i), fun _ _ => rfl⟩
  | d + 1, s => by
    obtain ⟨h1, h2⟩ := dgf_can hp d (s / p)
    refine ⟨fun i hi => ?_, fun i hi => ?_⟩
    · unfold dgf
      split
      · have := Nat.mod_lt s hp
        omega
      · exact h1 (i - 1) (by omega)
    · unfold dgf
      rw [if_neg (by omega)]
      exact h2 (i - 1) (by omega)
theorem dgf_inj {p : Nat} (hp : 0 < p) : ∀ (d s t : Nat), s < p ^ d → t < p ^ d → dgf p d s = dgf p d t → s = t
  | 0, s, t, hs, ht, _ => by
    rw [Nat.pow_zero] at hs ht
    omega
  | d + 1, s, t, hs, ht, h => by
    have h0 : s % p = t % p := by
      have := congrFun h 0
      simp [dgf] at this
      omega
    have h1 : s / p = t / p := by
      refine dgf_inj hp d _ _ ?_ ?_ (funext fun i => ?_)
      · rw [Nat.pow_succ] at hs
        exact Nat.div_lt_of_lt_mul (by rw [Nat.mul_comm]; exact hs)
      · rw [Nat.pow_succ] at ht
        exact Nat.div_lt_of_lt_mul (by rw [Nat.mul_comm]; exact ht)
      · have := congrFun h (i + 1)
        simpa [dgf] using this
    have a1 := Nat.div_add_mod s p
    have a2 := Nat.div_add_mod t p
    rw [h0, h1] at a1
    omega
theorem dgf_sur {p : Nat} (hp : 0 < p) : ∀ (d : Nat) (w : Nat → Int), cano p d w → ∃ s, s < p ^ d ∧ dgf p d s = w
  | 0, w, hw => ⟨0, by simp, funext fun i => (hw.2 i (Nat.zero_le _)).symm⟩
  | d + 1, w, hw => by
    obtain ⟨s, h1, h2⟩ := dgf_sur hp d (fun i => w (i + 1)) ⟨fun i hi => hw.1 (i + 1) (by omega), fun i hi => hw.2 (i + 1) (by omega)⟩
    have h3 := hw.1 0 (by omega)
    obtain ⟨a, ha⟩ : ∃ a : Nat, w 0 = (a : Int) := ⟨(w 0).toNat, by omega⟩
    have hap : a < p := by omega
    have e1 : (a + p * s) % p = a := by rw [Nat.add_mul_mod_self_left, Nat.mod_eq_of_lt hap]
    have e2 : (a + p * s) / p = s := by rw [Nat.add_mul_div_left _ _ hp, Nat.div_eq_of_lt hap, Nat.zero_add]
    refine ⟨a + p * s, ?_, funext fun i => ?_⟩
    · have := Nat.mul_le_mul_left p (show s + 1 ≤ p ^ d from h1)
      rw [Nat.pow_succ, Nat.mul_comm (p ^ d)]
      rw [Nat.mul_add, Nat.mul_one] at this
      omega
    · show (if i = 0 then (((a + p * s) % p : Nat) : Int) else dgf p d ((a + p * s) / p) (i - 1)) = w i
      split
      · rename_i hi
        rw [e1, hi, ha]
      · rename_i hi
        rw [e2, h2]
        show w (i - 1 + 1) = w i
        rw [show i - 1 + 1 = i by omega]
theorem pf_congr : ∀ (d : Nat) (f u v : Nat → Int) (j k : Nat), (∀ i, i < d → u (j + i) = v (k + i)) → pf d f u j = pf d f v k
  | 0, _, _, _, _, _, _ => rfl
  | d + 1, f, u, v, j, k, h => by
    show f 0 * u j + pf d _ u (j + 1) = f 0 * v k + pf d _ v (k + 1)
    rw [show u j = v k from h 0 (by omega), pf_congr d _ u v (j + 1) (k + 1) (fun i hi => by
      have := h (i + 1) (by omega)
      rw [show j + 1 + i = j + (i + 1) by omega, show k + 1 + i = k + (i + 1) by omega]
      exact this)]
theorem pf_dv {p : Nat} : ∀ (d : Nat) (f u : Nat → Int) (j : Nat), (∀ i, i < d → (p : Int) ∣ u (j + i)) → (p : Int) ∣ pf d f u j
  | 0, _, _, _, _ => Int.dvd_zero _
  | d + 1, f, u, j, h => Int.dvd_add (Int.dvd_mul_of_dvd_right (h 0 (by omega))) (pf_dv d _ u (j + 1) (fun i hi => by
      have := h (i + 1) (by omega)
      rw [show j + 1 + i = j + (i + 1) by omega]
      exact this))
def nxt (p d : Nat) (f w : Nat → Int) (i : Nat) : Int := if i + 1 < d then w (i + 1) else if i + 1 = d then (-(pf d f w 0)) % (p : Int) else 0
theorem nxt_can {p d : Nat} (hp : 0 < p) {f w : Nat → Int} (hw : cano p d w) : cano p d (nxt p d f w) := by
  refine ⟨fun i hi => ?_, fun i hi => ?_⟩
  · unfold nxt
    split
    · rename_i h
      exact hw.1 _ h
    · rw [if_pos (by omega)]
      exact ⟨Int.emod_nonneg _ (by omega), Int.emod_lt_of_pos _ (by omega)⟩
  · unfold nxt
    rw [if_neg (by omega), if_neg (by omega)]
theorem eq_of_dvd {p : Nat} {a b : Int} (ha : 0 ≤ a ∧ a < p) (hb : 0 ≤ b ∧ b < p) (h : (p : Int) ∣ a - b) : a = b := by
  have h1 := Int.emod_eq_emod_iff_emod_sub_eq_zero.mpr (Int.emod_eq_zero_of_dvd h)
  rw [Int.emod_eq_of_lt ha.1 ha.2, Int.emod_eq_of_lt hb.1 hb.2] at h1
  exact h1
theorem dvd_sub_of_emod {p : Nat} {a b : Int} (h : a % (p : Int) = b % (p : Int)) : (p : Int) ∣ a - b := Int.dvd_of_emod_eq_zero (Int.emod_eq_emod_iff_emod_sub_eq_zero.mp h)
theorem nxt_inj {p d : Nat} (hp : prm p) (hd : 1 ≤ d) {f w v : Nat → Int} (hf : ¬ (p : Int) ∣ f 0) (hw : cano p d w) (hv : cano p d v) (h : nxt p d f w = nxt p d f v) : w = v := by
  have h1 : ∀ i, 1 ≤ i → i < d → w i = v i := by
    intro i i1 i2
    have := congrFun h (i - 1)
    unfold nxt at this
    rw [if_pos (by omega), if_pos (by omega), show i - 1 + 1 = i by omega] at this
    exact this
  have h2 : w 0 = v 0 := by
    have h3 := congrFun h (d - 1)
    unfold nxt at h3
    rw [if_neg (by omega), if_pos (by omega), if_neg (by omega), if_pos (by omega)] at h3
    have h4 := dvd_sub_of_emod h3
    obtain ⟨e, rfl⟩ : ∃ e, d = e + 1 := ⟨d - 1, by omega⟩
    have h5 : pf e (fun i => f (i + 1)) w 1 = pf e (fun i => f (i + 1)) v 1 := pf_congr e _ w v 1 1 (fun i hi => h1 _ (by omega) (by omega))
    have h6 : pf (e + 1) f w 0 = f 0 * w 0 + pf e (fun i => f (i + 1)) w 1 := rfl
    have h7 : pf (e + 1) f v 0 = f 0 * v 0 + pf e (fun i => f (i + 1)) v 1 := rfl
    have h8 : -pf (e + 1) f w 0 - -pf (e + 1) f v 0 = -(f 0 * (w 0 - v 0)) := by
      rw [h6, h7, h5]
      grind
    rw [h8] at h4
    rcases prm_mul hp (Int.dvd_neg.mp h4) with h9 | h9
    · exact absurd h9 hf
    · exact eq_of_dvd (hw.1 0 (by omega)) (hv.1 0 (by omega)) h9
  funext i
  by_cases i0 : i = 0
  · rw [i0, h2]
  · by_cases hi : i < d
    · exact h1 i (by omega) hi
    · rw [hw.2 i (by omega), hv.2 i (by omega)]
theorem it_can {p d : Nat} (hp : 0 < p) {f w : Nat → Int} (hw : cano p d w) : ∀ j, cano p d (itf (nxt p d f) j w)
  | 0 => hw
  | j + 1 => nxt_can hp (it_can hp hw j)
def sqn (p d : Nat) (f w : Nat → Int) (j : Nat) : Int := itf (nxt p d f) j w 0
theorem sqn_win {p d : Nat} {f w : Nat → Int} : ∀ (i j : Nat), i < d → itf (nxt p d f) j w i = sqn p d f w (j + i)
  | 0, _, _ => rfl
  | i + 1, j, hi => by
    have h1 : itf (nxt p d f) (j + 1) w i = itf (nxt p d f) j w (i + 1) := by
      show nxt p d f (itf (nxt p d f) j w) i = _
      unfold nxt
      rw [if_pos hi]
    rw [← h1, sqn_win i (j + 1) (by omega), show j + 1 + i = j + (i + 1) by omega]
theorem sqn_rec {p d : Nat} (hd : 1 ≤ d) {f w : Nat → Int} : Zq p (mf d f (sqn p d f w)) := by
  intro j
  rw [mf_pf]
  have h1 : sqn p d f w (j + d) = (-(pf d f (itf (nxt p d f) j w) 0)) % (p : Int) := by
    have := sqn_win (p := p) (d := d) (f := f) (w := w) (d - 1) (j + 1) (by omega)
    rw [show j + d = j + 1 + (d - 1) by omega, ← this]
    show nxt p d f (itf (nxt p d f) j w) (d - 1) = _
    unfold nxt
    rw [if_neg (by omega), if_pos (by omega)]
  have h2 : pf d f (itf (nxt p d f) j w) 0 = pf d f (sqn p d f w) j := pf_congr d f _ _ 0 j (fun i hi => by rw [Nat.zero_add]; exact sqn_win i j hi)
  rw [h1, h2]
  have h3 := Int.mul_ediv_add_emod (-(pf d f (sqn p d f w) j)) (p : Int)
  refine ⟨-((-(pf d f (sqn p d f w) j)) / (p : Int)), ?_⟩
  grind
theorem sqn_bd {p d : Nat} (hp : 0 < p) (hd : 1 ≤ d) {f w : Nat → Int} (hw : cano p d w) (j : Nat) : 0 ≤ sqn p d f w j ∧ sqn p d f w j < p := (it_can hp hw j).1 0 (by omega)
theorem sqn_0 {p d : Nat} {f w : Nat → Int} {i : Nat} (hi : i < d) : sqn p d f w i = w i := by
  have := sqn_win (p := p) (d := d) (f := f) (w := w) i 0 hi
  rw [Nat.zero_add] at this
  exact this.symm
theorem least_ex {P : Nat → Prop} (h : ∃ n, P n) : ∃ n, P n ∧ ∀ m, m < n → ¬ P m := by
  obtain ⟨n, hn⟩ := h
  induction n using Nat.strongRecOn with
  | ind n ih =>
    by_cases h : ∃ m, m < n ∧ P m
    · obtain ⟨m, h1, h2⟩ := h
      exact ih m h1 h2
    · exact ⟨n, hn, fun m h1 h2 => h ⟨m, h1, h2⟩⟩
/-- the numbers of a sequence that an irreducible polynomial kills come again after p^d - 1 -/
theorem irr_order {p : Nat} (hp : prm p) {d : Nat} (hd : 1 ≤ d) {f : Nat → Int} (hf : ¬ redu p d f) (hf0 : ¬ (p : Int) ∣ f 0) {u : Nat → Int} (hu : Zq p (mf d f u)) : Zq p (dl (p ^ d - 1) u) := by
  have hp2 := hp.1
  have hp0 : 0 < p := by omega
  have hN : 2 ≤ p ^ d := by
    obtain ⟨e, rfl⟩ : ∃ e, d = e + 1 := ⟨d - 1, by omega⟩
    have := Nat.mul_le_mul (Nat.pow_pos (n := e) hp0 : 1 ≤ p ^ e) hp2
    rw [Nat.pow_succ]
    omega
  have hex : ∀ s, ∃ s', s' < p ^ d ∧ dgf p d s' = nxt p d f (dgf p d s) := fun s => dgf_sur hp0 d _ (nxt_can hp0 (dgf_can hp0 d s))
  obtain ⟨X, hX⟩ : ∃ X : Nat → Nat, ∀ s, X s < p ^ d ∧ dgf p d (X s) = nxt p d f (dgf p d s) := ⟨fun s => Classical.choose (hex s), fun s => Classical.choose_spec (hex s)⟩
  have hit : ∀ j s, s < p ^ d → itf X j s < p ^ d ∧ dgf p d (itf X j s) = itf (nxt p d f) j (dgf p d s) := by
    intro j s hs
    induction j with
    | zero => exact ⟨hs, rfl⟩
    | succ j ih => exact ⟨(hX _).1, (hX _).2.trans (congrArg (nxt p d f) ih.2)⟩
  have hinj : ∀ s t, s < p ^ d → t < p ^ d → X s = X t → s = t := fun s t hs ht h => by
    refine dgf_inj hp0 d s t hs ht (nxt_inj hp hd hf0 (dgf_can hp0 d s) (dgf_can hp0 d t) ?_)
    rw [← (hX s).2, ← (hX t).2, h]
  have hcan : ∀ j s t, s < p ^ d → t < p ^ d → itf X j s = itf X j t → s = t := by
    intro j
    induction j with
    | zero => exact fun s t _ _ h => h
    | succ j ih => exact fun s t hs ht h => ih s t hs ht (hinj _ _ (hit j s hs).1 (hit j t ht).1 h)
  have hdg0 : dgf p d 0 = fun _ => 0 := by
    have : ∀ d i, dgf p d 0 i = 0 := by
      intro d
      induction d with
      | zero => exact fun i => rfl
      | succ d ih =>
        intro i
        unfold dgf
        split
        · simp
        · rw [Nat.zero_div]
          exact ih _
    exact funext (this d)
  have hX0 : X 0 = 0 := by
    refine dgf_inj hp0 d _ _ (hX 0).1 (by omega) ?_
    rw [(hX 0).2, hdg0]
    funext i
    have h0 : pf d f (fun _ => (0 : Int)) 0 = 0 := by
      have := pf_lin d f (fun _ => 0) (fun _ => 0) 0 0 0
      simpa using this
    unfold nxt
    rw [h0]
    split
    · rfl
    · split <;> simp
  -- the sequence of a window that isn't 0
  have hnz : ∀ s, 1 ≤ s → s < p ^ d → ¬ Zq p (sqn p d f (dgf p d s)) := by
    intro s s1 s2 hz
    have h1 : dgf p d s = dgf p d 0 := by
      rw [hdg0]
      funext i
      by_cases hi : i < d
      · have h2 := hz i
        rw [sqn_0 hi] at h2
        have h3 := (dgf_can hp0 d s).1 i hi
        exact eq_of_dvd h3 ⟨Int.le_refl _, by omega⟩ (by rw [Int.sub_zero]; exact h2)
      · exact (dgf_can hp0 d s).2 i (by omega)
    have := dgf_inj hp0 d s 0 s2 (by omega) h1
    omega
  have hback : ∀ t s, s < p ^ d → itf X t s = s → Zq p (dl t (sqn p d f (dgf p d s))) := by
    intro t s hs h j
    have h1 : itf (nxt p d f) t (dgf p d s) = dgf p d s := by rw [← (hit t s hs).2, h]
    have h2 : sqn p d f (dgf p d s) (j + t) = sqn p d f (dgf p d s) j := by
      unfold sqn
      rw [itf_add, h1]
    unfold dl
    rw [h2, Int.sub_self]
    exact Int.dvd_zero _
  have hall : ∀ t s, 1 ≤ t → 1 ≤ s → s < p ^ d → itf X t s = s → (∀ v, Zq p (mf d f v) → Zq p (dl t v)) ∧ ∀ s', s' < p ^ d → itf X t s' = s' := by
    intro t s t1 s1 s2 h
    have h1 : ∀ v, Zq p (mf d f v) → Zq p (dl t v) := fun v hv => irr_all hp hd hf (sqn_rec hd) (hnz s s1 s2) t1 (hback t s s2 h) hv
    refine ⟨h1, fun s' hs' => ?_⟩
    refine dgf_inj hp0 d _ _ (hit t s' hs').1 hs' ?_
    rw [(hit t s' hs').2]
    have hc := dgf_can hp0 d s'
    funext i
    by_cases hi : i < d
    · rw [sqn_win i t hi, ← sqn_0 (p := p) (f := f) (w := dgf p d s') hi]
      have h2 := h1 _ (sqn_rec (p := p) (w := dgf p d s') hd) i
      unfold dl at h2
      rw [Nat.add_comm t i]
      exact eq_of_dvd (sqn_bd hp0 hd hc _) (sqn_bd hp0 hd hc _) h2
    · rw [(it_can hp0 hc t).2 i (by omega), hc.2 i (by omega)]
  have hper : ∃ t, 1 ≤ t ∧ itf X t 1 = 1 := by
    apply Classical.byContradiction
    intro hno
    have hnd : ((List.range (p ^ d + 1)).map (fun j => itf X j 1)).Nodup := by
      show List.Pairwise _ _
      rw [List.pairwise_map]
      refine List.Pairwise.imp_of_mem ?_ (List.pairwise_lt_range (n := p ^ d + 1))
      intro i j _ _ hij he
      refine hno ⟨j - i, by omega, ?_⟩
      rw [show j = i + (j - i) by omega, itf_add] at he
      exact (hcan i _ _ (by omega) (hit _ _ (by omega)).1 he).symm
    have hle := hnd.length_le_of_subset (l₂ := List.range (p ^ d)) (fun y hy => by
      obtain ⟨j, _, rfl⟩ := List.mem_map.mp hy
      exact List.mem_range.mpr (hit j 1 (by omega)).1)
    simp at hle
    omega
  obtain ⟨r, ⟨r1, r2⟩, r3⟩ := least_ex hper
  have hR := (hall r 1 r1 (Nat.le_refl _) (by omega) r2).2
  have hdv := orbit_dvd (X := X) r1 (p ^ d - 1) (List.range' 1 (p ^ d - 1)) (by simp) (List.nodup_range' (step := 1)) (fun x hx => ?_) (fun x hx => ?_) (fun x hx t t1 t2 ht => ?_)
  · rw [List.length_range'] at hdv
    obtain ⟨k, hk⟩ := hdv
    have h1 : itf X (p ^ d - 1) 1 = 1 := by
      rw [hk, Nat.mul_comm]
      exact itf_mul X r r2 k
    exact (hall (p ^ d - 1) 1 (by omega) (Nat.le_refl _) (by omega) h1).1 u hu
  · rw [List.mem_range'_1] at hx ⊢
    have h1 := (hX x).1
    have h2 : X x ≠ 0 := fun h => by
      have := hinj x 0 (by omega) (by omega) (h.trans hX0.symm)
      omega
    omega
  · rw [List.mem_range'_1] at hx
    exact hR x (by omega)
  · rw [List.mem_range'_1] at hx
    exact r3 t t2 ⟨t1, (hall t x t1 hx.1 (by omega) ht).2 1 (by omega)⟩
theorem dl_mul {p m : Nat} {u : Nat → Int} (h : Zq p (dl m u)) : ∀ k, Zq p (dl (m * k) u)
  | 0 => fun j => by
    unfold dl
    rw [Nat.mul_zero, Nat.add_zero, Int.sub_self]
    exact Int.dvd_zero _
  | k + 1 => fun j => by
    have h1 := dl_mul h k j
    have h2 := h (j + m * k)
    unfold dl at h1 h2 ⊢
    have h3 : u (j + m * (k + 1)) - u j = (u (j + m * k + m) - u (j + m * k)) + (u (j + m * k) - u j) := by
      rw [Nat.mul_succ, ← Nat.add_assoc]
      omega
    rw [h3]
    exact Int.dvd_add h2 h1
/-- what every monic polynomial of degree d divides -/
theorem kill {p : Nat} (hp : prm p) {L : Nat} : ∀ (d : Nat), (∀ i, 1 ≤ i → i ≤ d → (p ^ i - 1) ∣ L) → ∀ (f u : Nat → Int), Zq p (mf d f u) → Zq p (fun j => dn L d u (j + d)) := by
  intro d
  induction d using Nat.strongRecOn with
  | ind d ih =>
    intro hL f u hu
    by_cases d0 : d = 0
    · subst d0
      exact hu
    · by_cases hf : redu p d f
      · obtain ⟨a, b, g, h, a1, b1, rfl, he⟩ := hf
        have h1 : Zq p (mf a g (mf b h u)) := fun j => by
          have h2 : mf a g (mf b h u) j = mf (a + b) f u j - (mf (a + b) f u j - mf a g (mf b h u) j) := by omega
          rw [h2]
          exact Int.dvd_sub (hu j) (he u j)
        have h2 := ih a (by omega) (fun i i1 i2 => hL i i1 (by omega)) g _ h1
        have h3 : Zq p (mf b h (fun j => dn L a u (j + a))) := fun j => by
          rw [mf_sh b h (dn L a u) a j, mf_dn]
          exact h2 j
        have h4 := ih b (by omega) (fun i i1 i2 => hL i i1 (by omega)) h _ h3
        intro j
        have h5 := h4 j
        rw [dn_sh, dn_add] at h5
        show (p : Int) ∣ dn L (a + b) u (j + (a + b))
        rw [show j + (a + b) = j + b + a by omega]
        exact h5
      · by_cases hf0 : (p : Int) ∣ f 0
        · by_cases d1 : d = 1
          · subst d1
            have h1 : ∀ j, (p : Int) ∣ u (j + 1) := fun j => by
              have h2 := hu j
              have h3 : u (j + 1) = mf 1 f u j - f 0 * u j := by
                show _ = f 0 * u j + u (j + 1) - f 0 * u j
                omega
              rw [h3]
              exact Int.dvd_sub h2 (Int.dvd_mul_of_dvd_left hf0)
            intro j
            show (p : Int) ∣ u (j + 1 + L) - u (j + 1)
            rw [show j + 1 + L = j + L + 1 by omega]
            exact Int.dvd_sub (h1 _) (h1 _)
          · obtain ⟨e, rfl⟩ : ∃ e, d = e + 1 := ⟨d - 1, by omega⟩
            refine absurd ⟨1, e, fun _ => 0, fun i => f (i + 1), by omega, by omega, by omega, fun v j => ?_⟩ hf
            have h1 : mf (e + 1) f v j - mf 1 (fun _ => 0) (mf e (fun i => f (i + 1)) v) j = f 0 * v j := by
              show f 0 * v j + mf e (fun i => f (i + 1)) v (j + 1) - (0 * mf e (fun i => f (i + 1)) v j + mf e (fun i => f (i + 1)) v (j + 1)) = f 0 * v j
              rw [Int.zero_mul]
              omega
            rw [h1]
            exact Int.dvd_mul_of_dvd_left hf0
        · obtain ⟨k, hk⟩ := hL d (by omega) (Nat.le_refl _)
          have h1 : Zq p (dl L u) := by
            rw [hk]
            exact dl_mul (irr_order hp (by omega) hf hf0 hu) k
          obtain ⟨e, rfl⟩ : ∃ e, d = e + 1 := ⟨d - 1, by omega⟩
          intro j
          exact dn_dvd e _ h1 _
