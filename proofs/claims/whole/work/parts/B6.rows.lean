/-! ===== rows that come back, by their rounds ===== -/
theorem emod_dvd_iff {q : Nat} {a b : Int} : a % (q : Int) = b % (q : Int) ↔ (q : Int) ∣ a - b := ⟨dvd_sub_of_emod, fun h => Int.emod_eq_emod_iff_emod_sub_eq_zero.mpr (Int.emod_eq_zero_of_dvd h)⟩
theorem fix_iff {n q m : Nat} {A y : Nat → Int} (hn : n ≤ 4) (hq : 0 < q) : sysI q 0 n (fixM n q A m) y ↔ rowS n q A (fun j => y j % (q : Int)) m = rowS n q A (fun j => y j % (q : Int)) 0 := by
  rw [row_eq]
  unfold sysI
  refine forall_congr' fun r => ⟨fun h hr => ?_, fun h _ hr => ?_⟩
  all_goals
    have e0 : rowS n q A (fun j => y j % (q : Int)) 0 r = y r % (q : Int) := rowS_0 hn hr ⟨Int.emod_nonneg _ (by omega), Int.emod_lt_of_pos _ (by omega)⟩
    have e1 : rowS n q A (fun j => y j % (q : Int)) m r = (mp (n + 1) q A m (5 * r + n) + ss (fun i => mp (n + 1) q A m (5 * r + i) * y i) 0 n) % (q : Int) := by
      rw [rowS_at hr]
      unfold goF
      rw [Int.add_emod, ss_md2, ← Int.add_emod]
    have e2 : (q : Int) ∣ ss (fun c => fixM n q A m r c * y c) 0 (n - 0) - fixM n q A m r n ↔ (q : Int) ∣ (mp (n + 1) q A m (5 * r + n) + ss (fun i => mp (n + 1) q A m (5 * r + i) * y i) 0 n) - y r := by
      rw [← emod_dvd_iff, ← emod_dvd_iff]
      have f1 : fixM n q A m r n % (q : Int) = (-(mp (n + 1) q A m (5 * r + n))) % (q : Int) := by
        unfold fixM
        rw [if_pos rfl, Int.emod_emod]
      have f3 : ss (fun c => (if r = c then 1 else 0) * y c) 0 n = y r := by
        rw [ss_one (c := r) n 0 (Nat.zero_le _) (by omega) (fun c _ _ hne => by rw [if_neg (Ne.symm hne), Int.zero_mul]), if_pos rfl, Int.one_mul]
      have f2 : ss (fun c => fixM n q A m r c * y c) 0 (n - 0) % (q : Int) = (ss (fun c => mp (n + 1) q A m (5 * r + c) * y c) 0 n - y r) % (q : Int) := by
        rw [Nat.sub_zero, ss_congr (g := fun c => (mp (n + 1) q A m (5 * r + c) - (if r = c then 1 else 0)) % (q : Int) * y c) n 0 (fun c _ hc => by
          unfold fixM
          rw [if_neg (by omega)]), ss_md1]
        congr 1
        rw [ss_congr (f := fun c => (mp (n + 1) q A m (5 * r + c) - (if r = c then 1 else 0)) * y c) (g := fun c => mp (n + 1) q A m (5 * r + c) * y c + (-1) * ((if r = c then 1 else 0) * y c)) n 0 (fun c _ _ => by grind), ss_add, ss_mul, f3]
        omega
      rw [f1, f2, emod_dvd_iff, emod_dvd_iff]
      constructor
      · rintro ⟨c, hc⟩
        exact ⟨c, by omega⟩
      · rintro ⟨c, hc⟩
        exact ⟨c, by omega⟩
  · have h2 := e2.mp (h (Nat.zero_le _) hr)
    rw [e0, e1]
    exact emod_dvd_iff.mpr h2
  · unfold eqn
    refine e2.mpr ?_
    have h2 := h hr
    rw [e0, e1] at h2
    exact emod_dvd_iff.mp h2
theorem nfx_LC {n q W : Nat} {A : Nat → Int} (hn : n ≤ 4) (hq : 2 ≤ q) (hA : aff n A) (hW : isPer (mp (n + 1) q A) 32 W) : LC W (fun m => nfx n q A m) := by
  unfold nfx SS
  refine LC_sm (q := q) (List.range' 0 (n - 0)) (fun y m => ind (sysI q 0 n (fixM n q A m) y)) (fun _ => 0) (fun y => LC_ind ?_)
  have hx : detm (rowS n q A (fun j => y j % (q : Int))) := rowS_det hn hq hA
  by_cases h : ∃ m, 1 ≤ m ∧ sysI q 0 n (fixM n q A m) y
  · obtain ⟨m, m1, m2⟩ := h
    rw [fix_iff hn (by omega)] at m2
    have m3 : rowS n q A (fun j => y j % (q : Int)) (0 + m) = rowS n q A (fun j => y j % (q : Int)) 0 := by rw [Nat.zero_add]; exact m2
    obtain ⟨p, hp⟩ := per_ex hx m1 m3
    have hp32 := (per_shift hx m1 m3 (Nat.zero_le 32)).mpr hp
    refine Or.inr ⟨p, hp.1, (hp32.2 W).mp (rowS_of_mp ((hW.2 W).mpr (Nat.dvd_refl W))), fun k k1 => ?_⟩
    rw [fix_iff hn (by omega), ← hp.2 k, Nat.zero_add]
  · exact Or.inl (fun m m1 z => h ⟨m, m1, z⟩)
/-- the rounds of a mill's rows -/
theorem nfM_LC {n M W : Nat} {T : Nat → Int} (n1 : 1 ≤ n) (hn : n ≤ 4) (h2 : 2 ≤ M) (h5 : M ≤ 500) (hW : isPer (mp (n + 1) M (au n T)) 32 W) : LC W (fun m => nfM n M (au n T) m) := by
  obtain ⟨Wf, hWf, hW1⟩ := Wf_ex (T := T) n1 hn h2 h5
  obtain ⟨-, a2, -⟩ := fcs_ok h2 h5
  have eW : W = lcmI Wf (fcs M).length := per_uniq hW (per_parts h2 h5 hWf _ (Nat.le_refl _) hW1)
  unfold nfM
  refine LC_prI hW.1 (f := fun k m => nfx n ((pe M k).1 ^ (pe M k).2) (au n T) m) _ (fun k hk => ?_)
  obtain ⟨b1, b2, b3, b4⟩ := a2 _ (pe_mem hk)
  have hq2 : 2 ≤ (pe M k).1 ^ (pe M k).2 := by
    have := Nat.pow_le_pow_right (show 0 < (pe M k).1 by have := b1.1; omega) b3
    rw [Nat.pow_one] at this
    have := b1.1
    omega
  refine LC_up (nfx_LC hn hq2 (aff_au hn) (hWf k hk)) ?_
  rw [eW]
  exact (lcmI_dvd _).mp (Nat.dvd_refl _) k hk
theorem ie_LC {W l k : Nat} {f : Nat → Nat} {L : List Nat} {ps : Nat → Nat} (hL : ∀ x ∈ L, 1 ≤ x ∧ x ∣ W) (hf : ∀ m, 1 ≤ m → f m = cD L m) (hl : 1 ≤ l) (h1 : ∀ i, i < k → prm (ps i) ∧ ps i ∣ l) (h2 : ∀ i j, i < k → j < k → ps i = ps j → i = j) (h3 : ∀ p, prm p → p ∣ l → ∃ i, i < k ∧ ps i = p) : ie ps l k (fun d => (f d : Int)) = (cE L l : Int) := by
  rw [ie_congr (g := fun d => (cD L d : Int)) (fun x => by rw [hf _ (dvd9_dvd k h1 h2 hl).1.1]), ie_cD hl h1 h2 h3 L (fun x hx => (hL x hx).1)]
/-- at most 11 primes divide a number up to 10^12 -/
theorem few_11 {a : Nat} (ha : 1 ≤ a) (hb : a ≤ 1000000000000) {l : List Nat} (hl : l.Nodup) (hp : ∀ x ∈ l, prm x ∧ x ∣ a) : l.length ≤ 11 := by
  apply Nat.le_of_not_lt
  intro hlen
  have h1 := (prod_dvd (a := a) l (fun x hx => (hp x hx).1) hl (fun x hx => (hp x hx).2)).1
  have h2 := prod_swap [2, 3, 5, 7, 11, 13, 17, 19, 23, 29, 31, 37] l (by decide) hl hlen (fun x hx => by have := (hp x hx).1.1; omega) (fun x hx hxP y hy => ?_)
  · have h3 := Nat.le_of_dvd ha h1
    have h4 : prodL [2, 3, 5, 7, 11, 13, 17, 19, 23, 29, 31, 37] = 7420738134810 := by decide +kernel
    omega
  · have hy37 : y ≤ 37 := by
      have : ∀ y ∈ [2, 3, 5, 7, 11, 13, 17, 19, 23, 29, 31, 37], y ≤ 37 := by decide
      exact this y hy
    apply Classical.byContradiction
    intro hlt
    have hx1 := (hp x hx).1
    have hx2 : x < 38 := by omega
    have hall : ∀ x, x < 38 → x ∉ [2, 3, 5, 7, 11, 13, 17, 19, 23, 29, 31, 37] → x < 2 ∨ (2 < x ∧ 2 ∣ x) ∨ (3 < x ∧ 3 ∣ x) ∨ (5 < x ∧ 5 ∣ x) := by decide
    rcases hall x hx2 hxP with z | z | z | z
    · have := hx1.1
      omega
    · exact hx1.2 2 (by omega) z.1 z.2
    · exact hx1.2 3 (by omega) z.1 z.2
    · exact hx1.2 5 (by omega) z.1 z.2
