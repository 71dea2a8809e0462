/-! ===== tables that go back ===== -/
def prG (a : Nat → Nat → Int) (r x y : Nat) : Int := a r x * a (r + 1) y - a r y * a (r + 1) x
def detG (a : Nat → Nat → Int) : Int := prG a 0 0 1 * prG a 2 2 3 - prG a 0 0 2 * prG a 2 1 3 + prG a 0 0 3 * prG a 2 1 2 + prG a 0 1 2 * prG a 2 0 3 - prG a 0 1 3 * prG a 2 0 2 + prG a 0 2 3 * prG a 2 0 1
theorem detF_G (n : Nat) (T : Nat → Int) : detF n T = detG (sqF n T) := rfl
theorem adj_0 (a : Nat → Nat → Int) (v : Nat → Int) : detG a * v 0 = ((0 + a 1 1 * a 2 2 * a 3 3 - a 1 1 * a 2 3 * a 3 2 - a 1 2 * a 2 1 * a 3 3 + a 1 2 * a 2 3 * a 3 1 + a 1 3 * a 2 1 * a 3 2 - a 1 3 * a 2 2 * a 3 1)) * (a 0 0 * v 0 + a 0 1 * v 1 + a 0 2 * v 2 + a 0 3 * v 3) + (-(0 + a 0 1 * a 2 2 * a 3 3 - a 0 1 * a 2 3 * a 3 2 - a 0 2 * a 2 1 * a 3 3 + a 0 2 * a 2 3 * a 3 1 + a 0 3 * a 2 1 * a 3 2 - a 0 3 * a 2 2 * a 3 1)) * (a 1 0 * v 0 + a 1 1 * v 1 + a 1 2 * v 2 + a 1 3 * v 3) + ((0 + a 0 1 * a 1 2 * a 3 3 - a 0 1 * a 1 3 * a 3 2 - a 0 2 * a 1 1 * a 3 3 + a 0 2 * a 1 3 * a 3 1 + a 0 3 * a 1 1 * a 3 2 - a 0 3 * a 1 2 * a 3 1)) * (a 2 0 * v 0 + a 2 1 * v 1 + a 2 2 * v 2 + a 2 3 * v 3) + (-(0 + a 0 1 * a 1 2 * a 2 3 - a 0 1 * a 1 3 * a 2 2 - a 0 2 * a 1 1 * a 2 3 + a 0 2 * a 1 3 * a 2 1 + a 0 3 * a 1 1 * a 2 2 - a 0 3 * a 1 2 * a 2 1)) * (a 3 0 * v 0 + a 3 1 * v 1 + a 3 2 * v 2 + a 3 3 * v 3) := by
  unfold detG prG
  grind
theorem adj_1 (a : Nat → Nat → Int) (v : Nat → Int) : detG a * v 1 = (-(0 + a 1 0 * a 2 2 * a 3 3 - a 1 0 * a 2 3 * a 3 2 - a 1 2 * a 2 0 * a 3 3 + a 1 2 * a 2 3 * a 3 0 + a 1 3 * a 2 0 * a 3 2 - a 1 3 * a 2 2 * a 3 0)) * (a 0 0 * v 0 + a 0 1 * v 1 + a 0 2 * v 2 + a 0 3 * v 3) + ((0 + a 0 0 * a 2 2 * a 3 3 - a 0 0 * a 2 3 * a 3 2 - a 0 2 * a 2 0 * a 3 3 + a 0 2 * a 2 3 * a 3 0 + a 0 3 * a 2 0 * a 3 2 - a 0 3 * a 2 2 * a 3 0)) * (a 1 0 * v 0 + a 1 1 * v 1 + a 1 2 * v 2 + a 1 3 * v 3) + (-(0 + a 0 0 * a 1 2 * a 3 3 - a 0 0 * a 1 3 * a 3 2 - a 0 2 * a 1 0 * a 3 3 + a 0 2 * a 1 3 * a 3 0 + a 0 3 * a 1 0 * a 3 2 - a 0 3 * a 1 2 * a 3 0)) * (a 2 0 * v 0 + a 2 1 * v 1 + a 2 2 * v 2 + a 2 3 * v 3) + ((0 + a 0 0 * a 1 2 * a 2 3 - a 0 0 * a 1 3 * a 2 2 - a 0 2 * a 1 0 * a 2 3 + a 0 2 * a 1 3 * a 2 0 + a 0 3 * a 1 0 * a 2 2 - a 0 3 * a 1 2 * a 2 0)) * (a 3 0 * v 0 + a 3 1 * v 1 + a 3 2 * v 2 + a 3 3 * v 3) := by
  unfold detG prG
  grind
theorem adj_2 (a : Nat → Nat → Int) (v : Nat → Int) : detG a * v 2 = ((0 + a 1 0 * a 2 1 * a 3 3 - a 1 0 * a 2 3 * a 3 1 - a 1 1 * a 2 0 * a 3 3 + a 1 1 * a 2 3 * a 3 0 + a 1 3 * a 2 0 * a 3 1 - a 1 3 * a 2 1 * a 3 0)) * (a 0 0 * v 0 + a 0 1 * v 1 + a 0 2 * v 2 + a 0 3 * v 3) + (-(0 + a 0 0 * a 2 1 * a 3 3 - a 0 0 * a 2 3 * a 3 1 - a 0 1 * a 2 0 * a 3 3 + a 0 1 * a 2 3 * a 3 0 + a 0 3 * a 2 0 * a 3 1 - a 0 3 * a 2 1 * a 3 0)) * (a 1 0 * v 0 + a 1 1 * v 1 + a 1 2 * v 2 + a 1 3 * v 3) + ((0 + a 0 0 * a 1 1 * a 3 3 - a 0 0 * a 1 3 * a 3 1 - a 0 1 * a 1 0 * a 3 3 + a 0 1 * a 1 3 * a 3 0 + a 0 3 * a 1 0 * a 3 1 - a 0 3 * a 1 1 * a 3 0)) * (a 2 0 * v 0 + a 2 1 * v 1 + a 2 2 * v 2 + a 2 3 * v 3) + (-(0 + a 0 0 * a 1 1 * a 2 3 - a 0 0 * a 1 3 * a 2 1 - a 0 1 * a 1 0 * a 2 3 + a 0 1 * a 1 3 * a 2 0 + a 0 3 * a 1 0 * a 2 1 - a 0 3 * a 1 1 * a 2 0)) * (a 3 0 * v 0 + a 3 1 * v 1 + a 3 2 * v 2 + a 3 3 * v 3) := by
  unfold detG prG
  grind
theorem adj_3 (a : Nat → Nat → Int) (v : Nat → Int) : detG a * v 3 = (-(0 + a 1 0 * a 2 1 * a 3 2 - a 1 0 * a 2 2 * a 3 1 - a 1 1 * a 2 0 * a 3 2 + a 1 1 * a 2 2 * a 3 0 + a 1 2 * a 2 0 * a 3 1 - a 1 2 * a 2 1 * a 3 0)) * (a 0 0 * v 0 + a 0 1 * v 1 + a 0 2 * v 2 + a 0 3 * v 3) + ((0 + a 0 0 * a 2 1 * a 3 2 - a 0 0 * a 2 2 * a 3 1 - a 0 1 * a 2 0 * a 3 2 + a 0 1 * a 2 2 * a 3 0 + a 0 2 * a 2 0 * a 3 1 - a 0 2 * a 2 1 * a 3 0)) * (a 1 0 * v 0 + a 1 1 * v 1 + a 1 2 * v 2 + a 1 3 * v 3) + (-(0 + a 0 0 * a 1 1 * a 3 2 - a 0 0 * a 1 2 * a 3 1 - a 0 1 * a 1 0 * a 3 2 + a 0 1 * a 1 2 * a 3 0 + a 0 2 * a 1 0 * a 3 1 - a 0 2 * a 1 1 * a 3 0)) * (a 2 0 * v 0 + a 2 1 * v 1 + a 2 2 * v 2 + a 2 3 * v 3) + ((0 + a 0 0 * a 1 1 * a 2 2 - a 0 0 * a 1 2 * a 2 1 - a 0 1 * a 1 0 * a 2 2 + a 0 1 * a 1 2 * a 2 0 + a 0 2 * a 1 0 * a 2 1 - a 0 2 * a 1 1 * a 2 0)) * (a 3 0 * v 0 + a 3 1 * v 1 + a 3 2 * v 2 + a 3 3 * v 3) := by
  unfold detG prG
  grind
theorem adj_dvd {q : Int} {a : Nat → Nat → Int} {v : Nat → Int} (h : ∀ r, r < 4 → q ∣ a r 0 * v 0 + a r 1 * v 1 + a r 2 * v 2 + a r 3 * v 3) (i : Nat) (hi : i < 4) : q ∣ detG a * v i := by
  have h0 := h 0 (by omega)
  have h1 := h 1 (by omega)
  have h2 := h 2 (by omega)
  have h3 := h 3 (by omega)
  have hc : i = 0 ∨ i = 1 ∨ i = 2 ∨ i = 3 := by omega
  rcases hc with rfl | rfl | rfl | rfl
  · rw [adj_0]
    exact Int.dvd_add (Int.dvd_add (Int.dvd_add (Int.dvd_mul_of_dvd_right h0) (Int.dvd_mul_of_dvd_right h1)) (Int.dvd_mul_of_dvd_right h2)) (Int.dvd_mul_of_dvd_right h3)
  · rw [adj_1]
    exact Int.dvd_add (Int.dvd_add (Int.dvd_add (Int.dvd_mul_of_dvd_right h0) (Int.dvd_mul_of_dvd_right h1)) (Int.dvd_mul_of_dvd_right h2)) (Int.dvd_mul_of_dvd_right h3)
  · rw [adj_2]
    exact Int.dvd_add (Int.dvd_add (Int.dvd_add (Int.dvd_mul_of_dvd_right h0) (Int.dvd_mul_of_dvd_right h1)) (Int.dvd_mul_of_dvd_right h2)) (Int.dvd_mul_of_dvd_right h3)
  · rw [adj_3]
    exact Int.dvd_add (Int.dvd_add (Int.dvd_add (Int.dvd_mul_of_dvd_right h0) (Int.dvd_mul_of_dvd_right h1)) (Int.dvd_mul_of_dvd_right h2)) (Int.dvd_mul_of_dvd_right h3)
/-- a table that goes back can be taken off -/
theorem au_inj {n q : Nat} {T w : Nat → Int} (n1 : 1 ≤ n) (hn : n ≤ 4) {d : Int} (hd : (q : Int) ∣ d * detF n T - 1) (h : ∀ r, r < n + 1 → (q : Int) ∣ stv (n + 1) (au n T) w r) : ∀ r, r < n + 1 → (q : Int) ∣ w r := by
  have hlast : (q : Int) ∣ w n := by
    have := h n (by omega)
    rw [stv_last (aff_au hn)] at this
    exact this
  have key : ∀ r, r < n → (q : Int) ∣ ss (fun c => T (5 * r + c) * w c) 0 n := by
    intro r hr
    have h1 := h r (by omega)
    unfold stv at h1
    rw [ss_last, Nat.zero_add] at h1
    have h2 : ss (fun c => au n T (5 * r + c) * w c) 0 n = ss (fun c => T (5 * r + c) * w c) 0 n := ss_congr n 0 (fun c _ hc => by rw [au_at hn (by omega) (by omega), if_neg (by omega), if_neg (by omega)])
    rw [h2] at h1
    have h3 : ss (fun c => T (5 * r + c) * w c) 0 n = (ss (fun c => T (5 * r + c) * w c) 0 n + au n T (5 * r + n) * w n) - au n T (5 * r + n) * w n := by omega
    rw [h3]
    exact Int.dvd_sub h1 (Int.dvd_mul_of_dvd_right hlast)
  have h4 : ∀ r, r < 4 → (q : Int) ∣ sqF n T r 0 * (if 0 < n then w 0 else 0) + sqF n T r 1 * (if 1 < n then w 1 else 0) + sqF n T r 2 * (if 2 < n then w 2 else 0) + sqF n T r 3 * (if 3 < n then w 3 else 0) := by
    intro r hr
    by_cases hrn : r < n
    · have hk := key r hrn
      have hc : n = 1 ∨ n = 2 ∨ n = 3 ∨ n = 4 := by omega
      rcases hc with rfl | rfl | rfl | rfl
      · simpa [ss, sqF, hrn] using hk
      · simpa [ss, sqF, hrn, Int.add_assoc] using hk
      · simpa [ss, sqF, hrn, Int.add_assoc] using hk
      · simpa [ss, sqF, hrn, Int.add_assoc] using hk
    · have hz : ∀ c, c < 4 → sqF n T r c * (if c < n then w c else 0) = 0 := by
        intro c hc
        by_cases hcn : c < n
        · unfold sqF
          rw [if_neg (by omega), if_neg (by omega), Int.zero_mul]
        · rw [if_neg hcn, Int.mul_zero]
      rw [hz 0 (by omega), hz 1 (by omega), hz 2 (by omega), hz 3 (by omega)]
      exact Int.dvd_zero _
  intro r hr
  by_cases hrn : r < n
  · have h5 := adj_dvd (a := sqF n T) (v := fun c => if c < n then w c else 0) h4 r (by omega)
    rw [← detF_G] at h5
    try dsimp only at h5
    rw [if_pos hrn] at h5
    have h6 : w r = d * (detF n T * w r) - (d * detF n T - 1) * w r := by grind
    rw [h6]
    exact Int.dvd_sub (Int.dvd_mul_of_dvd_right h5) (Int.dvd_mul_of_dvd_left hd)
  · rw [show r = n by omega]
    exact hlast
theorem mp_cancel {n q s t : Nat} {T : Nat → Int} (n1 : 1 ≤ n) (hn : n ≤ 4) (hq : 0 < q) {d : Int} (hd : (q : Int) ∣ d * detF n T - 1) (h : mp (n + 1) q (au n T) (s + 1) = mp (n + 1) q (au n T) (t + 1)) : mp (n + 1) q (au n T) s = mp (n + 1) q (au n T) t := by
  refine ext5 (mp_can hq s).1 (mp_can hq t).1 (fun r c hr hc => ?_)
  have h1 : ∀ r, r < n + 1 → (q : Int) ∣ stv (n + 1) (au n T) (fun i => 1 * mp (n + 1) q (au n T) s (5 * i + c) + (-1) * mp (n + 1) q (au n T) t (5 * i + c)) r := by
    intro r hr
    rw [stv_lin]
    have h2 := congrFun h (5 * r + c)
    rw [mp_left (by omega) hq, mp_left (by omega) hq, mm_at (by omega) hr hc, mm_at (by omega) hr hc] at h2
    have h3 := dvd_sub_of_emod h2
    show (q : Int) ∣ 1 * stv (n + 1) (au n T) (fun i => mp (n + 1) q (au n T) s (5 * i + c)) r + (-1) * stv (n + 1) (au n T) (fun i => mp (n + 1) q (au n T) t (5 * i + c)) r
    rw [Int.one_mul, Int.neg_mul, Int.one_mul, ← Int.sub_eq_add_neg]
    exact h3
  have h4 := au_inj n1 hn hd h1 r hr
  try dsimp only at h4
  rw [Int.one_mul, Int.neg_mul, Int.one_mul, ← Int.sub_eq_add_neg] at h4
  exact eq_of_dvd ((mp_can hq s).2 _) ((mp_can hq t).2 _) h4
theorem mp_cancelk {n q s t : Nat} {T : Nat → Int} (n1 : 1 ≤ n) (hn : n ≤ 4) (hq : 0 < q) {d : Int} (hd : (q : Int) ∣ d * detF n T - 1) : ∀ k, mp (n + 1) q (au n T) (k + s) = mp (n + 1) q (au n T) (k + t) → mp (n + 1) q (au n T) s = mp (n + 1) q (au n T) t
  | 0, h => by rw [Nat.zero_add, Nat.zero_add] at h; exact h
  | k + 1, h => by
    rw [show k + 1 + s = k + s + 1 by omega, show k + 1 + t = k + t + 1 by omega] at h
    exact mp_cancelk n1 hn hq hd k (mp_cancel n1 hn hq hd h)
theorem inv_per {n q W : Nat} {T : Nat → Int} (n1 : 1 ≤ n) (hn : n ≤ 4) (hq : 0 < q) {d : Int} (hd : (q : Int) ∣ d * detF n T - 1) (hW : isPer (mp (n + 1) q (au n T)) 32 W) : isPer (mp (n + 1) q (au n T)) 0 W := by
  have h1 := (hW.2 W).mpr (Nat.dvd_refl W)
  have h2 : mp (n + 1) q (au n T) (0 + W) = mp (n + 1) q (au n T) 0 := by
    rw [Nat.zero_add]
    exact mp_cancelk n1 hn hq hd 32 h1
  exact (per_shift mp_det hW.1 h2 (Nat.zero_le 32)).mp hW
/-- the inverse of the worth -/
theorem det_inv {M : Nat} {D : Int} (hM : 2 ≤ M) (h : Nat.gcd M (D % (M : Int)).toNat = 1) : ∃ d : Int, (M : Int) ∣ d * D - 1 := by
  obtain ⟨x, y, e⟩ := bez M (D % (M : Int)).toNat
  rw [h] at e
  have n0 := Int.emod_nonneg D (show (M : Int) ≠ 0 by omega)
  have e2 : (((D % (M : Int)).toNat : Nat) : Int) = D % (M : Int) := by omega
  rw [e2] at e
  have e3 := Int.mul_ediv_add_emod D (M : Int)
  refine ⟨y, y * (D / (M : Int)) - x, ?_⟩
  generalize D / (M : Int) = a at *
  generalize D % (M : Int) = b at *
  grind
theorem Of_ex {n M W : Nat} {T : Nat → Int} (n1 : 1 ≤ n) (hn : n ≤ 4) (h2 : 2 ≤ M) (h5 : M ≤ 500) (hg : Nat.gcd M (detF n T % (M : Int)).toNat = 1) (hW : isPer (mp (n + 1) M (au n T)) 32 W) : ∃ Wf : Nat → Nat, (∀ k, k < (fcs M).length → isPer (mp (n + 1) ((pe M k).1 ^ (pe M k).2) (au n T)) 0 (Wf k)) ∧ (∀ k, k < (fcs M).length → Wf k ∣ Lf (pe M k).1 4 * Nf (pe M k).1 4 * (pe M k).1 ^ ((pe M k).2 - 1)) ∧ (∀ k, k ≤ (fcs M).length → 1 ≤ lcmI Wf k ∧ lcmI Wf k ≤ 8000000000000000000) ∧ lcmI Wf (fcs M).length = W := by
  obtain ⟨Wf, hWf, hW1⟩ := Wf_ex (T := T) n1 hn h2 h5
  obtain ⟨a1, a2, a3, a4, a5⟩ := fcs_ok h2 h5
  obtain ⟨d, hd⟩ := det_inv h2 hg
  refine ⟨Wf, fun k hk => ?_, fun k hk => ?_, fun k _ => (Wf_lcm n1 hn h2 h5 hWf hW1 k).2, per_uniq (per_parts h2 h5 hWf _ (Nat.le_refl _) hW1) hW⟩
  · obtain ⟨b1, b2, b3, b4⟩ := a2 _ (pe_mem hk)
    exact inv_per n1 hn (Nat.pow_pos (by have := b1.1; omega)) (Int.dvd_trans (Int.ofNat_dvd.mpr b4) hd) (hWf k hk)
  · exact Nat.dvd_trans (Wf_E n1 hn h2 h5 hk (hWf k hk)) (Nat.mul_dvd_mul (Nat.mul_dvd_mul Lf_dvd4 (Nf_dvd4 hn)) (Nat.dvd_refl _))
