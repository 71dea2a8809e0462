/-! ===== rows and steps modulo the parts ===== -/
theorem mm_congr {w q : Nat} {A B C : Nat → Int} (hw : w ≤ 5) (h : ∀ r c, r < w → c < w → A (5 * r + c) % (q : Int) = B (5 * r + c) % (q : Int)) : mm w q C A = mm w q C B := by
  refine ext5 mm_out mm_out (fun r c hr hc => ?_)
  rw [mm_at hw hr hc, mm_at hw hr hc]
  refine ss_modc w 0 (fun i _ hi => ?_)
  rw [Int.mul_emod, h i c (by omega) hc, ← Int.mul_emod]
theorem mp_congr {w q : Nat} {A B : Nat → Int} (hw : w ≤ 5) (h : ∀ r c, r < w → c < w → A (5 * r + c) % (q : Int) = B (5 * r + c) % (q : Int)) : ∀ t, mp w q A t = mp w q B t
  | 0 => rfl
  | t + 1 => by
    show mm w q (mp w q A t) A = mm w q (mp w q B t) B
    rw [mp_congr hw h t, mm_congr hw h]
/-- the reference's base is the class's table, modulo q -/
theorem ba_au {n q i : Nat} {T Tb Mo : Nat → Int} (hn : n ≤ 4) (h1 : ∀ r c, r < n → c < n → Tb (16 * i + 4 * r + c) = T (5 * r + c)) (h2 : ∀ r, r < n → Mo (4 * i + r) = T (5 * r + 4)) (t : Nat) : mp (n + 1) q (baF n q i Tb Mo) t = mp (n + 1) q (au n T) t := by
  refine mp_congr (by omega) (fun r c hr hc => ?_) t
  obtain ⟨d1, d2⟩ := dm5 (w := n + 1) (r := r) (by omega) hc
  rw [au_at hn hr hc]
  unfold baF
  rw [d1, d2, if_pos ⟨hr, hc⟩, Int.emod_emod]
  congr 1
  by_cases hrn : r = n
  · rw [if_pos hrn, if_pos hrn]
  · rw [if_neg hrn, if_neg hrn]
    by_cases hcn : c = n
    · rw [if_pos hcn, if_pos hcn, h2 r (by omega)]
    · rw [if_neg hcn, if_neg hcn, h1 r c (by omega) (by omega)]
theorem go_red {n q M r t : Nat} {A Y : Nat → Int} (h : q ∣ M) : goF n M (mp (n + 1) M A t) Y r % (q : Int) = goF n q (mp (n + 1) q A t) (fun j => Y j % (q : Int)) r := by
  unfold goF
  rw [Int.emod_emod_of_dvd _ (Int.ofNat_dvd.mpr h), Int.add_emod, Int.add_emod (mp (n + 1) q A t (5 * r + n))]
  congr 2
  · rw [mp_red h, Int.emod_emod]
  · refine ss_modc n 0 (fun i _ hi => ?_)
    rw [mp_red h, Int.mul_emod, Int.mul_emod (mp (n + 1) M A t (5 * r + i) % (q : Int)), Int.emod_emod, Int.emod_emod]
theorem row_red {n q M r t : Nat} {A Y : Nat → Int} (h : q ∣ M) : rowS n M A Y t r % (q : Int) = rowS n q A (fun j => Y j % (q : Int)) t r := by
  unfold rowS
  split
  · exact go_red h
  · rfl
theorem row_parts {n M s t : Nat} {A Y : Nat → Int} (h2 : 2 ≤ M) (h5 : M ≤ 500) : rowS n M A Y s = rowS n M A Y t ↔ ∀ e ∈ fcs M, rowS n (e.1 ^ e.2) A (fun j => Y j % ((e.1 ^ e.2 : Nat) : Int)) s = rowS n (e.1 ^ e.2) A (fun j => Y j % ((e.1 ^ e.2 : Nat) : Int)) t := by
  obtain ⟨-, a2, -⟩ := fcs_ok h2 h5
  constructor
  · intro h e he
    funext r
    rw [← row_red (a2 e he).2.2.2, ← row_red (a2 e he).2.2.2, h]
  · intro h
    funext r
    refine eq_of_dvd (rowS_bd (by omega)) (rowS_bd (by omega)) ((fcs_dvdI h2 h5).mpr (fun e he => ?_))
    have h1 := congrFun (h e he) r
    rw [← row_red (a2 e he).2.2.2, ← row_red (a2 e he).2.2.2] at h1
    exact dvd_sub_of_emod h1
theorem per_shift {α : Type} {x : Nat → α} (hx : detm x) {m E k W : Nat} (hE : 1 ≤ E) (h : x (m + E) = x m) (hk : m ≤ k) : isPer x k W ↔ isPer x m W := by
  have key : ∀ R, x (k + R) = x k ↔ x (m + R) = x m := by
    intro R
    constructor
    · intro hR
      have h1 := detm_mul hx h k
      have hkE : k ≤ m + k * E := by
        have := Nat.mul_le_mul_left k hE
        omega
      have h2 := detm_add hx hR (m + k * E - k)
      have h3 := detm_add hx h1 R
      rw [show k + R + (m + k * E - k) = m + k * E + R by omega, show k + (m + k * E - k) = m + k * E by omega] at h2
      rw [← h3, h2, h1]
    · intro hR
      have := detm_add hx hR (k - m)
      rw [show m + R + (k - m) = k + R by omega, show m + (k - m) = k by omega] at this
      exact this
  exact ⟨fun hW => ⟨hW.1, fun R => (key R).symm.trans (hW.2 R)⟩, fun hW => ⟨hW.1, fun R => (key R).trans (hW.2 R)⟩⟩
/-- going through the factors once -/
theorem fl_step {W R P P2 f : Nat} (hf : prm f) (hP : P = f * P2) (h1 : W ∣ R) (h2 : R ∣ W * P) (h3 : P ∣ R) (R0 : 1 ≤ R) : (W ∣ R / f → R / f ∣ W * P2 ∧ P2 ∣ R / f ∧ 1 ≤ R / f) ∧ (¬ W ∣ R / f → R ∣ W * P2 ∧ P2 ∣ R) ∧ f ∣ R := by
  have f0 : 0 < f := by have := hf.1; omega
  subst hP
  have hfR : f ∣ R := Nat.dvd_trans (Nat.dvd_mul_right _ _) h3
  obtain ⟨S, rfl⟩ := hfR
  rw [Nat.mul_div_cancel_left _ f0]
  have S0 : 1 ≤ S := Nat.pos_of_ne_zero (fun z => by rw [z, Nat.mul_zero] at R0; omega)
  refine ⟨fun _ => ⟨?_, ?_, S0⟩, fun hn => ⟨?_, Nat.dvd_trans (Nat.dvd_mul_left _ _) h3⟩, Nat.dvd_mul_right _ _⟩
  · refine Nat.dvd_of_mul_dvd_mul_left f0 ?_
    rw [show f * (W * P2) = W * (f * P2) by grind]
    exact h2
  · exact Nat.dvd_of_mul_dvd_mul_left f0 h3
  · obtain ⟨c, hc⟩ := h1
    have W0 : 0 < W := Nat.pos_of_ne_zero (fun z => by rw [z, Nat.zero_mul] at hc; omega)
    have hfc : ¬ f ∣ c := by
      rintro ⟨c2, rfl⟩
      apply hn
      refine ⟨c2, Nat.eq_of_mul_eq_mul_left f0 ?_⟩
      rw [hc]
      grind
    rw [hc] at h2 ⊢
    have h4 : c ∣ f * P2 := Nat.dvd_of_mul_dvd_mul_left W0 h2
    exact Nat.mul_dvd_mul (Nat.dvd_refl W) ((prm_cop hf hfc).symm.dvd_of_dvd_mul_left h4)
/-- the tail doesn't depend on which round is taken -/
theorem tail_same {x : Nat → Nat → Int} (hx : detm x) {W P : Nat} (hP : isPer x 32 P) (hW : P ∣ W) (W1 : 1 ≤ W) (t : Nat) : x (t + W) = x t ↔ x (t + P) = x t := by
  constructor
  · intro h
    have h1 := detm_mul hx h 32
    have h2 : x (t + 32 * W + P) = x (t + 32 * W) := by
      have h3 := detm_add hx ((hP.2 P).mpr (Nat.dvd_refl P)) (t + 32 * W - 32)
      have hw := Nat.mul_le_mul_left 32 W1
      rw [show 32 + P + (t + 32 * W - 32) = t + 32 * W + P by omega, show 32 + (t + 32 * W - 32) = t + 32 * W by omega] at h3
      exact h3
    have h4 := detm_add hx h1 P
    rw [← h4, h2, h1]
  · intro h
    obtain ⟨k, rfl⟩ := hW
    rw [Nat.mul_comm]
    exact detm_mul hx h k
theorem tail_ex {x : Nat → Nat → Int} {W : Nat} (h : x (32 + W) = x 32) : ∃ t, isTail x W t := by
  obtain ⟨t, t1, t2⟩ := least_ex (P := fun t => x (t + W) = x t) ⟨32, h⟩
  refine ⟨t, Nat.le_of_not_lt (fun z => t2 32 z h), t1, t2⟩
theorem prodL_drop {l : List Nat} {i : Nat} (hi : i < l.length) : prodL (l.drop i) = l.getD i 0 * prodL (l.drop (i + 1)) := by
  rw [List.drop_eq_getElem_cons hi]
  show l[i] * prodL (l.drop (i + 1)) = _
  simp [List.getD, hi]
/-- the round of a row is the parts' rounds together -/
theorem per_rows {n M m : Nat} {A Y : Nat → Int} {W : Nat → Nat} (h2 : 2 ≤ M) (h5 : M ≤ 500) (hW : ∀ i, i < (fcs M).length → isPer (rowS n ((pe M i).1 ^ (pe M i).2) A (fun j => Y j % (((pe M i).1 ^ (pe M i).2 : Nat) : Int))) m (W i)) : isPer (rowS n M A Y) m (lcmI W (fcs M).length) := by
  constructor
  · have h : ∀ i, i ≤ (fcs M).length → 1 ≤ lcmI W i := by
      intro i
      induction i with
      | zero => exact fun _ => Nat.le_refl _
      | succ i ih => exact fun hi => Nat.lcm_pos (ih (by omega)) (hW i (by omega)).1
    exact h _ (Nat.le_refl _)
  · intro R
    rw [row_parts h2 h5, lcmI_dvd]
    constructor
    · intro h j hj
      exact ((hW j hj).2 R).mp (h _ (pe_mem hj))
    · intro h e he
      obtain ⟨i, hi, rfl⟩ := pe_of he
      exact ((hW i hi).2 R).mpr (h i hi)
