/-! ===== tables acting on rows ===== -/
def ve (n : Nat) (Y : Nat → Int) (i : Nat) : Int := if i < n then Y i else 1
/-- the last row of a table with MORE -/
def aff (n : Nat) (A : Nat → Int) : Prop := (∀ c, c < n → A (5 * n + c) = 0) ∧ A (5 * n + n) = 1
theorem ss_modc {q : Int} {f g : Nat → Int} (k j : Nat) (h : ∀ i, j ≤ i → i < j + k → f i % q = g i % q) : ss f j k % q = ss g j k % q := by
  rw [← ss_emod q f, ← ss_emod q g]
  congr 1
  exact ss_congr k j h
theorem goF_ve {n q r : Nat} {A Y : Nat → Int} : goF n q A Y r = ss (fun i => A (5 * r + i) * ve n Y i) 0 (n + 1) % (q : Int) := by
  rw [ss_last, Nat.zero_add]
  unfold goF
  rw [ss_congr (g := fun i => A (5 * r + i) * ve n Y i) n 0 (fun i _ hi => by unfold ve; rw [if_pos (by omega)])]
  unfold ve
  rw [if_neg (Nat.lt_irrefl n), Int.mul_one, Int.add_comm]
theorem act_mm {n q r : Nat} {A B Y : Nat → Int} (hn : n ≤ 4) (hr : r < n + 1) (hB : aff n B) : goF n q (mm (n + 1) q A B) Y r = goF n q A (goF n q B Y) r := by
  rw [goF_ve, goF_ve]
  have e1 : ss (fun i => mm (n + 1) q A B (5 * r + i) * ve n Y i) 0 (n + 1) = ss (fun i => ss (fun k => A (5 * r + k) * B (5 * k + i)) 0 (n + 1) % (q : Int) * ve n Y i) 0 (n + 1) := ss_congr (n + 1) 0 (fun i _ hi => by rw [mm_at (by omega) hr (by omega)])
  rw [e1, ss_md1]
  have e3 : ss (fun i => ss (fun k => A (5 * r + k) * B (5 * k + i)) 0 (n + 1) * ve n Y i) 0 (n + 1) = ss (fun i => ss (fun k => A (5 * r + k) * B (5 * k + i) * ve n Y i) 0 (n + 1)) 0 (n + 1) := ss_congr (n + 1) 0 (fun i _ _ => (ss_mulr _ _ _ _).symm)
  rw [e3, ss_swap (fun i k => A (5 * r + k) * B (5 * k + i) * ve n Y i) (n + 1) 0 (n + 1) 0]
  refine ss_modc (n + 1) 0 (fun k _ hk => ?_)
  have e4 : ss (fun i => A (5 * r + k) * B (5 * k + i) * ve n Y i) 0 (n + 1) = A (5 * r + k) * ss (fun i => B (5 * k + i) * ve n Y i) 0 (n + 1) := by
    rw [← ss_mul]
    exact ss_congr (n + 1) 0 (fun i _ _ => Int.mul_assoc _ _ _)
  rw [e4]
  by_cases h : k < n
  · have e5 : ve n (goF n q B Y) k = ss (fun i => B (5 * k + i) * ve n Y i) 0 (n + 1) % (q : Int) := by
      rw [← goF_ve]
      exact if_pos h
    rw [e5, md2]
  · have hk2 : k = n := by omega
    subst hk2
    have e5 : ve k (goF k q B Y) k = 1 := if_neg (Nat.lt_irrefl k)
    have e6 : ss (fun i => B (5 * k + i) * ve k Y i) 0 (k + 1) = 1 := by
      rw [ss_last, Nat.zero_add, ss_congr (g := fun _ => 0) k 0 (fun i _ hi => by rw [hB.1 i (by omega), Int.zero_mul]), ss_zero, hB.2]
      unfold ve
      rw [if_neg (Nat.lt_irrefl k)]
      rfl
    rw [e5, e6]
theorem aff_m1 {n q : Nat} (hn : n ≤ 4) (hq : 2 ≤ q) : aff n (m1 (n + 1) q) := by
  constructor
  · intro c hc
    rw [m1_at (by omega) (by omega) (by omega), if_neg (by omega)]
  · rw [m1_at (by omega) (by omega) (by omega), if_pos rfl]
    exact Int.emod_eq_of_lt (by omega) (by omega)
theorem aff_mm {n q : Nat} {A B : Nat → Int} (hn : n ≤ 4) (hq : 2 ≤ q) (hA : aff n A) (hB : aff n B) : aff n (mm (n + 1) q A B) := by
  have e : ∀ c, c < n + 1 → mm (n + 1) q A B (5 * n + c) = B (5 * n + c) % (q : Int) := fun c hc => by
    rw [mm_at (by omega) (by omega) hc, ss_one (c := n) (n + 1) 0 (Nat.zero_le _) (by omega) (fun i _ hi hne => by rw [hA.1 i (by omega), Int.zero_mul]), hA.2, Int.one_mul]
  constructor
  · intro c hc
    rw [e c (by omega), hB.1 c hc]
    rfl
  · rw [e n (by omega), hB.2]
    exact Int.emod_eq_of_lt (by omega) (by omega)
theorem aff_mp {n q : Nat} {A : Nat → Int} (hn : n ≤ 4) (hq : 2 ≤ q) (hA : aff n A) : ∀ t, aff n (mp (n + 1) q A t)
  | 0 => aff_m1 hn hq
  | t + 1 => aff_mm hn hq (aff_mp hn hq hA t) hA
theorem aff_au {n : Nat} {S : Nat → Int} (hn : n ≤ 4) : aff n (au n S) := by
  constructor
  · intro c hc
    rw [au_at hn (by omega) (by omega), if_pos rfl, if_neg (by omega)]
  · rw [au_at hn (by omega) (by omega), if_pos rfl, if_pos rfl]
theorem apF_go {n M r : Nat} {S Y : Nat → Int} (hn : n ≤ 4) (hr : r < n) : apF n M S Y r = goF n M (au n S) Y r := by
  unfold apF goF
  rw [au_at hn (by omega) (by omega), if_neg (by omega), if_pos rfl]
  congr 2
  exact ss_congr n 0 (fun i _ hi => by rw [au_at hn (by omega) (by omega), if_neg (by omega), if_neg (by omega)])
theorem goF_congr {n q r : Nat} {A Y Y2 : Nat → Int} (h : ∀ i, i < n → Y i = Y2 i) : goF n q A Y r = goF n q A Y2 r := by
  unfold goF
  rw [ss_congr n 0 (fun i _ hi => by rw [h i (by omega)])]
theorem go_m1 {n q r : Nat} {Y : Nat → Int} (hn : n ≤ 4) (hr : r < n) (hY : 0 ≤ Y r ∧ Y r < q) : goF n q (m1 (n + 1) q) Y r = Y r := by
  rw [goF_ve, ss_one (c := r) (n + 1) 0 (Nat.zero_le _) (by omega) (fun i _ hi hne => by rw [m1_at (by omega) (by omega) (by omega), if_neg (Ne.symm hne), Int.zero_mul]), m1_at (by omega) (by omega) (by omega), if_pos rfl, md1, Int.one_mul]
  unfold ve
  rw [if_pos hr]
  exact Int.emod_eq_of_lt hY.1 hY.2
theorem go_bd {n q r : Nat} {A Y : Nat → Int} (hq : 0 < q) : 0 ≤ goF n q A Y r ∧ goF n q A Y r < q := ⟨Int.emod_nonneg _ (by omega), Int.emod_lt_of_pos _ (by omega)⟩
theorem au_can {n M : Nat} {S : Nat → Int} (hM : 2 ≤ M) (h : ∀ r c, r < n → (c < n ∨ c = 4) → 0 ≤ S (5 * r + c) ∧ S (5 * r + c) < M) : can (n + 1) M (au n S) := by
  refine ⟨au_out, fun j => ?_⟩
  unfold au
  split
  · rename_i hj
    split
    · split <;> omega
    · split
      · exact h (j / 5) 4 (by omega) (Or.inr rfl)
      · have := h (j / 5) (j % 5) (by omega) (Or.inl (by omega))
        rw [show 5 * (j / 5) + j % 5 = j by omega] at this
        exact this
  · omega
