/-! ===== sums ===== -/
/-- the sum of f over the k numbers from j on -/
def ss (f : Nat → Int) (j : Nat) : Nat → Int
  | 0 => 0
  | k + 1 => f j + ss f (j + 1) k
theorem ss_bd {f : Nat → Int} {B : Int} : ∀ (k j : Nat), (∀ i, j ≤ i → i < j + k → 0 ≤ f i ∧ f i ≤ B) → 0 ≤ ss f j k ∧ ss f j k ≤ k * B
  | 0, j, _ => by simp [ss]
  | k + 1, j, hb => by
    have h1 := hb j (Nat.le_refl _) (by omega)
    have h2 := ss_bd (f := f) (B := B) k (j + 1) (fun i a b => hb i (by omega) (by omega))
    have h3 : ((k + 1 : Nat) : Int) * B = k * B + B := by rw [Int.natCast_succ, Int.add_mul, Int.one_mul]
    show 0 ≤ f j + ss f (j + 1) k ∧ f j + ss f (j + 1) k ≤ ((k + 1 : Nat) : Int) * B
    rw [h3]
    omega
theorem ss_congr {f g : Nat → Int} : ∀ (k j : Nat), (∀ i, j ≤ i → i < j + k → f i = g i) → ss f j k = ss g j k
  | 0, _, _ => rfl
  | k + 1, j, hb => by
    show f j + ss f (j + 1) k = g j + ss g (j + 1) k
    rw [hb j (Nat.le_refl _) (by omega), ss_congr k (j + 1) (fun i a b => hb i (by omega) (by omega))]
theorem ss_add (f g : Nat → Int) : ∀ (k j : Nat), ss (fun i => f i + g i) j k = ss f j k + ss g j k
  | 0, _ => rfl
  | k + 1, j => by
    show (f j + g j) + ss _ (j + 1) k = (f j + ss f (j + 1) k) + (g j + ss g (j + 1) k)
    rw [ss_add f g k (j + 1)]
    omega
theorem ss_mul (c : Int) (f : Nat → Int) : ∀ (k j : Nat), ss (fun i => c * f i) j k = c * ss f j k
  | 0, _ => (Int.mul_zero c).symm
  | k + 1, j => by
    show c * f j + ss _ (j + 1) k = c * (f j + ss f (j + 1) k)
    rw [ss_mul c f k (j + 1), Int.mul_add]
theorem ss_mulr (c : Int) (f : Nat → Int) (k j : Nat) : ss (fun i => f i * c) j k = ss f j k * c := by
  rw [Int.mul_comm, ← ss_mul]
  exact ss_congr k j (fun i _ _ => Int.mul_comm _ _)
theorem ss_zero : ∀ (k j : Nat), ss (fun _ => 0) j k = 0
  | 0, _ => rfl
  | k + 1, j => by
    show 0 + ss _ (j + 1) k = 0
    rw [ss_zero k (j + 1)]
    rfl
theorem ss_swap (f : Nat → Nat → Int) (m i : Nat) : ∀ (k j : Nat), ss (fun a => ss (f a) i m) j k = ss (fun b => ss (fun a => f a b) j k) i m
  | 0, j => by
    show 0 = ss (fun b => 0) i m
    rw [ss_zero]
  | k + 1, j => by
    show ss (f j) i m + ss _ (j + 1) k = ss (fun b => f j b + ss (fun a => f a b) (j + 1) k) i m
    rw [ss_swap f m i k (j + 1), ← ss_add]
theorem ss_last (f : Nat → Int) : ∀ (k j : Nat), ss f j (k + 1) = ss f j k + f (j + k)
  | 0, j => by
    show f j + 0 = 0 + f j
    omega
  | k + 1, j => by
    show f j + ss f (j + 1) (k + 1) = (f j + ss f (j + 1) k) + f (j + (k + 1))
    rw [ss_last f k (j + 1), show j + 1 + k = j + (k + 1) by omega]
    omega
theorem ss_emod (M : Int) (f : Nat → Int) : ∀ (k j : Nat), ss (fun i => f i % M) j k % M = ss f j k % M
  | 0, _ => rfl
  | k + 1, j => by
    show (f j % M + ss _ (j + 1) k) % M = (f j + ss f (j + 1) k) % M
    rw [Int.add_emod, ss_emod M f k (j + 1), Int.emod_emod, ← Int.add_emod]
