/-! ===== tables modulo q, in rows of five ===== -/
def mm (w q : Nat) (A B : Nat → Int) (j : Nat) : Int := if j / 5 < w ∧ j % 5 < w then ss (fun i => A (5 * (j / 5) + i) * B (5 * i + j % 5)) 0 w % (q : Int) else 0
def m1 (w q : Nat) (j : Nat) : Int := if j / 5 < w ∧ j % 5 < w then (if j / 5 = j % 5 then 1 % (q : Int) else 0) else 0
def mp (w q : Nat) (A : Nat → Int) : Nat → Nat → Int
  | 0 => m1 w q
  | t + 1 => mm w q (mp w q A t) A
/-- the table's own places, 0 elsewhere -/
def cw (w : Nat) (A : Nat → Int) (j : Nat) : Int := if j / 5 < w ∧ j % 5 < w then A j else 0
/-- only the table's own places count, and they hold rests -/
def can (w q : Nat) (A : Nat → Int) : Prop := (∀ j, ¬ (j / 5 < w ∧ j % 5 < w) → A j = 0) ∧ ∀ j, 0 ≤ A j ∧ A j < q
theorem ext5 {w : Nat} {A B : Nat → Int} (hA : ∀ j, ¬ (j / 5 < w ∧ j % 5 < w) → A j = 0) (hB : ∀ j, ¬ (j / 5 < w ∧ j % 5 < w) → B j = 0) (h : ∀ r c, r < w → c < w → A (5 * r + c) = B (5 * r + c)) : A = B := by
  funext j
  by_cases hj : j / 5 < w ∧ j % 5 < w
  · have := h (j / 5) (j % 5) hj.1 hj.2
    rw [show 5 * (j / 5) + j % 5 = j by omega] at this
    exact this
  · rw [hA j hj, hB j hj]
theorem dm5 {w r c : Nat} (hw : w ≤ 5) (hc : c < w) : (5 * r + c) / 5 = r ∧ (5 * r + c) % 5 = c := by omega
theorem mm_at {w q r c : Nat} {A B : Nat → Int} (hw : w ≤ 5) (hr : r < w) (hc : c < w) : mm w q A B (5 * r + c) = ss (fun i => A (5 * r + i) * B (5 * i + c)) 0 w % (q : Int) := by
  obtain ⟨h1, h2⟩ := dm5 (r := r) hw hc
  unfold mm
  rw [h1, h2, if_pos ⟨hr, hc⟩]
theorem m1_at {w q r c : Nat} (hw : w ≤ 5) (hr : r < w) (hc : c < w) : m1 w q (5 * r + c) = if r = c then 1 % (q : Int) else 0 := by
  obtain ⟨h1, h2⟩ := dm5 (r := r) hw hc
  unfold m1
  rw [h1, h2, if_pos ⟨hr, hc⟩]
theorem mm_out {w q : Nat} {A B : Nat → Int} : ∀ j, ¬ (j / 5 < w ∧ j % 5 < w) → mm w q A B j = 0 := fun _ hj => if_neg hj
theorem mm_can {w q : Nat} {A B : Nat → Int} (hq : 0 < q) : can w q (mm w q A B) := by
  refine ⟨mm_out, fun j => ?_⟩
  unfold mm
  split
  · exact ⟨Int.emod_nonneg _ (by omega), Int.emod_lt_of_pos _ (by omega)⟩
  · omega
theorem m1_can {w q : Nat} (hq : 0 < q) : can w q (m1 w q) := by
  refine ⟨fun _ hj => if_neg hj, fun j => ?_⟩
  unfold m1
  split
  · split
    · exact ⟨Int.emod_nonneg _ (by omega), Int.emod_lt_of_pos _ (by omega)⟩
    · omega
  · omega
theorem mp_can {w q : Nat} {A : Nat → Int} (hq : 0 < q) : ∀ t, can w q (mp w q A t)
  | 0 => m1_can hq
  | _ + 1 => mm_can hq
theorem md1 (a b q : Int) : (a % q * b) % q = (a * b) % q := by rw [Int.mul_emod, Int.emod_emod, ← Int.mul_emod]
theorem md2 (a b q : Int) : (a * (b % q)) % q = (a * b) % q := by rw [Int.mul_emod, Int.emod_emod, ← Int.mul_emod]
theorem ss_md1 (q : Int) (f g : Nat → Int) (k j : Nat) : ss (fun i => f i % q * g i) j k % q = ss (fun i => f i * g i) j k % q := by
  rw [← ss_emod q (fun i => f i % q * g i), ← ss_emod q (fun i => f i * g i)]
  congr 1
  exact ss_congr k j (fun i _ _ => md1 _ _ _)
theorem ss_md2 (q : Int) (f g : Nat → Int) (k j : Nat) : ss (fun i => f i * (g i % q)) j k % q = ss (fun i => f i * g i) j k % q := by
  rw [← ss_emod q (fun i => f i * (g i % q)), ← ss_emod q (fun i => f i * g i)]
  congr 1
  exact ss_congr k j (fun i _ _ => md2 _ _ _)
theorem mm_assoc {w q : Nat} {A B C : Nat → Int} (hw : w ≤ 5) : mm w q (mm w q A B) C = mm w q A (mm w q B C) := by
  refine ext5 mm_out mm_out (fun r c hr hc => ?_)
  rw [mm_at hw hr hc, mm_at hw hr hc]
  have e1 : ss (fun i => mm w q A B (5 * r + i) * C (5 * i + c)) 0 w = ss (fun i => ss (fun k => A (5 * r + k) * B (5 * k + i)) 0 w % (q : Int) * C (5 * i + c)) 0 w := ss_congr w 0 (fun i _ hi => by rw [mm_at hw hr (by omega)])
  have e2 : ss (fun k => A (5 * r + k) * mm w q B C (5 * k + c)) 0 w = ss (fun k => A (5 * r + k) * (ss (fun i => B (5 * k + i) * C (5 * i + c)) 0 w % (q : Int))) 0 w := ss_congr w 0 (fun k _ hk => by rw [mm_at hw (by omega) hc])
  rw [e1, e2, ss_md1, ss_md2]
  congr 1
  have e3 : ss (fun i => ss (fun k => A (5 * r + k) * B (5 * k + i)) 0 w * C (5 * i + c)) 0 w = ss (fun i => ss (fun k => A (5 * r + k) * B (5 * k + i) * C (5 * i + c)) 0 w) 0 w := ss_congr w 0 (fun i _ _ => (ss_mulr _ _ _ _).symm)
  have e4 : ss (fun k => A (5 * r + k) * ss (fun i => B (5 * k + i) * C (5 * i + c)) 0 w) 0 w = ss (fun k => ss (fun i => A (5 * r + k) * B (5 * k + i) * C (5 * i + c)) 0 w) 0 w := ss_congr w 0 (fun k _ _ => by rw [← ss_mul]; exact ss_congr w 0 (fun i _ _ => (Int.mul_assoc _ _ _).symm))
  rw [e3, e4]
  exact ss_swap (fun i k => A (5 * r + k) * B (5 * k + i) * C (5 * i + c)) w 0 w 0
/-- a sum with one term -/
theorem ss_one {f : Nat → Int} {c : Nat} : ∀ (k j : Nat), j ≤ c → c < j + k → (∀ i, j ≤ i → i < j + k → i ≠ c → f i = 0) → ss f j k = f c
  | 0, j, h1, h2, _ => by omega
  | k + 1, j, h1, h2, h3 => by
    show f j + ss f (j + 1) k = f c
    by_cases e : j = c
    · subst e
      rw [ss_congr (g := fun _ => 0) k (j + 1) (fun i a b => h3 i (by omega) (by omega) (by omega)), ss_zero, Int.add_zero]
    · rw [h3 j (Nat.le_refl _) (by omega) e, ss_one k (j + 1) (by omega) (by omega) (fun i a b => h3 i (by omega) (by omega)), Int.zero_add]
theorem mm_1r {w q : Nat} {A : Nat → Int} (hw : w ≤ 5) (hA : can w q A) : mm w q A (m1 w q) = A := by
  refine ext5 mm_out hA.1 (fun r c hr hc => ?_)
  rw [mm_at hw hr hc, ss_one (c := c) w 0 (Nat.zero_le _) (by omega) (fun i _ hi hne => by rw [m1_at hw (by omega) hc, if_neg hne, Int.mul_zero]), m1_at hw hc hc, if_pos rfl, md2, Int.mul_one]
  exact Int.emod_eq_of_lt (hA.2 _).1 (hA.2 _).2
theorem mm_1l {w q : Nat} {A : Nat → Int} (hw : w ≤ 5) (hA : can w q A) : mm w q (m1 w q) A = A := by
  refine ext5 mm_out hA.1 (fun r c hr hc => ?_)
  rw [mm_at hw hr hc, ss_one (c := r) w 0 (Nat.zero_le _) (by omega) (fun i _ hi hne => by rw [m1_at hw hr (by omega), if_neg (Ne.symm hne), Int.zero_mul]), m1_at hw hr hr, if_pos rfl, md1, Int.one_mul]
  exact Int.emod_eq_of_lt (hA.2 _).1 (hA.2 _).2
theorem mp_add {w q : Nat} {A : Nat → Int} (hw : w ≤ 5) (hq : 0 < q) (s : Nat) : ∀ t, mp w q A (s + t) = mm w q (mp w q A s) (mp w q A t)
  | 0 => (mm_1r hw (mp_can hq s)).symm
  | t + 1 => by
    show mm w q (mp w q A (s + t)) A = mm w q (mp w q A s) (mm w q (mp w q A t) A)
    rw [mp_add hw hq s t, mm_assoc hw]
theorem mp_one {w q : Nat} {A : Nat → Int} (hw : w ≤ 5) (hA : can w q A) : mp w q A 1 = A := mm_1l hw hA
theorem mp_sq {w q : Nat} {A : Nat → Int} (hw : w ≤ 5) : ∀ t, mp w q (mm w q A A) t = mp w q A (2 * t)
  | 0 => rfl
  | t + 1 => by
    show mm w q (mp w q (mm w q A A) t) (mm w q A A) = mm w q (mm w q (mp w q A (2 * t)) A) A
    rw [mp_sq hw t, mm_assoc hw]
theorem cw_can {w q : Nat} {A : Nat → Int} (hq : 0 < q) (h : ∀ r c, r < w → c < w → 0 ≤ A (5 * r + c) ∧ A (5 * r + c) < q) : can w q (cw w A) := by
  refine ⟨fun _ hj => if_neg hj, fun j => ?_⟩
  unfold cw
  split
  · rename_i hj
    have := h (j / 5) (j % 5) hj.1 hj.2
    rw [show 5 * (j / 5) + j % 5 = j by omega] at this
    exact this
  · omega
theorem mm_cw {w q : Nat} {A B : Nat → Int} (hw : w ≤ 5) : mm w q (cw w A) (cw w B) = mm w q A B := by
  refine ext5 mm_out mm_out (fun r c hr hc => ?_)
  rw [mm_at hw hr hc, mm_at hw hr hc]
  congr 1
  refine ss_congr w 0 (fun i _ hi => ?_)
  obtain ⟨a1, a2⟩ := dm5 (r := r) hw (show i < w by omega)
  obtain ⟨b1, b2⟩ := dm5 (r := i) hw hc
  unfold cw
  rw [a1, a2, b1, b2, if_pos ⟨hr, by omega⟩, if_pos ⟨by omega, hc⟩]
theorem cw_of {w : Nat} {A B : Nat → Int} (h : ∀ j, j / 5 < w → j % 5 < w → A j = B j) : cw w A = cw w B := by
  funext j
  unfold cw
  split
  · rename_i hj
    exact h j hj.1 hj.2
  · rfl
theorem cw_id {w q : Nat} {A : Nat → Int} (hA : can w q A) : cw w A = A := by
  funext j
  unfold cw
  split
  · rfl
  · rename_i hj
    exact (hA.1 j hj).symm
theorem muF_cw {w q : Nat} {A B T : Nat → Int} : cw w (muF w q A B T) = mm w q A B := by
  funext j
  unfold cw mm muF
  split <;> rfl
