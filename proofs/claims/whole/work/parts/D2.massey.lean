/-! ===== rules told back: Berlekamp and Massey ===== -/
def cs (C s : Nat → Int) (L n : Nat) : Int := ss (fun j => C j * s (n - j)) 0 (L + 1)
theorem ss_dvdA {p : Int} {f : Nat → Int} : ∀ (k j : Nat), (∀ i, j ≤ i → i < j + k → p ∣ f i) → p ∣ ss f j k
  | 0, _, _ => Int.dvd_zero _
  | k + 1, j, h => Int.dvd_add (h j (by omega) (by omega)) (ss_dvdA k (j + 1) (fun i h1 h2 => h i (by omega) (by omega)))
theorem cs_ext {C s : Nat → Int} {L n : Nat} : ∀ k, (∀ j, L < j → j ≤ L + k → C j = 0) → cs C s (L + k) n = cs C s L n
  | 0, _ => rfl
  | k + 1, h => by
    show ss (fun j => C j * s (n - j)) 0 (L + k + 1 + 1) = _
    rw [ss_last, Nat.zero_add, h (L + k + 1) (by omega) (by omega), Int.zero_mul, Int.add_zero]
    exact cs_ext k (fun j h1 h2 => h j h1 (by omega))
theorem cs_congr {C C2 s s2 : Nat → Int} {L n : Nat} (hc : ∀ j, j ≤ L → C j = C2 j) (hs : ∀ j, j ≤ n → s j = s2 j) : cs C s L n = cs C2 s2 L n := ss_congr _ _ (fun i _ hi => by rw [hc i (by omega), hs (n - i) (by omega)])
/-- there is a rule of length l for the first ct rests -/
def hasL (p ct l : Nat) (s : Nat → Int) : Prop := ∃ C : Nat → Int, C 0 = 1 ∧ ∀ n, l ≤ n → n < ct → (p : Int) ∣ cs C s l n
theorem massey {p n L L2 : Nat} {C C2 s : Nat → Int} (h1 : ∀ m, L ≤ m → m < n → (p : Int) ∣ cs C s L m) (hd : ¬ (p : Int) ∣ cs C s L n) (c2 : C2 0 = 1) (h2 : ∀ m, L2 ≤ m → m ≤ n → (p : Int) ∣ cs C2 s L2 m) : n < L + L2 := by
  by_cases hn : n < L + L2
  · exact hn
  refine absurd ?_ hd
  have e1 : ∀ i, ss (fun j => C2 i * (C j * s (n - i - j))) 0 (L + 1) = C2 i * cs C s L (n - i) := fun i => ss_mul _ _ _ _
  have e2 : ∀ j, ss (fun i => C2 i * (C j * s (n - i - j))) 0 (L2 + 1) = C j * cs C2 s L2 (n - j) := fun j => by
    rw [show C j * cs C2 s L2 (n - j) = ss (fun i => C j * (C2 i * s (n - j - i))) 0 (L2 + 1) from (ss_mul _ _ _ _).symm]
    refine ss_congr _ _ (fun i _ _ => ?_)
    rw [show n - i - j = n - j - i by omega]
    grind
  have sw := ss_swap (fun i j => C2 i * (C j * s (n - i - j))) (L + 1) 0 (L2 + 1) 0
  have d2 : (p : Int) ∣ ss (fun j => ss (fun i => C2 i * (C j * s (n - i - j))) 0 (L2 + 1)) 0 (L + 1) := ss_dvdA _ _ (fun j _ hj => by
    rw [e2]
    exact Int.dvd_mul_of_dvd_right (h2 _ (by omega) (by omega)))
  rw [← sw] at d2
  have e3 : ss (fun i => ss (fun j => C2 i * (C j * s (n - i - j))) 0 (L + 1)) 0 (L2 + 1) = cs C s L n + ss (fun i => C2 i * cs C s L (n - i)) (0 + 1) L2 := by
    show ss (fun j => C2 0 * (C j * s (n - 0 - j))) 0 (L + 1) + ss (fun i => ss (fun j => C2 i * (C j * s (n - i - j))) 0 (L + 1)) (0 + 1) L2 = _
    rw [e1 0, c2, Int.one_mul, Nat.sub_zero]
    congr 1
    exact ss_congr _ _ (fun i _ _ => e1 i)
  have d3 : (p : Int) ∣ ss (fun i => C2 i * cs C s L (n - i)) (0 + 1) L2 := ss_dvdA _ _ (fun i i1 i2 => Int.dvd_mul_of_dvd_right (h1 _ (by omega) (by omega)))
  rw [e3] at d2
  have := Int.dvd_sub d2 d3
  rwa [show cs C s L n + ss (fun i => C2 i * cs C s L (n - i)) (0 + 1) L2 - ss (fun i => C2 i * cs C s L (n - i)) (0 + 1) L2 = cs C s L n by omega] at this
def shf (gap : Nat) (B : Nat → Int) (j : Nat) : Int := if j < gap then 0 else B (j - gap)
theorem cs_shf {B s : Nat → Int} {gap k n : Nat} (hn : gap ≤ n) : cs (shf gap B) s (gap + k) n = cs B s k (n - gap) := by
  have e1 : ∀ (g : Nat) (f : Nat → Int) (m : Nat), (∀ j, j < g → f j = 0) → ss f 0 (g + m) = ss f g m := fun g => by
    induction g with
    | zero =>
      intro f m _
      rw [Nat.zero_add]
    | succ g ih =>
      intro f m h
      rw [show g + 1 + m = g + (m + 1) by omega, ih f (m + 1) (fun j hj => h j (by omega))]
      show f g + ss f (g + 1) m = _
      rw [h g (by omega), Int.zero_add]
  unfold cs
  rw [show gap + k + 1 = gap + (k + 1) by omega, e1 gap _ _ (fun j hj => by
    show shf gap B j * _ = 0
    rw [show shf gap B j = 0 from if_pos hj, Int.zero_mul])]
  have e2 := ss_shift (fun j => shf gap B j * s (n - j)) gap (k + 1) 0
  rw [Nat.zero_add] at e2
  rw [e2]
  refine ss_congr _ _ (fun i _ _ => ?_)
  show shf gap B (i + gap) * s (n - (i + gap)) = B i * s (n - gap - i)
  rw [show shf gap B (i + gap) = B i by unfold shf; rw [if_neg (by omega), Nat.add_sub_cancel], show n - (i + gap) = n - gap - i by omega]
theorem cs_lin {p : Nat} {C C2 B s : Nat → Int} {t : Int} {L n : Nat} (h : ∀ j, j ≤ L → (p : Int) ∣ C2 j - (C j - t * B j)) : (p : Int) ∣ cs C2 s L n - (cs C s L n - t * cs B s L n) := by
  have e : cs C2 s L n - (cs C s L n - t * cs B s L n) = ss (fun j => (C2 j - (C j - t * B j)) * s (n - j)) 0 (L + 1) := by
    unfold cs
    rw [← ss_mul]
    have e2 : ∀ (k j : Nat), ss (fun j => C2 j * s (n - j)) j k - (ss (fun j => C j * s (n - j)) j k - ss (fun j => t * (B j * s (n - j))) j k) = ss (fun j => (C2 j - (C j - t * B j)) * s (n - j)) j k := fun k => by
      induction k with
      | zero => intro j; rfl
      | succ k ih =>
        intro j
        have := ih (j + 1)
        show C2 j * s (n - j) + ss _ (j + 1) k - (C j * s (n - j) + ss _ (j + 1) k - (t * (B j * s (n - j)) + ss _ (j + 1) k)) = (C2 j - (C j - t * B j)) * s (n - j) + ss _ (j + 1) k
        rw [← this]
        grind
    exact e2 _ _
  rw [e]
  exact ss_dvdA _ _ (fun i _ hi => Int.dvd_mul_of_dvd_left (h i (by omega)))
def BMi (p ct : Nat) (s : Nat → Int) (L : Nat) (C B : Nat → Int) (gap : Nat) (b : Int) : Prop :=
  (C 0 = 1 ∧ (∀ j, L < j → C j = 0) ∧ L ≤ ct ∧ ∀ n, L ≤ n → n < ct → (p : Int) ∣ cs C s L n) ∧ (∀ l, hasL p ct l s → L ≤ l) ∧ 1 ≤ gap ∧ ¬ (p : Int) ∣ b ∧ ((L = 0 ∧ gap = ct + 1 ∧ ∀ j, 0 < j → B j = 0) ∨ ∃ LB nB, nB + gap = ct ∧ L + LB = nB + 1 ∧ (∀ j, LB < j → B j = 0) ∧ LB ≤ nB ∧ (∀ n, LB ≤ n → n < nB → (p : Int) ∣ cs B s LB n) ∧ (p : Int) ∣ cs B s LB nB - b)
theorem hasL_congr {p ct l : Nat} {s s2 : Nat → Int} (h : ∀ n, n < ct → s n = s2 n) (hl : hasL p ct l s) : hasL p ct l s2 := by
  obtain ⟨C, c0, hC⟩ := hl
  refine ⟨C, c0, fun n n1 n2 => ?_⟩
  rw [← cs_congr (C := C) (C2 := C) (s := s) (s2 := s2) (fun _ _ => rfl) (fun j hj => h j (by omega))]
  exact hC n n1 n2
theorem hasL_less {p ct l : Nat} {s : Nat → Int} (hl : hasL p (ct + 1) l s) : hasL p ct l s := by
  obtain ⟨C, c0, hC⟩ := hl
  exact ⟨C, c0, fun n n1 n2 => hC n n1 (by omega)⟩
theorem BMi_congr {p ct L gap : Nat} {s s2 C B : Nat → Int} {b : Int} (h : ∀ n, n < ct → s n = s2 n) (m : BMi p ct s L C B gap b) : BMi p ct s2 L C B gap b := by
  obtain ⟨⟨a1, a2, a3, a4⟩, a5, a6, a7, a8⟩ := m
  refine ⟨⟨a1, a2, a3, fun n n1 n2 => ?_⟩, fun l hl => a5 l (hasL_congr (fun n hn => (h n hn).symm) hl), a6, a7, ?_⟩
  · rw [← cs_congr (C := C) (C2 := C) (s := s) (s2 := s2) (fun _ _ => rfl) (fun j hj => h j (by omega))]
    exact a4 n n1 n2
  · rcases a8 with z | ⟨LB, nB, b1, b2, b3, b4, b5, b6⟩
    · exact Or.inl z
    · refine Or.inr ⟨LB, nB, b1, b2, b3, b4, fun n n1 n2 => ?_, ?_⟩
      · rw [← cs_congr (C := B) (C2 := B) (s := s) (s2 := s2) (fun _ _ => rfl) (fun j hj => h j (by omega))]
        exact b5 n n1 n2
      · rw [← cs_congr (C := B) (C2 := B) (s := s) (s2 := s2) (fun _ _ => rfl) (fun j hj => h j (by omega))]
        exact b6
theorem bm_zero {p : Nat} (hp : prm p) {s : Nat → Int} : BMi p 0 s 0 (fun j => if j = 0 then 1 else 0) (fun j => if j = 0 then 1 else 0) 1 1 := by
  refine ⟨⟨rfl, fun j hj => if_neg (by omega), Nat.le_refl 0, fun n _ h => by omega⟩, fun l _ => Nat.zero_le l, Nat.le_refl 1, fun z => ?_, Or.inl ⟨rfl, rfl, fun j hj => if_neg (by omega)⟩⟩
  have := Nat.le_of_dvd (by omega) (Int.ofNat_dvd.mp (show ((p : Nat) : Int) ∣ ((1 : Nat) : Int) from z))
  have := hp.1
  omega
theorem bm_same {p ct L gap : Nat} {s C B : Nat → Int} {b : Int} (m : BMi p ct s L C B gap b) (hd : (p : Int) ∣ cs C s L ct) : BMi p (ct + 1) s L C B (gap + 1) b := by
  obtain ⟨⟨a1, a2, a3, a4⟩, a5, a6, a7, a8⟩ := m
  refine ⟨⟨a1, a2, by omega, fun n n1 n2 => ?_⟩, fun l hl => a5 l (hasL_less hl), by omega, a7, ?_⟩
  · by_cases e : n = ct
    · rw [e]
      exact hd
    · exact a4 n n1 (by omega)
  · rcases a8 with ⟨z1, z2, z3⟩ | ⟨LB, nB, b1, b2, b3⟩
    · exact Or.inl ⟨z1, by omega, z3⟩
    · exact Or.inr ⟨LB, nB, by omega, b2, b3⟩
/-- the sums changed: they go on for one rest more -/
theorem bm_sums {p ct L L2 gap : Nat} {s C B C2 : Nat → Int} {b t : Int} (m : BMi p ct s L C B gap b) (ht : (p : Int) ∣ t * b - cs C s L ct) (h2 : ∀ j, (p : Int) ∣ C2 j - (C j - t * shf gap B j)) (e1 : L ≤ L2) (e2 : ct + 1 ≤ L2 + L) (n : Nat) (n1 : L2 ≤ n) (n2 : n < ct + 1) : (p : Int) ∣ cs C2 s L2 n := by
  obtain ⟨⟨a1, a2, a3, a4⟩, a5, a6, a7, a8⟩ := m
  rcases a8 with ⟨z1, z2, z3⟩ | ⟨LB, nB, b1, b2, b3, b4, b5, b6⟩
  · omega
  obtain ⟨k, hk⟩ := Nat.le.dest e1
  have hc : cs C s L2 n = cs C s L n := by
    rw [← hk]
    exact cs_ext k (fun j h1 _ => a2 j h1)
  obtain ⟨k2, hk2⟩ := Nat.le.dest (show gap + LB ≤ L2 by omega)
  have hb : cs (shf gap B) s L2 n = cs B s LB (n - gap) := by
    rw [← hk2, Nat.add_assoc, cs_shf (by omega)]
    exact cs_ext k2 (fun j h1 _ => b3 j h1)
  have hl := cs_lin (s := s) (L := L2) (n := n) (fun j _ => h2 j)
  rw [hc, hb] at hl
  by_cases en : n = ct
  · rw [en, show ct - gap = nB by omega] at hl
    rw [en]
    have d1 : (p : Int) ∣ cs C s L ct - t * cs B s LB nB := by
      have := Int.dvd_neg.mpr (Int.dvd_add ht (Int.dvd_mul_of_dvd_right (b := t) b6))
      rwa [show -(t * b - cs C s L ct + t * (cs B s LB nB - b)) = cs C s L ct - t * cs B s LB nB by grind] at this
    have := Int.dvd_add hl d1
    rwa [show cs C2 s L2 ct - (cs C s L ct - t * cs B s LB nB) + (cs C s L ct - t * cs B s LB nB) = cs C2 s L2 ct by omega] at this
  · have d1 := a4 n (by omega) (by omega)
    have d2 := b5 (n - gap) (by omega) (by omega)
    have := Int.dvd_add hl (Int.dvd_sub d1 (Int.dvd_mul_of_dvd_right (b := t) d2))
    rwa [show cs C2 s L2 n - (cs C s L n - t * cs B s LB (n - gap)) + (cs C s L n - t * cs B s LB (n - gap)) = cs C2 s L2 n by omega] at this
theorem bm_least {p ct L gap : Nat} {s C B : Nat → Int} {b : Int} (m : BMi p ct s L C B gap b) (hd : ¬ (p : Int) ∣ cs C s L ct) (l : Nat) (hl : hasL p (ct + 1) l s) : L ≤ l ∧ ct + 1 ≤ L + l := by
  obtain ⟨⟨a1, a2, a3, a4⟩, a5, a6, a7, a8⟩ := m
  refine ⟨a5 l (hasL_less hl), ?_⟩
  obtain ⟨C3, c0, hC⟩ := hl
  have := massey a4 hd c0 (fun m m1 m2 => hC m m1 (by omega))
  omega
theorem bm_new {p ct L gap : Nat} {s C B C2 : Nat → Int} {b t w : Int} (m : BMi p ct s L C B gap b) (hd : ¬ (p : Int) ∣ cs C s L ct) (hw : (p : Int) ∣ cs C s L ct - w) (ht : (p : Int) ∣ t * b - cs C s L ct) (h2 : ∀ j, (p : Int) ∣ C2 j - (C j - t * shf gap B j)) (c0 : C2 0 = 1) (hz : ∀ j, L < j → ct + 1 < L + j → C2 j = 0) : (2 * L ≤ ct → BMi p (ct + 1) s (ct + 1 - L) C2 C 1 w) ∧ (¬ 2 * L ≤ ct → BMi p (ct + 1) s L C2 B (gap + 1) b) := by
  obtain ⟨⟨a1, a2, a3, a4⟩, a5, a6, a7, a8⟩ := id m
  constructor
  · intro hL
    refine ⟨⟨c0, fun j hj => hz j (by omega) (by omega), by omega, fun n n1 n2 => bm_sums m ht h2 (by omega) (by omega) n n1 n2⟩, fun l hl => ?_, Nat.le_refl 1, fun z => hd ?_, Or.inr ⟨L, ct, rfl, by omega, a2, a3, a4, hw⟩⟩
    · have := bm_least m hd l hl
      omega
    · have := Int.dvd_add hw z
      rwa [show cs C s L ct - w + w = cs C s L ct by omega] at this
  · intro hL
    refine ⟨⟨c0, fun j hj => hz j hj (by omega), by omega, fun n n1 n2 => bm_sums m ht h2 (Nat.le_refl L) (by omega) n n1 n2⟩, fun l hl => (bm_least m hd l hl).1, by omega, a7, ?_⟩
    rcases a8 with ⟨z1, z2, z3⟩ | ⟨LB, nB, b1, b2, b3⟩
    · omega
    · exact Or.inr ⟨LB, nB, by omega, b2, b3⟩
