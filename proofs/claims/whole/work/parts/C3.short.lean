/-! ===== nets: a shortest row is there, and short ===== -/
def latt (t : Int) (M : Nat) (L : Nat → Int) : Prop := (M : Int) ∣ L 0 + t * L 1 + t * t * L 2 + t * t * t * L 3
def abv (L : Nat → Int) : Prop := 0 < L 0 ∨ (L 0 = 0 ∧ (0 < L 1 ∨ (L 1 = 0 ∧ (0 < L 2 ∨ (L 2 = 0 ∧ 0 < L 3)))))
def r4 (a b c d : Int) (i : Nat) : Int := if i = 0 then a else if i = 1 then b else if i = 2 then c else if i = 3 then d else 0
theorem r4_0 (a b c d : Int) : r4 a b c d 0 = a := rfl
theorem r4_1 (a b c d : Int) : r4 a b c d 1 = b := rfl
theorem r4_2 (a b c d : Int) : r4 a b c d 2 = c := rfl
theorem r4_3 (a b c d : Int) : r4 a b c d 3 = d := rfl
theorem sqN (w r : Nat) : (((w - r) * (w - r) + (r - w) * (r - w) : Nat) : Int) = ((w : Int) - r) * ((w : Int) - r) := by
  by_cases h : w ≤ r
  · obtain ⟨e, he⟩ := Nat.le.dest h
    subst he
    rw [show w - (w + e) = 0 by omega, show w + e - w = e by omega]
    simp only [Int.natCast_add, Int.natCast_mul]
    grind
  · obtain ⟨e, he⟩ := Nat.le.dest (show r ≤ w by omega)
    subst he
    rw [show r - (r + e) = 0 by omega, show r + e - r = e by omega]
    simp only [Int.natCast_add, Int.natCast_mul]
    grind
theorem cen_of {M X Y : Nat} (hM : 0 < M) : ∃ u : Int, (M : Int) ∣ u + ((X : Int) - Y) ∧ u * u = ((mnv M ((X % M + (M - Y % M)) % M) * mnv M ((X % M + (M - Y % M)) % M) : Nat) : Int) := by
  have hX := Nat.div_add_mod X M
  have hY := Nat.div_add_mod Y M
  have hS := Nat.div_add_mod (X % M + (M - Y % M)) M
  have hYl := Nat.mod_lt Y hM
  have hv := Nat.mod_lt (X % M + (M - Y % M)) hM
  generalize (X % M + (M - Y % M)) % M = v at *
  generalize (X % M + (M - Y % M)) / M = s at *
  generalize X % M = x at *
  generalize Y % M = y at *
  generalize X / M = qx at *
  generalize Y / M = qy at *
  have hS2 : (M : Int) * s + v = x + (M - y) := by
    have : ((M * s + v : Nat) : Int) = ((x + (M - y) : Nat) : Int) := congrArg Int.ofNat hS
    rw [Int.natCast_add, Int.natCast_mul, Int.natCast_add, Int.natCast_sub (by omega)] at this
    exact this
  have hX2 : (M : Int) * qx + x = X := by rw [← hX]; simp only [Int.natCast_add, Int.natCast_mul]
  have hY2 : (M : Int) * qy + y = Y := by rw [← hY]; simp only [Int.natCast_add, Int.natCast_mul]
  unfold mnv
  by_cases h : 2 * v ≤ M
  · rw [if_pos h]
    refine ⟨-(v : Int), ⟨(qx : Int) - qy + s - 1, ?_⟩, ?_⟩
    · rw [← hX2, ← hY2]
      grind
    · rw [Int.natCast_mul]
      grind
  · rw [if_neg h]
    refine ⟨(M : Int) - v, ⟨(qx : Int) - qy + s, ?_⟩, ?_⟩
    · rw [← hX2, ← hY2]
      grind
    · rw [Int.natCast_mul, Int.natCast_sub (by omega)]
def okRow (t : Int) (M k : Nat) (B : Int) (L : Nat → Int) : Prop := (∀ i, k ≤ i → i < 4 → L i = 0) ∧ latt t M L ∧ ¬ (L 0 = 0 ∧ L 1 = 0 ∧ L 2 = 0 ∧ L 3 = 0) ∧ sq4 L < B
theorem sq4_r4 (a b c d : Int) : sq4 (r4 a b c d) = a * a + b * b + c * c + d * d := rfl
theorem latt_r4 {t a b c d : Int} {M : Nat} : latt t M (r4 a b c d) ↔ (M : Int) ∣ a + t * b + t * t * c + t * t * t * d := Iff.rfl
theorem row_M {t : Int} {M k : Nat} {B : Int} (hM : 2 ≤ M) (hk : 1 ≤ k) (h : (M : Int) * M < B) : okRow t M k B (r4 M 0 0 0) := by
  refine ⟨fun i h1 h2 => ?_, ?_, fun z => ?_, ?_⟩
  · unfold r4
    repeat' split
    all_goals first | omega | rfl
  · rw [latt_r4]
    exact ⟨1, by grind⟩
  · have := z.1
    rw [r4_0] at this
    omega
  · rw [sq4_r4]
    omega
theorem row_2 {M t w : Nat} (hM : 2 ≤ M) (h : ok2 M t (w % 49) = true) : ∃ L, okRow (t : Int) M 2 625 L := by
  generalize w % 49 = w at *
  unfold ok2 at h
  split at h
  · exact ⟨_, row_M hM (by omega) (by have := Nat.blt_eq.mp h; rw [← Int.natCast_mul]; omega)⟩
  · obtain ⟨u, hu, hu2⟩ := cen_of (M := M) (X := t * w) (Y := t * 24) (by omega)
    have h2 := Nat.blt_eq.mp h
    have h3 := sqN w 24
    refine ⟨r4 u ((w : Int) - 24) 0 0, fun i h1 h2 => ?_, ?_, fun z => ?_, ?_⟩
    · unfold r4
      repeat' split
      all_goals first | omega | rfl
    · rw [latt_r4]
      rw [Int.natCast_mul, Int.natCast_mul] at hu
      rw [show u + (t : Int) * ((w : Int) - 24) + t * t * 0 + t * t * t * 0 = u + ((t : Int) * w - t * ((24 : Nat) : Int)) by grind]
      exact hu
    · have := z.2.1
      rw [r4_1] at this
      omega
    · rw [sq4_r4, hu2]
      have e3 : ((w : Int) - 24) * ((w : Int) - 24) = (((w - 24) * (w - 24) + (24 - w) * (24 - w) : Nat) : Int) := h3.symm
      rw [e3]
      omega
theorem row_3 {M t w : Nat} (hM : 2 ≤ M) (h : ok3 M t (w % 289) = true) : ∃ L, okRow (t : Int) M 3 81 L := by
  generalize w % 289 = w at *
  unfold ok3 at h
  split at h
  · exact ⟨_, row_M hM (by omega) (by have := Nat.blt_eq.mp h; rw [← Int.natCast_mul]; omega)⟩
  · obtain ⟨u, hu, hu2⟩ := cen_of (M := M) (X := t * (w % 17 + t * (w / 17))) (Y := t * (8 + t * 8)) (by omega)
    have h2 := Nat.blt_eq.mp h
    have h3 := sqN (w % 17) 8
    have h4 := sqN (w / 17) 8
    refine ⟨r4 u (((w % 17 : Nat) : Int) - 8) (((w / 17 : Nat) : Int) - 8) 0, fun i h1 h2 => ?_, ?_, fun z => ?_, ?_⟩
    · unfold r4
      repeat' split
      all_goals first | omega | rfl
    · rw [latt_r4]
      simp only [Int.natCast_mul, Int.natCast_add] at hu
      generalize ((w % 17 : Nat) : Int) = A at *
      generalize ((w / 17 : Nat) : Int) = C at *
      rw [show u + (t : Int) * (A - 8) + t * t * (C - 8) + t * t * t * 0 = u + ((t : Int) * (A + t * C) - t * (((8 : Nat) : Int) + t * ((8 : Nat) : Int))) by grind]
      exact hu
    · have z1 := z.2.1
      have z2 := z.2.2.1
      rw [r4_1] at z1
      rw [r4_2] at z2
      omega
    · rw [sq4_r4, hu2]
      have e3 : (((w % 17 : Nat) : Int) - 8) * (((w % 17 : Nat) : Int) - 8) = (((w % 17 - 8) * (w % 17 - 8) + (8 - w % 17) * (8 - w % 17) : Nat) : Int) := h3.symm
      have e4 : (((w / 17 : Nat) : Int) - 8) * (((w / 17 : Nat) : Int) - 8) = (((w / 17 - 8) * (w / 17 - 8) + (8 - w / 17) * (8 - w / 17) : Nat) : Int) := h4.symm
      rw [e3, e4]
      omega
theorem row_4 {M t w : Nat} (hM : 2 ≤ M) (h : ok4 M t (w % 1331) = true) : ∃ L, okRow (t : Int) M 4 36 L := by
  generalize w % 1331 = w at *
  unfold ok4 at h
  split at h
  · exact ⟨_, row_M hM (by omega) (by have := Nat.blt_eq.mp h; rw [← Int.natCast_mul]; omega)⟩
  · obtain ⟨u, hu, hu2⟩ := cen_of (M := M) (X := t * (w % 11 + t * (w / 11 % 11 + t * (w / 121)))) (Y := t * (5 + t * (5 + t * 5))) (by omega)
    have h2 := Nat.blt_eq.mp h
    have h3 := sqN (w % 11) 5
    have h4 := sqN (w / 11 % 11) 5
    have h5 := sqN (w / 121) 5
    refine ⟨r4 u (((w % 11 : Nat) : Int) - 5) (((w / 11 % 11 : Nat) : Int) - 5) (((w / 121 : Nat) : Int) - 5), fun i h1 h2 => by omega, ?_, fun z => ?_, ?_⟩
    · rw [latt_r4]
      simp only [Int.natCast_mul, Int.natCast_add] at hu
      generalize ((w % 11 : Nat) : Int) = A at *
      generalize ((w / 11 % 11 : Nat) : Int) = C at *
      generalize ((w / 121 : Nat) : Int) = E at *
      rw [show u + (t : Int) * (A - 5) + t * t * (C - 5) + t * t * t * (E - 5) = u + ((t : Int) * (A + t * (C + t * E)) - t * (((5 : Nat) : Int) + t * (((5 : Nat) : Int) + t * ((5 : Nat) : Int)))) by grind]
      exact hu
    · have z1 := z.2.1
      have z2 := z.2.2.1
      have z3 := z.2.2.2
      rw [r4_1] at z1
      rw [r4_2] at z2
      rw [r4_3] at z3
      omega
    · rw [sq4_r4, hu2]
      have e3 : (((w % 11 : Nat) : Int) - 5) * (((w % 11 : Nat) : Int) - 5) = (((w % 11 - 5) * (w % 11 - 5) + (5 - w % 11) * (5 - w % 11) : Nat) : Int) := h3.symm
      have e4 : (((w / 11 % 11 : Nat) : Int) - 5) * (((w / 11 % 11 : Nat) : Int) - 5) = (((w / 11 % 11 - 5) * (w / 11 % 11 - 5) + (5 - w / 11 % 11) * (5 - w / 11 % 11) : Nat) : Int) := h4.symm
      have e5 : (((w / 121 : Nat) : Int) - 5) * (((w / 121 : Nat) : Int) - 5) = (((w / 121 - 5) * (w / 121 - 5) + (5 - w / 121) * (5 - w / 121) : Nat) : Int) := h5.symm
      rw [e3, e4, e5]
      omega
theorem row_flip {t : Int} {M k : Nat} {B : Int} {L : Nat → Int} (h : okRow ((M : Int) - t) M k B L) : okRow t M k B (r4 (L 0) (-(L 1)) (L 2) (-(L 3))) := by
  obtain ⟨h1, ⟨q, h2⟩, h3, h4⟩ := h
  refine ⟨fun i i1 i2 => ?_, ?_, fun z => h3 ?_, ?_⟩
  · have := h1 i i1 i2
    have hc : i = 0 ∨ i = 1 ∨ i = 2 ∨ i = 3 := by omega
    rcases hc with e | e | e | e <;> subst e
    · exact this
    · rw [r4_1, this]
      rfl
    · exact this
    · rw [r4_3, this]
      rfl
  · rw [latt_r4]
    refine ⟨q - (L 1 + (M - 2 * t) * L 2 + (M * M - 3 * M * t + 3 * t * t) * L 3), ?_⟩
    grind
  · rw [r4_0, r4_1, r4_2, r4_3] at z
    exact ⟨z.1, by omega, z.2.2.1, by omega⟩
  · rw [sq4_r4]
    unfold sq4 at h4
    rw [show L 0 * L 0 + -(L 1) * -(L 1) + L 2 * L 2 + -(L 3) * -(L 3) = L 0 * L 0 + L 1 * L 1 + L 2 * L 2 + L 3 * L 3 by grind]
    exact h4
def bndK (k : Nat) : Int := if k = 2 then 625 else if k = 3 then 81 else 36
theorem row_any {M t k : Nat} (hM : 2 ≤ M) (hM2 : M ≤ 500) (ht : t < M) (k2 : 2 ≤ k) (k4 : k ≤ 4) : ∃ L, okRow (t : Int) M k (bndK k) L := by
  have half : ∀ s, 2 * s ≤ M → ∃ L, okRow (s : Int) M k (bndK k) L := fun s hs => by
    have hc : k = 2 ∨ k = 3 ∨ k = 4 := by omega
    rcases hc with e | e | e <;> subst e
    · obtain ⟨w, hw⟩ := wt2 hM hM2 hs
      exact row_2 hM hw
    · obtain ⟨w, hw⟩ := wt3 hM hM2 hs
      exact row_3 hM hw
    · obtain ⟨w, hw⟩ := wt4 hM hM2 hs
      exact row_4 hM hw
  by_cases h : 2 * t ≤ M
  · exact half t h
  · obtain ⟨L, hL⟩ := half (M - t) (by omega)
    rw [Int.natCast_sub (by omega)] at hL
    exact ⟨_, row_flip hL⟩
theorem row_sign {t : Int} {M k : Nat} {B : Int} {L : Nat → Int} (h : okRow t M k B L) : ∃ L2, lnOk t M k L2 ∧ sq4 L2 < B := by
  obtain ⟨h1, h2, h3, h4⟩ := h
  by_cases hp : abv L
  · exact ⟨L, ⟨h1, h2, hp⟩, h4⟩
  · refine ⟨fun i => -(L i), ⟨fun i i1 i2 => by show -(L i) = 0; rw [h1 i i1 i2]; rfl, ?_, ?_⟩, ?_⟩
    · show (M : Int) ∣ -(L 0) + t * -(L 1) + t * t * -(L 2) + t * t * t * -(L 3)
      rw [show -(L 0) + t * -(L 1) + t * t * -(L 2) + t * t * t * -(L 3) = -(L 0 + t * L 1 + t * t * L 2 + t * t * t * L 3) by grind]
      exact Int.dvd_neg.mpr h2
    · show 0 < -(L 0) ∨ (-(L 0) = 0 ∧ (0 < -(L 1) ∨ (-(L 1) = 0 ∧ (0 < -(L 2) ∨ (-(L 2) = 0 ∧ 0 < -(L 3))))))
      unfold abv at hp
      omega
    · show -(L 0) * -(L 0) + -(L 1) * -(L 1) + -(L 2) * -(L 2) + -(L 3) * -(L 3) < B
      unfold sq4 at h4
      rw [show -(L 0) * -(L 0) + -(L 1) * -(L 1) + -(L 2) * -(L 2) + -(L 3) * -(L 3) = L 0 * L 0 + L 1 * L 1 + L 2 * L 2 + L 3 * L 3 by grind]
      exact h4
theorem int_least {Q : Int → Prop} {s : Int} (hb : ∀ x, Q x → -s ≤ x) (h : ∃ x, Q x) : ∃ m, Q m ∧ ∀ x, Q x → m ≤ x := by
  obtain ⟨x0, hx0⟩ := h
  obtain ⟨n, n1, n2⟩ := least_ex (P := fun n : Nat => Q ((n : Int) - s)) ⟨(x0 + s).toNat, by
    have := hb x0 hx0
    show Q (((x0 + s).toNat : Int) - s)
    rw [Int.toNat_of_nonneg (by omega), show x0 + s - s = x0 by omega]
    exact hx0⟩
  refine ⟨_, n1, fun x hx => ?_⟩
  have b := hb x hx
  by_cases c : (n : Int) - s ≤ x
  · exact c
  · refine absurd ?_ (n2 (x + s).toNat (by omega))
    show Q (((x + s).toNat : Int) - s)
    rw [Int.toNat_of_nonneg (by omega), show x + s - s = x by omega]
    exact hx
theorem lex_min {P : (Nat → Int) → Prop} {s : Int} (hb : ∀ L, P L → ∀ i, i < 4 → -s ≤ L i) (h : ∃ L, P L) : ∃ L, P L ∧ ∀ L2, P L2 → ¬ lexlt L2 L := by
  obtain ⟨m0, ⟨L0, p0, e0⟩, l0⟩ := int_least (Q := fun x => ∃ L, P L ∧ L 0 = x) (s := s) (fun x ⟨L, hL, e⟩ => e ▸ hb L hL 0 (by omega)) (by obtain ⟨L, hL⟩ := h; exact ⟨_, L, hL, rfl⟩)
  obtain ⟨m1, ⟨L1, p1, e1⟩, l1⟩ := int_least (Q := fun x => ∃ L, (P L ∧ L 0 = m0) ∧ L 1 = x) (s := s) (fun x ⟨L, hL, e⟩ => e ▸ hb L hL.1 1 (by omega)) ⟨_, L0, ⟨p0, e0⟩, rfl⟩
  obtain ⟨m2, ⟨L2, p2, e2⟩, l2⟩ := int_least (Q := fun x => ∃ L, (P L ∧ L 0 = m0 ∧ L 1 = m1) ∧ L 2 = x) (s := s) (fun x ⟨L, hL, e⟩ => e ▸ hb L hL.1 2 (by omega)) ⟨_, L1, ⟨p1.1, p1.2, e1⟩, rfl⟩
  obtain ⟨m3, ⟨L3, p3, e3⟩, l3⟩ := int_least (Q := fun x => ∃ L, (P L ∧ L 0 = m0 ∧ L 1 = m1 ∧ L 2 = m2) ∧ L 3 = x) (s := s) (fun x ⟨L, hL, e⟩ => e ▸ hb L hL.1 3 (by omega)) ⟨_, L2, ⟨p2.1, p2.2.1, p2.2.2, e2⟩, rfl⟩
  obtain ⟨q1, q2, q3, q4⟩ := p3
  refine ⟨L3, q1, fun K hK hlt => ?_⟩
  unfold lexlt at hlt
  rw [q2, q3, q4, e3] at hlt
  rcases hlt with z | ⟨z0, z | ⟨z1, z | ⟨z2, z⟩⟩⟩
  · have := l0 _ ⟨K, hK, rfl⟩
    omega
  · have := l1 _ ⟨K, ⟨hK, z0⟩, rfl⟩
    omega
  · have := l2 _ ⟨K, ⟨hK, z0, z1⟩, rfl⟩
    omega
  · have := l3 _ ⟨K, ⟨hK, z0, z1, z2⟩, rfl⟩
    omega
theorem sq_nn (x : Int) : 0 ≤ x * x := by
  rcases Int.le_total 0 x with h | h
  · exact Int.mul_nonneg h h
  · exact Int.mul_nonneg_of_nonpos_of_nonpos h h
theorem sq_ge (x : Int) : -(x * x) ≤ x ∧ x ≤ x * x := by
  rcases Int.lt_trichotomy x 0 with h | h | h
  · have := Int.mul_nonneg_of_nonpos_of_nonpos (show x ≤ 0 by omega) (show x + 1 ≤ 0 by omega)
    rw [show x * (x + 1) = x * x + x by grind] at this
    omega
  · rw [h]
    omega
  · have := Int.mul_nonneg (show 0 ≤ x by omega) (show 0 ≤ x - 1 by omega)
    rw [show x * (x - 1) = x * x - x by grind] at this
    omega
theorem short_ex {t : Int} {M k : Nat} (h : ∃ L, lnOk t M k L) : ∃ sq L, isShort t M k sq L := by
  have nn : ∀ L : Nat → Int, 0 ≤ sq4 L := fun L => by
    unfold sq4
    have := sq_nn (L 0)
    have := sq_nn (L 1)
    have := sq_nn (L 2)
    have := sq_nn (L 3)
    omega
  obtain ⟨s, ⟨L1, p1, e1⟩, ls⟩ := int_least (Q := fun x => ∃ L, lnOk t M k L ∧ sq4 L = x) (s := 0) (fun x ⟨L, _, e⟩ => by have := nn L; omega) (by obtain ⟨L, hL⟩ := h; exact ⟨_, L, hL, rfl⟩)
  obtain ⟨L, ⟨p2, e2⟩, l2⟩ := lex_min (P := fun L => lnOk t M k L ∧ sq4 L = s) (s := s) (fun L hL i hi => by
    have z := hL.2
    unfold sq4 at z
    have := sq_nn (L 0)
    have := sq_nn (L 1)
    have := sq_nn (L 2)
    have := sq_nn (L 3)
    have := sq_ge (L i)
    have hc : i = 0 ∨ i = 1 ∨ i = 2 ∨ i = 3 := by omega
    rcases hc with e | e | e | e <;> subst e <;> omega) ⟨L1, p1, e1⟩
  refine ⟨s, L, p2, e2.symm, fun K hK => ?_⟩
  have := ls _ ⟨K, hK, rfl⟩
  by_cases c : s = sq4 K
  · exact Or.inr ⟨c, l2 K ⟨hK, c.symm⟩⟩
  · exact Or.inl (by omega)
theorem short_bd {t : Int} {M k : Nat} {sq : Int} {L : Nat → Int} (hM : 2 ≤ M) (hM2 : M ≤ 500) (ht : 0 ≤ t ∧ t < M) (k2 : 2 ≤ k) (k4 : k ≤ 4) (h : isShort t M k sq L) : 0 < sq ∧ sq < bndK k ∧ sq < (M : Int) * M := by
  obtain ⟨n, rfl⟩ : ∃ n : Nat, t = (n : Int) := ⟨t.toNat, by omega⟩
  refine ⟨?_, ?_, ?_⟩
  · have z := h.2.1
    have y := h.1.2.2
    unfold sq4 at z
    have := sq_ge (L 0)
    have := sq_ge (L 1)
    have := sq_ge (L 2)
    have := sq_ge (L 3)
    omega
  · obtain ⟨K, hK⟩ := row_any (t := n) hM hM2 (by omega) k2 k4
    obtain ⟨K2, q1, q2⟩ := row_sign hK
    have := h.2.2 K2 q1
    omega
  · have hm : (n : Int) * n + 1 < (M : Int) * M := by
      have := Int.mul_le_mul (show (n : Int) ≤ M - 1 by omega) (show (n : Int) ≤ M - 1 by omega) (by omega) (by omega)
      rw [show ((M : Int) - 1) * (M - 1) = M * M - 2 * M + 1 by grind] at this
      omega
    obtain ⟨K2, q1, q2⟩ := row_sign (t := (n : Int)) (M := M) (k := k) (B := (M : Int) * M) (L := r4 n (-1) 0 0) ⟨fun i i1 i2 => by
      have hc : i = 2 ∨ i = 3 := by omega
      rcases hc with e | e <;> subst e <;> rfl, by
      rw [latt_r4]
      exact ⟨0, by grind⟩, fun z => by
      have := z.2.1
      rw [r4_1] at this
      omega, by
      rw [sq4_r4]
      omega⟩
    have := h.2.2 K2 q1
    omega
theorem short_all {t : Int} {M k : Nat} (hM : 2 ≤ M) (hM2 : M ≤ 500) (ht : 0 ≤ t ∧ t < M) (k2 : 2 ≤ k) (k4 : k ≤ 4) : ∃ sq L, isShort t M k sq L := by
  obtain ⟨n, rfl⟩ : ∃ n : Nat, t = (n : Int) := ⟨t.toNat, by omega⟩
  obtain ⟨K, hK⟩ := row_any (t := n) hM hM2 (by omega) k2 k4
  obtain ⟨K2, q1, q2⟩ := row_sign hK
  exact short_ex ⟨K2, q1⟩
theorem lex_tot {A B : Nat → Int} (h : ¬ (A 0 = B 0 ∧ A 1 = B 1 ∧ A 2 = B 2 ∧ A 3 = B 3)) : lexlt A B ∨ lexlt B A := by
  unfold lexlt
  omega
theorem lex_irr {A : Nat → Int} : ¬ lexlt A A := by
  unfold lexlt
  omega
