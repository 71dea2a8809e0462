/-! ===== systems with rows and columns crossed out ===== -/
def cof (n : Nat) (Pv : Nat → Int) : List Nat := (List.range n).filter (fun c => decide (Pv c = 0))
theorem cof_mem {n c : Nat} {Pv : Nat → Int} : c ∈ cof n Pv ↔ c < n ∧ Pv c = 0 := by
  unfold cof
  rw [List.mem_filter, List.mem_range]
  simp
theorem cof_nd {n : Nat} {Pv : Nat → Int} : (cof n Pv).Nodup := List.nodup_range.sublist List.filter_sublist
theorem cof_step {n c : Nat} {Pv : Nat → Int} (hc : c < n) (h0 : Pv c = 0) : (cof n Pv).Perm (c :: cof n (va_up Pv c 1)) := by
  refine (List.perm_ext_iff_of_nodup cof_nd (List.nodup_cons.mpr ⟨fun z => ?_, cof_nd⟩)).mpr (fun a => ?_)
  · have := (cof_mem.mp z).2
    rw [va_up_self] at this
    omega
  · rw [cof_mem, List.mem_cons, cof_mem]
    by_cases ha : a = c
    · subst ha
      exact ⟨fun _ => Or.inl rfl, fun _ => ⟨hc, h0⟩⟩
    · rw [va_up_ne _ _ ha]
      exact ⟨fun z => Or.inr z, fun z => z.resolve_left ha⟩
theorem cof_len {n c : Nat} {Pv : Nat → Int} (hc : c < n) (h0 : Pv c = 0) : (cof n Pv).length = (cof n (va_up Pv c 1)).length + 1 := (cof_step hc h0).length_eq
def sysP (q n : Nat) (Rk Pv : Nat → Int) (F : Nat → Nat → Int) (y : Nat → Int) : Prop := ∀ r, r < n → Rk r = 0 → (q : Int) ∣ lsm (cof n Pv) (fun c => F r c * y c) - F r n
noncomputable def SPx (q n : Nat) (Rk Pv : Nat → Int) (F : Nat → Nat → Int) : Nat := sm q (cof n Pv) (fun y => ind (sysP q n Rk Pv F y)) (fun _ => 0)
theorem cof_0 {n : Nat} {Pv : Nat → Int} (h : ∀ c, c < n → Pv c = 0) : cof n Pv = List.range' 0 n := by
  unfold cof
  rw [List.filter_eq_self.mpr (fun c hc => by rw [h c (List.mem_range.mp hc)]; rfl), List.range_eq_range']
theorem SPx_0 {q n : Nat} {Rk Pv : Nat → Int} {F : Nat → Nat → Int} (h1 : ∀ r, r < n → Rk r = 0) (h2 : ∀ c, c < n → Pv c = 0) : SPx q n Rk Pv F = SS q 0 n F := by
  unfold SPx SS
  rw [cof_0 h2, Nat.sub_zero]
  refine sm_congr _ _ (fun y => ind_congr ?_)
  unfold sysP sysI eqn
  rw [cof_0 h2, Nat.sub_zero]
  constructor
  · intro z r _ r2
    have := z r r2 (h1 r r2)
    rw [← ss_lsm] at this
    exact this
  · intro z r r2 _
    have := z r (Nat.zero_le _) r2
    rw [ss_lsm] at this
    exact this
theorem lsm_dvd {g : Int} {f : Nat → Int} : ∀ {l : List Nat}, (∀ c ∈ l, g ∣ f c) → g ∣ lsm l f
  | [], _ => Int.dvd_zero _
  | x :: l, h => Int.dvd_add (h x List.mem_cons_self) (lsm_dvd (l := l) (fun c hc => h c (List.mem_cons_of_mem _ hc)))
theorem lsm_congr {f k : Nat → Int} : ∀ {l : List Nat}, (∀ c ∈ l, f c = k c) → lsm l f = lsm l k
  | [], _ => rfl
  | x :: l, h => by
    show f x + lsm l f = k x + lsm l k
    rw [h x List.mem_cons_self, lsm_congr (l := l) (fun c hc => h c (List.mem_cons_of_mem _ hc))]
theorem lsm_lin (a : Int) (f k : Nat → Int) : ∀ l : List Nat, lsm l (fun c => f c - a * k c) = lsm l f - a * lsm l k
  | [] => by simp [lsm]
  | x :: l => by
    show f x - a * k x + lsm l (fun c => f c - a * k c) = f x + lsm l f - a * (k x + lsm l k)
    rw [lsm_lin a f k l]
    grind
/-- no solution -/
theorem SPx_none {q n g r0 : Nat} {Rk Pv : Nat → Int} {F : Nat → Nat → Int} (hr : r0 < n) (hk : Rk r0 = 0) (hgq : g ∣ q) (hd : ∀ c, c < n → Pv c = 0 → (g : Int) ∣ F r0 c) (hn : ¬ (g : Int) ∣ F r0 n) : SPx q n Rk Pv F = 0 := by
  unfold SPx
  rw [sm_congr (g := fun _ => 0 * 0) _ _ (fun y => ind_f (fun z => hn ?_)), sm_mul, Nat.zero_mul]
  have h1 := Int.dvd_trans (Int.ofNat_dvd.mpr hgq) (z r0 hr hk)
  have h2 : (g : Int) ∣ lsm (cof n Pv) (fun c => F r0 c * y c) := lsm_dvd (fun c hc => Int.dvd_mul_of_dvd_left (hd c (cof_mem.mp hc).1 (cof_mem.mp hc).2))
  have h3 := Int.dvd_sub h2 h1
  rw [show lsm (cof n Pv) (fun c => F r0 c * y c) - (lsm (cof n Pv) (fun c => F r0 c * y c) - F r0 n) = F r0 n by omega] at h3
  exact h3
theorem SPx_step {q n g m r0 c0 : Nat} {Rk Pv t : Nat → Int} {F G : Nat → Nat → Int} (hr : r0 < n) (hk : Rk r0 = 0) (hc : c0 < n) (hv : Pv c0 = 0) (hq : q = g * m) (hg : 0 < g) (hm : 0 < m) {u w : Int} (hu : (m : Int) ∣ w * u - 1) (hp : F r0 c0 = g * u) (hd : ∀ c, c < n → Pv c = 0 → (g : Int) ∣ F r0 c) (hb : (g : Int) ∣ F r0 n)
    (hG : ∀ r, r < n → r ≠ r0 → Rk r = 0 → ∀ c, c ≤ n → (q : Int) ∣ G r c - (F r c - t r * F r0 c)) (hz : ∀ r, r < n → r ≠ r0 → Rk r = 0 → (q : Int) ∣ G r c0) : SPx q n Rk Pv F = g * SPx q n (va_up Rk r0 1) (va_up Pv c0 1) G := by
  have hperm := cof_step hc hv
  have hsplit : ∀ f : Nat → Int, lsm (cof n Pv) f = f c0 + lsm (cof n (va_up Pv c0 1)) f := fun f => lsm_perm hperm f
  have hmem : ∀ c, c ∈ cof n (va_up Pv c0 1) → c < n ∧ c ≠ c0 ∧ Pv c = 0 := fun c hc2 => by
    obtain ⟨a1, a2⟩ := cof_mem.mp hc2
    by_cases h : c = c0
    · rw [h, va_up_self] at a2
      omega
    · rw [va_up_ne _ _ h] at a2
      exact ⟨a1, h, a2⟩
  have h1 : ∀ y, sysP q n Rk Pv F y ↔ ((q : Int) ∣ g * u * y c0 + lsm (cof n (va_up Pv c0 1)) (fun c => F r0 c * y c) - F r0 n ∧ sysP q n (va_up Rk r0 1) (va_up Pv c0 1) G y) := by
    intro y
    have hrow : ∀ r, r < n → r ≠ r0 → Rk r = 0 → (q : Int) ∣ lsm (cof n Pv) (fun c => F r0 c * y c) - F r0 n → ((q : Int) ∣ lsm (cof n Pv) (fun c => F r c * y c) - F r n ↔ (q : Int) ∣ lsm (cof n (va_up Pv c0 1)) (fun c => G r c * y c) - G r n) := by
      intro r r1 r2 r3 z0
      have e1 : (q : Int) ∣ lsm (cof n Pv) (fun c => (G r c - (F r c - t r * F r0 c)) * y c) := lsm_dvd (fun c hc2 => Int.dvd_mul_of_dvd_left (hG r r1 r2 r3 c (by have := (cof_mem.mp hc2).1; omega)))
      have e2 : lsm (cof n Pv) (fun c => (G r c - (F r c - t r * F r0 c)) * y c) = lsm (cof n Pv) (fun c => G r c * y c) - (lsm (cof n Pv) (fun c => F r c * y c) - t r * lsm (cof n Pv) (fun c => F r0 c * y c)) := by
        rw [lsm_congr (k := fun c => (G r c * y c) - 1 * ((F r c * y c) - t r * (F r0 c * y c))) (fun c _ => by grind), lsm_lin, lsm_lin, Int.one_mul]
      have e3 := hsplit (fun c => G r c * y c)
      have e4 := hG r r1 r2 r3 n (Nat.le_refl n)
      have e5 : (q : Int) ∣ G r c0 * y c0 := Int.dvd_mul_of_dvd_left (hz r r1 r2 r3)
      rw [e2, e3] at e1
      generalize lsm (cof n Pv) (fun c => F r c * y c) = A at *
      generalize lsm (cof n Pv) (fun c => F r0 c * y c) = B at *
      generalize lsm (cof n (va_up Pv c0 1)) (fun c => G r c * y c) = C at *
      constructor
      · intro z
        have : C - G r n = (G r c0 * y c0 + C - (A - t r * B)) - G r c0 * y c0 + (A - F r n) - t r * (B - F r0 n) - (G r n - (F r n - t r * F r0 n)) := by grind
        rw [this]
        exact Int.dvd_sub (Int.dvd_sub (Int.dvd_add (Int.dvd_sub e1 e5) z) (Int.dvd_mul_of_dvd_right z0)) e4
      · intro z
        have : A - F r n = (C - G r n) - (G r c0 * y c0 + C - (A - t r * B)) + G r c0 * y c0 + t r * (B - F r0 n) + (G r n - (F r n - t r * F r0 n)) := by grind
        rw [this]
        exact Int.dvd_add (Int.dvd_add (Int.dvd_add (Int.dvd_sub z e1) e5) (Int.dvd_mul_of_dvd_right z0)) e4
    have h0 : lsm (cof n Pv) (fun c => F r0 c * y c) = g * u * y c0 + lsm (cof n (va_up Pv c0 1)) (fun c => F r0 c * y c) := by rw [hsplit (fun c => F r0 c * y c), hp]
    constructor
    · intro z
      have z0 := z r0 hr hk
      refine ⟨by rw [← h0]; exact z0, fun r r1 r2 => ?_⟩
      have hne : r ≠ r0 := fun e => by rw [e, va_up_self] at r2; omega
      rw [va_up_ne _ _ hne] at r2
      exact (hrow r r1 hne r2 z0).mp (z r r1 r2)
    · rintro ⟨z0, z⟩ r r1 r2
      rw [← h0] at z0
      by_cases hne : r = r0
      · rw [hne]
        exact z0
      · exact (hrow r r1 hne r2 z0).mpr (z r r1 (by rw [va_up_ne _ _ hne]; exact r2))
  unfold SPx
  rw [sm_congr (g := fun y => ind ((q : Int) ∣ g * u * y c0 + lsm (cof n (va_up Pv c0 1)) (fun c => F r0 c * y c) - F r0 n ∧ sysP q n (va_up Rk r0 1) (va_up Pv c0 1) G y)) _ _ (fun y => ind_congr (h1 y)), sm_perm hperm]
  have hup : ∀ (y : Nat → Int) (a : Int) (f : Nat → Int), lsm (cof n (va_up Pv c0 1)) (fun c => f c * va_up y c0 a c) = lsm (cof n (va_up Pv c0 1)) (fun c => f c * y c) := fun y a f => lsm_congr (fun c hc2 => by rw [va_up_ne _ _ (hmem c hc2).2.1])
  rw [sm_pivot (L := fun y => lsm (cof n (va_up Pv c0 1)) (fun c => F r0 c * y c)) (P := fun y => sysP q n (va_up Rk r0 1) (va_up Pv c0 1) G y) hq hg hm hu (fun y a => hup y a (F r0)) (fun y => lsm_dvd (fun c hc2 => Int.dvd_mul_of_dvd_left (hd c (hmem c hc2).1 (hmem c hc2).2.2))) (fun y a => ?_) _, if_pos hb]
  unfold sysP
  constructor
  · intro z r r1 r2
    have := z r r1 r2
    rw [hup y a (G r)] at this
    exact this
  · intro z r r1 r2
    rw [hup y a (G r)]
    exact z r r1 r2
theorem sm_const {q : Nat} (c : Nat) : ∀ (vs : List Nat) (x : Nat → Int), sm q vs (fun _ => c) x = q ^ vs.length * c
  | [], _ => by show c = 1 * c; rw [Nat.one_mul]
  | v :: vs, x => by
    show sm q vs (fun y => sN (fun _ => c) q) x = q ^ (vs.length + 1) * c
    rw [sm_congr (g := fun _ => q * c) vs x (fun y => sN_const c q), sm_const (q * c) vs x, Nat.pow_succ, Nat.mul_assoc]
/-- nothing but noughts is left -/
theorem SPx_stays {q n : Nat} {Rk Pv : Nat → Int} {F : Nat → Nat → Int} (hd : ∀ r, r < n → Rk r = 0 → ∀ c, c < n → Pv c = 0 → (q : Int) ∣ F r c) : ((∀ r, r < n → Rk r = 0 → (q : Int) ∣ F r n) → SPx q n Rk Pv F = q ^ (cof n Pv).length) ∧ ((¬ ∀ r, r < n → Rk r = 0 → (q : Int) ∣ F r n) → SPx q n Rk Pv F = 0) := by
  have h1 : ∀ y, sysP q n Rk Pv F y ↔ ∀ r, r < n → Rk r = 0 → (q : Int) ∣ F r n := by
    intro y
    refine forall_congr' fun r => imp_congr_right fun r1 => imp_congr_right fun r2 => ?_
    have h2 : (q : Int) ∣ lsm (cof n Pv) (fun c => F r c * y c) := lsm_dvd (fun c hc => Int.dvd_mul_of_dvd_left (hd r r1 r2 c (cof_mem.mp hc).1 (cof_mem.mp hc).2))
    constructor
    · intro z
      have h3 := Int.dvd_sub h2 z
      rw [show lsm (cof n Pv) (fun c => F r c * y c) - (lsm (cof n Pv) (fun c => F r c * y c) - F r n) = F r n by omega] at h3
      exact h3
    · exact fun z => Int.dvd_sub h2 z
  constructor
  · intro h
    unfold SPx
    rw [sm_congr (g := fun _ => 1) _ _ (fun y => ind_t ((h1 y).mpr h)), sm_const, Nat.mul_one]
  · intro h
    unfold SPx
    rw [sm_congr (g := fun _ => 0) _ _ (fun y => ind_f (fun z => h ((h1 y).mp z))), sm_const, Nat.mul_zero]
theorem SPx_end {q n : Nat} {Rk Pv : Nat → Int} {F : Nat → Nat → Int} (h : ∀ r, r < n → ¬ Rk r = 0) (hc : (cof n Pv).length = 0) : SPx q n Rk Pv F = 1 := by
  have hnil : cof n Pv = [] := List.eq_nil_of_length_eq_zero hc
  unfold SPx
  rw [hnil]
  exact ind_t (fun r r1 r2 => absurd r2 (h r r1))
