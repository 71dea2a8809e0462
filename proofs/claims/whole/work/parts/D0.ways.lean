/-! ===== the picture's ways: what is seen of all of them ===== -/
theorem sb_all : ∀ a : Nat, a < 256 → sb (a : Int) = if a < 128 then (a : Int) else (a : Int) - 256 := by decide +kernel
theorem sb_neg : ∀ a : Nat, a < 129 → sb (-(a : Int)) = -(a : Int) := by decide +kernel
theorem sb_val {v : Int} (h : 0 ≤ v ∧ v ≤ 255) : sb v = if v < 128 then v else v - 256 := by
  obtain ⟨n, rfl⟩ : ∃ n : Nat, v = (n : Int) := ⟨v.toNat, by omega⟩
  rw [sb_all n (by omega)]
  by_cases c : n < 128
  · rw [if_pos c, if_pos (by omega)]
  · rw [if_neg c, if_neg (by omega)]
theorem sb_inj {a b : Int} (ha : 0 ≤ a ∧ a ≤ 255) (hb : 0 ≤ b ∧ b ≤ 255) (h : sb a = sb b) : a = b := by
  rw [sb_val ha, sb_val hb] at h
  split at h <;> split at h <;> omega
theorem sb_bd {a : Int} (ha : 0 ≤ a ∧ a ≤ 255) : -128 ≤ sb a ∧ sb a ≤ 127 := by
  rw [sb_val ha]
  split <;> omega
theorem sb_idem {a : Int} (ha : 0 ≤ a ∧ a ≤ 255) : sb (sb a) = sb a := by
  have hb := sb_bd ha
  by_cases c : 0 ≤ sb a
  · rw [sb_val (v := sb a) (by omega), if_pos (by omega)]
  · have z := sb_neg (-(sb a)).toNat (by omega)
    rwa [show -(((-(sb a)).toNat : Nat) : Int) = sb a by omega] at z
/-- what the marks and the number say so far -/
def SNv (M : Nat) (T K Sn : Nat → Int) (al : Nat) : Prop := (∀ c, inP M c → Sn c = 0 ∨ Sn c = 1) ∧ (∀ c, inP M c → Sn (fc M (stB M T 1) c) = Sn c) ∧ 1 ≤ al ∧ ∀ R, al ∣ R ↔ ∀ c, inP M c → Sn c = 1 → K (wy M T c R) = K c
theorem SNv_zero {M : Nat} {T K Sn : Nat → Int} (h : ∀ c, c < 4096 → Sn c = 0) (hM : 2 ≤ M) (hM2 : M ≤ 64) : SNv M T K Sn 1 := by
  refine ⟨fun c hc => Or.inl (h c (inP_lt hM2 hc)), fun c hc => ?_, Nat.le_refl 1, fun R => ⟨fun _ c hc e => ?_, fun _ => Nat.one_dvd R⟩⟩
  · rw [h c (inP_lt hM2 hc), h _ (inP_lt hM2 (fc_in (by omega) hM2 c).1)]
  · rw [h c (inP_lt hM2 hc)] at e
    omega
theorem SNv_way {M : Nat} {T K Sn : Nat → Int} {al c : Nat} (hM : 2 ≤ M) (hM2 : M ≤ 64) (s : SNv M T K Sn al) (hc : inP M c) : ∀ k, Sn (wy M T c k) = Sn c
  | 0 => by rw [wy_0 hM hc]
  | k + 1 => by
    rw [wy_succ hM hM2, s.2.1 _ (wy_in hM hM2 k)]
    exact SNv_way hM hM2 s hc k
theorem fc_inj {M W : Nat} {T : Nat → Int} (hM : 2 ≤ M) (hM2 : M ≤ 64) (hW : isPer (mp 3 M (au 2 T)) 0 W) {c c2 : Nat} (h1 : inP M c) (h2 : inP M c2) (e : fc M (stB M T 1) c = fc M (stB M T 1) c2) : c = c2 := by
  have e0 : stB M T (bck W 1 + 1) = stB M T 0 := by
    have := (hW.2 (bck W 1 + 1)).mpr (bck_dvd hW.1 1)
    rwa [Nat.zero_add] at this
  have a := fc_add (T := T) hM hM2 (bck W 1) 1 c
  have b := fc_add (T := T) hM hM2 (bck W 1) 1 c2
  rw [e0, fc_zero hM h1] at a
  rw [e0, fc_zero hM h2] at b
  rw [a, b, e]
theorem wy_mod {M n c : Nat} {T : Nat → Int} (hM : 2 ≤ M) (hM2 : M ≤ 64) (hn : isPer (wy M T c) 0 n) (a : Nat) : wy M T c a = wy M T c (a % n) := by
  have h1 := detm_mul (wy_det (T := T) (c := c) hM hM2) ((hn.2 n).mpr (Nat.dvd_refl n)) (a / n)
  have h2 := detm_add (wy_det (T := T) (c := c) hM hM2) h1 (a % n)
  have h3 := Nat.div_add_mod a n
  rw [Nat.zero_add, Nat.zero_add, Nat.mul_comm, h3] at h2
  exact h2
theorem rep_iff {M n c e : Nat} {T K : Nat → Int} (hM : 2 ≤ M) (hM2 : M ≤ 64) (hn : isPer (wy M T c) 0 n) (he : isPer (clr M T K c) 0 e) (q : Nat) : (∀ k, k < n → K (wy M T c k) = K (wy M T c ((k + q) % n))) ↔ e ∣ q := by
  rw [← he.2 q]
  have n1 := hn.1
  constructor
  · intro h
    funext k
    have z := h (k % n) (Nat.mod_lt k (by omega))
    unfold clr
    rw [Nat.zero_add, Nat.zero_add, wy_mod hM hM2 hn k, z, wy_mod hM hM2 hn (q + k), Nat.add_comm q k, Nat.mod_add_mod]
  · intro h k hk
    have z := congrFun h k
    unfold clr at z
    rw [Nat.zero_add, Nat.zero_add] at z
    rw [← wy_mod hM hM2 hn (k + q), Nat.add_comm k q]
    exact z.symm
theorem SNv_step {M W n c e al : Nat} {T K Sn Sn2 : Nat → Int} (hM : 2 ≤ M) (hM2 : M ≤ 64) (hW : isPer (mp 3 M (au 2 T)) 0 W) (s : SNv M T K Sn al) (hc : inP M c) (h0 : Sn c = 0) (hn : isPer (wy M T c) 0 n) (he : isPer (clr M T K c) 0 e) (h1 : ∀ k, k < n → Sn2 (wy M T c k) = 1) (h2 : ∀ j, (∀ k, k < n → wy M T c k ≠ j) → Sn2 j = Sn j) : SNv M T K Sn2 (Nat.lcm al e) ∧ ∀ c2, Sn c2 = 1 → Sn2 c2 = 1 := by
  obtain ⟨s1, s2, s3, s4⟩ := id s
  have n1 := hn.1
  have hin : ∀ k, Sn2 (wy M T c k) = 1 := fun k => by
    rw [wy_mod hM hM2 hn]
    exact h1 _ (Nat.mod_lt k (by omega))
  have hz : ∀ k, Sn (wy M T c k) = 0 := fun k => (SNv_way hM hM2 s hc k).trans h0
  have hcs : ∀ j, (∃ k, k < n ∧ wy M T c k = j) ∨ (∀ k, k < n → wy M T c k ≠ j) := fun j => by
    by_cases y : ∃ k, k < n ∧ wy M T c k = j
    · exact Or.inl y
    · exact Or.inr (fun k q e => y ⟨k, q, e⟩)
  have hone : ∀ c2, Sn2 c2 = 1 → (∃ k, wy M T c k = c2) ∨ Sn c2 = 1 := fun c2 q => by
    rcases hcs c2 with ⟨k, _, e⟩ | y
    · exact Or.inl ⟨k, e⟩
    · exact Or.inr ((h2 c2 y).symm.trans q)
  have hmono : ∀ c2, Sn c2 = 1 → Sn2 c2 = 1 := fun c2 q => by
    rcases hcs c2 with ⟨k, _, e⟩ | y
    · rw [← e]
      exact hin k
    · exact (h2 c2 y).trans q
  refine ⟨⟨fun c2 q => ?_, fun c2 q => ?_, ?_, fun R => ?_⟩, hmono⟩
  · rcases hcs c2 with ⟨k, _, e⟩ | y
    · rw [← e]
      exact Or.inr (hin k)
    · rw [h2 c2 y]
      exact s1 c2 q
  · rcases hcs c2 with ⟨k, _, e⟩ | y
    · rw [← e, ← wy_succ hM hM2, hin, hin]
    · rw [h2 c2 y, ← s2 c2 q]
      refine h2 _ (fun k hk ek => ?_)
      have hk1 : wy M T c k = wy M T c (k + n - 1 + 1) := by
        rw [wy_mod hM hM2 hn (k + n - 1 + 1), show k + n - 1 + 1 = k + n by omega, Nat.add_mod_right, Nat.mod_eq_of_lt hk]
      rw [hk1, wy_succ hM hM2] at ek
      have := fc_inj hM hM2 hW (wy_in hM hM2 _) q ek
      rw [wy_mod hM hM2 hn] at this
      exact y _ (Nat.mod_lt _ (by omega)) this
  · exact Nat.pos_of_ne_zero (fun z => by
      have := Nat.lcm_pos (m := al) (n := e) (by omega) he.1
      omega)
  · rw [Nat.lcm_dvd_iff, s4 R, ← he.2 R]
    constructor
    · rintro ⟨a, b⟩ c2 q1 q2
      rcases hone c2 q2 with ⟨k, e⟩ | y
      · have z := congrFun b k
        unfold clr at z
        rw [Nat.zero_add, Nat.zero_add] at z
        rw [← e, ← wy_add hM hM2]
        exact z
      · exact a c2 q1 y
    · intro a
      refine ⟨fun c2 q1 q2 => a c2 q1 (hmono c2 q2), ?_⟩
      funext k
      unfold clr
      rw [Nat.zero_add, Nat.zero_add, wy_add hM hM2]
      exact a _ (wy_in hM hM2 k) (hin k)
theorem K_iff {M D : Nat} {T K : Nat → Int} {P : Nat → Nat → Int} (hM : 2 ≤ M) (hM2 : M ≤ 64) (hP : ∀ x y, 0 ≤ P x y ∧ P x y ≤ 255) (hK : ∀ x y, x < M → y < M → K (64 * y + x) = sb (P x y)) (hD : isPer (pcs M T P) 0 D) (R : Nat) : (∀ c, inP M c → K (wy M T c R) = K c) ↔ D ∣ R := by
  rw [← pcs_iff hM hD]
  have key : ∀ c, inP M c → (K (wy M T c R) = K c ↔ P (pX M (stB M T R) (c % 64) (c / 64)) (pY M (stB M T R) (c % 64) (c / 64)) = P (c % 64) (c / 64)) := fun c hc => by
    have e1 : K c = sb (P (c % 64) (c / 64)) := by
      rw [← hK _ _ hc.1 hc.2]
      congr 1
      omega
    have e2 : K (wy M T c R) = sb (P (pX M (stB M T R) (c % 64) (c / 64)) (pY M (stB M T R) (c % 64) (c / 64))) := hK _ _ (pX_lt (by omega)) (pY_lt (by omega))
    rw [e1, e2]
    exact ⟨fun z => sb_inj (hP _ _) (hP _ _) z, fun z => by rw [z]⟩
  constructor
  · intro h x y hx hy
    obtain ⟨a, b, c⟩ := inP_of hM2 hx hy
    have := (key _ a).mp (h _ a)
    rwa [b, c] at this
  · intro h c hc
    exact (key c hc).mpr (h _ _ hc.1 hc.2)
theorem SNv_dvd {M D al : Nat} {T K Sn : Nat → Int} {P : Nat → Nat → Int} (hM : 2 ≤ M) (hM2 : M ≤ 64) (hP : ∀ x y, 0 ≤ P x y ∧ P x y ≤ 255) (hK : ∀ x y, x < M → y < M → K (64 * y + x) = sb (P x y)) (hD : isPer (pcs M T P) 0 D) (s : SNv M T K Sn al) : al ∣ D := (s.2.2.2 D).mpr (fun c hc _ => (K_iff hM hM2 hP hK hD D).mpr (Nat.dvd_refl D) c hc)
theorem SNv_end {M D al : Nat} {T K Sn : Nat → Int} {P : Nat → Nat → Int} (hM : 2 ≤ M) (hM2 : M ≤ 64) (hP : ∀ x y, 0 ≤ P x y ∧ P x y ≤ 255) (hK : ∀ x y, x < M → y < M → K (64 * y + x) = sb (P x y)) (hD : isPer (pcs M T P) 0 D) (s : SNv M T K Sn al) (ha : ∀ x y, x < M → y < M → Sn (64 * y + x) = 1) : al = D := by
  refine Nat.dvd_antisymm (SNv_dvd hM hM2 hP hK hD s) ((K_iff hM hM2 hP hK hD al).mp (fun c hc => (s.2.2.2 al).mp (Nat.dvd_refl al) c hc ?_))
  have := ha _ _ hc.1 hc.2
  rwa [show 64 * (c / 64) + c % 64 = c by omega] at this
