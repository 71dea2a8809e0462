/-! ===== pictures: where a place goes ===== -/
def pX (M : Nat) (A : Nat → Int) (x y : Nat) : Nat := ((A 2 + A 0 * x + A 1 * y) % (M : Int)).toNat
def pY (M : Nat) (A : Nat → Int) (x y : Nat) : Nat := ((A 7 + A 5 * x + A 6 * y) % (M : Int)).toNat
def pt (x y : Nat) (i : Nat) : Int := if i = 0 then (x : Int) else (y : Int)
theorem pX_lt {M : Nat} {A : Nat → Int} {x y : Nat} (hM : 0 < M) : pX M A x y < M := by
  unfold pX
  have h1 := Int.emod_nonneg (A 2 + A 0 * x + A 1 * y) (show (M : Int) ≠ 0 by omega)
  have h2 := Int.emod_lt_of_pos (A 2 + A 0 * x + A 1 * y) (show (0 : Int) < M by omega)
  omega
theorem pY_lt {M : Nat} {A : Nat → Int} {x y : Nat} (hM : 0 < M) : pY M A x y < M := by
  unfold pY
  have h1 := Int.emod_nonneg (A 7 + A 5 * x + A 6 * y) (show (M : Int) ≠ 0 by omega)
  have h2 := Int.emod_lt_of_pos (A 7 + A 5 * x + A 6 * y) (show (0 : Int) < M by omega)
  omega
theorem pX_I {M : Nat} {A : Nat → Int} {x y : Nat} (hM : 0 < M) : (pX M A x y : Int) = (A 2 + A 0 * x + A 1 * y) % (M : Int) := Int.toNat_of_nonneg (Int.emod_nonneg _ (by omega))
theorem pY_I {M : Nat} {A : Nat → Int} {x y : Nat} (hM : 0 < M) : (pY M A x y : Int) = (A 7 + A 5 * x + A 6 * y) % (M : Int) := Int.toNat_of_nonneg (Int.emod_nonneg _ (by omega))
theorem go_X {M : Nat} {A : Nat → Int} {Z : Nat → Int} {x y : Nat} (hM : 0 < M) (h0 : Z 0 = (x : Int)) (h1 : Z 1 = (y : Int)) : goF 2 M A Z 0 = (pX M A x y : Int) := by
  rw [pX_I hM]
  show (A (5 * 0 + 2) + (A (5 * 0 + 0) * Z 0 + (A (5 * 0 + (0 + 1)) * Z (0 + 1) + 0))) % (M : Int) = _
  rw [show Z (0 + 1) = (y : Int) from h1, h0]
  congr 1
  show A 2 + (A 0 * (x : Int) + (A 1 * (y : Int) + 0)) = _
  omega
theorem go_Y {M : Nat} {A : Nat → Int} {Z : Nat → Int} {x y : Nat} (hM : 0 < M) (h0 : Z 0 = (x : Int)) (h1 : Z 1 = (y : Int)) : goF 2 M A Z 1 = (pY M A x y : Int) := by
  rw [pY_I hM]
  show (A (5 * 1 + 2) + (A (5 * 1 + 0) * Z 0 + (A (5 * 1 + (0 + 1)) * Z (0 + 1) + 0))) % (M : Int) = _
  rw [show Z (0 + 1) = (y : Int) from h1, h0]
  congr 1
  show A 7 + (A 5 * (x : Int) + (A 6 * (y : Int) + 0)) = _
  omega
abbrev stB (M : Nat) (T : Nat → Int) (t : Nat) : Nat → Int := mp 3 M (au 2 T) t
theorem g_add2 {M : Nat} {T : Nat → Int} (hM : 2 ≤ M) (s t x y : Nat) : pX M (stB M T (s + t)) x y = pX M (stB M T s) (pX M (stB M T t) x y) (pY M (stB M T t) x y) ∧ pY M (stB M T (s + t)) x y = pY M (stB M T s) (pX M (stB M T t) x y) (pY M (stB M T t) x y) := by
  have ha : aff 2 (stB M T t) := aff_mp (by omega) hM (aff_au (by omega)) t
  have e := mp_add (A := au 2 T) (w := 3) (q := M) (by omega) (by omega) s t
  have g0 := go_X (A := stB M T t) (Z := pt x y) (M := M) (x := x) (y := y) (by omega) rfl rfl
  have g1 := go_Y (A := stB M T t) (Z := pt x y) (M := M) (x := x) (y := y) (by omega) rfl rfl
  constructor
  · have a := act_mm (A := stB M T s) (B := stB M T t) (Y := pt x y) (n := 2) (q := M) (r := 0) (by omega) (by omega) ha
    rw [show mm (2 + 1) M (stB M T s) (stB M T t) = stB M T (s + t) from e.symm, go_X (x := x) (y := y) (by omega) rfl rfl, go_X (x := pX M (stB M T t) x y) (y := pY M (stB M T t) x y) (by omega) g0 g1] at a
    omega
  · have a := act_mm (A := stB M T s) (B := stB M T t) (Y := pt x y) (n := 2) (q := M) (r := 1) (by omega) (by omega) ha
    rw [show mm (2 + 1) M (stB M T s) (stB M T t) = stB M T (s + t) from e.symm, go_Y (x := x) (y := y) (by omega) rfl rfl, go_Y (x := pX M (stB M T t) x y) (y := pY M (stB M T t) x y) (by omega) g0 g1] at a
    omega
theorem g_zero2 {M : Nat} {T : Nat → Int} (hM : 2 ≤ M) {x y : Nat} (hx : x < M) (hy : y < M) : pX M (stB M T 0) x y = x ∧ pY M (stB M T 0) x y = y := by
  constructor
  · have a := go_m1 (n := 2) (q := M) (r := 0) (Y := pt x y) (by omega) (by omega) (show 0 ≤ (x : Int) ∧ (x : Int) < M by omega)
    rw [go_X (x := x) (y := y) (by omega) rfl rfl] at a
    have : (pX M (stB M T 0) x y : Int) = (x : Int) := a
    omega
  · have a := go_m1 (n := 2) (q := M) (r := 1) (Y := pt x y) (by omega) (by omega) (show 0 ≤ (y : Int) ∧ (y : Int) < M by omega)
    rw [go_Y (x := x) (y := y) (by omega) rfl rfl] at a
    have : (pY M (stB M T 0) x y : Int) = (y : Int) := a
    omega
/-- the picture as it is seen behind so many turns -/
def pcs (M : Nat) (T : Nat → Int) (P : Nat → Nat → Int) (t : Nat) : Nat → Nat → Int := fun x y => if x < M ∧ y < M then P (pX M (stB M T t) x y) (pY M (stB M T t) x y) else 0
theorem pcs_eq {M s t : Nat} {T : Nat → Int} {P : Nat → Nat → Int} : pcs M T P s = pcs M T P t ↔ ∀ x y, x < M → y < M → P (pX M (stB M T s) x y) (pY M (stB M T s) x y) = P (pX M (stB M T t) x y) (pY M (stB M T t) x y) := by
  constructor
  · intro h x y hx hy
    have := congrFun (congrFun h x) y
    unfold pcs at this
    rwa [if_pos ⟨hx, hy⟩, if_pos ⟨hx, hy⟩] at this
  · intro h
    funext x y
    unfold pcs
    by_cases c : x < M ∧ y < M
    · rw [if_pos c, if_pos c]
      exact h x y c.1 c.2
    · rw [if_neg c, if_neg c]
theorem pcs_det {M : Nat} {T : Nat → Int} {P : Nat → Nat → Int} (hM : 2 ≤ M) : detm (pcs M T P) := fun s t h => by
  rw [pcs_eq] at h ⊢
  intro x y hx hy
  have a := g_add2 (T := T) hM s 1 x y
  have b := g_add2 (T := T) hM t 1 x y
  rw [a.1, a.2, b.1, b.2]
  exact h _ _ (pX_lt (by omega)) (pY_lt (by omega))
theorem pcs_ex {M W : Nat} {T : Nat → Int} {P : Nat → Nat → Int} (hM : 2 ≤ M) (hW : isPer (mp 3 M (au 2 T)) 0 W) : ∃ D, isPer (pcs M T P) 0 D ∧ D ∣ W := by
  have e : pcs M T P (0 + W) = pcs M T P 0 := by
    rw [pcs_eq]
    intro x y _ _
    rw [show stB M T (0 + W) = stB M T 0 from (hW.2 W).mpr (Nat.dvd_refl W)]
  obtain ⟨D, hD⟩ := per_ex (pcs_det hM) hW.1 e
  exact ⟨D, hD, (hD.2 W).mp e⟩
theorem pcs_iff {M D t : Nat} {T : Nat → Int} {P : Nat → Nat → Int} (hM : 2 ≤ M) (hD : isPer (pcs M T P) 0 D) : (∀ x y, x < M → y < M → P (pX M (stB M T t) x y) (pY M (stB M T t) x y) = P x y) ↔ D ∣ t := by
  rw [← hD.2 t, Nat.zero_add, pcs_eq]
  constructor
  · intro h x y hx hy
    obtain ⟨a, b⟩ := g_zero2 (T := T) hM hx hy
    rw [a, b]
    exact h x y hx hy
  · intro h x y hx hy
    have := h x y hx hy
    obtain ⟨a, b⟩ := g_zero2 (T := T) hM hx hy
    rwa [a, b] at this
/-- turns that undo so many turns -/
def bck (W t : Nat) : Nat := (W - t % W) % W
theorem bck_dvd {W : Nat} (hW : 1 ≤ W) (t : Nat) : W ∣ bck W t + t := by
  unfold bck
  have h1 := Nat.mod_lt t (show 0 < W by omega)
  have h2 := Nat.div_add_mod t W
  by_cases h : t % W = 0
  · rw [h, Nat.sub_zero, Nat.mod_self, Nat.zero_add]
    exact Nat.dvd_of_mod_eq_zero h
  · rw [Nat.mod_eq_of_lt (by omega)]
    exact ⟨t / W + 1, by rw [Nat.mul_add, Nat.mul_one]; omega⟩
theorem g_back1 {M W : Nat} {T : Nat → Int} (hM : 2 ≤ M) (hW : isPer (mp 3 M (au 2 T)) 0 W) (t : Nat) {x y : Nat} (hx : x < M) (hy : y < M) : pX M (stB M T (bck W t)) (pX M (stB M T t) x y) (pY M (stB M T t) x y) = x ∧ pY M (stB M T (bck W t)) (pX M (stB M T t) x y) (pY M (stB M T t) x y) = y := by
  have a := g_add2 (T := T) hM (bck W t) t x y
  have e : stB M T (bck W t + t) = stB M T 0 := by
    have := (hW.2 (bck W t + t)).mpr (bck_dvd hW.1 t)
    rwa [Nat.zero_add] at this
  rw [e, (g_zero2 hM hx hy).1, (g_zero2 hM hx hy).2] at a
  exact ⟨a.1.symm, a.2.symm⟩
theorem g_back2 {M W : Nat} {T : Nat → Int} (hM : 2 ≤ M) (hW : isPer (mp 3 M (au 2 T)) 0 W) (t : Nat) {x y : Nat} (hx : x < M) (hy : y < M) : pX M (stB M T t) (pX M (stB M T (bck W t)) x y) (pY M (stB M T (bck W t)) x y) = x ∧ pY M (stB M T t) (pX M (stB M T (bck W t)) x y) (pY M (stB M T (bck W t)) x y) = y := by
  have a := g_add2 (T := T) hM t (bck W t) x y
  have e : stB M T (t + bck W t) = stB M T 0 := by
    have := (hW.2 (bck W t + t)).mpr (bck_dvd hW.1 t)
    rwa [Nat.zero_add, Nat.add_comm] at this
  rw [e, (g_zero2 hM hx hy).1, (g_zero2 hM hx hy).2] at a
  exact ⟨a.1.symm, a.2.symm⟩
/-- the picture moved by so many turns -/
def mvd (M W : Nat) (T : Nat → Int) (P : Nat → Nat → Int) (t : Nat) (x y : Nat) : Int := P (pX M (stB M T (bck W t)) x y) (pY M (stB M T (bck W t)) x y)
theorem mvd_at {M W : Nat} {T : Nat → Int} {P : Nat → Nat → Int} (hM : 2 ≤ M) (hW : isPer (mp 3 M (au 2 T)) 0 W) (t : Nat) {x y : Nat} (hx : x < M) (hy : y < M) : mvd M W T P t (pX M (stB M T t) x y) (pY M (stB M T t) x y) = P x y := by
  unfold mvd
  rw [(g_back1 hM hW t hx hy).1, (g_back1 hM hW t hx hy).2]
theorem mvd_sur {M W : Nat} {T : Nat → Int} (hM : 2 ≤ M) (hW : isPer (mp 3 M (au 2 T)) 0 W) (t : Nat) {x y : Nat} (hx : x < M) (hy : y < M) : ∃ x0 y0, x0 < M ∧ y0 < M ∧ pX M (stB M T t) x0 y0 = x ∧ pY M (stB M T t) x0 y0 = y := ⟨_, _, pX_lt (by omega), pY_lt (by omega), (g_back2 hM hW t hx hy).1, (g_back2 hM hW t hx hy).2⟩
/-! the places by number: 64 y + x -/
def fc (M : Nat) (A : Nat → Int) (c : Nat) : Nat := 64 * pY M A (c % 64) (c / 64) + pX M A (c % 64) (c / 64)
def inP (M c : Nat) : Prop := c % 64 < M ∧ c / 64 < M
theorem inP_of {M x y : Nat} (hM : M ≤ 64) (hx : x < M) (hy : y < M) : inP M (64 * y + x) ∧ (64 * y + x) % 64 = x ∧ (64 * y + x) / 64 = y := by
  unfold inP
  omega
theorem fc_in {M : Nat} {A : Nat → Int} (hM : 0 < M) (hM2 : M ≤ 64) (c : Nat) : inP M (fc M A c) ∧ fc M A c % 64 = pX M A (c % 64) (c / 64) ∧ fc M A c / 64 = pY M A (c % 64) (c / 64) := inP_of hM2 (pX_lt hM) (pY_lt hM)
theorem inP_lt {M c : Nat} (hM : M ≤ 64) (h : inP M c) : c < 4096 := by
  unfold inP at h
  omega
theorem fc_add {M : Nat} {T : Nat → Int} (hM : 2 ≤ M) (hM2 : M ≤ 64) (s t c : Nat) : fc M (stB M T (s + t)) c = fc M (stB M T s) (fc M (stB M T t) c) := by
  obtain ⟨-, e1, e2⟩ := fc_in (A := stB M T t) (show 0 < M by omega) hM2 c
  have a := g_add2 (T := T) hM s t (c % 64) (c / 64)
  unfold fc at *
  rw [e1, e2, a.1, a.2]
theorem fc_zero {M : Nat} {T : Nat → Int} (hM : 2 ≤ M) {c : Nat} (h : inP M c) : fc M (stB M T 0) c = c := by
  unfold fc
  rw [(g_zero2 hM h.1 h.2).1, (g_zero2 hM h.1 h.2).2]
  omega
/-- a place's way -/
def wy (M : Nat) (T : Nat → Int) (c k : Nat) : Nat := fc M (stB M T k) c
theorem wy_succ {M : Nat} {T : Nat → Int} (hM : 2 ≤ M) (hM2 : M ≤ 64) (c k : Nat) : wy M T c (k + 1) = fc M (stB M T 1) (wy M T c k) := by
  show fc M (stB M T (k + 1)) c = _
  rw [Nat.add_comm]
  exact fc_add hM hM2 1 k c
theorem wy_add {M : Nat} {T : Nat → Int} (hM : 2 ≤ M) (hM2 : M ≤ 64) (c k j : Nat) : wy M T c (k + j) = wy M T (wy M T c j) k := fc_add hM hM2 k j c
theorem wy_det {M : Nat} {T : Nat → Int} (hM : 2 ≤ M) (hM2 : M ≤ 64) {c : Nat} : detm (wy M T c) := fun s t h => by
  rw [wy_succ hM hM2, wy_succ hM hM2, h]
theorem wy_in {M : Nat} {T : Nat → Int} (hM : 2 ≤ M) (hM2 : M ≤ 64) {c : Nat} (k : Nat) : inP M (wy M T c k) := (fc_in (by omega) hM2 c).1
theorem wy_0 {M : Nat} {T : Nat → Int} (hM : 2 ≤ M) {c : Nat} (h : inP M c) : wy M T c 0 = c := fc_zero hM h
theorem wy_ex {M W : Nat} {T : Nat → Int} (hM : 2 ≤ M) (hM2 : M ≤ 64) (hW : isPer (mp 3 M (au 2 T)) 0 W) (c : Nat) : ∃ n, isPer (wy M T c) 0 n := by
  refine per_ex (wy_det hM hM2) hW.1 ?_
  show fc M (stB M T (0 + W)) c = fc M (stB M T 0) c
  rw [show stB M T (0 + W) = stB M T 0 from (hW.2 W).mpr (Nat.dvd_refl W)]
theorem per_inj {α : Type} {x : Nat → α} {n : Nat} (hx : detm x) (h : isPer x 0 n) {i j : Nat} (hi : i < n) (hj : j < n) (e : x i = x j) : i = j := by
  have key : ∀ i j, i < j → j < n → x i ≠ x j := fun i j hij hj e => by
    have z := detm_add hx e (n - j)
    rw [show j + (n - j) = 0 + n by omega, (h.2 n).mpr (Nat.dvd_refl n), show i + (n - j) = 0 + (i + (n - j)) by omega] at z
    have := Nat.le_of_dvd (by omega) ((h.2 _).mp z)
    omega
  rcases Nat.lt_trichotomy i j with z | z | z
  · exact absurd e (key i j z hj)
  · exact z
  · exact absurd e.symm (key j i z hi)
theorem per_le {x : Nat → Nat} {n B : Nat} (hx : detm x) (h : isPer x 0 n) (hb : ∀ k, x k < B) : n ≤ B := by
  have hd : ((List.range n).map x).Nodup := by
    unfold List.Nodup
    rw [List.pairwise_map]
    refine List.Pairwise.imp_of_mem ?_ List.nodup_range
    intro a b ha hb2 hab e
    exact hab (per_inj hx h (List.mem_range.mp ha) (List.mem_range.mp hb2) e)
  have h3 := hd.length_le_of_subset (l₂ := List.range B) (fun y hy => by
    obtain ⟨k, -, k2⟩ := List.mem_map.mp hy
    exact List.mem_range.mpr (k2 ▸ hb k))
  rwa [List.length_map, List.length_range, List.length_range] at h3
/-- the colours along a way -/
def clr (M : Nat) (T : Nat → Int) (K : Nat → Int) (c R : Nat) : Nat → Int := fun k => K (wy M T c (R + k))
theorem clr_det {M : Nat} {T : Nat → Int} {K : Nat → Int} {c : Nat} : detm (clr M T K c) := fun s t h => by
  funext k
  have := congrFun h (k + 1)
  unfold clr at *
  rw [show s + 1 + k = s + (k + 1) by omega, show t + 1 + k = t + (k + 1) by omega]
  exact this
theorem clr_ex {M n : Nat} {T : Nat → Int} {K : Nat → Int} {c : Nat} (hM : 2 ≤ M) (hM2 : M ≤ 64) (hn : isPer (wy M T c) 0 n) : ∃ e, isPer (clr M T K c) 0 e ∧ e ∣ n := by
  have z : clr M T K c (0 + n) = clr M T K c 0 := by
    funext k
    unfold clr
    rw [detm_add (wy_det hM hM2) ((hn.2 n).mpr (Nat.dvd_refl n)) k]
  obtain ⟨e, he⟩ := per_ex clr_det hn.1 z
  exact ⟨e, he, (he.2 n).mp z⟩
