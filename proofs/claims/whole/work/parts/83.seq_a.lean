/-! ===== sequences, and the polynomials of the shift that kill them, modulo a prime ===== -/
def Zq (p : Nat) (u : Nat → Int) : Prop := ∀ j, (p : Int) ∣ u j
/-- f 0 + f 1 S + .. + f (d - 1) S^(d-1), S the shift -/
def pf : Nat → (Nat → Int) → (Nat → Int) → Nat → Int
  | 0, _, _, _ => 0
  | d + 1, f, u, j => f 0 * u j + pf d (fun i => f (i + 1)) u (j + 1)
/-- the same and S^d -/
def mf : Nat → (Nat → Int) → (Nat → Int) → Nat → Int
  | 0, _, u, j => u j
  | d + 1, f, u, j => f 0 * u j + mf d (fun i => f (i + 1)) u (j + 1)
def dl (L : Nat) (u : Nat → Int) (j : Nat) : Int := u (j + L) - u j
def dn (L : Nat) : Nat → (Nat → Int) → Nat → Int
  | 0, u => u
  | m + 1, u => dn L m (dl L u)
theorem mf_pf : ∀ (d : Nat) (f u : Nat → Int) (j : Nat), mf d f u j = pf d f u j + u (j + d)
  | 0, f, u, j => by simp [mf, pf]
  | d + 1, f, u, j => by
    show f 0 * u j + mf d _ u (j + 1) = f 0 * u j + pf d _ u (j + 1) + u (j + (d + 1))
    rw [mf_pf d, show j + 1 + d = j + (d + 1) by omega]
    omega
theorem pf_last : ∀ (d : Nat) (f u : Nat → Int) (j : Nat), pf (d + 1) f u j = pf d f u j + f d * u (j + d)
  | 0, f, u, j => by simp [pf]
  | d + 1, f, u, j => by
    show f 0 * u j + pf (d + 1) _ u (j + 1) = f 0 * u j + pf d _ u (j + 1) + f (d + 1) * u (j + (d + 1))
    rw [pf_last d, show j + 1 + d = j + (d + 1) by omega]
    omega
theorem pf_lin : ∀ (d : Nat) (f u v : Nat → Int) (a b : Int) (j : Nat), pf d f (fun i => a * u i + b * v i) j = a * pf d f u j + b * pf d f v j
  | 0, _, _, _, _, _, _ => by simp [pf]
  | d + 1, f, u, v, a, b, j => by
    show f 0 * (a * u j + b * v j) + pf d _ _ (j + 1) = a * (f 0 * u j + pf d _ u (j + 1)) + b * (f 0 * v j + pf d _ v (j + 1))
    rw [pf_lin d]
    grind
theorem mf_lin (d : Nat) (f u v : Nat → Int) (a b : Int) (j : Nat) : mf d f (fun i => a * u i + b * v i) j = a * mf d f u j + b * mf d f v j := by
  rw [mf_pf, mf_pf, mf_pf, pf_lin]
  grind
theorem pf_coef : ∀ (d : Nat) (f g u : Nat → Int) (a b : Int) (j : Nat), pf d (fun i => a * f i + b * g i) u j = a * pf d f u j + b * pf d g u j
  | 0, _, _, _, _, _, _ => by simp [pf]
  | d + 1, f, g, u, a, b, j => by
    show (a * f 0 + b * g 0) * u j + pf d (fun i => a * f (i + 1) + b * g (i + 1)) u (j + 1) = a * (f 0 * u j + pf d _ u (j + 1)) + b * (g 0 * u j + pf d _ u (j + 1))
    rw [pf_coef d]
    grind
theorem pf_sh : ∀ (d : Nat) (f u : Nat → Int) (k j : Nat), pf d f (fun i => u (i + k)) j = pf d f u (j + k)
  | 0, _, _, _, _ => rfl
  | d + 1, f, u, k, j => by
    show f 0 * u (j + k) + pf d _ _ (j + 1) = f 0 * u (j + k) + pf d _ u (j + k + 1)
    rw [pf_sh d, show j + 1 + k = j + k + 1 by omega]
theorem mf_sh (d : Nat) (f u : Nat → Int) (k j : Nat) : mf d f (fun i => u (i + k)) j = mf d f u (j + k) := by
  rw [mf_pf, mf_pf, pf_sh, show j + d + k = j + k + d by omega]
theorem pf_dvd {p : Nat} : ∀ (d : Nat) (f u : Nat → Int), Zq p u → Zq p (pf d f u)
  | 0, _, _, _ => fun _ => Int.dvd_zero _
  | d + 1, f, u, h => fun j => Int.dvd_add (Int.dvd_mul_of_dvd_right (h j)) (pf_dvd d _ u h (j + 1))
theorem mf_dvd {p d : Nat} {f u : Nat → Int} (h : Zq p u) : Zq p (mf d f u) := fun j => by
  rw [mf_pf]
  exact Int.dvd_add (pf_dvd d f u h j) (h _)
theorem pf_z {p : Nat} : ∀ (d : Nat) (f u : Nat → Int), (∀ i, i < d → (p : Int) ∣ f i) → Zq p (pf d f u)
  | 0, _, _, _ => fun _ => Int.dvd_zero _
  | d + 1, f, u, h => fun j => Int.dvd_add (Int.dvd_mul_of_dvd_left (h 0 (by omega))) (pf_z d _ u (fun i hi => h (i + 1) (by omega)) (j + 1))
theorem mf_mf : ∀ (d : Nat) (f : Nat → Int) (e : Nat) (g u : Nat → Int) (j : Nat), mf d f (mf e g u) j = mf e g (mf d f u) j
  | 0, f, e, g, u, j => by
    show mf e g u j = mf e g (mf 0 f u) j
    rfl
  | d + 1, f, e, g, u, j => by
    have h1 : mf e g (mf (d + 1) f u) j = mf e g (fun i => f 0 * u i + 1 * (mf d (fun i => f (i + 1)) u (i + 1))) j := by
      congr 1
      funext i
      rw [Int.one_mul]
      rfl
    rw [h1, mf_lin e g u (fun i => mf d (fun i => f (i + 1)) u (i + 1)), mf_sh e g (mf d (fun i => f (i + 1)) u) 1 j, ← mf_mf d, Int.one_mul]
    rfl
theorem dl_lin (L : Nat) (u : Nat → Int) : dl L u = fun j => 1 * u (j + L) + (-1) * u j := by
  funext j
  unfold dl
  omega
theorem mf_dl (d : Nat) (f u : Nat → Int) (L : Nat) : mf d f (dl L u) = dl L (mf d f u) := by
  funext j
  rw [dl_lin L u, mf_lin d f (fun i => u (i + L)) u, mf_sh d f u L j]
  unfold dl
  omega
theorem mf_dn (d : Nat) (f : Nat → Int) (L : Nat) : ∀ (m : Nat) (u : Nat → Int), mf d f (dn L m u) = dn L m (mf d f u)
  | 0, _ => rfl
  | m + 1, u => by
    show mf d f (dn L m (dl L u)) = dn L m (dl L (mf d f u))
    rw [mf_dn d f L m, mf_dl]
theorem dl_sh (L k : Nat) (u : Nat → Int) : dl L (fun j => u (j + k)) = fun j => dl L u (j + k) := by
  funext j
  show u (j + L + k) - u (j + k) = u (j + k + L) - u (j + k)
  rw [show j + L + k = j + k + L by omega]
theorem dn_sh (L k : Nat) : ∀ (m : Nat) (u : Nat → Int), dn L m (fun j => u (j + k)) = fun j => dn L m u (j + k)
  | 0, _ => rfl
  | m + 1, u => by
    show dn L m (dl L (fun j => u (j + k))) = fun j => dn L m (dl L u) (j + k)
    rw [dl_sh, dn_sh L k m]
theorem dn_add (L : Nat) (a : Nat) : ∀ (b : Nat) (u : Nat → Int), dn L a (dn L b u) = dn L (b + a) u
  | 0, u => by rw [Nat.zero_add]; rfl
  | b + 1, u => by
    show dn L a (dn L b (dl L u)) = dn L (b + 1 + a) u
    rw [dn_add L a b, show b + 1 + a = b + a + 1 by omega]
    rfl
theorem dl_dvd {p L : Nat} {u : Nat → Int} (h : Zq p u) : Zq p (dl L u) := fun j => Int.dvd_sub (h _) (h _)
theorem dn_dvd {p L : Nat} : ∀ (m : Nat) (u : Nat → Int), Zq p u → Zq p (dn L m u)
  | 0, _, h => h
  | m + 1, u, h => dn_dvd m (dl L u) (dl_dvd h)
/-- division by a monic polynomial -/
theorem mf_div (e : Nat) (g : Nat → Int) (he : 1 ≤ e) : ∀ (k : Nat) (f : Nat → Int), ∃ (Q r : Nat → Int), ∀ (u : Nat → Int) (j : Nat), mf (e + k) f u j = mf k Q (mf e g u) j + pf e r u j
  | 0, f => by
    refine ⟨fun _ => 0, fun i => 1 * f i + (-1) * g i, fun u j => ?_⟩
    rw [pf_coef, Nat.add_zero, mf_pf e f u j]
    show _ = mf e g u j + _
    rw [mf_pf e g u j]
    omega
  | k + 1, f => by
    obtain ⟨Q, r, h⟩ := mf_div e g he k (fun i => f (i + 1))
    refine ⟨fun i => if i = 0 then r (e - 1) else Q (i - 1), fun i => (if i = 0 then f 0 else r (i - 1)) - r (e - 1) * g i, fun u j => ?_⟩
    have h1 : mf (e + (k + 1)) f u j = f 0 * u j + (mf k Q (mf e g u) (j + 1) + pf e r u (j + 1)) := by
      rw [← h u (j + 1)]
      rfl
    have h2 : mf (k + 1) (fun i => if i = 0 then r (e - 1) else Q (i - 1)) (mf e g u) j = r (e - 1) * mf e g u j + mf k Q (mf e g u) (j + 1) := by
      show _ * mf e g u j + mf k _ (mf e g u) (j + 1) = _
      rfl
    have h3 : pf e (fun i => (if i = 0 then f 0 else r (i - 1)) - r (e - 1) * g i) u j = pf e (fun i => if i = 0 then f 0 else r (i - 1)) u j - r (e - 1) * pf e g u j := by
      have := pf_coef e (fun i => if i = 0 then f 0 else r (i - 1)) g u 1 (-(r (e - 1))) j
      rw [show (fun i => (if i = 0 then f 0 else r (i - 1)) - r (e - 1) * g i) = (fun i => 1 * (if i = 0 then f 0 else r (i - 1)) + -(r (e - 1)) * g i) from funext fun i => by grind, this]
      grind
    obtain ⟨e', rfl⟩ : ∃ e', e = e' + 1 := ⟨e - 1, by omega⟩
    have h4 : pf (e' + 1) (fun i => if i = 0 then f 0 else r (i - 1)) u j = f 0 * u j + pf e' r u (j + 1) := rfl
    have h5 := pf_last e' r u (j + 1)
    have h6 := mf_pf (e' + 1) g u j
    rw [show j + 1 + e' = j + (e' + 1) by omega] at h5
    rw [h1, h2, h3, h4, h5, h6, show e' + 1 - 1 = e' by omega]
    grind
