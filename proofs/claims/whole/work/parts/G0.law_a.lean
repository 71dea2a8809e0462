/-! ===== the law: what it needs ===== -/
section
variable {μ : MI} {κ : KX} {pc : Nat} {lo : List (Nat × MV)} {st : List MV} {ρ : MR} {h : MH} {Q : Option MV → MR → MH → Prop}
theorem g_icmp_eqS {x : Int} {off : Int} {tgt : Nat} (hd : decode μ.2.2.1 pc = .ok (.if_icmp .eq off, 3)) (ht : (pc : Int) + off = (tgt : Int)) (kt : G μ κ tgt lo st ρ h Q) : G μ κ pc lo (vI x :: vI x :: st) ρ h Q := by
  intro p l e R s m args below meth c D tc g Zf F E ls H locs hl hW hS
  exact lv_icmp_eq F.1 F.2.1 hd ht (fun q => kt p l e R s m args below meth c D tc g Zf F E ls H locs hl hW hS) (fun q => absurd rfl q)
theorem g_lif_eqS {x : Int} {off : Int} {tgt : Nat} (hd : decode μ.2.2.1 pc = .ok (.lcmp, 1)) (hd2 : decode μ.2.2.1 (pc + 1) = .ok (.ifCond .eq off, 3)) (ht : ((pc + 1 : Nat) : Int) + off = (tgt : Int)) (kt : G μ κ tgt lo st ρ h Q) : G μ κ pc lo (vJ x :: vJ x :: st) ρ h Q := by
  intro p l e R s m args below meth c D tc g Zf F E ls H locs hl hW hS
  have K : G μ κ (pc + 1) lo (vI 0 :: st) ρ h Q := g_if_eqT hd2 ht (by decide) rfl kt
  have K2 := K p l e R s m args below meth c D tc g Zf F E ls H locs hl hW hS
  have e9 : lg_cmp (Int64.ofInt x) (Int64.ofInt x) = Int32.ofInt 0 := by
    unfold lg_cmp
    simp
  exact W.lcmp F.1 F.2.1 hd (W.eq (by simp only [List.map_cons, rv, e9]) K2)
end
theorem and31 (a : Int32) : 0 ≤ (a &&& Int32.ofInt 31).toInt ∧ (a &&& Int32.ofInt 31).toInt ≤ 31 := by
  have e1 : (a &&& Int32.ofInt 31).toInt = (a.toBitVec &&& 31#32).toInt := rfl
  have e2 : (a.toBitVec &&& 31#32).toNat ≤ 31 := by
    rw [BitVec.toNat_and]
    exact Nat.and_le_right
  rw [e1, BitVec.toInt_eq_toNat_of_lt (by omega)]
  omega
theorem MO.keep {N : Nat} {h h2 : MH} {x : Nat} {pr ts : Int} (m : MO N h x pr ts) (k : h2 x = h x) : MO N h2 x pr ts := by
  obtain ⟨th, wd, pm, fm, mu, um, z⟩ := m
  exact ⟨th, wd, pm, fm, mu, um, z.keep k⟩
theorem RMs.keep {N : Nat} {h h2 : MH} {x : Nat} {σ : Nat → Option MSt} {pr ts : Int} (s : RMs N h x σ pr ts) (k : ∀ a, x ≤ a → a ≤ x + 25 → h2 a = h a) : RMs N h2 x σ pr ts := s.same (s.1.keep (k _ (by omega) (by omega))) (s.2.1.keep (fun a z1 z2 => k a (by omega) (by omega))) (fun a z1 z2 => k a (by omega) (by omega))
theorem CMs.keep {N : Nat} {h h2 : MH} {σ : Nat → Option MSt} (c : CMs N h σ) (k : ∀ a, (a < 2 ∨ (74 ≤ a ∧ a < 633)) → h2 a = h a) : CMs N h2 σ := by
  obtain ⟨c1, c2, ⟨f, c3⟩, c4⟩ := c
  exact ⟨c1.keep (k _ (by omega)), c2.keep (k _ (by omega)), ⟨f, c3.keep (k _ (by omega))⟩, fun i hi => (c4 i hi).keep (fun a z1 z2 => k a (by omega))⟩
theorem CMs.ok {N : Nat} {h : MH} {σ : Nat → Option MSt} {m : Int} {kd M n : Nat} {T Y : Nat → Int} {P : Nat → Nat → Int} (c : CMs N h σ) (e : gt σ m = some (kd, M, n, T, Y, P)) : okS kd M n T Y P := by
  obtain ⟨i, hi, em, es⟩ := gt_some e
  exact (c.at hi es).1
/-- the law's state between two calls -/
def LI (h : MH) : Prop := ∃ (σ : Nat → Option MSt) (p ct : Nat) (s : Nat → Int), CMs 663 h σ ∧ TD 663 h 2 p ct s ∧ RMs 663 h 633 σ (p : Int) (ct : Int) ∧ RT 663 h 633 ct s
theorem LI.mills {h h2 h3 : MH} {σ2 : Nat → Option MSt} {p ct : Nat} {s : Nat → Int} (td : TD 663 h 2 p ct s) (rt : RT 663 h 633 ct s) (c : cP 663 h h2 σ2) (r : rP 663 h2 h3 633 σ2 (p : Int) (ct : Int)) : LI h3 := ⟨σ2, p, ct, s, c.1.keep (fun a z => r.2 a (by omega)), (td.keep (fun a z1 z2 => c.2 a (by omega))).keep (fun a z1 z2 => r.2 a (by omega)), r.1, (rt.keep (fun a z1 z2 => c.2 a (by omega))).keep (fun a z1 z2 => r.2 a (by omega))⟩
theorem LI.ref {h h2 : MH} {σ σ2 : Nat → Option MSt} {pr ts : Int} (rs : RMs 663 h 633 σ pr ts) (c : cP 663 h h2 σ2) : RMs 663 h2 633 σ pr ts := rs.keep (fun a z1 z2 => c.2 a (by omega))
theorem LI.told {h h2 h3 : MH} {σ : Nat → Option MSt} {p ct : Nat} {s : Nat → Int} (c : CMs 663 h σ) (k : ∀ a, (a < 2 ∨ 74 ≤ a) → h2 a = h a) (td : TD 663 h2 2 p ct s) (r : rT 663 h2 h3 633 σ (p : Int) (ct : Int) ct s) : LI h3 := ⟨σ, p, ct, s, (c.keep (h2 := h2) (fun a z => k a (by omega))).keep (fun a z => r.2.2 a (by omega)), td.keep (fun a z1 z2 => r.2.2 a (by omega)), r.1, r.2.1⟩
/-! witnesses -/
theorem wW {N : Nat} {h : MH} {σ : Nat → Option MSt} (c : CMs N h σ) (m : Int) : ∃ W, ∀ kd M n T Y P, gt σ m = some (kd, M, n, T, Y, P) → isPer (mp (n + 1) M (au n T)) 32 W ∧ W ≤ 8000000000000000000 := by
  rcases eg : gt σ m with _ | ⟨kd, M, n, T, Y, P⟩
  · exact ⟨0, fun _ _ _ _ _ _ e => (nomatch e)⟩
  · obtain ⟨hkd, hM, hM2, n1, hn, -⟩ := c.ok eg
    obtain ⟨W, h1, h2⟩ := W_ex (T := T) n1 hn hM hM2
    exact ⟨W, fun _ _ _ _ _ _ e => by cases e; exact ⟨h1, h2⟩⟩
theorem wP {N : Nat} {h : MH} {σ : Nat → Option MSt} (c : CMs N h σ) (m : Int) : ∃ Pd τ, ∀ kd M n T Y P, gt σ m = some (kd, M, n, T, Y, P) → (isPer (rowS n M (au n T) Y) 32 Pd ∧ isTail (rowS n M (au n T) Y) Pd τ) ∧ Pd ≤ 9223372036854775807 := by
  rcases eg : gt σ m with _ | ⟨kd, M, n, T, Y, P⟩
  · exact ⟨0, 0, fun _ _ _ _ _ _ e => (nomatch e)⟩
  · obtain ⟨hkd, hM, hM2, n1, hn, -⟩ := c.ok eg
    obtain ⟨W, h1, h2⟩ := W_ex (T := T) n1 hn hM hM2
    have e1 : rowS n M (au n T) Y (32 + W) = rowS n M (au n T) Y 32 := by
      funext r
      unfold rowS
      rw [(h1.2 W).mpr (Nat.dvd_refl W)]
    obtain ⟨Pd, hPd⟩ := per_ex (rowS_det hn hM (aff_au hn)) h1.1 e1
    obtain ⟨τ, hτ⟩ := tail_ex ((hPd.2 Pd).mpr (Nat.dvd_refl Pd))
    have h3 := Nat.le_of_dvd h1.1 ((hPd.2 W).mp e1)
    exact ⟨Pd, τ, fun _ _ _ _ _ _ e => by cases e; exact ⟨⟨hPd, hτ⟩, by omega⟩⟩
theorem wL {N : Nat} {h : MH} {σ : Nat → Option MSt} (c : CMs N h σ) (m : Int) : ∃ Lq : List Nat, (∀ kd M n T Y P, gt σ m = some (kd, M, n, T, Y, P) → ∀ W, isPer (mp (n + 1) M (au n T)) 32 W → (∀ x ∈ Lq, 1 ≤ x ∧ x ∣ W) ∧ ∀ k, 1 ≤ k → nfM n M (au n T) k = cD Lq k) ∧ ∀ kd M n T Y P, gt σ m = some (kd, M, n, T, Y, P) → ∃ W, (∀ x ∈ Lq, 1 ≤ x ∧ x ∣ W) ∧ ∀ k, 1 ≤ k → nfM n M (au n T) k = cD Lq k := by
  rcases eg : gt σ m with _ | ⟨kd, M, n, T, Y, P⟩
  · exact ⟨[], fun _ _ _ _ _ _ e => (nomatch e), fun _ _ _ _ _ _ e => (nomatch e)⟩
  · obtain ⟨hkd, hM, hM2, n1, hn, -⟩ := c.ok eg
    obtain ⟨W, h1, h2⟩ := W_ex (T := T) n1 hn hM hM2
    obtain ⟨Lq, q1, q2⟩ := nfM_LC n1 hn hM hM2 h1
    refine ⟨Lq, fun _ _ _ _ _ _ e W2 z => ?_, fun _ _ _ _ _ _ e => ?_⟩
    · cases e
      have d1 := (h1.2 W2).mp ((z.2 W2).mpr (Nat.dvd_refl _))
      exact ⟨fun x hx => ⟨(q1 x hx).1, Nat.dvd_trans (q1 x hx).2 d1⟩, q2⟩
    · cases e
      exact ⟨W, q1, q2⟩
theorem wS {N : Nat} {h : MH} {σ : Nat → Option MSt} (c : CMs N h σ) (m k : Int) : ∃ (S : Int) (Z : Nat → Int), ∀ M n T Y P, gt σ m = some (1, M, n, T, Y, P) → (2 ≤ k ∧ k ≤ 4) → isShort (T 0) M k.toNat S Z := by
  by_cases hk : 2 ≤ k ∧ k ≤ 4
  · rcases eg : gt σ m with _ | ⟨kd, M, n, T, Y, P⟩
    · exact ⟨0, fun _ => 0, fun _ _ _ _ _ e => (nomatch e)⟩
    · obtain ⟨hkd, hM, hM2, n1, hn, -, -, hT, -⟩ := c.ok eg
      obtain ⟨S, Z, hS⟩ := short_all (k := k.toNat) hM hM2 (hT 0 0 (by omega) (by omega)) (by omega) (by omega)
      exact ⟨S, Z, fun _ _ _ _ _ e _ => by cases e; exact hS⟩
  · exact ⟨0, fun _ => 0, fun _ _ _ _ _ _ z => absurd z hk⟩
theorem wD {N : Nat} {h : MH} {σ : Nat → Option MSt} {m : Int} {W : Nat} (c : CMs N h σ) (hW : ∀ kd M n T Y P, gt σ m = some (kd, M, n, T, Y, P) → isPer (mp (n + 1) M (au n T)) 32 W ∧ W ≤ 8000000000000000000) : ∃ D, ∀ M n T Y P, gt σ m = some (3, M, n, T, Y, P) → Nat.gcd M (detF n T % (M : Int)).toNat = 1 → isPer (pcs M T P) 0 D ∧ D ∣ W := by
  rcases eg : gt σ m with _ | ⟨kd, M, n, T, Y, P⟩
  · exact ⟨0, fun _ _ _ _ _ e => (nomatch e)⟩
  · obtain ⟨hkd, hM, hM2, n1, hn, -, hk3, -⟩ := c.ok eg
    by_cases h3 : kd = 3 ∧ Nat.gcd M (detF n T % (M : Int)).toNat = 1
    · obtain ⟨e3, hg⟩ := h3
      subst e3
      obtain ⟨e2, -⟩ := hk3 rfl
      subst e2
      obtain ⟨d, hd⟩ := det_inv hM hg
      obtain ⟨D, q1, q2⟩ := pcs_ex (P := P) hM (inv_per n1 hn (by omega) hd (hW _ _ _ _ _ _ eg).1)
      exact ⟨D, fun _ _ _ _ _ e _ => by cases e; exact ⟨q1, q2⟩⟩
    · exact ⟨0, fun _ _ _ _ _ e z => by cases e; exact absurd ⟨rfl, z⟩ h3⟩
theorem wT {N : Nat} {h : MH} {q p ct : Nat} {s : Nat → Int} (td : TD N h q p ct s) : (prm p ∧ p ≤ 499 ∧ ct ≤ 64 ∧ ∀ n, n < ct → 0 ≤ s n ∧ s n < p) ∧ ∃ L, hasL p ct L s ∧ ∀ l, hasL p ct l s → L ≤ l := by
  obtain ⟨t0, L, gap, b, nf, C, B, Nm, Rs, S, Bt, Sp, Pv, g, F, ⟨⟨c0, -, -, c3⟩, hm, -⟩, -⟩ := td
  exact ⟨t0, L, ⟨C, c0, c3⟩, hm⟩
