/-! ===== the reference: isMill, canTell; Numbers.isTellingPrime ===== -/
theorem c_isMill {N d x : Nat} {th wd pm fm mu um pr ts : Int} {m : Int} {Th : Nat → Int} {h : MH} (hm : i32 m) (hT : ∀ i, i < 6 → Th i = 0 ∨ Th i = 1) (hx : Hd (0, 0, N) h x (mdl x th wd pm fm mu um pr ts)) (hTh : Hd (0, 0, N) h (x + 1) (eA 2 6 Th)) : Ok mX11_isMill d 0 0 [vR x, vI m] N h (fun r h2 => h2 = h ∧ r = some (vI (if (0 ≤ m ∧ m < 6) ∧ Th m.toNat = 1 then 1 else 0))) := by
  refine Ok.of pfX11_isMill rfl (Nat.le_of_ble_eq_true rfl) (fun Ls sx => ?_)
  show G mX11_isMill (d, 0, 0, Ls, sx) 0 [(0, vR x), (1, vI m)] [] (0, 0, N) h _
  refine g_iload_n (pc := 0) (x := m) dX11_isMill_0 rfl ?_
  refine g_if_lt (pc := 1) (tgt := 23) dX11_isMill_1 (by decide) (by omega) (fun h0 => ?_) (fun h0 => ?_)
  · refine g_iconst (pc := 23) dX11_isMill_23 ?_
    exact r_bool (pc := 24) dX11_isMill_24 rfl rfl (Nat.le_refl _) (Or.inl rfl) ⟨rfl, by rw [if_neg (by omega)]⟩
  · refine g_iload_n (pc := 4) (x := m) dX11_isMill_4 rfl ?_
    refine g_bipush (pc := 5) dX11_isMill_5 (by decide +kernel) ?_
    refine g_icmp_ge (pc := 7) (tgt := 23) dX11_isMill_7 (by decide) (by omega) (by omega) (fun h1 => ?_) (fun h1 => ?_)
    · refine g_iconst (pc := 23) dX11_isMill_23 ?_
      exact r_bool (pc := 24) dX11_isMill_24 rfl rfl (Nat.le_refl _) (Or.inl rfl) ⟨rfl, by rw [if_neg (by omega)]⟩
    · have ht := hT m.toNat (by omega)
      refine g_aload_n (pc := 10) (r := .inl (some x)) dX11_isMill_10 rfl ?_
      refine g_getf (pc := 11) (v := vR (x + 1)) flX11_7 dX11_isMill_11 hx rfl ?_
      refine g_iload_n (pc := 14) (x := m) dX11_isMill_14 rfl ?_
      refine g_zaldN (pc := 15) (j := m.toNat) dX11_isMill_15 hTh (by omega) (by omega) (by omega) ?_
      refine g_if_eq (pc := 16) (tgt := 23) dX11_isMill_16 (by decide) (by omega) (fun h2 => ?_) (fun h2 => ?_)
      · refine g_iconst (pc := 23) dX11_isMill_23 ?_
        exact r_bool (pc := 24) dX11_isMill_24 rfl rfl (Nat.le_refl _) (Or.inl rfl) ⟨rfl, by rw [if_neg (by omega)]⟩
      · refine g_iconst (pc := 19) dX11_isMill_19 ?_
        refine g_goto (pc := 20) (tgt := 24) dX11_isMill_20 (by decide) ?_
        exact r_bool (pc := 24) dX11_isMill_24 rfl rfl (Nat.le_refl _) (Or.inr rfl) ⟨rfl, by rw [if_pos (by omega)]⟩

/-- no number from 2 to below k divides p -/
def noDiv (p k : Nat) : Prop := ∀ j, 2 ≤ j → j < k → ¬ p % j = 0

theorem tellp_l {κ : KX} {N p : Nat} {h : MH} (hp : p ≤ 499) {P : Option MV → MH → Prop} (p1 : (∃ k, p < k * k ∧ noDiv p k) → P (some (vI 1)) h) (p0 : (∃ j, 2 ≤ j ∧ j * j ≤ p ∧ p % j = 0) → P (some (vI 0)) h) : ∀ (f k : Nat) (xd : Int), k + f = 24 → xd = (k : Int) → 2 ≤ k → noDiv p k → G mX3_isTellingPrime κ 16 [(0, vI (p : Int)), (1, vI xd)] [] (0, 0, N) h (Pq mX3_isTellingPrime 0 0 P) := by
  intro f
  induction f with
  | zero =>
    intro k xd hk ex k2 hn
    have ek : k = 24 := by omega
    have e2 : xd * xd = 576 := by rw [ex, ek]; rfl
    refine g_iload_n (pc := 16) (x := xd) dX3_isTellingPrime_16 rfl ?_
    refine g_iload_n (pc := 17) (x := xd) dX3_isTellingPrime_17 rfl ?_
    refine g_imul (pc := 18) dX3_isTellingPrime_18 ?_
    refine g_iload_n (pc := 19) (x := (p : Int)) dX3_isTellingPrime_19 rfl ?_
    refine g_icmp_gtT (pc := 20) (tgt := 37) dX3_isTellingPrime_20 (by decide) (by omega) (by omega) (by omega) ?_
    refine g_iconst (pc := 37) dX3_isTellingPrime_37 ?_
    exact r_bool (pc := 38) dX3_isTellingPrime_38 rfl rfl (Nat.le_refl _) (Or.inr rfl) (p1 ⟨24, by omega, ek ▸ hn⟩)
  | succ f ih =>
    intro k xd hk ex k2 hn
    have e2 : xd * xd = ((k * k : Nat) : Int) := by rw [ex, Int.natCast_mul]
    have kk : k * k ≤ 576 := by
      have := Nat.mul_le_mul (show k ≤ 24 by omega) (show k ≤ 24 by omega)
      omega
    have em := tmodN (rfl : (p : Int) = (p : Int)) ex
    have ml := Nat.mod_lt p (show 0 < k by omega)
    refine g_iload_n (pc := 16) (x := xd) dX3_isTellingPrime_16 rfl ?_
    refine g_iload_n (pc := 17) (x := xd) dX3_isTellingPrime_17 rfl ?_
    refine g_imul (pc := 18) dX3_isTellingPrime_18 ?_
    refine g_iload_n (pc := 19) (x := (p : Int)) dX3_isTellingPrime_19 rfl ?_
    refine g_icmp_gt (pc := 20) (tgt := 37) dX3_isTellingPrime_20 (by decide) (by omega) (by omega) (fun hc => ?_) (fun hc => ?_)
    · refine g_iconst (pc := 37) dX3_isTellingPrime_37 ?_
      exact r_bool (pc := 38) dX3_isTellingPrime_38 rfl rfl (Nat.le_refl _) (Or.inr rfl) (p1 ⟨k, by omega, hn⟩)
    · refine g_iload_n (pc := 23) (x := (p : Int)) dX3_isTellingPrime_23 rfl ?_
      refine g_iload_n (pc := 24) (x := xd) dX3_isTellingPrime_24 rfl ?_
      refine g_irem (pc := 25) dX3_isTellingPrime_25 (by omega) (by omega) (by omega) ?_
      refine g_if_ne (pc := 26) (tgt := 31) dX3_isTellingPrime_26 (by decide) (by omega) (fun hd => ?_) (fun hd => ?_)
      · refine g_iinc (pc := 31) (x := xd) (lo2 := [(0, vI (p : Int)), (1, vI (xd + 1))]) dX3_isTellingPrime_31 rfl (by decide) rfl ?_
        refine g_goto (pc := 34) (tgt := 16) dX3_isTellingPrime_34 (by decide) ?_
        exact ih (k + 1) (xd + 1) (by omega) (by omega) (by omega) (fun j j2 j3 => by
          by_cases e : j = k
          · subst e
            omega
          · exact hn j j2 (by omega))
      · refine g_iconst (pc := 29) dX3_isTellingPrime_29 ?_
        exact r_bool (pc := 30) dX3_isTellingPrime_30 rfl rfl (Nat.le_refl _) (Or.inl rfl) (p0 ⟨k, k2, by omega, by omega⟩)
