/-! ===== Primes as sets ===== -/
/-- the primes object at q holds the numbers S, each once, all out of B -/
def PS (N : Nat) (h : MH) (q : Nat) (B : List Nat) (S : Nat → Prop) : Prop := ∃ (l : List Nat) (L : Nat → Int), Hd (0, 0, N) h q (eO 7 [vR (q + 1), vI (l.length : Int)]) ∧ Hd (0, 0, N) h (q + 1) (eA 0 16 L) ∧ (∀ i, i < l.length → L i = ((l.getD i 0 : Nat) : Int)) ∧ l.Nodup ∧ (∀ x, x ∈ l → x ∈ B) ∧ ∀ x, x ∈ l ↔ S x
theorem PS.keep {N : Nat} {h h2 : MH} {q : Nat} {B : List Nat} {S : Nat → Prop} (hp : PS N h q B S) (k1 : h2 q = h q) (k2 : h2 (q + 1) = h (q + 1)) : PS N h2 q B S := by
  obtain ⟨l, L, a1, a2, a3⟩ := hp
  exact ⟨l, L, a1.keep k1, a2.keep k2, a3⟩
theorem PS.eqv {N : Nat} {h : MH} {q : Nat} {B : List Nat} {S S2 : Nat → Prop} (hp : PS N h q B S) (k : ∀ x, S x ↔ S2 x) : PS N h q B S2 := by
  obtain ⟨l, L, a1, a2, a3, a4, a5, a6⟩ := hp
  exact ⟨l, L, a1, a2, a3, a4, a5, fun x => (a6 x).trans (k x)⟩
theorem c_psadd {N d q p : Nat} {h : MH} {B : List Nat} {S : Nat → Prop} (hB : B.length ≤ 16) (hBi : ∀ x, x ∈ B → x ≤ 2147483647) (hpB : p ∈ B) (hp : PS N h q B S) : Ok mX7_add d 0 0 [vR q, vI (p : Int)] N h (fun r h2 => r = none ∧ PS N h2 q B (fun x => S x ∨ x = p) ∧ ∀ b, b ≠ q → b ≠ q + 1 → h2 b = h b) := by
  obtain ⟨l, L, a1, a2, a3, a4, a5, a6⟩ := hp
  have hl : l.length ≤ 16 := Nat.le_trans (a4.length_le_of_subset (fun x hx => a5 x hx)) hB
  have hpi := hBi p hpB
  have hgd : ∀ i (hi : i < l.length), l.getD i 0 = l[i] := fun i hi => by simp [List.getD, hi]
  refine Ok.mono (c_pradd (d := d) hl ⟨by omega, by omega⟩ (fun i hi => ?_) a1 a2) ?_
  · have := hBi _ (a5 _ (List.getElem_mem hi))
    rw [a3 i hi, hgd i hi]
    exact ⟨by omega, by omega⟩
  · rintro r h2 ⟨e, (⟨⟨i, i1, i2⟩, rfl⟩ | ⟨hn, hk, c1, c2, c3⟩ | ⟨hn, hk, -⟩)⟩
    · refine ⟨e, ⟨l, L, a1, a2, a3, a4, a5, fun x => ⟨fun z => Or.inl ((a6 x).mp z), ?_⟩⟩, fun _ _ _ => rfl⟩
      rintro (z | rfl)
      · exact (a6 x).mpr z
      · rw [a3 i i1, hgd i i1] at i2
        have : l[i] = x := by omega
        rw [← this]
        exact List.getElem_mem i1
    · have hpl : p ∉ l := fun hm => by
        obtain ⟨i, i1, i2⟩ := List.mem_iff_getElem.mp hm
        refine hn i i1 ?_
        rw [a3 i i1, hgd i i1, i2]
      refine ⟨e, ⟨l ++ [p], va_up L l.length (p : Int), ⟨a1.1, by rw [c1, List.length_append]; rfl⟩, ⟨a2.1, c2⟩, fun i hi => ?_, ?_, ?_, fun x => ?_⟩, c3⟩
      · rw [List.length_append] at hi
        have hi2 : i < l.length + 1 := hi
        by_cases hc : i = l.length
        · subst hc
          rw [va_up_self]
          simp [List.getD]
        · rw [va_up_ne _ _ hc, a3 i (by omega)]
          congr 1
          simp [List.getD, List.getElem?_append_left (show i < l.length by omega)]
      · refine List.nodup_append.mpr ⟨a4, by simp, ?_⟩
        intro a ha b hb hab
        rw [List.mem_singleton] at hb
        subst hab
        exact hpl (hb ▸ ha)
      · intro x hx
        rcases List.mem_append.mp hx with z | z
        · exact a5 x z
        · rw [List.mem_singleton] at z
          exact z ▸ hpB
      · rw [List.mem_append, List.mem_singleton, a6 x]
    · exfalso
      have hpl : p ∉ l := fun hm => by
        obtain ⟨i, i1, i2⟩ := List.mem_iff_getElem.mp hm
        refine hn i i1 ?_
        rw [a3 i i1, hgd i i1, i2]
      have h1 : (p :: l).Nodup := List.nodup_cons.mpr ⟨hpl, a4⟩
      have h2 := h1.length_le_of_subset (l₂ := B) (fun x hx => by
        rcases List.mem_cons.mp hx with z | z
        · exact z ▸ hpB
        · exact a5 x z)
      rw [List.length_cons] at h2
      omega
theorem prm_of_min {d l : Nat} (hd : 2 ≤ d) (hl : d ∣ l) (hm : ∀ j, 2 ≤ j → j < d → ¬ j ∣ l) : prm d := ⟨hd, fun j j2 jd h => hm j j2 jd (Nat.dvd_trans h hl)⟩
theorem prm_of_sq {d l : Nat} (h1 : 2 ≤ l) (hs : l < d * d) (hm : ∀ j, 2 ≤ j → j < d → ¬ j ∣ l) : prm l := by
  refine ⟨h1, fun j j2 jl hj => ?_⟩
  by_cases hjd : j < d
  · exact hm j j2 hjd hj
  · obtain ⟨k, hk⟩ := hj
    have hk2 : 2 ≤ k := by
      apply Nat.le_of_not_lt
      intro z
      have hc : k = 0 ∨ k = 1 := by omega
      rcases hc with rfl | rfl <;> omega
    have hkd : k < d := by
      apply Nat.lt_of_not_le
      intro z
      have := Nat.mul_le_mul (Nat.le_of_not_lt hjd) z
      omega
    exact hm k hk2 hkd ⟨j, by rw [hk, Nat.mul_comm]⟩
theorem prm_dvd_mul {p a b : Nat} (hp : prm p) (h : p ∣ a * b) : p ∣ a ∨ p ∣ b := by
  by_cases ha : p ∣ a
  · exact Or.inl ha
  · exact Or.inr ((prm_cop hp ha).dvd_of_dvd_mul_left h)
theorem prm_dvd_pow {p a : Nat} (hp : prm p) : ∀ k, p ∣ a ^ k → p ∣ a
  | 0, h => by
    rw [Nat.pow_zero] at h
    have := Nat.le_of_dvd (by omega) h
    have := hp.1
    omega
  | k + 1, h => by
    rw [Nat.pow_succ] at h
    rcases prm_dvd_mul hp h with h | h
    · exact prm_dvd_pow hp k h
    · exact h
theorem dvd_pow_self' {e a : Nat} (h : a ≠ 0) : e ∣ e ^ a := by
  obtain ⟨k, rfl⟩ : ∃ k, a = k + 1 := ⟨a - 1, by omega⟩
  exact ⟨e ^ k, by rw [Nat.pow_succ, Nat.mul_comm]⟩
theorem prm_eq {p q : Nat} (hp : prm p) (hq : prm q) (h : p ∣ q) : p = q := by
  have h1 := Nat.le_of_dvd (by have := hq.1; omega) h
  apply Classical.byContradiction
  intro z
  exact hq.2 p hp.1 (by omega) h

theorem ato_l1 {κ : KX} {ρ : MR} {Q : Option MV → MR → MH → Prop} {q e : Nat} {nn : Int} {h : MH} (he : 2 ≤ e) (he2 : e ≤ 500) : ∀ (l o : Nat) (xl xi : Int), xl = (l : Int) → xi = (o : Int) → 0 < l → l < 2 ^ (31 - o) → o ≤ 31 → l ≤ 300000 → (∀ l2 a : Nat, l = e ^ a * l2 → ¬ e ∣ l2 → G mX7_addThoseOf κ 55 [(0, vR q), (1, vI nn), (2, vI ((l2 : Nat) : Int)), (3, vI (e : Int))] [] ρ h Q) → G mX7_addThoseOf κ 32 [(0, vR q), (1, vI nn), (2, vI xl), (3, vI (e : Int)), (4, vI xi)] [] ρ h Q := by
  intro l
  induction l using Nat.strongRecOn with
  | ind l ih =>
    intro o xl xi el ei l0 l1 o31 lb hK
    have ho : o < 31 := by
      apply Nat.lt_of_not_le
      intro z
      rw [show 31 - o = 0 by omega] at l1
      omega
    have em := tmodN el (rfl : (e : Int) = (e : Int))
    have ed := tdivN el (rfl : (e : Int) = (e : Int))
    by_cases hd : l % e = 0
    · have hlp : l = e * (l / e) := by have := Nat.div_add_mod l e; omega
      have hlt : l / e < l := Nat.div_lt_self l0 (by omega)
      have hl1 : 0 < l / e := by
        apply Nat.pos_of_ne_zero
        intro z
        rw [z] at hlp
        omega
      have hl2 : l / e < 2 ^ (31 - (o + 1)) := by
        rw [show 31 - o = 31 - (o + 1) + 1 by omega, Nat.pow_succ] at l1
        have := Nat.mul_le_mul_right (l / e) he
        omega
      refine g_iload (pc := 32) (x := xi) dX7_addThoseOf_32 rfl ?_
      refine g_bipush (pc := 34) dX7_addThoseOf_34 (by decide +kernel) ?_
      refine g_icmp_geF (pc := 36) (tgt := 55) dX7_addThoseOf_36 (by decide) (by omega) (by omega) (by omega) ?_
      refine g_iload_n (pc := 39) (x := xl) dX7_addThoseOf_39 rfl ?_
      refine g_iload_n (pc := 40) (x := (e : Int)) dX7_addThoseOf_40 rfl ?_
      refine g_irem (pc := 41) dX7_addThoseOf_41 (by omega) (by omega) (by omega) ?_
      refine g_if_neF (pc := 42) (tgt := 55) dX7_addThoseOf_42 (by decide) (by omega) (by rw [em, hd]; rfl) ?_
      refine g_iload_n (pc := 45) (x := xl) dX7_addThoseOf_45 rfl ?_
      refine g_iload_n (pc := 46) (x := (e : Int)) dX7_addThoseOf_46 rfl ?_
      refine g_idiv (pc := 47) dX7_addThoseOf_47 (by omega) (by omega) (by omega) ?_
      refine g_istore_n (pc := 48) (lo2 := [(0, vR q), (1, vI nn), (2, vI (xl.tdiv (e : Int))), (3, vI (e : Int)), (4, vI xi)]) dX7_addThoseOf_48 (by decide) rfl ?_
      refine g_iinc (pc := 49) (x := xi) (lo2 := [(0, vR q), (1, vI nn), (2, vI (xl.tdiv (e : Int))), (3, vI (e : Int)), (4, vI (xi + 1))]) dX7_addThoseOf_49 rfl (by decide) rfl ?_
      refine g_goto (pc := 52) (tgt := 32) dX7_addThoseOf_52 (by decide) ?_
      refine ih (l / e) hlt (o + 1) _ _ ed (by omega) hl1 hl2 (by omega) (by omega) (fun l2 a h1 h2 => hK l2 (a + 1) ?_ h2)
      rw [Nat.pow_succ, Nat.mul_comm (e ^ a), Nat.mul_assoc, ← h1]
      exact hlp
    · have hml := Nat.mod_lt l (show 0 < e by omega)
      refine g_iload (pc := 32) (x := xi) dX7_addThoseOf_32 rfl ?_
      refine g_bipush (pc := 34) dX7_addThoseOf_34 (by decide +kernel) ?_
      refine g_icmp_geF (pc := 36) (tgt := 55) dX7_addThoseOf_36 (by decide) (by omega) (by omega) (by omega) ?_
      refine g_iload_n (pc := 39) (x := xl) dX7_addThoseOf_39 rfl ?_
      refine g_iload_n (pc := 40) (x := (e : Int)) dX7_addThoseOf_40 rfl ?_
      refine g_irem (pc := 41) dX7_addThoseOf_41 (by omega) (by omega) (by omega) ?_
      refine g_if_neT (pc := 42) (tgt := 55) dX7_addThoseOf_42 (by decide) (by omega) (by rw [em]; omega) ?_
      refine g_pick [0, 1, 2, 3] (lo2 := [(0, vR q), (1, vI nn), (2, vI xl), (3, vI (e : Int))]) rfl ?_
      subst el
      exact hK l 0 (by simp) (fun z => hd (Nat.mod_eq_zero_of_dvd z))

theorem ato_l2 {N d q nn : Nat} {B : List Nat} {S : Nat → Prop} (hB : B.length ≤ 16) (hBi : ∀ x, x ∈ B → x ≤ 2147483647) (n1 : 1 ≤ nn) (n2 : nn ≤ 250001) (hBn : ∀ x, prm x → x ∣ nn → x ∈ B) {Ls : Nat} {sx : Nat → Int} {h0 : MH} : ∀ (f e l m : Nat) (xe : Int) (h : MH), e + f = 501 → xe = (e : Int) → 2 ≤ e → 0 < l → nn = l * m → (∀ j, 2 ≤ j → j < e → ¬ j ∣ l) → PS N h q B (fun x => S x ∨ (prm x ∧ x ∣ m)) → (∀ b, b ≠ q → b ≠ q + 1 → h b = h0 b) → G mX7_addThoseOf (d + 1, 0, 0, Ls, sx) 4 [(0, vR q), (1, vI (nn : Int)), (2, vI (l : Int)), (3, vI xe)] [] (0, 0, N) h (Pq mX7_addThoseOf 0 0 (fun r h2 => r = none ∧ PS N h2 q B (fun x => S x ∨ (prm x ∧ x ∣ nn)) ∧ ∀ b, b ≠ q → b ≠ q + 1 → h2 b = h0 b)) := by
  intro f
  induction f with
  | zero =>
    intro e l m xe h hf ex e2 l0 hlm hmin hps hk
    have hln : l ∣ nn := ⟨m, hlm⟩
    have hlb : l ≤ 250001 := Nat.le_trans (Nat.le_of_dvd (by omega) hln) n2
    have exx : xe * xe = ((e * e : Nat) : Int) := by rw [ex, Int.natCast_mul]
    obtain ⟨ll, LL, hq, hps2⟩ := id hps
    have hee : e * e ≤ 251001 := by
      have := Nat.mul_le_mul (show e ≤ 501 by omega) (show e ≤ 501 by omega)
      omega
    have e5 : e = 501 := by omega
    refine g_iload_n (pc := 4) (x := xe) dX7_addThoseOf_4 rfl ?_
    refine g_sipush (pc := 5) dX7_addThoseOf_5 (by decide +kernel) ?_
    refine g_icmp_gtT (pc := 8) (tgt := 61) dX7_addThoseOf_8 (by decide) (by omega) (by omega) (by omega) ?_
    refine g_iload_n (pc := 61) (x := (l : Int)) dX7_addThoseOf_61 rfl ?_
    refine g_iconst (pc := 62) dX7_addThoseOf_62 ?_
    refine g_icmp_le (pc := 63) (tgt := 71) dX7_addThoseOf_63 (by decide) (by omega) (by omega) (fun h9 => ?_) (fun h9 => ?_)
    · refine r_void (pc := 71) dX7_addThoseOf_71 rfl rfl (Nat.le_refl _) ⟨rfl, hps.eqv (fun x => ?_), hk⟩
      have l1 : l = 1 := by omega
      rw [l1, Nat.one_mul] at hlm
      rw [hlm]
    · have hpl : prm l := prm_of_sq (d := e) (by omega) (by rw [e5]; omega) hmin
      refine g_aload_n (pc := 66) (r := .inl (some q)) dX7_addThoseOf_66 rfl ?_
      refine g_iload_n (pc := 67) (x := (l : Int)) dX7_addThoseOf_67 rfl ?_
      refine g_callV0 (pc := 68) (as := [vI (l : Int)]) (b := q) (st := []) lvX7_19 dX7_addThoseOf_68 hq (Nat.le_of_ble_eq_true rfl) (by omega) (Nat.zero_le _) (Nat.zero_le _) (c_psadd (d := d) hB hBi (hBn l hpl hln) hps) ?_
      rintro r h3 ⟨rfl, p3, k3⟩
      refine r_void (pc := 71) dX7_addThoseOf_71 rfl rfl (Nat.le_refl _) ⟨rfl, p3.eqv (fun x => ?_), fun b b1 b2 => (k3 b b1 b2).trans (hk b b1 b2)⟩
      rw [hlm]
      constructor
      · rintro ((z | ⟨z1, z2⟩) | rfl)
        · exact Or.inl z
        · exact Or.inr ⟨z1, Nat.dvd_mul_left_of_dvd z2 l⟩
        · exact Or.inr ⟨hpl, Nat.dvd_mul_right _ _⟩
      · rintro (z | ⟨z1, z2⟩)
        · exact Or.inl (Or.inl z)
        · rcases prm_dvd_mul z1 z2 with z3 | z3
          · exact Or.inr (prm_eq z1 hpl z3)
          · exact Or.inl (Or.inr ⟨z1, z3⟩)
  | succ f ih =>
    intro e l m xe h hf ex e2 l0 hlm hmin hps hk
    have hln : l ∣ nn := ⟨m, hlm⟩
    have hlb : l ≤ 250001 := Nat.le_trans (Nat.le_of_dvd (by omega) hln) n2
    have exx : xe * xe = ((e * e : Nat) : Int) := by rw [ex, Int.natCast_mul]
    obtain ⟨ll, LL, hq, hps2⟩ := id hps
    have hee : e * e ≤ 251001 := by
      have := Nat.mul_le_mul (show e ≤ 501 by omega) (show e ≤ 501 by omega)
      omega
    have em := tmodN (rfl : (l : Int) = (l : Int)) ex
    refine g_iload_n (pc := 4) (x := xe) dX7_addThoseOf_4 rfl ?_
    refine g_sipush (pc := 5) dX7_addThoseOf_5 (by decide +kernel) ?_
    refine g_icmp_gtF (pc := 8) (tgt := 61) dX7_addThoseOf_8 (by decide) (by omega) (by omega) (by omega) ?_
    refine g_iload_n (pc := 11) (x := xe) dX7_addThoseOf_11 rfl ?_
    refine g_iload_n (pc := 12) (x := xe) dX7_addThoseOf_12 rfl ?_
    refine g_imul (pc := 13) dX7_addThoseOf_13 ?_
    refine g_iload_n (pc := 14) (x := (l : Int)) dX7_addThoseOf_14 rfl ?_
    refine g_icmp_gt (pc := 15) (tgt := 61) dX7_addThoseOf_15 (by decide) (by omega) (by omega) (fun h8 => ?_) (fun h8 => ?_)
    · have hsq : l < e * e := by omega
      refine g_iload_n (pc := 61) (x := (l : Int)) dX7_addThoseOf_61 rfl ?_
      refine g_iconst (pc := 62) dX7_addThoseOf_62 ?_
      refine g_icmp_le (pc := 63) (tgt := 71) dX7_addThoseOf_63 (by decide) (by omega) (by omega) (fun h9 => ?_) (fun h9 => ?_)
      · refine r_void (pc := 71) dX7_addThoseOf_71 rfl rfl (Nat.le_refl _) ⟨rfl, hps.eqv (fun x => ?_), hk⟩
        have l1 : l = 1 := by omega
        rw [l1, Nat.one_mul] at hlm
        rw [hlm]
      · have hpl : prm l := prm_of_sq (d := e) (by omega) (hsq) hmin
        refine g_aload_n (pc := 66) (r := .inl (some q)) dX7_addThoseOf_66 rfl ?_
        refine g_iload_n (pc := 67) (x := (l : Int)) dX7_addThoseOf_67 rfl ?_
        refine g_callV0 (pc := 68) (as := [vI (l : Int)]) (b := q) (st := []) lvX7_19 dX7_addThoseOf_68 hq (Nat.le_of_ble_eq_true rfl) (by omega) (Nat.zero_le _) (Nat.zero_le _) (c_psadd (d := d) hB hBi (hBn l hpl hln) hps) ?_
        rintro r h3 ⟨rfl, p3, k3⟩
        refine r_void (pc := 71) dX7_addThoseOf_71 rfl rfl (Nat.le_refl _) ⟨rfl, p3.eqv (fun x => ?_), fun b b1 b2 => (k3 b b1 b2).trans (hk b b1 b2)⟩
        rw [hlm]
        constructor
        · rintro ((z | ⟨z1, z2⟩) | rfl)
          · exact Or.inl z
          · exact Or.inr ⟨z1, Nat.dvd_mul_left_of_dvd z2 l⟩
          · exact Or.inr ⟨hpl, Nat.dvd_mul_right _ _⟩
        · rintro (z | ⟨z1, z2⟩)
          · exact Or.inl (Or.inl z)
          · rcases prm_dvd_mul z1 z2 with z3 | z3
            · exact Or.inr (prm_eq z1 hpl z3)
            · exact Or.inl (Or.inr ⟨z1, z3⟩)
    · have hml := Nat.mod_lt l (show 0 < e by omega)
      refine g_iload_n (pc := 18) (x := (l : Int)) dX7_addThoseOf_18 rfl ?_
      refine g_iload_n (pc := 19) (x := xe) dX7_addThoseOf_19 rfl ?_
      refine g_irem (pc := 20) dX7_addThoseOf_20 (by omega) (by omega) (by omega) ?_
      refine g_if_ne (pc := 21) (tgt := 29) dX7_addThoseOf_21 (by decide) (by omega) (fun h7 => ?_) (fun h7 => ?_)
      · have hne : ¬ e ∣ l := fun z => by
          have := Nat.mod_eq_zero_of_dvd z
          omega
        refine g_iconst (pc := 29) dX7_addThoseOf_29 ?_
        refine g_istore (pc := 30) (lo2 := [(0, vR q), (1, vI (nn : Int)), (2, vI (l : Int)), (3, vI xe), (4, vI 0)]) dX7_addThoseOf_30 (by decide) rfl ?_
        subst ex
        have hl31 : l < 2 ^ (31 - 0) := by show l < 2147483648; omega
        refine ato_l1 e2 (by omega) l 0 _ _ rfl rfl l0 hl31 (by omega) (by omega) (fun l2 a a1 a2 => ?_)
        have l20 : 0 < l2 := by
          apply Nat.pos_of_ne_zero
          rintro rfl
          rw [Nat.mul_zero] at a1
          omega
        have hl2l : l2 ∣ l := ⟨e ^ a, by rw [a1, Nat.mul_comm]⟩
        refine g_iinc (pc := 55) (x := (e : Int)) (lo2 := [(0, vR q), (1, vI (nn : Int)), (2, vI ((l2 : Nat) : Int)), (3, vI ((e : Int) + 1))]) dX7_addThoseOf_55 rfl (by decide) rfl ?_
        refine g_goto (pc := 58) (tgt := 4) dX7_addThoseOf_58 (by decide) ?_
        refine ih (e + 1) l2 (e ^ a * m) _ _ (by omega) (by omega) (by omega) l20 (by rw [hlm, a1]; grind) (fun j j2 j3 hj => ?_) (hps.eqv (fun x => ?_)) hk
        · by_cases hje : j = e
          · exact a2 (hje ▸ hj)
          · exact hmin j j2 (by omega) (Nat.dvd_trans hj hl2l)
        · have a0 : a = 0 := by
            cases a with
            | zero => rfl
            | succ a => exact absurd ⟨e ^ a * l2, by rw [a1, Nat.pow_succ]; grind⟩ hne
          rw [a0, Nat.pow_zero, Nat.one_mul]
      · have hel : e ∣ l := Nat.dvd_of_mod_eq_zero (by omega)
        have hpe : prm e := prm_of_min e2 hel hmin
        subst ex
        refine g_aload_n (pc := 24) (r := .inl (some q)) dX7_addThoseOf_24 rfl ?_
        refine g_iload_n (pc := 25) (x := (e : Int)) dX7_addThoseOf_25 rfl ?_
        refine g_callV0 (pc := 26) (as := [vI (e : Int)]) (b := q) (st := []) lvX7_19 dX7_addThoseOf_26 hq (Nat.le_of_ble_eq_true rfl) (by omega) (Nat.zero_le _) (Nat.zero_le _) (c_psadd (d := d) hB hBi (hBn e hpe (Nat.dvd_trans hel hln)) hps) ?_
        rintro r h3 ⟨rfl, p3, k3⟩
        refine g_iconst (pc := 29) dX7_addThoseOf_29 ?_
        refine g_istore (pc := 30) (lo2 := [(0, vR q), (1, vI (nn : Int)), (2, vI (l : Int)), (3, vI (e : Int)), (4, vI 0)]) dX7_addThoseOf_30 (by decide) rfl ?_
        have hl31 : l < 2 ^ (31 - 0) := by show l < 2147483648; omega
        refine ato_l1 e2 (by omega) l 0 _ _ rfl rfl l0 hl31 (by omega) (by omega) (fun l2 a a1 a2 => ?_)
        have l20 : 0 < l2 := by
          apply Nat.pos_of_ne_zero
          rintro rfl
          rw [Nat.mul_zero] at a1
          omega
        have hl2l : l2 ∣ l := ⟨e ^ a, by rw [a1, Nat.mul_comm]⟩
        refine g_iinc (pc := 55) (x := (e : Int)) (lo2 := [(0, vR q), (1, vI (nn : Int)), (2, vI ((l2 : Nat) : Int)), (3, vI ((e : Int) + 1))]) dX7_addThoseOf_55 rfl (by decide) rfl ?_
        refine g_goto (pc := 58) (tgt := 4) dX7_addThoseOf_58 (by decide) ?_
        refine ih (e + 1) l2 (e ^ a * m) _ _ (by omega) (by omega) (by omega) l20 (by rw [hlm, a1]; grind) (fun j j2 j3 hj => ?_) (p3.eqv (fun x => ?_)) (fun b b1 b2 => (k3 b b1 b2).trans (hk b b1 b2))
        · by_cases hje : j = e
          · exact a2 (hje ▸ hj)
          · exact hmin j j2 (by omega) (Nat.dvd_trans hj hl2l)
        · have a0 : a ≠ 0 := by
            rintro rfl
            rw [Nat.pow_zero, Nat.one_mul] at a1
            exact a2 (a1 ▸ hel)
          constructor
          · rintro ((z | ⟨z1, z2⟩) | rfl)
            · exact Or.inl z
            · exact Or.inr ⟨z1, Nat.dvd_mul_left_of_dvd z2 _⟩
            · exact Or.inr ⟨hpe, Nat.dvd_mul_right_of_dvd (dvd_pow_self' a0) m⟩
          · rintro (z | ⟨z1, z2⟩)
            · exact Or.inl (Or.inl z)
            · rcases prm_dvd_mul z1 z2 with z3 | z3
              · exact Or.inr (prm_eq z1 hpe (prm_dvd_pow z1 a z3))
              · exact Or.inl (Or.inr ⟨z1, z3⟩)

theorem c_addThoseOf {N d q nn : Nat} {B : List Nat} {S : Nat → Prop} (hB : B.length ≤ 16) (hBi : ∀ x, x ∈ B → x ≤ 2147483647) (n1 : 1 ≤ nn) (n2 : nn ≤ 250001) (hBn : ∀ x, prm x → x ∣ nn → x ∈ B) {h : MH} (hp : PS N h q B S) : Ok mX7_addThoseOf (d + 1) 0 0 [vR q, vI (nn : Int)] N h (fun r h2 => r = none ∧ PS N h2 q B (fun x => S x ∨ (prm x ∧ x ∣ nn)) ∧ ∀ b, b ≠ q → b ≠ q + 1 → h2 b = h b) := by
  refine Ok.of pfX7_addThoseOf rfl (Nat.le_of_ble_eq_true rfl) (fun Ls sx => ?_)
  show G mX7_addThoseOf (d + 1, 0, 0, Ls, sx) 0 [(0, vR q), (1, vI (nn : Int))] [] (0, 0, N) h _
  refine g_iload_n (pc := 0) (x := (nn : Int)) dX7_addThoseOf_0 rfl ?_
  refine g_istore_n (pc := 1) (lo2 := [(0, vR q), (1, vI (nn : Int)), (2, vI (nn : Int))]) dX7_addThoseOf_1 (by decide) rfl ?_
  refine g_iconst (pc := 2) dX7_addThoseOf_2 ?_
  refine g_istore_n (pc := 3) (lo2 := [(0, vR q), (1, vI (nn : Int)), (2, vI (nn : Int)), (3, vI 2)]) dX7_addThoseOf_3 (by decide) rfl ?_
  exact ato_l2 hB hBi n1 n2 hBn 499 2 nn 1 _ _ (by omega) rfl (by omega) n1 (by omega) (fun j j2 j3 => by omega) (hp.eqv (fun x => ⟨Or.inl, fun z => z.resolve_right (fun y => by have := Nat.le_of_dvd (by omega) y.2; have := y.1.1; omega)⟩)) (fun _ _ _ => rfl)
