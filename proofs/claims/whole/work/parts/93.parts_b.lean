/-! ===== Mill.findParts, and the reference's parts ===== -/
theorem mulP_eq {p : Nat} (hp : 2 ≤ p) : ∀ (o f l2 : Nat), o ≤ f → ¬ p ∣ l2 → mulP p f (p ^ o * l2) = o
  | 0, 0, _, _, _ => rfl
  | 0, f + 1, l2, _, h => by
    show (if p ^ 0 * l2 % p = 0 then _ else 0) = 0
    rw [Nat.pow_zero, Nat.one_mul, if_neg (fun z => h (Nat.dvd_of_mod_eq_zero z))]
  | o + 1, 0, _, h, _ => by omega
  | o + 1, f + 1, l2, h, hl => by
    have e : p ^ (o + 1) * l2 = p * (p ^ o * l2) := by rw [Nat.pow_succ]; grind
    show (if p ^ (o + 1) * l2 % p = 0 then mulP p f (p ^ (o + 1) * l2 / p) + 1 else 0) = o + 1
    rw [e, if_pos (Nat.mul_mod_right _ _), Nat.mul_div_cancel_left _ (by omega), mulP_eq hp o f l2 (by omega) hl]
def fcp (p l : Nat) : List (Nat × Nat) := facL (501 - p) p l
theorem fcp_out {p l : Nat} (h : l < p) : fcp p l = [] := by
  unfold fcp
  cases 501 - p with
  | zero => rfl
  | succ f => exact if_pos h
theorem fcp_skip {p l : Nat} (hp : p ≤ 500) (h1 : p ≤ l) (h2 : ¬ l % p = 0) : fcp p l = fcp (p + 1) l := by
  unfold fcp
  rw [show 501 - p = 501 - (p + 1) + 1 by omega]
  show (if l < p then _ else _) = _
  rw [if_neg (by omega), if_neg h2]
theorem o_le {p o l2 l : Nat} (hp : 2 ≤ p) (hl : l = p ^ o * l2) (l0 : 0 < l) (lb : l ≤ 500) : o ≤ 9 := by
  apply Nat.le_of_not_lt
  intro z
  have h2 : 0 < l2 := by
    apply Nat.pos_of_ne_zero
    rintro rfl
    rw [Nat.mul_zero] at hl
    omega
  have h3 : 2 ^ 10 ≤ p ^ o := Nat.le_trans (Nat.pow_le_pow_left hp 10) (Nat.pow_le_pow_right (by omega) z)
  have h4 := Nat.mul_le_mul h3 h2
  omega
theorem fcp_take {p l o l2 : Nat} (hp2 : 2 ≤ p) (hp : p ≤ 500) (h1 : p ≤ l) (lb : l ≤ 500) (h2 : l % p = 0) (hl : l = p ^ o * l2) (hn : ¬ p ∣ l2) : fcp p l = (p, o) :: fcp (p + 1) l2 := by
  have ho := o_le hp2 hl (by omega) lb
  have e1 : mulP p 9 l = o := by rw [hl]; exact mulP_eq hp2 o 9 l2 ho hn
  unfold fcp
  rw [show 501 - p = 501 - (p + 1) + 1 by omega]
  show (if l < p then _ else if l % p = 0 then (p, mulP p 9 l) :: facL (501 - (p + 1)) (p + 1) (l / p ^ mulP p 9 l) else _) = _
  rw [if_neg (by omega), if_pos h2, e1]
  congr 2
  rw [hl, Nat.mul_div_cancel_left _ (Nat.pow_pos (by omega))]
theorem fcp_same {p l2 : Nat} (hp : p ≤ 500) (hn : ¬ p ∣ l2) : fcp (p + 1) l2 = fcp p l2 := by
  by_cases h : l2 < p
  · rw [fcp_out h, fcp_out (by omega)]
  · exact (fcp_skip hp (by omega) (fun z => hn (Nat.dvd_of_mod_eq_zero z))).symm
theorem fcs_fcp (M : Nat) : fcs M = fcp 2 M := rfl
theorem pe_drop {M i : Nat} {e : Nat × Nat} {l : List (Nat × Nat)} (h : (fcs M).drop i = e :: l) : pe M i = e ∧ (fcs M).drop (i + 1) = l ∧ i < (fcs M).length := by
  have h1 : (fcs M)[i]? = some e := by
    have := List.head?_drop (l := fcs M) (i := i)
    rw [h] at this
    exact this.symm
  refine ⟨?_, ?_, (List.getElem?_eq_some_iff.mp h1).1⟩
  · unfold pe
    rw [List.getD_eq_getElem?_getD, h1]
    rfl
  · rw [← List.drop_drop, h]
    rfl
theorem pe_drop0 {M i : Nat} (h : (fcs M).drop i = []) : pe M i = (0, 0) ∧ (fcs M).drop (i + 1) = [] ∧ (fcs M).length ≤ i := by
  have h1 : (fcs M).length ≤ i := List.drop_eq_nil_iff.mp h
  exact ⟨pe_out h1, List.drop_eq_nil_iff.mpr (by omega), h1⟩
/-- a part's cell -/
abbrev ptE (e : Nat × Nat) : ME := eO 4 [vI (e.1 : Int), vI ((e.1 ^ e.2 : Nat) : Int), vI (e.2 : Int)]

theorem va_up_up {α : Type} (f : Nat → α) (i : Nat) (x y : α) : va_up (va_up f i x) i y = va_up f i y := by
  funext j
  by_cases h : j = i
  · subst h
    rw [va_up_self, va_up_self]
  · rw [va_up_ne _ _ h, va_up_ne _ _ h, va_up_ne _ _ h]

theorem strip_ex {p : Nat} (hp : 2 ≤ p) : ∀ l, 0 < l → ∃ o l2, l = p ^ o * l2 ∧ ¬ p ∣ l2 := by
  intro l
  induction l using Nat.strongRecOn with
  | ind l ih =>
    intro l0
    by_cases h : p ∣ l
    · obtain ⟨k, rfl⟩ := h
      have k0 : 0 < k := Nat.pos_of_ne_zero (fun z => by rw [z, Nat.mul_zero] at l0; omega)
      have kl : k < p * k := by
        have := Nat.mul_le_mul_right k hp
        omega
      obtain ⟨o, l2, e, hn⟩ := ih k kl k0
      exact ⟨o + 1, l2, by rw [e, Nat.pow_succ]; grind, hn⟩
    · exact ⟨0, l, by simp, h⟩

theorem fp_l1 {κ : KX} {ρ : MR} {Q : Option MV → MR → MH → Prop} {b l i : Nat} {xi : Int} {h : MH} {L9 : List (Nat × Nat)} (lb : l ≤ 500) (hK : ∀ p2 : Nat, 2 ≤ p2 → p2 ≤ 501 → fcp p2 l = L9 → (p2 ≤ l → l % p2 = 0) → G mX1_findParts κ 54 [(0, vR b), (1, vI (l : Int)), (2, vI ((p2 : Nat) : Int)), (3, vR (b + 7)), (4, vI 4), (5, vI xi), (6, vR (b + 8 + i))] [] ρ h Q) : ∀ (f p : Nat) (xp : Int), p + f = 501 → xp = (p : Int) → 2 ≤ p → fcp p l = L9 → G mX1_findParts κ 37 [(0, vR b), (1, vI (l : Int)), (2, vI xp), (3, vR (b + 7)), (4, vI 4), (5, vI xi), (6, vR (b + 8 + i))] [] ρ h Q := by
  intro f
  induction f with
  | zero =>
    intro p xp hf ep p2 hL
    refine g_iload_n (pc := 37) (x := xp) dX1_findParts_37 rfl ?_
    refine g_iload_n (pc := 38) (x := (l : Int)) dX1_findParts_38 rfl ?_
    refine g_icmp_gtT (pc := 39) (tgt := 54) dX1_findParts_39 (by decide) (by omega) (by omega) (by omega) ?_
    subst ep
    exact hK p p2 (by omega) hL (fun y => by omega)
  | succ f ih =>
    intro p xp hf ep p2 hL
    have em := tmodN (rfl : (l : Int) = (l : Int)) ep
    have hml := Nat.mod_lt l (show 0 < p by omega)
    refine g_iload_n (pc := 37) (x := xp) dX1_findParts_37 rfl ?_
    refine g_iload_n (pc := 38) (x := (l : Int)) dX1_findParts_38 rfl ?_
    refine g_icmp_gt (pc := 39) (tgt := 54) dX1_findParts_39 (by decide) (by omega) (by omega) (fun h0 => ?_) (fun h0 => ?_)
    · subst ep
      exact hK p p2 (by omega) hL (fun y => by omega)
    · refine g_iload_n (pc := 42) (x := (l : Int)) dX1_findParts_42 rfl ?_
      refine g_iload_n (pc := 43) (x := xp) dX1_findParts_43 rfl ?_
      refine g_irem (pc := 44) dX1_findParts_44 (by omega) (by omega) (by omega) ?_
      refine g_if_eq (pc := 45) (tgt := 54) dX1_findParts_45 (by decide) (by omega) (fun h1 => ?_) (fun h1 => ?_)
      · subst ep
        exact hK p p2 (by omega) hL (fun y => by rw [em] at h1; omega)
      · refine g_iinc (pc := 48) (x := xp) (lo2 := [(0, vR b), (1, vI (l : Int)), (2, vI (xp + 1)), (3, vR (b + 7)), (4, vI 4), (5, vI xi), (6, vR (b + 8 + i))]) dX1_findParts_48 rfl (by decide) rfl ?_
        refine g_goto (pc := 51) (tgt := 37) dX1_findParts_51 (by decide) ?_
        exact ih (p + 1) _ (by omega) (by omega) (by omega) (by rw [← hL]; exact (fcp_skip (by omega) (by omega) (by rw [em] at h1; omega)).symm)

theorem fp_l2 {N d b M Ls : Nat} {sx : Nat → Int} {h0 : MH} : ∀ (f i p l : Nat) (xi : Int) (h : MH), i + f = 4 → xi = (i : Int) → 2 ≤ p → p ≤ 501 → 0 < l → l ≤ 500 → fcp p l = (fcs M).drop i → Hd (0, 0, N) h (b + 7) (eQ 5 4 (rwF (b + 8) 4)) → (∀ j, j < 4 → ∃ x y z : Int, Hd (0, 0, N) h (b + 8 + j) (eO 4 [vI x, vI y, vI z])) → (∀ j, j < i → h (b + 8 + j) = ptE (pe M j)) → (∀ a, (a < b + 8 ∨ b + 12 ≤ a) → h a = h0 a) → G mX1_findParts (d + 2, 0, 0, Ls, sx) 19 [(0, vR b), (1, vI (l : Int)), (2, vI (p : Int)), (3, vR (b + 7)), (4, vI 4), (5, vI xi)] [] (0, 0, N) h (Pq mX1_findParts 0 0 (fun r h2 => r = none ∧ (∀ i, i < 4 → h2 (b + 8 + i) = ptE (pe M i)) ∧ ∀ a, (a < b + 8 ∨ b + 12 ≤ a) → h2 a = h0 a)) := by
  intro f
  induction f with
  | zero =>
    intro i p l xi h hf ex p2 p5 l0 lb hfc hpa hcs hdn hk
    refine g_iload (pc := 19) (x := xi) dX1_findParts_19 rfl ?_
    refine g_iload (pc := 21) (x := 4) dX1_findParts_21 rfl ?_
    refine g_icmp_geT (pc := 23) (tgt := 73) dX1_findParts_23 (by decide) (by omega) (by omega) (by omega) ?_
    exact r_void (pc := 73) dX1_findParts_73 rfl rfl (Nat.le_refl _) ⟨rfl, fun j hj => hdn j (by omega), hk⟩
  | succ f ih =>
    intro i p l xi h hf ex p2 p5 l0 lb hfc hpa hcs hdn hk
    obtain ⟨x0, y0, z0, hci⟩ := hcs i (by omega)
    refine g_iload (pc := 19) (x := xi) dX1_findParts_19 rfl ?_
    refine g_iload (pc := 21) (x := 4) dX1_findParts_21 rfl ?_
    refine g_icmp_geF (pc := 23) (tgt := 73) dX1_findParts_23 (by decide) (by omega) (by omega) (by omega) ?_
    refine g_aload_n (pc := 26) (r := .inl (some (b + 7))) dX1_findParts_26 rfl ?_
    refine g_iload (pc := 27) (x := xi) dX1_findParts_27 rfl ?_
    refine g_aaldN (pc := 29) (j := i) dX1_findParts_29 hpa (by decide) (by omega) (by omega) (by omega) ?_
    rw [rwF_at (b := b + 8) (n := 4) (i := i) (by omega)]
    refine g_astore (pc := 30) (r := .inl (some (b + 8 + i))) (lo2 := [(0, vR b), (1, vI (l : Int)), (2, vI (p : Int)), (3, vR (b + 7)), (4, vI 4), (5, vI xi), (6, vR (b + 8 + i))]) dX1_findParts_30 (by decide) rfl ?_
    refine g_aload (pc := 32) (r := .inl (some (b + 8 + i))) dX1_findParts_32 rfl ?_
    refine g_callV0 (pc := 34) (as := []) (b := b + 8 + i) (st := []) lvX1_128 dX1_findParts_34 hci (Nat.le_of_ble_eq_true rfl) (by omega) (Nat.zero_le _) (Nat.zero_le _) (c_leave (d := d + 1) hci) ?_
    rintro r h1 ⟨rfl, c1, c2⟩
    have hpa_1 := hpa.keep (c2 _ (by omega))
    have hci_1 := hci.to c1
    refine fp_l1 (L9 := (fcs M).drop i) lb (fun p3 q2 q5 q3 q4 => ?_) (501 - p) p _ (by omega) rfl p2 hfc
    refine g_iload_n (pc := 54) (x := ((p3 : Nat) : Int)) dX1_findParts_54 rfl ?_
    refine g_iload_n (pc := 55) (x := (l : Int)) dX1_findParts_55 rfl ?_
    refine g_icmp_gt (pc := 56) (tgt := 67) dX1_findParts_56 (by decide) (by omega) (by omega) (fun h9 => ?_) (fun h9 => ?_)
    · obtain ⟨e1, e2, e3⟩ := pe_drop0 (q3.symm.trans (fcp_out (by omega)))
      refine g_iinc (pc := 67) (x := xi) (lo2 := [(0, vR b), (1, vI (l : Int)), (2, vI ((p3 : Nat) : Int)), (3, vR (b + 7)), (4, vI 4), (5, vI (xi + 1)), (6, vR (b + 8 + i))]) dX1_findParts_67 rfl (by decide) rfl ?_
      refine g_goto (pc := 70) (tgt := 19) dX1_findParts_70 (by decide) ?_
      refine g_pick [0, 1, 2, 3, 4, 5] (lo2 := [(0, vR b), (1, vI (l : Int)), (2, vI ((p3 : Nat) : Int)), (3, vR (b + 7)), (4, vI 4), (5, vI (xi + 1))]) rfl ?_
      refine ih (i + 1) p3 l _ h1 (by omega) (by omega) q2 q5 l0 lb ((fcp_out (by omega)).trans e2.symm) hpa_1 (fun j hj => ?_) (fun j hj => ?_) (fun a ha => (c2 a (by omega)).trans (hk a ha))
      · by_cases hji : j = i
        · subst hji
          exact ⟨0, 1, 0, (hcs j hj).elim (fun x hx => hx.elim (fun y hy => hy.elim (fun z hz => hz.to c1)))⟩
        · obtain ⟨x, y, z, hz⟩ := hcs j hj
          exact ⟨x, y, z, hz.keep (c2 _ (by omega))⟩
      · by_cases hji : j = i
        · subst hji
          rw [c1, e1]
          rfl
        · rw [c2 _ (by omega)]
          exact hdn j (by omega)
    · refine g_aload (pc := 59) (r := .inl (some (b + 8 + i))) dX1_findParts_59 rfl ?_
      refine g_iload_n (pc := 61) (x := ((p3 : Nat) : Int)) dX1_findParts_61 rfl ?_
      refine g_iload_n (pc := 62) (x := (l : Int)) dX1_findParts_62 rfl ?_
      refine g_callV0 (pc := 63) (as := [vI ((p3 : Nat) : Int), vI (l : Int)]) (b := b + 8 + i) (st := []) lvX1_131 dX1_findParts_63 hci_1 (Nat.le_of_ble_eq_true rfl) (by omega) (Nat.zero_le _) (Nat.zero_le _) (c_take (d := d) (p := p3) (l := l) q2 (by omega) l0 lb hci_1) ?_
      rintro r h2 ⟨l2, o2, rfl, u1, u2, u3, u4⟩
      obtain ⟨e1, e2, e3⟩ := pe_drop (q3.symm.trans (fcp_take q2 (by omega) (by omega) lb (q4 (by omega)) u2 u3))
      have l20 : 0 < l2 := by
        apply Nat.pos_of_ne_zero
        rintro rfl
        rw [Nat.mul_zero] at u2
        omega
      have l2b : l2 ≤ l := Nat.le_of_dvd l0 ⟨p3 ^ o2, by rw [u2, Nat.mul_comm]⟩
      have hpa_2 := hpa_1.keep (u4 _ (by omega))
      have hci_2 := hci_1.to u1
      refine g_istore_n (pc := 66) (lo2 := [(0, vR b), (1, vI ((l2 : Nat) : Int)), (2, vI ((p3 : Nat) : Int)), (3, vR (b + 7)), (4, vI 4), (5, vI xi), (6, vR (b + 8 + i))]) dX1_findParts_66 (by decide) rfl ?_
      refine g_iinc (pc := 67) (x := xi) (lo2 := [(0, vR b), (1, vI ((l2 : Nat) : Int)), (2, vI ((p3 : Nat) : Int)), (3, vR (b + 7)), (4, vI 4), (5, vI (xi + 1)), (6, vR (b + 8 + i))]) dX1_findParts_67 rfl (by decide) rfl ?_
      refine g_goto (pc := 70) (tgt := 19) dX1_findParts_70 (by decide) ?_
      refine g_pick [0, 1, 2, 3, 4, 5] (lo2 := [(0, vR b), (1, vI ((l2 : Nat) : Int)), (2, vI ((p3 : Nat) : Int)), (3, vR (b + 7)), (4, vI 4), (5, vI (xi + 1))]) rfl ?_
      refine ih (i + 1) p3 l2 _ h2 (by omega) (by omega) q2 q5 l20 (by omega) ((fcp_same (by omega) u3).symm.trans e2.symm) hpa_2 (fun j hj => ?_) (fun j hj => ?_) (fun a ha => (u4 a (by omega)).trans ((c2 a (by omega)).trans (hk a ha)))
      · by_cases hji : j = i
        · subst hji
          exact ⟨_, _, _, (hcs j hj).elim (fun x hx => hx.elim (fun y hy => hy.elim (fun z hz => hz.to u1)))⟩
        · obtain ⟨x, y, z, hz⟩ := hcs j hj
          exact ⟨x, y, z, hz.keep ((u4 _ (by omega)).trans (c2 _ (by omega)))⟩
      · by_cases hji : j = i
        · subst hji
          rw [u1, e1]
        · rw [u4 _ (by omega), c2 _ (by omega)]
          exact hdn j (by omega)

theorem c_findParts {N d b kd M n : Nat} {th : Int} {h : MH} (hM : 2 ≤ M) (hM2 : M ≤ 500) (hm : Hd (0, 0, N) h b (eO 1 [vI th, vI (kd : Int), vI (M : Int), vI (n : Int), vR (b + 1), vR (b + 12), vR (b + 79), vR (b + 2), vR (b + 5), vR (b + 7)])) (hpa : Hd (0, 0, N) h (b + 7) (eQ 5 4 (rwF (b + 8) 4))) (hcs : ∀ j, j < 4 → ∃ x y z : Int, Hd (0, 0, N) h (b + 8 + j) (eO 4 [vI x, vI y, vI z])) : Ok mX1_findParts (d + 2) 0 0 [vR b] N h (fun r h2 => r = none ∧ (∀ i, i < 4 → h2 (b + 8 + i) = ptE (pe M i)) ∧ ∀ a, (a < b + 8 ∨ b + 12 ≤ a) → h2 a = h a) := by
  refine Ok.of pfX1_findParts rfl (Nat.le_of_ble_eq_true rfl) (fun Ls sx => ?_)
  show G mX1_findParts (d + 2, 0, 0, Ls, sx) 0 [(0, vR b)] [] (0, 0, N) h _
  refine g_aload_n (pc := 0) (r := .inl (some b)) dX1_findParts_0 rfl ?_
  refine g_getf (pc := 1) (v := vI (M : Int)) flX1_60 dX1_findParts_1 hm rfl ?_
  refine g_istore_n (pc := 4) (lo2 := [(0, vR b), (1, vI (M : Int))]) dX1_findParts_4 (by decide) rfl ?_
  refine g_iconst (pc := 5) dX1_findParts_5 ?_
  refine g_istore_n (pc := 6) (lo2 := [(0, vR b), (1, vI (M : Int)), (2, vI 2)]) dX1_findParts_6 (by decide) rfl ?_
  refine g_aload_n (pc := 7) (r := .inl (some b)) dX1_findParts_7 rfl ?_
  refine g_getf (pc := 8) (v := vR (b + 7)) flX1_31 dX1_findParts_8 hm rfl ?_
  refine g_astore_n (pc := 11) (r := .inl (some (b + 7))) (lo2 := [(0, vR b), (1, vI (M : Int)), (2, vI 2), (3, vR (b + 7))]) dX1_findParts_11 (by decide) rfl ?_
  refine g_aload_n (pc := 12) (r := .inl (some (b + 7))) dX1_findParts_12 rfl ?_
  refine g_qlen (pc := 13) dX1_findParts_13 hpa (by decide) ?_
  refine g_istore (pc := 14) (lo2 := [(0, vR b), (1, vI (M : Int)), (2, vI 2), (3, vR (b + 7)), (4, vI ((4 : Nat) : Int))]) dX1_findParts_14 (by decide) rfl ?_
  refine g_iconst (pc := 16) dX1_findParts_16 ?_
  refine g_istore (pc := 17) (lo2 := [(0, vR b), (1, vI (M : Int)), (2, vI 2), (3, vR (b + 7)), (4, vI ((4 : Nat) : Int)), (5, vI 0)]) dX1_findParts_17 (by decide) rfl ?_
  exact fp_l2 4 0 2 M _ h (by omega) rfl (by omega) (by omega) (by omega) hM2 rfl hpa hcs (fun j hj => absurd hj (Nat.not_lt_zero j)) (fun _ _ => rfl)

theorem mp_l1 {κ : KX} {Q : Option MV → MR → MH → Prop} {N x i p : Nat} {th wd fm mu um pr ts : Int} {m9 : Int} {P Sh Of : Nat → Int} {h0 : MH} (hp : 2 ≤ p) (hp5 : p ≤ 500) (hi : i < 5) : ∀ (l o w : Nat) (xl xs xo : Int) (h : MH), xl = (l : Int) → xs = (w : Int) → xo = (o : Int) → 0 < l → w * l ≤ 500 → w = p ^ o → Hd (0, 0, N) h x (mdl x th wd (i : Int) fm mu um pr ts) → Hd (0, 0, N) h (x + 15) (eA 0 5 P) → Hd (0, 0, N) h (x + 16) (eA 0 5 (va_up Sh i xs)) → Hd (0, 0, N) h (x + 17) (eA 0 5 (va_up Of i xo)) → (∀ a, a ≠ x + 16 → a ≠ x + 17 → h a = h0 a) → (∀ (l2 o2 : Nat) (h2 : MH), w * l = p ^ o2 * l2 → ¬ p ∣ l2 → Hd (0, 0, N) h2 x (mdl x th wd (i : Int) fm mu um pr ts) → Hd (0, 0, N) h2 (x + 15) (eA 0 5 P) → Hd (0, 0, N) h2 (x + 16) (eA 0 5 (va_up Sh i ((p ^ o2 : Nat) : Int))) → Hd (0, 0, N) h2 (x + 17) (eA 0 5 (va_up Of i (o2 : Int))) → (∀ a, a ≠ x + 16 → a ≠ x + 17 → h2 a = h0 a) → G mX11_parts κ 92 [(0, vR x), (1, vI m9), (2, vI ((l2 : Nat) : Int)), (3, vI (p : Int))] [] (0, 0, N) h2 Q) → G mX11_parts κ 53 [(0, vR x), (1, vI m9), (2, vI xl), (3, vI (p : Int))] [] (0, 0, N) h Q := by
  intro l
  induction l using Nat.strongRecOn with
  | ind l ih =>
    intro o w xl xs xo h el es eo l0 hwl hwp hx hP hS hO hk hK
    have w0 : 0 < w := by rw [hwp]; exact Nat.pow_pos (by omega)
    have hl5 : l ≤ 500 := by
      have := Nat.mul_le_mul_right l w0
      omega
    have em := tmodN el (rfl : (p : Int) = (p : Int))
    have ed := tdivN el (rfl : (p : Int) = (p : Int))
    have hml := Nat.mod_lt l (show 0 < p by omega)
    by_cases hd : l % p = 0
    · have hlp : l = p * (l / p) := by have := Nat.div_add_mod l p; omega
      have hlt : l / p < l := Nat.div_lt_self l0 (by omega)
      have hl1 : 0 < l / p := by
        apply Nat.pos_of_ne_zero
        intro z
        rw [z] at hlp
        omega
      have hwq : w * p * (l / p) = w * l := by rw [Nat.mul_assoc, ← hlp]
      have exs : xs * (p : Int) = ((w * p : Nat) : Int) := by rw [es, Int.natCast_mul]
      refine g_iload_n (pc := 53) (x := xl) dX11_parts_53 rfl ?_
      refine g_iload_n (pc := 54) (x := (p : Int)) dX11_parts_54 rfl ?_
      refine g_irem (pc := 55) dX11_parts_55 (by omega) (by omega) (by omega) ?_
      refine g_if_neF (pc := 56) (tgt := 92) dX11_parts_56 (by decide) (by omega) (by rw [em, hd]; rfl) ?_
      refine g_iload_n (pc := 59) (x := xl) dX11_parts_59 rfl ?_
      refine g_iload_n (pc := 60) (x := (p : Int)) dX11_parts_60 rfl ?_
      refine g_idiv (pc := 61) dX11_parts_61 (by omega) (by omega) (by omega) ?_
      refine g_istore_n (pc := 62) (lo2 := [(0, vR x), (1, vI m9), (2, vI (xl.tdiv (p : Int))), (3, vI (p : Int))]) dX11_parts_62 (by decide) rfl ?_
      refine g_aload_n (pc := 63) (r := .inl (some x)) dX11_parts_63 rfl ?_
      refine g_getf (pc := 64) (v := vR (x + 16)) flX11_57 dX11_parts_64 hx rfl ?_
      refine g_aload_n (pc := 67) (r := .inl (some x)) dX11_parts_67 rfl ?_
      refine g_getf (pc := 68) (v := vI (i : Int)) flX11_158 dX11_parts_68 hx rfl ?_
      refine g_dup2 (pc := 71) dX11_parts_71 rfl rfl ?_
      refine g_ialdN (pc := 72) (j := i) dX11_parts_72 hS (by omega) (by omega) (by omega) ?_
      rw [va_up_self]
      refine g_iload_n (pc := 73) (x := (p : Int)) dX11_parts_73 rfl ?_
      refine g_imul (pc := 74) dX11_parts_74 ?_
      refine g_iastN (pc := 75) (j := i) dX11_parts_75 hS (by omega) (by omega) (by omega) ?_
      have hx_1 := hx.ne (e := eA 0 5 (va_up (va_up Sh i xs) i (xs * (p : Int)))) (a := x + 16) (by omega)
      have hP_1 := hP.ne (e := eA 0 5 (va_up (va_up Sh i xs) i (xs * (p : Int)))) (a := x + 16) (by omega)
      have hS_1 := hS.self (e := eA 0 5 (va_up (va_up Sh i xs) i (xs * (p : Int))))
      have hO_1 := hO.ne (e := eA 0 5 (va_up (va_up Sh i xs) i (xs * (p : Int)))) (a := x + 16) (by omega)
      refine g_aload_n (pc := 76) (r := .inl (some x)) dX11_parts_76 rfl ?_
      refine g_getf (pc := 77) (v := vR (x + 17)) flX11_60 dX11_parts_77 hx_1 rfl ?_
      refine g_aload_n (pc := 80) (r := .inl (some x)) dX11_parts_80 rfl ?_
      refine g_getf (pc := 81) (v := vI (i : Int)) flX11_158 dX11_parts_81 hx_1 rfl ?_
      refine g_dup2 (pc := 84) dX11_parts_84 rfl rfl ?_
      refine g_ialdN (pc := 85) (j := i) dX11_parts_85 hO_1 (by omega) (by omega) (by omega) ?_
      rw [va_up_self]
      refine g_iconst (pc := 86) dX11_parts_86 ?_
      refine g_iadd (pc := 87) dX11_parts_87 ?_
      refine g_iastN (pc := 88) (j := i) dX11_parts_88 hO_1 (by omega) (by omega) (by omega) ?_
      have hx_2 := hx_1.ne (e := eA 0 5 (va_up (va_up Of i xo) i (xo + 1))) (a := x + 17) (by omega)
      have hP_2 := hP_1.ne (e := eA 0 5 (va_up (va_up Of i xo) i (xo + 1))) (a := x + 17) (by omega)
      have hS_2 := hS_1.ne (e := eA 0 5 (va_up (va_up Of i xo) i (xo + 1))) (a := x + 17) (by omega)
      have hO_2 := hO_1.self (e := eA 0 5 (va_up (va_up Of i xo) i (xo + 1)))
      refine g_goto (pc := 89) (tgt := 53) dX11_parts_89 (by decide) ?_
      refine ih (l / p) hlt (o + 1) (w * p) _ _ (xo + 1) _ ed exs (by omega) hl1 (by rw [hwq]; exact hwl) (by rw [hwp, Nat.pow_succ]) hx_2 hP_2 ⟨hS_2.1, hS_2.2.trans (by rw [va_up_up])⟩ ⟨hO_2.1, hO_2.2.trans (by rw [va_up_up])⟩ (fun a a1 a2 => (va_up_ne _ _ a2).trans ((va_up_ne _ _ a1).trans (hk a a1 a2))) (fun l2 o2 h2 z1 z2 z3 z4 z5 z6 z7 => hK l2 o2 h2 (by rw [← z1, hwq]) z2 z3 z4 z5 z6 z7)
    · refine g_iload_n (pc := 53) (x := xl) dX11_parts_53 rfl ?_
      refine g_iload_n (pc := 54) (x := (p : Int)) dX11_parts_54 rfl ?_
      refine g_irem (pc := 55) dX11_parts_55 (by omega) (by omega) (by omega) ?_
      refine g_if_neT (pc := 56) (tgt := 92) dX11_parts_56 (by decide) (by omega) (by rw [em]; omega) ?_
      subst el
      exact hK l o h (by rw [hwp]) (fun z => hd (Nat.mod_eq_zero_of_dvd z)) hx hP (by rw [← hwp, ← es]; exact hS) (by rw [← eo]; exact hO) hk

theorem mp_l2 {κ : KX} {N x M : Nat} {th wd fm mu um pr ts : Int} {m9 : Int} {h0 : MH} (hlen : (fcs M).length ≤ 4) : ∀ (f p i l : Nat) (xp : Int) (P Sh Of : Nat → Int) (h : MH), p + f = 501 → xp = (p : Int) → 2 ≤ p → 0 < l → l ≤ 500 → i ≤ (fcs M).length → fcp p l = (fcs M).drop i → Hd (0, 0, N) h x (mdl x th wd (i : Int) fm mu um pr ts) → Hd (0, 0, N) h (x + 15) (eA 0 5 P) → Hd (0, 0, N) h (x + 16) (eA 0 5 Sh) → Hd (0, 0, N) h (x + 17) (eA 0 5 Of) → (∀ j, j < i → P j = ((pe M j).1 : Int) ∧ Sh j = (((pe M j).1 ^ (pe M j).2 : Nat) : Int) ∧ Of j = ((pe M j).2 : Int)) → (∀ a, a ≠ x → a ≠ x + 15 → a ≠ x + 16 → a ≠ x + 17 → h a = h0 a) → G mX11_parts κ 9 [(0, vR x), (1, vI m9), (2, vI (l : Int)), (3, vI xp)] [] (0, 0, N) h (Pq mX11_parts 0 0 (fun r h2 => r = none ∧ h2 x = mdl x th wd ((fcs M).length : Int) fm mu um pr ts ∧ (∃ P2 S2 O2, h2 (x + 15) = eA 0 5 P2 ∧ h2 (x + 16) = eA 0 5 S2 ∧ h2 (x + 17) = eA 0 5 O2 ∧ (∀ j, j < (fcs M).length → P2 j = ((pe M j).1 : Int) ∧ S2 j = (((pe M j).1 ^ (pe M j).2 : Nat) : Int) ∧ O2 j = ((pe M j).2 : Int))) ∧ ∀ a, a ≠ x → a ≠ x + 15 → a ≠ x + 16 → a ≠ x + 17 → h2 a = h0 a)) := by
  intro f
  induction f with
  | zero =>
    intro p i l xp P Sh Of h hf ex p2 l0 lb hil hfc hx hP hS hO hdn hk
    refine g_iload_n (pc := 9) (x := xp) dX11_parts_9 rfl ?_
    refine g_iload_n (pc := 10) (x := (l : Int)) dX11_parts_10 rfl ?_
    refine g_icmp_gtT (pc := 11) (tgt := 108) dX11_parts_11 (by decide) (by omega) (by omega) (by omega) ?_
    obtain ⟨-, -, e3⟩ := pe_drop0 (hfc.symm.trans (fcp_out (by omega)))
    have ei : i = (fcs M).length := by omega
    exact r_void (pc := 108) dX11_parts_108 rfl rfl (Nat.le_refl _) ⟨rfl, by rw [← ei]; exact hx.2, ⟨P, Sh, Of, hP.2, hS.2, hO.2, fun j hj => hdn j (by omega)⟩, hk⟩
  | succ f ih =>
    intro p i l xp P Sh Of h hf ex p2 l0 lb hil hfc hx hP hS hO hdn hk
    have em := tmodN (rfl : (l : Int) = (l : Int)) ex
    have hml := Nat.mod_lt l (show 0 < p by omega)
    refine g_iload_n (pc := 9) (x := xp) dX11_parts_9 rfl ?_
    refine g_iload_n (pc := 10) (x := (l : Int)) dX11_parts_10 rfl ?_
    refine g_icmp_gt (pc := 11) (tgt := 108) dX11_parts_11 (by decide) (by omega) (by omega) (fun h0 => ?_) (fun h0 => ?_)
    · obtain ⟨-, -, e3⟩ := pe_drop0 (hfc.symm.trans (fcp_out (by omega)))
      have ei : i = (fcs M).length := by omega
      exact r_void (pc := 108) dX11_parts_108 rfl rfl (Nat.le_refl _) ⟨rfl, by rw [← ei]; exact hx.2, ⟨P, Sh, Of, hP.2, hS.2, hO.2, fun j hj => hdn j (by omega)⟩, hk⟩
    · refine g_iload_n (pc := 14) (x := (l : Int)) dX11_parts_14 rfl ?_
      refine g_iload_n (pc := 15) (x := xp) dX11_parts_15 rfl ?_
      refine g_irem (pc := 16) dX11_parts_16 (by omega) (by omega) (by omega) ?_
      refine g_if_eq (pc := 17) (tgt := 23) dX11_parts_17 (by decide) (by omega) (fun h1 => ?_) (fun h1 => ?_)
      · have hd0 : l % p = 0 := by rw [em] at h1; omega
        have hi4 : i < 4 := by
          apply Nat.lt_of_not_le
          intro y
          have hnil : (fcs M).drop i = [] := List.drop_eq_nil_iff.mpr (by omega)
          obtain ⟨o, l2, hl2⟩ := strip_ex p2 l l0
          rw [hnil, fcp_take p2 (by omega) (by omega) lb hd0 hl2.1 hl2.2] at hfc
          cases hfc
        subst ex
        refine g_aload_n (pc := 23) (r := .inl (some x)) dX11_parts_23 rfl ?_
        refine g_getf (pc := 24) (v := vR (x + 15)) flX11_54 dX11_parts_24 hx rfl ?_
        refine g_aload_n (pc := 27) (r := .inl (some x)) dX11_parts_27 rfl ?_
        refine g_getf (pc := 28) (v := vI (i : Int)) flX11_158 dX11_parts_28 hx rfl ?_
        refine g_iload_n (pc := 31) (x := (p : Int)) dX11_parts_31 rfl ?_
        refine g_iastN (pc := 32) (j := i) dX11_parts_32 hP (by omega) (by omega) (by omega) ?_
        have hx_1 := hx.ne (e := eA 0 5 (va_up P i (p : Int))) (a := x + 15) (by omega)
        have hP_1 := hP.self (e := eA 0 5 (va_up P i (p : Int)))
        have hS_1 := hS.ne (e := eA 0 5 (va_up P i (p : Int))) (a := x + 15) (by omega)
        have hO_1 := hO.ne (e := eA 0 5 (va_up P i (p : Int))) (a := x + 15) (by omega)
        refine g_aload_n (pc := 33) (r := .inl (some x)) dX11_parts_33 rfl ?_
        refine g_getf (pc := 34) (v := vR (x + 16)) flX11_57 dX11_parts_34 hx_1 rfl ?_
        refine g_aload_n (pc := 37) (r := .inl (some x)) dX11_parts_37 rfl ?_
        refine g_getf (pc := 38) (v := vI (i : Int)) flX11_158 dX11_parts_38 hx_1 rfl ?_
        refine g_iconst (pc := 41) dX11_parts_41 ?_
        refine g_iastN (pc := 42) (j := i) dX11_parts_42 hS_1 (by omega) (by omega) (by omega) ?_
        have hx_2 := hx_1.ne (e := eA 0 5 (va_up Sh i 1)) (a := x + 16) (by omega)
        have hP_2 := hP_1.ne (e := eA 0 5 (va_up Sh i 1)) (a := x + 16) (by omega)
        have hS_2 := hS_1.self (e := eA 0 5 (va_up Sh i 1))
        have hO_2 := hO_1.ne (e := eA 0 5 (va_up Sh i 1)) (a := x + 16) (by omega)
        refine g_aload_n (pc := 43) (r := .inl (some x)) dX11_parts_43 rfl ?_
        refine g_getf (pc := 44) (v := vR (x + 17)) flX11_60 dX11_parts_44 hx_2 rfl ?_
        refine g_aload_n (pc := 47) (r := .inl (some x)) dX11_parts_47 rfl ?_
        refine g_getf (pc := 48) (v := vI (i : Int)) flX11_158 dX11_parts_48 hx_2 rfl ?_
        refine g_iconst (pc := 51) dX11_parts_51 ?_
        refine g_iastN (pc := 52) (j := i) dX11_parts_52 hO_2 (by omega) (by omega) (by omega) ?_
        have hx_3 := hx_2.ne (e := eA 0 5 (va_up Of i 0)) (a := x + 17) (by omega)
        have hP_3 := hP_2.ne (e := eA 0 5 (va_up Of i 0)) (a := x + 17) (by omega)
        have hS_3 := hS_2.ne (e := eA 0 5 (va_up Of i 0)) (a := x + 17) (by omega)
        have hO_3 := hO_2.self (e := eA 0 5 (va_up Of i 0))
        refine mp_l1 (h0 := va_up h (x + 15) (eA 0 5 (va_up P i (p : Int)))) p2 (by omega) (by omega) l 0 1 _ _ _ _ rfl rfl rfl l0 (by omega) (by simp) hx_3 hP_3 hS_3 hO_3 (fun a a1 a2 => (va_up_ne _ _ a2).trans (va_up_ne _ _ a1)) (fun l2 o2 h2 z1 z2 gx gP gS gO gk => ?_)
        rw [Nat.one_mul] at z1
        obtain ⟨e1, e2, e3⟩ := pe_drop (hfc.symm.trans (fcp_take p2 (by omega) (by omega) lb hd0 z1 z2))
        have l20 : 0 < l2 := by
          apply Nat.pos_of_ne_zero
          rintro rfl
          rw [Nat.mul_zero] at z1
          omega
        have l2b : l2 ≤ l := Nat.le_of_dvd l0 ⟨p ^ o2, by rw [z1, Nat.mul_comm]⟩
        refine g_aload_n (pc := 92) (r := .inl (some x)) dX11_parts_92 rfl ?_
        refine g_dup (pc := 93) dX11_parts_93 rfl ?_
        refine g_getf (pc := 94) (v := vI (i : Int)) flX11_158 dX11_parts_94 gx rfl ?_
        refine g_iconst (pc := 97) dX11_parts_97 ?_
        refine g_iadd (pc := 98) dX11_parts_98 ?_
        refine g_putf (pc := 99) fpX11_158 dX11_parts_99 gx (okv_int _) (Nat.le_of_ble_eq_true rfl) ?_
        have gx_4 := gx.self (e := mdl x th wd ((i : Int) + 1) fm mu um pr ts)
        have gP_4 := gP.ne (e := mdl x th wd ((i : Int) + 1) fm mu um pr ts) (a := x) (by omega)
        have gS_4 := gS.ne (e := mdl x th wd ((i : Int) + 1) fm mu um pr ts) (a := x) (by omega)
        have gO_4 := gO.ne (e := mdl x th wd ((i : Int) + 1) fm mu um pr ts) (a := x) (by omega)
        refine g_iinc (pc := 102) (x := (p : Int)) (lo2 := [(0, vR x), (1, vI m9), (2, vI ((l2 : Nat) : Int)), (3, vI ((p : Int) + 1))]) dX11_parts_102 rfl (by decide) rfl ?_
        refine g_goto (pc := 105) (tgt := 9) dX11_parts_105 (by decide) ?_
        refine ih (p + 1) (i + 1) l2 _ _ _ _ _ (by omega) (by omega) (by omega) l20 (by omega) (by omega) e2.symm gx_4 gP_4 gS_4 gO_4 (fun j hj => ?_) (fun a a1 a2 a3 a4 => (va_up_ne _ _ a1).trans ((gk a a3 a4).trans ((va_up_ne _ _ a2).trans (hk a a1 a2 a3 a4))))
        by_cases hji : j = i
        · subst hji
          rw [va_up_self, va_up_self, va_up_self, e1]
          exact ⟨rfl, rfl, rfl⟩
        · rw [va_up_ne _ _ hji, va_up_ne _ _ hji, va_up_ne _ _ hji]
          exact hdn j (by omega)
      · refine g_goto (pc := 20) (tgt := 102) dX11_parts_20 (by decide) ?_
        refine g_iinc (pc := 102) (x := xp) (lo2 := [(0, vR x), (1, vI m9), (2, vI (l : Int)), (3, vI (xp + 1))]) dX11_parts_102 rfl (by decide) rfl ?_
        refine g_goto (pc := 105) (tgt := 9) dX11_parts_105 (by decide) ?_
        exact ih (p + 1) i l _ P Sh Of h (by omega) (by omega) (by omega) l0 lb hil ((fcp_skip (by omega) (by omega) (by rw [em] at h1; omega)).symm.trans hfc) hx hP hS hO hdn hk

theorem c_parts {N d x M : Nat} {th wd fm mu um pr ts : Int} {pm : Int} {P Sh Of : Nat → Int} {h : MH} (hM : 2 ≤ M) (hM2 : M ≤ 500) (hx : Hd (0, 0, N) h x (mdl x th wd pm fm mu um pr ts)) (hP : Hd (0, 0, N) h (x + 15) (eA 0 5 P)) (hS : Hd (0, 0, N) h (x + 16) (eA 0 5 Sh)) (hO : Hd (0, 0, N) h (x + 17) (eA 0 5 Of)) : Ok mX11_parts d 0 0 [vR x, vI (M : Int)] N h (fun r h2 => r = none ∧ h2 x = mdl x th wd ((fcs M).length : Int) fm mu um pr ts ∧ (∃ P2 S2 O2, h2 (x + 15) = eA 0 5 P2 ∧ h2 (x + 16) = eA 0 5 S2 ∧ h2 (x + 17) = eA 0 5 O2 ∧ (∀ j, j < (fcs M).length → P2 j = ((pe M j).1 : Int) ∧ S2 j = (((pe M j).1 ^ (pe M j).2 : Nat) : Int) ∧ O2 j = ((pe M j).2 : Int))) ∧ ∀ a, a ≠ x → a ≠ x + 15 → a ≠ x + 16 → a ≠ x + 17 → h2 a = h a) := by
  refine Ok.of pfX11_parts rfl (Nat.le_of_ble_eq_true rfl) (fun Ls sx => ?_)
  show G mX11_parts (d, 0, 0, Ls, sx) 0 [(0, vR x), (1, vI (M : Int))] [] (0, 0, N) h _
  refine g_aload_n (pc := 0) (r := .inl (some x)) dX11_parts_0 rfl ?_
  refine g_iconst (pc := 1) dX11_parts_1 ?_
  refine g_putf (pc := 2) fpX11_158 dX11_parts_2 hx (okv_int _) (Nat.le_of_ble_eq_true rfl) ?_
  have hx_1 := hx.self (e := mdl x th wd 0 fm mu um pr ts)
  have hP_1 := hP.ne (e := mdl x th wd 0 fm mu um pr ts) (a := x) (by omega)
  have hS_1 := hS.ne (e := mdl x th wd 0 fm mu um pr ts) (a := x) (by omega)
  have hO_1 := hO.ne (e := mdl x th wd 0 fm mu um pr ts) (a := x) (by omega)
  refine g_iload_n (pc := 5) (x := (M : Int)) dX11_parts_5 rfl ?_
  refine g_istore_n (pc := 6) (lo2 := [(0, vR x), (1, vI (M : Int)), (2, vI (M : Int))]) dX11_parts_6 (by decide) rfl ?_
  refine g_iconst (pc := 7) dX11_parts_7 ?_
  refine g_istore_n (pc := 8) (lo2 := [(0, vR x), (1, vI (M : Int)), (2, vI (M : Int)), (3, vI 2)]) dX11_parts_8 (by decide) rfl ?_
  exact mp_l2 (fcs_ok hM hM2).1 499 2 0 M _ _ _ _ _ (by omega) rfl (by omega) (by omega) hM2 (Nat.zero_le _) rfl hx_1 hP_1 hS_1 hO_1 (fun j hj => absurd hj (Nat.not_lt_zero j)) (fun a a1 _ _ _ => va_up_ne _ _ a1)
