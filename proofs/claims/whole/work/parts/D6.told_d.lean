/-! ===== Told: lengthen, add ===== -/
theorem len_1 {N d q ct L p gap Ls : Nat} {b nf : Int} {sx s C Rs S : Nat → Int} {h : MH} {Q : Option MV → MR → MH → Prop} (hp : prm p) (hp2 : p ≤ 499) (hct : ct ≤ 63) (hs : ∀ n, n ≤ ct → 0 ≤ s n ∧ s n < p) (hC : ∀ j, 0 ≤ C j ∧ C j < p) (eR : ∀ n, n ≤ ct → Rs n = s n) (eS : ∀ j, j < 65 → S j = C j) (hL : L ≤ ct) (hq : Hd (0, 0, N) h q (told9 q ((ct + 1 : Nat) : Int) (L : Int) (p : Int) (gap : Int) b nf)) (hRs : Hd (0, 0, N) h (q + 2) (eA 0 64 Rs)) (hS : Hd (0, 0, N) h (q + 3) (eA 0 65 S)) (hK : G mX9_lengthen (d + 3, 0, 0, Ls, sx) 55 [(0, vR q), (1, vI (ct : Int)), (2, vJ (cs C s L ct))] [] (0, 0, N) h Q) : ∀ (f i : Nat) (xi K : Int), i + f = L + 1 → xi = (i : Int) → K = ss (fun j => C j * s (ct - j)) 0 i → G mX9_lengthen (d + 3, 0, 0, Ls, sx) 12 [(0, vR q), (1, vI (ct : Int)), (2, vJ K), (4, vI xi)] [] (0, 0, N) h Q := by
  intro f
  induction f with
  | zero =>
    intro i xi K hf ex eK
    refine g_iload (pc := 12) (x := xi) dX9_lengthen_12 rfl ?_
    refine g_aload_n (pc := 14) (r := .inl (some q)) dX9_lengthen_14 rfl ?_
    refine g_getf (pc := 15) (v := vI (L : Int)) flX9_46 dX9_lengthen_15 hq rfl ?_
    refine g_icmp_gtT (pc := 18) (tgt := 55) dX9_lengthen_18 (by decide) (by omega) (by omega) (by omega) ?_
    refine g_pick [0, 1, 2] (lo2 := [(0, vR q), (1, vI (ct : Int)), (2, vJ K)]) rfl ?_
    rw [eK, show i = L + 1 by omega]
    exact hK
  | succ f ih =>
    intro i xi K hf ex eK
    subst ex
    have c1 := hC i
    have s1 := hs (ct - i) (by omega)
    refine g_iload (pc := 12) (x := (i : Int)) dX9_lengthen_12 rfl ?_
    refine g_aload_n (pc := 14) (r := .inl (some q)) dX9_lengthen_14 rfl ?_
    refine g_getf (pc := 15) (v := vI (L : Int)) flX9_46 dX9_lengthen_15 hq rfl ?_
    refine g_icmp_gtF (pc := 18) (tgt := 55) dX9_lengthen_18 (by decide) (by omega) (by omega) (by omega) ?_
    refine g_iload (pc := 21) (x := (i : Int)) dX9_lengthen_21 rfl ?_
    refine g_iload_n (pc := 23) (x := (ct : Int)) dX9_lengthen_23 rfl ?_
    refine g_icmp_gtF (pc := 24) (tgt := 55) dX9_lengthen_24 (by decide) (by omega) (by omega) (by omega) ?_
    refine g_lload_n (pc := 27) (x := K) dX9_lengthen_27 rfl ?_
    refine g_aload_n (pc := 28) (r := .inl (some q)) dX9_lengthen_28 rfl ?_
    refine g_getf (pc := 29) (v := vR (q + 3)) flX9_18 dX9_lengthen_29 hq rfl ?_
    refine g_iload (pc := 32) (x := (i : Int)) dX9_lengthen_32 rfl ?_
    refine g_ialdN (pc := 34) (j := i) dX9_lengthen_34 hS (by omega) (by omega) (by omega) ?_
    rw [eS i (by omega)]
    refine g_i2l (pc := 35) dX9_lengthen_35 (by omega) ?_
    refine g_aload_n (pc := 36) (r := .inl (some q)) dX9_lengthen_36 rfl ?_
    refine g_getf (pc := 37) (v := vR (q + 2)) flX9_15 dX9_lengthen_37 hq rfl ?_
    refine g_iload_n (pc := 40) (x := (ct : Int)) dX9_lengthen_40 rfl ?_
    refine g_iload (pc := 41) (x := (i : Int)) dX9_lengthen_41 rfl ?_
    refine g_isub (pc := 43) dX9_lengthen_43 ?_
    refine g_ialdN (pc := 44) (j := ct - i) dX9_lengthen_44 hRs (by omega) (by omega) (by omega) ?_
    rw [eR _ (by omega)]
    refine g_i2l (pc := 45) dX9_lengthen_45 (by omega) ?_
    refine g_lmul (pc := 46) dX9_lengthen_46 ?_
    refine g_ladd (pc := 47) dX9_lengthen_47 ?_
    refine g_lstore_n (pc := 48) (lo2 := [(0, vR q), (1, vI (ct : Int)), (2, vJ (K + ((C i) * (s (ct - i))))), (4, vI (i : Int))]) dX9_lengthen_48 (by decide) rfl ?_
    refine g_iinc (pc := 49) (x := (i : Int)) (lo2 := [(0, vR q), (1, vI (ct : Int)), (2, vJ (K + ((C i) * (s (ct - i))))), (4, vI ((i : Int) + 1))]) dX9_lengthen_49 rfl (by decide) rfl ?_
    refine g_goto (pc := 52) (tgt := 12) dX9_lengthen_52 (by decide) ?_
    refine ih (i + 1) _ _ (by omega) (by omega) ?_
    rw [ss_last, ← eK, Nat.zero_add]

/-- the sums behind a step -/
def nx2 (p gap : Nat) (C B : Nat → Int) (t : Int) (j : Nat) : Int := if j < gap then C j else (C j - t * B (j - gap)) % (p : Int)
theorem nx2_bd {p gap : Nat} {C B : Nat → Int} {t : Int} (hp : 2 ≤ p) (hC : ∀ j, 0 ≤ C j ∧ C j < p) (j : Nat) : 0 ≤ nx2 p gap C B t j ∧ nx2 p gap C B t j < p := by
  unfold nx2
  split
  · exact hC j
  · exact ⟨Int.emod_nonneg _ (by omega), Int.emod_lt_of_pos _ (by omega)⟩
theorem nx2_dvd {p gap : Nat} {C B : Nat → Int} {t : Int} (j : Nat) : (p : Int) ∣ nx2 p gap C B t j - (C j - t * shf gap B j) := by
  unfold nx2 shf
  by_cases c : j < gap
  · rw [if_pos c, if_pos c, show C j - (C j - t * 0) = 0 by omega]
    exact Int.dvd_zero _
  · rw [if_neg c, if_neg c]
    exact emod_dvd9 p _

theorem len_2 {N d q ct L p gap Ls : Nat} {b nf wr t : Int} {sx C B Bt : Nat → Int} {h0 : MH} {Q : Option MV → MR → MH → Prop} (hp : prm p) (hp2 : p ≤ 499) (hg : 1 ≤ gap ∧ gap ≤ 65) (hC : ∀ j, 0 ≤ C j ∧ C j < p) (hBr : ∀ j, 0 ≤ B j ∧ B j < p) (eB : ∀ j, j < 65 → Bt j = B j) (ht : 0 ≤ t ∧ t ≤ 250000) (hq0 : Hd (0, 0, N) h0 q (told9 q ((ct + 1 : Nat) : Int) (L : Int) (p : Int) (gap : Int) b nf)) (hB0 : Hd (0, 0, N) h0 (q + 4) (eA 0 65 Bt)) (hK : ∀ (S : Nat → Int) (h : MH), Hd (0, 0, N) h (q + 3) (eA 0 65 S) → (∀ j, j < 65 → S j = nx2 p gap C B t j) → (∀ a, a ≠ q + 3 → h a = h0 a) → G mX9_lengthen (d + 3, 0, 0, Ls, sx) 185 [(0, vR q), (1, vI (ct : Int)), (4, vI wr)] [] (0, 0, N) h Q) : ∀ (f i : Nat) (xi : Int) (S : Nat → Int) (h : MH), i + f + gap = 65 → xi = (i : Int) → Hd (0, 0, N) h (q + 3) (eA 0 65 S) → (∀ j, j < 65 → S j = if j < gap + i then nx2 p gap C B t j else C j) → (∀ a, a ≠ q + 3 → h a = h0 a) → G mX9_lengthen (d + 3, 0, 0, Ls, sx) 120 [(0, vR q), (1, vI (ct : Int)), (4, vI wr), (5, vJ t), (7, vI xi)] [] (0, 0, N) h Q := by
  intro f
  induction f with
  | zero =>
    intro i xi S h hf ex hS eS hk
    have hq := hq0.keep (hk q (by omega))
    have hB := hB0.keep (hk _ (by omega))
    refine g_iload (pc := 120) (x := xi) dX9_lengthen_120 rfl ?_
    refine g_aload_n (pc := 122) (r := .inl (some q)) dX9_lengthen_122 rfl ?_
    refine g_getf (pc := 123) (v := vI (gap : Int)) flX9_49 dX9_lengthen_123 hq rfl ?_
    refine g_iadd (pc := 126) dX9_lengthen_126 ?_
    refine g_aload_n (pc := 127) (r := .inl (some q)) dX9_lengthen_127 rfl ?_
    refine g_getf (pc := 128) (v := vR (q + 3)) flX9_18 dX9_lengthen_128 hq rfl ?_
    refine g_alen (pc := 131) dX9_lengthen_131 hS (by decide) ?_
    refine g_icmp_geT (pc := 132) (tgt := 185) dX9_lengthen_132 (by decide) (by omega) (by omega) (by omega) ?_
    refine g_pick [0, 1, 2] (lo2 := [(0, vR q), (1, vI (ct : Int)), (4, vI wr)]) rfl ?_
    exact hK S h hS (fun j hj => by rw [eS j hj, if_pos (by omega)]) hk
  | succ f ih =>
    intro i xi S h hf ex hS eS hk
    have hq := hq0.keep (hk q (by omega))
    have hB := hB0.keep (hk _ (by omega))
    subst ex
    have p2 := hp.1
    have c1 := hC (i + gap)
    have b1 := hBr i
    have m1 := mul_bd (A := 250000) (B := 500) (x := t) (y := B i) (by omega) (by omega)
    have e1 : S (i + gap) = C (i + gap) := by rw [eS _ (by omega), if_neg (by omega)]
    have e2 : nx2 p gap C B t (i + gap) = (C (i + gap) - t * B i) % (p : Int) := by
      unfold nx2
      rw [if_neg (by omega), Nat.add_sub_cancel]
    refine g_iload (pc := 120) (x := (i : Int)) dX9_lengthen_120 rfl ?_
    refine g_aload_n (pc := 122) (r := .inl (some q)) dX9_lengthen_122 rfl ?_
    refine g_getf (pc := 123) (v := vI (gap : Int)) flX9_49 dX9_lengthen_123 hq rfl ?_
    refine g_iadd (pc := 126) dX9_lengthen_126 ?_
    refine g_aload_n (pc := 127) (r := .inl (some q)) dX9_lengthen_127 rfl ?_
    refine g_getf (pc := 128) (v := vR (q + 3)) flX9_18 dX9_lengthen_128 hq rfl ?_
    refine g_alen (pc := 131) dX9_lengthen_131 hS (by decide) ?_
    refine g_icmp_geF (pc := 132) (tgt := 185) dX9_lengthen_132 (by decide) (by omega) (by omega) (by omega) ?_
    refine g_aload_n (pc := 135) (r := .inl (some q)) dX9_lengthen_135 rfl ?_
    refine g_getf (pc := 136) (v := vR (q + 3)) flX9_18 dX9_lengthen_136 hq rfl ?_
    refine g_iload (pc := 139) (x := (i : Int)) dX9_lengthen_139 rfl ?_
    refine g_aload_n (pc := 141) (r := .inl (some q)) dX9_lengthen_141 rfl ?_
    refine g_getf (pc := 142) (v := vI (gap : Int)) flX9_49 dX9_lengthen_142 hq rfl ?_
    refine g_iadd (pc := 145) dX9_lengthen_145 ?_
    refine g_aload_n (pc := 146) (r := .inl (some q)) dX9_lengthen_146 rfl ?_
    refine g_getf (pc := 147) (v := vR (q + 3)) flX9_18 dX9_lengthen_147 hq rfl ?_
    refine g_iload (pc := 150) (x := (i : Int)) dX9_lengthen_150 rfl ?_
    refine g_aload_n (pc := 152) (r := .inl (some q)) dX9_lengthen_152 rfl ?_
    refine g_getf (pc := 153) (v := vI (gap : Int)) flX9_49 dX9_lengthen_153 hq rfl ?_
    refine g_iadd (pc := 156) dX9_lengthen_156 ?_
    refine g_ialdN (pc := 157) (j := i + gap) dX9_lengthen_157 hS (by omega) (by omega) (by omega) ?_
    rw [e1]
    refine g_i2l (pc := 158) dX9_lengthen_158 (by omega) ?_
    refine g_lload (pc := 159) (x := t) dX9_lengthen_159 rfl ?_
    refine g_aload_n (pc := 161) (r := .inl (some q)) dX9_lengthen_161 rfl ?_
    refine g_getf (pc := 162) (v := vR (q + 4)) flX9_21 dX9_lengthen_162 hq rfl ?_
    refine g_iload (pc := 165) (x := (i : Int)) dX9_lengthen_165 rfl ?_
    refine g_ialdN (pc := 167) (j := i) dX9_lengthen_167 hB (by omega) (by omega) (by omega) ?_
    rw [eB i (by omega)]
    refine g_i2l (pc := 168) dX9_lengthen_168 (by omega) ?_
    refine g_lmul (pc := 169) dX9_lengthen_169 ?_
    refine g_lsub (pc := 170) dX9_lengthen_170 ?_
    refine g_aload_n (pc := 171) (r := .inl (some q)) dX9_lengthen_171 rfl ?_
    refine g_getf (pc := 172) (v := vI (p : Int)) flX9_39 dX9_lengthen_172 hq rfl ?_
    refine g_callS0 (pc := 175) (as := [vJ ((C (i + gap)) - (t * (B i))), vI (p : Int)]) (st := [vI ((i : Int) + (gap : Int)), vR (q + 3)]) lsX9_65 dX9_lengthen_175 (Nat.le_of_ble_eq_true rfl) (by omega) (Nat.zero_le _) (Nat.zero_le _) (c_restOf (d := d) (by omega) (by omega) (by omega)) ?_
    rintro r h1 ⟨e9, e8⟩
    subst e9
    subst e8
    rw [← e2]
    refine g_iastN (pc := 178) (j := i + gap) dX9_lengthen_178 hS (by omega) (by omega) (by omega) ?_
    have hq_1 := hq.ne (e := eA 0 65 (va_up S (i + gap) (nx2 p gap C B t (i + gap)))) (a := q + 3) (by omega)
    have hS_1 := hS.self (e := eA 0 65 (va_up S (i + gap) (nx2 p gap C B t (i + gap))))
    have hB_1 := hB.ne (e := eA 0 65 (va_up S (i + gap) (nx2 p gap C B t (i + gap)))) (a := q + 3) (by omega)
    refine g_iinc (pc := 179) (x := (i : Int)) (lo2 := [(0, vR q), (1, vI (ct : Int)), (4, vI wr), (5, vJ t), (7, vI ((i : Int) + 1))]) dX9_lengthen_179 rfl (by decide) rfl ?_
    refine g_goto (pc := 182) (tgt := 120) dX9_lengthen_182 (by decide) ?_
    refine ih (i + 1) _ _ _ (by omega) (by omega) hS_1 (fun j hj => ?_) (fun a z1 => (va_up_ne _ _ z1).trans (hk a z1))
    by_cases ej : j = i + gap
    · rw [ej, va_up_self, if_pos (by omega)]
    · rw [va_up_ne _ _ ej, eS j hj]
      by_cases cj : j < gap + i
      · rw [if_pos cj, if_pos (by omega)]
      · rw [if_neg cj, if_neg (by omega)]

theorem c_lengthen {N d q ct L p gap : Nat} {b nf : Int} {s C B Rs S Bt Sp : Nat → Int} {h : MH} (hp : prm p) (hp2 : p ≤ 499) (hct : ct ≤ 63) (hs : ∀ n, n ≤ ct → 0 ≤ s n ∧ s n < p) (bm : BMi p ct s L C B gap b) (hC : ∀ j, 0 ≤ C j ∧ C j < p) (hBr : ∀ j, 0 ≤ B j ∧ B j < p) (hb : 0 < b ∧ b < p) (eR : ∀ n, n ≤ ct → Rs n = s n) (eS : ∀ j, j < 65 → S j = C j) (eB : ∀ j, j < 65 → Bt j = B j) (hq : Hd (0, 0, N) h q (told9 q ((ct + 1 : Nat) : Int) (L : Int) (p : Int) (gap : Int) b nf)) (hRs : Hd (0, 0, N) h (q + 2) (eA 0 64 Rs)) (hS : Hd (0, 0, N) h (q + 3) (eA 0 65 S)) (hB : Hd (0, 0, N) h (q + 4) (eA 0 65 Bt)) (hSp : Hd (0, 0, N) h (q + 5) (eA 0 65 Sp)) : Ok mX9_lengthen (d + 3) 0 0 [vR q] N h (fun r h2 => r = none ∧ (∃ (L2 gap2 : Nat) (b2 : Int) (C2 B2 S2 Bt2 : Nat → Int), BMi p (ct + 1) s L2 C2 B2 gap2 b2 ∧ (∀ j, 0 ≤ C2 j ∧ C2 j < p) ∧ (∀ j, 0 ≤ B2 j ∧ B2 j < p) ∧ (0 < b2 ∧ b2 < p) ∧ Hd (0, 0, N) h2 q (told9 q ((ct + 1 : Nat) : Int) (L2 : Int) (p : Int) (gap2 : Int) b2 nf) ∧ Hd (0, 0, N) h2 (q + 3) (eA 0 65 S2) ∧ (∀ j, j < 65 → S2 j = C2 j) ∧ Hd (0, 0, N) h2 (q + 4) (eA 0 65 Bt2) ∧ (∀ j, j < 65 → Bt2 j = B2 j) ∧ ∃ f, Hd (0, 0, N) h2 (q + 5) (eA 0 65 f)) ∧ ∀ a, a ≠ q → (a < q + 3 ∨ q + 5 < a) → h2 a = h a) := by
  refine Ok.of pfX9_lengthen rfl (Nat.le_of_ble_eq_true rfl) (fun Ls sx => ?_)
  show G mX9_lengthen (d + 3, 0, 0, Ls, sx) 0 [(0, vR q)] [] (0, 0, N) h _
  obtain ⟨⟨a1, a2, a3, a4⟩, a5, a6, a7, a8⟩ := id bm
  have p2 := hp.1
  have hg : 1 ≤ gap ∧ gap ≤ 64 := by
    rcases a8 with ⟨-, z2, -⟩ | ⟨LB, nB, z1, -⟩ <;> omega
  have hKb : 0 ≤ cs C s L ct ∧ cs C s L ct ≤ ((L + 1 : Nat) : Int) * 250000 := ss_bd (L + 1) 0 (fun i _ hi => by
    have h1 := hC i
    have h2 := hs (ct - i) (by omega)
    have h3 := mul_bd (A := 500) (B := 500) (x := C i) (y := s (ct - i)) (by omega) (by omega)
    have h4 := Int.mul_nonneg h1.1 h2.1
    exact ⟨h4, by omega⟩)
  have hwd := emod_dvd9 p (cs C s L ct)
  have w0 := Int.emod_nonneg (cs C s L ct) (show (p : Int) ≠ 0 by omega)
  have w1 := Int.emod_lt_of_pos (cs C s L ct) (show (0 : Int) < p by omega)
  refine g_aload_n (pc := 0) (r := .inl (some q)) dX9_lengthen_0 rfl ?_
  refine g_getf (pc := 1) (v := vI ((ct + 1 : Nat) : Int)) flX9_43 dX9_lengthen_1 hq rfl ?_
  refine g_iconst (pc := 4) dX9_lengthen_4 ?_
  refine g_isub (pc := 5) dX9_lengthen_5 ?_
  rw [show ((ct + 1 : Nat) : Int) - 1 = (ct : Int) by omega]
  refine g_istore_n (pc := 6) (lo2 := [(0, vR q), (1, vI (ct : Int))]) dX9_lengthen_6 (by decide) rfl ?_
  refine g_lconst0 (pc := 7) dX9_lengthen_7 ?_
  refine g_lstore_n (pc := 8) (lo2 := [(0, vR q), (1, vI (ct : Int)), (2, vJ 0)]) dX9_lengthen_8 (by decide) rfl ?_
  refine g_iconst (pc := 9) dX9_lengthen_9 ?_
  refine g_istore (pc := 10) (lo2 := [(0, vR q), (1, vI (ct : Int)), (2, vJ 0), (4, vI 0)]) dX9_lengthen_10 (by decide) rfl ?_
  refine len_1 hp hp2 hct hs hC eR eS a3 hq hRs hS ?_ (L + 1) 0 _ _ (by omega) rfl rfl
  refine g_lload_n (pc := 55) (x := cs C s L ct) dX9_lengthen_55 rfl ?_
  refine g_aload_n (pc := 56) (r := .inl (some q)) dX9_lengthen_56 rfl ?_
  refine g_getf (pc := 57) (v := vI (p : Int)) flX9_39 dX9_lengthen_57 hq rfl ?_
  refine g_callS0 (pc := 60) (as := [vJ (cs C s L ct), vI (p : Int)]) (st := []) lsX9_65 dX9_lengthen_60 (Nat.le_of_ble_eq_true rfl) (by omega) (Nat.zero_le _) (Nat.zero_le _) (c_restOf (d := d + 1) (by omega) (by omega) (by omega)) ?_
  rintro r h1 ⟨e9, e8⟩
  subst e9
  subst e8
  obtain ⟨wr, ewr⟩ : ∃ wr, wr = cs C s L ct % (p : Int) := ⟨_, rfl⟩
  rw [← ewr] at hwd w0 w1 ⊢
  refine g_istore (pc := 63) (lo2 := [(0, vR q), (1, vI (ct : Int)), (2, vJ (cs C s L ct)), (4, vI wr)]) dX9_lengthen_63 (by decide) rfl ?_
  refine g_iload (pc := 65) (x := wr) dX9_lengthen_65 rfl ?_
  refine g_if_ne (pc := 67) (tgt := 81) dX9_lengthen_67 (by decide) (by omega) (fun hwr => ?_) (fun hwr => ?_)
  · have hd0 : ¬ (p : Int) ∣ cs C s L ct := fun z => hwr (by rw [ewr]; exact Int.emod_eq_zero_of_dvd z)
    have hcop : Nat.gcd p (b % (p : Int)).toNat = 1 := by
      rw [Int.emod_eq_of_lt (by omega) hb.2]
      refine prm_cop hp (fun z => ?_)
      have := Nat.le_of_dvd (by omega) z
      omega
    refine g_aload_n (pc := 81) (r := .inl (some q)) dX9_lengthen_81 rfl ?_
    refine g_getf (pc := 82) (v := vR (q + 3)) flX9_18 dX9_lengthen_82 hq rfl ?_
    refine g_iconst (pc := 85) dX9_lengthen_85 ?_
    refine g_aload_n (pc := 86) (r := .inl (some q)) dX9_lengthen_86 rfl ?_
    refine g_getf (pc := 87) (v := vR (q + 5)) flX9_24 dX9_lengthen_87 hq rfl ?_
    refine g_iconst (pc := 90) dX9_lengthen_90 ?_
    refine g_aload_n (pc := 91) (r := .inl (some q)) dX9_lengthen_91 rfl ?_
    refine g_getf (pc := 92) (v := vR (q + 3)) flX9_18 dX9_lengthen_92 hq rfl ?_
    refine g_alen (pc := 95) dX9_lengthen_95 hS (by decide) ?_
    refine g_copy (pc := 96) (st := []) (sp := 0) (dp := 0) (n := 65) cpX9_74 dX9_lengthen_96 hS hSp (by omega) (by omega) (by omega) (by omega) (by omega) (by omega) (by omega) (by omega) (Nat.le_of_ble_eq_true rfl) ?_
    have hq_1 := hq.ne (e := eA 0 65 (va_cpy S Sp 0 0 65)) (a := q + 5) (by omega)
    have hRs_1 := hRs.ne (e := eA 0 65 (va_cpy S Sp 0 0 65)) (a := q + 5) (by omega)
    have hS_1 := hS.ne (e := eA 0 65 (va_cpy S Sp 0 0 65)) (a := q + 5) (by omega)
    have hB_1 := hB.ne (e := eA 0 65 (va_cpy S Sp 0 0 65)) (a := q + 5) (by omega)
    have hSp_1 := hSp.self (e := eA 0 65 (va_cpy S Sp 0 0 65))
    refine g_iload (pc := 99) (x := wr) dX9_lengthen_99 rfl ?_
    refine g_i2l (pc := 101) dX9_lengthen_101 (by omega) ?_
    refine g_aload_n (pc := 102) (r := .inl (some q)) dX9_lengthen_102 rfl ?_
    refine g_getf (pc := 103) (v := vI b) flX9_52 dX9_lengthen_103 hq_1 rfl ?_
    refine g_aload_n (pc := 106) (r := .inl (some q)) dX9_lengthen_106 rfl ?_
    refine g_getf (pc := 107) (v := vI (p : Int)) flX9_39 dX9_lengthen_107 hq_1 rfl ?_
    refine g_callS0 (pc := 110) (as := [vI b, vI (p : Int)]) (st := [vJ wr]) lsX9_80 dX9_lengthen_110 (Nat.le_of_ble_eq_true rfl) (by omega) (Nat.zero_le _) (Nat.zero_le _) (c_inverse (d := d) (m := p) (v := b) (by omega) (by omega) (by omega)) ?_
    rintro r h2 ⟨e9, v, e8, v1, -⟩
    subst e9
    subst e8
    obtain ⟨v2, v3, v4⟩ := v1 hcop
    have m1 := mul_bd (A := 500) (B := 500) (x := wr) (y := v) (by omega) (by omega)
    have m2 := Int.mul_nonneg w0 v2
    have ht : (p : Int) ∣ wr * v * b - cs C s L ct := by
      have z := Int.dvd_add (Int.dvd_mul_of_dvd_right (b := wr) v4) hwd
      rwa [show wr * (v * b - 1) + (wr - cs C s L ct) = wr * v * b - cs C s L ct by grind] at z
    refine g_pick [0, 1, 3] (lo2 := [(0, vR q), (1, vI (ct : Int)), (4, vI wr)]) rfl ?_
    refine g_i2l (pc := 113) dX9_lengthen_113 (by omega) ?_
    refine g_lmul (pc := 114) dX9_lengthen_114 ?_
    refine g_lstore (pc := 115) (lo2 := [(0, vR q), (1, vI (ct : Int)), (4, vI wr), (5, vJ (wr * v))]) dX9_lengthen_115 (by decide) rfl ?_
    refine g_iconst (pc := 117) dX9_lengthen_117 ?_
    refine g_istore (pc := 118) (lo2 := [(0, vR q), (1, vI (ct : Int)), (4, vI wr), (5, vJ (wr * v)), (7, vI 0)]) dX9_lengthen_118 (by decide) rfl ?_
    refine len_2 (C := C) (B := B) (t := wr * v) (h0 := va_up h1 (q + 5) (eA 0 65 (va_cpy S Sp 0 0 65))) hp hp2 (by omega) hC hBr eB (by omega) hq_1 hB_1 (fun S2 h3 hS2 eS2 k3 => ?_) (65 - gap) 0 _ S _ (by omega) rfl hS_1 (fun j hj => ?_) (fun _ _ => rfl)
    · have hq_2 := hq_1.keep (k3 _ (by omega))
      have hB_2 := hB_1.keep (k3 _ (by omega))
      have hSp_2 := hSp_1.keep (k3 _ (by omega))
      have hS3 := hS2
      have hz : ∀ j, L < j → ct + 1 < L + j → nx2 p gap C B (wr * v) j = 0 := fun j j1 j2 => by
        unfold nx2
        by_cases cj : j < gap
        · rw [if_pos cj]
          exact a2 j j1
        · rw [if_neg cj, a2 j j1, show B (j - gap) = 0 by
            rcases a8 with ⟨z1, z2, z3⟩ | ⟨LB, nB, z1, z2, z3, -⟩
            · exact z3 _ (by omega)
            · exact z3 _ (by omega), Int.mul_zero, Int.sub_zero, Int.zero_emod]
      have hwd2 : (p : Int) ∣ cs C s L ct - wr := by have := Int.dvd_neg.mpr hwd; rwa [show -(wr - cs C s L ct) = cs C s L ct - wr by omega] at this
      obtain ⟨n1, n2⟩ := bm_new bm hd0 hwd2 ht (nx2_dvd (p := p) (gap := gap) (C := C) (B := B) (t := wr * v)) (by unfold nx2; rw [if_pos (by omega)]; exact a1) hz
      have hN := nx2_bd (gap := gap) (B := B) (t := wr * v) p2 hC
      refine g_aload_n (pc := 185) (r := .inl (some q)) dX9_lengthen_185 rfl ?_
      refine g_dup (pc := 186) dX9_lengthen_186 rfl ?_
      refine g_getf (pc := 187) (v := vI (gap : Int)) flX9_49 dX9_lengthen_187 hq_2 rfl ?_
      refine g_iconst (pc := 190) dX9_lengthen_190 ?_
      refine g_iadd (pc := 191) dX9_lengthen_191 ?_
      refine g_putf (pc := 192) fpX9_49 dX9_lengthen_192 hq_2 (okv_int _) (Nat.le_of_ble_eq_true rfl) ?_
      have hq_3 := hq_2.self (e := eO 9 [vI ((ct + 1 : Nat) : Int), vI (L : Int), vR (q + 1), vR (q + 2), vR (q + 3), vR (q + 4), vR (q + 5), vR (q + 6), vR (q + 7), vI (p : Int), vI ((gap : Int) + 1), vI b, vI nf])
      have hB_3 := hB_2.ne (e := eO 9 [vI ((ct + 1 : Nat) : Int), vI (L : Int), vR (q + 1), vR (q + 2), vR (q + 3), vR (q + 4), vR (q + 5), vR (q + 6), vR (q + 7), vI (p : Int), vI ((gap : Int) + 1), vI b, vI nf]) (a := q) (by omega)
      have hSp_3 := hSp_2.ne (e := eO 9 [vI ((ct + 1 : Nat) : Int), vI (L : Int), vR (q + 1), vR (q + 2), vR (q + 3), vR (q + 4), vR (q + 5), vR (q + 6), vR (q + 7), vI (p : Int), vI ((gap : Int) + 1), vI b, vI nf]) (a := q) (by omega)
      have hS3_3 := hS3.ne (e := eO 9 [vI ((ct + 1 : Nat) : Int), vI (L : Int), vR (q + 1), vR (q + 2), vR (q + 3), vR (q + 4), vR (q + 5), vR (q + 6), vR (q + 7), vI (p : Int), vI ((gap : Int) + 1), vI b, vI nf]) (a := q) (by omega)
      refine g_iconst (pc := 195) dX9_lengthen_195 ?_
      refine g_aload_n (pc := 196) (r := .inl (some q)) dX9_lengthen_196 rfl ?_
      refine g_getf (pc := 197) (v := vI (L : Int)) flX9_46 dX9_lengthen_197 hq_3 rfl ?_
      refine g_imul (pc := 200) dX9_lengthen_200 ?_
      refine g_iload_n (pc := 201) (x := (ct : Int)) dX9_lengthen_201 rfl ?_
      refine g_icmp_gt (pc := 202) (tgt := 247) dX9_lengthen_202 (by decide) (by omega) (by omega) (fun hL2 => ?_) (fun hL2 => ?_)
      · exact r_void (pc := 247) dX9_lengthen_247 rfl rfl (Nat.le_refl _) ⟨rfl, ⟨L, gap + 1, b, _, B, S2, Bt, n2 (by omega), hN, hBr, hb, hq_3, hS3_3, eS2, hB_3, eB, _, hSp_3⟩, fun a z1 z2 => by rw [va_up_ne _ _ z1, k3 a (by omega), va_up_ne _ _ (by omega)]⟩
      · refine g_aload_n (pc := 205) (r := .inl (some q)) dX9_lengthen_205 rfl ?_
        refine g_aload_n (pc := 206) (r := .inl (some q)) dX9_lengthen_206 rfl ?_
        refine g_getf (pc := 207) (v := vI ((ct + 1 : Nat) : Int)) flX9_43 dX9_lengthen_207 hq_3 rfl ?_
        refine g_aload_n (pc := 210) (r := .inl (some q)) dX9_lengthen_210 rfl ?_
        refine g_getf (pc := 211) (v := vI (L : Int)) flX9_46 dX9_lengthen_211 hq_3 rfl ?_
        refine g_isub (pc := 214) dX9_lengthen_214 ?_
        refine g_putf (pc := 215) fpX9_46 dX9_lengthen_215 hq_3 (okv_int _) (Nat.le_of_ble_eq_true rfl) ?_
        have hq_4 := hq_3.self (e := eO 9 [vI ((ct + 1 : Nat) : Int), vI (((ct + 1 : Nat) : Int) - (L : Int)), vR (q + 1), vR (q + 2), vR (q + 3), vR (q + 4), vR (q + 5), vR (q + 6), vR (q + 7), vI (p : Int), vI ((gap : Int) + 1), vI b, vI nf])
        have hB_4 := hB_3.ne (e := eO 9 [vI ((ct + 1 : Nat) : Int), vI (((ct + 1 : Nat) : Int) - (L : Int)), vR (q + 1), vR (q + 2), vR (q + 3), vR (q + 4), vR (q + 5), vR (q + 6), vR (q + 7), vI (p : Int), vI ((gap : Int) + 1), vI b, vI nf]) (a := q) (by omega)
        have hSp_4 := hSp_3.ne (e := eO 9 [vI ((ct + 1 : Nat) : Int), vI (((ct + 1 : Nat) : Int) - (L : Int)), vR (q + 1), vR (q + 2), vR (q + 3), vR (q + 4), vR (q + 5), vR (q + 6), vR (q + 7), vI (p : Int), vI ((gap : Int) + 1), vI b, vI nf]) (a := q) (by omega)
        have hS3_4 := hS3_3.ne (e := eO 9 [vI ((ct + 1 : Nat) : Int), vI (((ct + 1 : Nat) : Int) - (L : Int)), vR (q + 1), vR (q + 2), vR (q + 3), vR (q + 4), vR (q + 5), vR (q + 6), vR (q + 7), vI (p : Int), vI ((gap : Int) + 1), vI b, vI nf]) (a := q) (by omega)
        refine g_aload_n (pc := 218) (r := .inl (some q)) dX9_lengthen_218 rfl ?_
        refine g_getf (pc := 219) (v := vR (q + 5)) flX9_24 dX9_lengthen_219 hq_4 rfl ?_
        refine g_iconst (pc := 222) dX9_lengthen_222 ?_
        refine g_aload_n (pc := 223) (r := .inl (some q)) dX9_lengthen_223 rfl ?_
        refine g_getf (pc := 224) (v := vR (q + 4)) flX9_21 dX9_lengthen_224 hq_4 rfl ?_
        refine g_iconst (pc := 227) dX9_lengthen_227 ?_
        refine g_aload_n (pc := 228) (r := .inl (some q)) dX9_lengthen_228 rfl ?_
        refine g_getf (pc := 229) (v := vR (q + 3)) flX9_18 dX9_lengthen_229 hq_4 rfl ?_
        refine g_alen (pc := 232) dX9_lengthen_232 hS3_4 (by decide) ?_
        refine g_copy (pc := 233) (st := []) (sp := 0) (dp := 0) (n := 65) cpX9_74 dX9_lengthen_233 hSp_4 hB_4 (by omega) (by omega) (by omega) (by omega) (by omega) (by omega) (by omega) (by omega) (Nat.le_of_ble_eq_true rfl) ?_
        have hq_5 := hq_4.ne (e := eA 0 65 (va_cpy (va_cpy S Sp 0 0 65) Bt 0 0 65)) (a := q + 4) (by omega)
        have hB_5 := hB_4.self (e := eA 0 65 (va_cpy (va_cpy S Sp 0 0 65) Bt 0 0 65))
        have hSp_5 := hSp_4.ne (e := eA 0 65 (va_cpy (va_cpy S Sp 0 0 65) Bt 0 0 65)) (a := q + 4) (by omega)
        have hS3_5 := hS3_4.ne (e := eA 0 65 (va_cpy (va_cpy S Sp 0 0 65) Bt 0 0 65)) (a := q + 4) (by omega)
        refine g_aload_n (pc := 236) (r := .inl (some q)) dX9_lengthen_236 rfl ?_
        refine g_iload (pc := 237) (x := wr) dX9_lengthen_237 rfl ?_
        refine g_putf (pc := 239) fpX9_52 dX9_lengthen_239 hq_5 (okv_int _) (Nat.le_of_ble_eq_true rfl) ?_
        have hq_6 := hq_5.self (e := eO 9 [vI ((ct + 1 : Nat) : Int), vI (((ct + 1 : Nat) : Int) - (L : Int)), vR (q + 1), vR (q + 2), vR (q + 3), vR (q + 4), vR (q + 5), vR (q + 6), vR (q + 7), vI (p : Int), vI ((gap : Int) + 1), vI wr, vI nf])
        have hB_6 := hB_5.ne (e := eO 9 [vI ((ct + 1 : Nat) : Int), vI (((ct + 1 : Nat) : Int) - (L : Int)), vR (q + 1), vR (q + 2), vR (q + 3), vR (q + 4), vR (q + 5), vR (q + 6), vR (q + 7), vI (p : Int), vI ((gap : Int) + 1), vI wr, vI nf]) (a := q) (by omega)
        have hSp_6 := hSp_5.ne (e := eO 9 [vI ((ct + 1 : Nat) : Int), vI (((ct + 1 : Nat) : Int) - (L : Int)), vR (q + 1), vR (q + 2), vR (q + 3), vR (q + 4), vR (q + 5), vR (q + 6), vR (q + 7), vI (p : Int), vI ((gap : Int) + 1), vI wr, vI nf]) (a := q) (by omega)
        have hS3_6 := hS3_5.ne (e := eO 9 [vI ((ct + 1 : Nat) : Int), vI (((ct + 1 : Nat) : Int) - (L : Int)), vR (q + 1), vR (q + 2), vR (q + 3), vR (q + 4), vR (q + 5), vR (q + 6), vR (q + 7), vI (p : Int), vI ((gap : Int) + 1), vI wr, vI nf]) (a := q) (by omega)
        refine g_aload_n (pc := 242) (r := .inl (some q)) dX9_lengthen_242 rfl ?_
        refine g_iconst (pc := 243) dX9_lengthen_243 ?_
        refine g_putf (pc := 244) fpX9_49 dX9_lengthen_244 hq_6 (okv_int _) (Nat.le_of_ble_eq_true rfl) ?_
        have hq_7 := hq_6.self (e := eO 9 [vI ((ct + 1 : Nat) : Int), vI (((ct + 1 : Nat) : Int) - (L : Int)), vR (q + 1), vR (q + 2), vR (q + 3), vR (q + 4), vR (q + 5), vR (q + 6), vR (q + 7), vI (p : Int), vI 1, vI wr, vI nf])
        have hB_7 := hB_6.ne (e := eO 9 [vI ((ct + 1 : Nat) : Int), vI (((ct + 1 : Nat) : Int) - (L : Int)), vR (q + 1), vR (q + 2), vR (q + 3), vR (q + 4), vR (q + 5), vR (q + 6), vR (q + 7), vI (p : Int), vI 1, vI wr, vI nf]) (a := q) (by omega)
        have hSp_7 := hSp_6.ne (e := eO 9 [vI ((ct + 1 : Nat) : Int), vI (((ct + 1 : Nat) : Int) - (L : Int)), vR (q + 1), vR (q + 2), vR (q + 3), vR (q + 4), vR (q + 5), vR (q + 6), vR (q + 7), vI (p : Int), vI 1, vI wr, vI nf]) (a := q) (by omega)
        have hS3_7 := hS3_6.ne (e := eO 9 [vI ((ct + 1 : Nat) : Int), vI (((ct + 1 : Nat) : Int) - (L : Int)), vR (q + 1), vR (q + 2), vR (q + 3), vR (q + 4), vR (q + 5), vR (q + 6), vR (q + 7), vI (p : Int), vI 1, vI wr, vI nf]) (a := q) (by omega)
        have hcp : ∀ j, j < 65 → va_cpy (va_cpy S Sp 0 0 65) Bt 0 0 65 j = C j := fun j hj => by
          show (if 0 ≤ j ∧ j < 0 + 65 then (if 0 ≤ 0 + (j - 0) ∧ 0 + (j - 0) < 0 + 65 then S (0 + (0 + (j - 0) - 0)) else Sp (0 + (j - 0))) else Bt j) = C j
          rw [if_pos ⟨Nat.zero_le j, by omega⟩, if_pos ⟨Nat.zero_le _, by omega⟩, show 0 + (0 + (j - 0) - 0) = j by omega]
          exact eS j hj
        have hqf := hq_7
        refine r_void (pc := 247) dX9_lengthen_247 rfl rfl (Nat.le_refl _) ⟨rfl, ⟨ct + 1 - L, 1, wr, _, C, S2, _, n1 (by omega), hN, hC, by omega, ?_, hS3_7, eS2, hB_7, hcp, _, hSp_7⟩, fun a z1 z2 => by rw [va_up_ne _ _ z1, va_up_ne _ _ z1, va_up_ne _ _ (by omega), va_up_ne _ _ z1, va_up_ne _ _ z1, k3 a (by omega), va_up_ne _ _ (by omega)]⟩
        rw [show ((ct + 1 - L : Nat) : Int) = ((ct + 1 : Nat) : Int) - (L : Int) by omega]
        exact hqf
    · rw [eS j hj]
      by_cases cj : j < gap + 0
      · rw [if_pos cj]
        unfold nx2
        rw [if_pos (by omega)]
      · rw [if_neg cj]
  · refine g_aload_n (pc := 70) (r := .inl (some q)) dX9_lengthen_70 rfl ?_
    refine g_dup (pc := 71) dX9_lengthen_71 rfl ?_
    refine g_getf (pc := 72) (v := vI (gap : Int)) flX9_49 dX9_lengthen_72 hq rfl ?_
    refine g_iconst (pc := 75) dX9_lengthen_75 ?_
    refine g_iadd (pc := 76) dX9_lengthen_76 ?_
    refine g_putf (pc := 77) fpX9_49 dX9_lengthen_77 hq (okv_int _) (Nat.le_of_ble_eq_true rfl) ?_
    have hq_1 := hq.self (e := eO 9 [vI ((ct + 1 : Nat) : Int), vI (L : Int), vR (q + 1), vR (q + 2), vR (q + 3), vR (q + 4), vR (q + 5), vR (q + 6), vR (q + 7), vI (p : Int), vI ((gap : Int) + 1), vI b, vI nf])
    have hRs_1 := hRs.ne (e := eO 9 [vI ((ct + 1 : Nat) : Int), vI (L : Int), vR (q + 1), vR (q + 2), vR (q + 3), vR (q + 4), vR (q + 5), vR (q + 6), vR (q + 7), vI (p : Int), vI ((gap : Int) + 1), vI b, vI nf]) (a := q) (by omega)
    have hS_1 := hS.ne (e := eO 9 [vI ((ct + 1 : Nat) : Int), vI (L : Int), vR (q + 1), vR (q + 2), vR (q + 3), vR (q + 4), vR (q + 5), vR (q + 6), vR (q + 7), vI (p : Int), vI ((gap : Int) + 1), vI b, vI nf]) (a := q) (by omega)
    have hB_1 := hB.ne (e := eO 9 [vI ((ct + 1 : Nat) : Int), vI (L : Int), vR (q + 1), vR (q + 2), vR (q + 3), vR (q + 4), vR (q + 5), vR (q + 6), vR (q + 7), vI (p : Int), vI ((gap : Int) + 1), vI b, vI nf]) (a := q) (by omega)
    have hSp_1 := hSp.ne (e := eO 9 [vI ((ct + 1 : Nat) : Int), vI (L : Int), vR (q + 1), vR (q + 2), vR (q + 3), vR (q + 4), vR (q + 5), vR (q + 6), vR (q + 7), vI (p : Int), vI ((gap : Int) + 1), vI b, vI nf]) (a := q) (by omega)
    have hd0 : (p : Int) ∣ cs C s L ct := by rw [hwr] at hwd; have := Int.dvd_neg.mpr hwd; rwa [show -(0 - cs C s L ct) = cs C s L ct by omega] at this
    exact r_void (pc := 80) dX9_lengthen_80 rfl rfl (Nat.le_refl _) ⟨rfl, ⟨L, gap + 1, b, C, B, S, Bt, bm_same bm hd0, hC, hBr, hb, hq_1, hS_1, eS, hB_1, eB, Sp, hSp_1⟩, fun a z1 z2 => va_up_ne _ _ z1⟩

/-- what is told, in the class -/
def TD (N : Nat) (h : MH) (q p ct : Nat) (s : Nat → Int) : Prop := (prm p ∧ p ≤ 499 ∧ ct ≤ 64 ∧ ∀ n, n < ct → 0 ≤ s n ∧ s n < p) ∧ ∃ (L gap : Nat) (b nf : Int) (C B Nm Rs S Bt Sp Pv : Nat → Int) (g : Nat → Nat) (F : Nat → Nat → Int), BMi p ct s L C B gap b ∧ ((∀ j, 0 ≤ C j ∧ C j < p) ∧ (∀ j, 0 ≤ B j ∧ B j < p) ∧ (0 < b ∧ b < p)) ∧ Hd (0, 0, N) h q (told9 q (ct : Int) (L : Int) (p : Int) (gap : Int) b nf) ∧ Hd (0, 0, N) h (q + 1) (eA 0 65 Nm) ∧ Hd (0, 0, N) h (q + 2) (eA 0 64 Rs) ∧ (∀ n, n < ct → Rs n = s n) ∧ Hd (0, 0, N) h (q + 3) (eA 0 65 S) ∧ (∀ j, j < 65 → S j = C j) ∧ Hd (0, 0, N) h (q + 4) (eA 0 65 Bt) ∧ (∀ j, j < 65 → Bt j = B j) ∧ Hd (0, 0, N) h (q + 5) (eA 0 65 Sp) ∧ Hd (0, 0, N) h (q + 6) (eA 0 64 Pv) ∧ TGr N h q g F ∧ (nf = 0 ∨ (nf = 1 ∧ ∀ k, 1 ≤ k → k ≤ L → Nm k = numS p ct L s k))
theorem TD.keep {N : Nat} {h h2 : MH} {q p ct : Nat} {s : Nat → Int} (t : TD N h q p ct s) (k : ∀ a, q ≤ a → a < q + 72 → h2 a = h a) : TD N h2 q p ct s := by
  obtain ⟨t0, L, gap, b, nf, C, B, Nm, Rs, S, Bt, Sp, Pv, g, F, t1, t2, t3, t4, t5, t6, t7, t8, t9, t10, t11, t12, t13, t14⟩ := t
  exact ⟨t0, L, gap, b, nf, C, B, Nm, Rs, S, Bt, Sp, Pv, g, F, t1, t2, t3.keep (k _ (by omega) (by omega)), t4.keep (k _ (by omega) (by omega)), t5.keep (k _ (by omega) (by omega)), t6, t7.keep (k _ (by omega) (by omega)), t8, t9.keep (k _ (by omega) (by omega)), t10, t11.keep (k _ (by omega) (by omega)), t12.keep (k _ (by omega) (by omega)), t13.keep (fun a z1 z2 => k a (by omega) (by omega)), t14⟩

theorem c_tadd {N d q p ct : Nat} {v : Int} {s : Nat → Int} {h : MH} (hv : i32 v) (t : TD N h q p ct s) : Ok mX9_add (d + 4) 0 0 [vR q, vI v] N h (fun r h2 => (ct = 64 ∧ r = some (vI 0) ∧ h2 = h) ∨ (ct < 64 ∧ r = some (vI 1) ∧ TD N h2 q p (ct + 1) (va_up s ct (v % (p : Int))) ∧ ∀ a, (a < q ∨ q + 72 ≤ a) → h2 a = h a)) := by
  refine Ok.of pfX9_add rfl (Nat.le_of_ble_eq_true rfl) (fun Ls sx => ?_)
  show G mX9_add (d + 4, 0, 0, Ls, sx) 0 [(0, vR q), (1, vI v)] [] (0, 0, N) h _
  obtain ⟨⟨hp, hp2, hct, hs⟩, L, gap, b, nf, C, B, Nm, Rs, S, Bt, Sp, Pv, g, F, bm, ⟨hC, hBr, hb⟩, hq, hNm, hRs, eR, hS, eS, hB, eB, hSp, hPv, tg, hnf⟩ := id t
  have p2 := hp.1
  have r0 := Int.emod_nonneg v (show (p : Int) ≠ 0 by omega)
  have r1 := Int.emod_lt_of_pos v (show (0 : Int) < p by omega)
  have hgap : gap ≤ 65 := by
    rcases bm.2.2.2.2 with ⟨-, z2, -⟩ | ⟨LB, nB, z1, -⟩ <;> omega
  have hLc := bm.1.2.2.1
  refine g_aload_n (pc := 0) (r := .inl (some q)) dX9_add_0 rfl ?_
  refine g_getf (pc := 1) (v := vI (ct : Int)) flX9_43 dX9_add_1 hq rfl ?_
  refine g_aload_n (pc := 4) (r := .inl (some q)) dX9_add_4 rfl ?_
  refine g_getf (pc := 5) (v := vR (q + 2)) flX9_15 dX9_add_5 hq rfl ?_
  refine g_alen (pc := 8) dX9_add_8 hRs (by decide) ?_
  refine g_icmp_lt (pc := 9) (tgt := 14) dX9_add_9 (by decide) (by omega) (by omega) (fun hc => ?_) (fun hc => ?_)
  · refine g_aload_n (pc := 14) (r := .inl (some q)) dX9_add_14 rfl ?_
    refine g_getf (pc := 15) (v := vR (q + 2)) flX9_15 dX9_add_15 hq rfl ?_
    refine g_aload_n (pc := 18) (r := .inl (some q)) dX9_add_18 rfl ?_
    refine g_getf (pc := 19) (v := vI (ct : Int)) flX9_43 dX9_add_19 hq rfl ?_
    refine g_iload_n (pc := 22) (x := v) dX9_add_22 rfl ?_
    refine g_i2l (pc := 23) dX9_add_23 (by omega) ?_
    refine g_aload_n (pc := 24) (r := .inl (some q)) dX9_add_24 rfl ?_
    refine g_getf (pc := 25) (v := vI (p : Int)) flX9_39 dX9_add_25 hq rfl ?_
    refine g_callS0 (pc := 28) (as := [vJ v, vI (p : Int)]) (st := [vI (ct : Int), vR (q + 2)]) lsX9_65 dX9_add_28 (Nat.le_of_ble_eq_true rfl) (by omega) (Nat.zero_le _) (Nat.zero_le _) (c_restOf (d := d + 2) (by omega) (by omega) (by omega)) ?_
    rintro r h1 ⟨e9, e8⟩
    subst e9
    subst e8
    refine g_iastN (pc := 31) (j := ct) dX9_add_31 hRs (by omega) (by omega) (by omega) ?_
    have hq_1 := hq.ne (e := eA 0 64 (va_up Rs ct (v % (p : Int)))) (a := q + 2) (by omega)
    have hNm_1 := hNm.ne (e := eA 0 64 (va_up Rs ct (v % (p : Int)))) (a := q + 2) (by omega)
    have hRs_1 := hRs.self (e := eA 0 64 (va_up Rs ct (v % (p : Int))))
    have hS_1 := hS.ne (e := eA 0 64 (va_up Rs ct (v % (p : Int)))) (a := q + 2) (by omega)
    have hB_1 := hB.ne (e := eA 0 64 (va_up Rs ct (v % (p : Int)))) (a := q + 2) (by omega)
    have hSp_1 := hSp.ne (e := eA 0 64 (va_up Rs ct (v % (p : Int)))) (a := q + 2) (by omega)
    have hPv_1 := hPv.ne (e := eA 0 64 (va_up Rs ct (v % (p : Int)))) (a := q + 2) (by omega)
    refine g_aload_n (pc := 32) (r := .inl (some q)) dX9_add_32 rfl ?_
    refine g_dup (pc := 33) dX9_add_33 rfl ?_
    refine g_getf (pc := 34) (v := vI (ct : Int)) flX9_43 dX9_add_34 hq_1 rfl ?_
    refine g_iconst (pc := 37) dX9_add_37 ?_
    refine g_iadd (pc := 38) dX9_add_38 ?_
    refine g_putf (pc := 39) fpX9_43 dX9_add_39 hq_1 (okv_int _) (Nat.le_of_ble_eq_true rfl) ?_
    have hq_2 := hq_1.self (e := eO 9 [vI ((ct : Int) + 1), vI (L : Int), vR (q + 1), vR (q + 2), vR (q + 3), vR (q + 4), vR (q + 5), vR (q + 6), vR (q + 7), vI (p : Int), vI (gap : Int), vI b, vI nf])
    have hNm_2 := hNm_1.ne (e := eO 9 [vI ((ct : Int) + 1), vI (L : Int), vR (q + 1), vR (q + 2), vR (q + 3), vR (q + 4), vR (q + 5), vR (q + 6), vR (q + 7), vI (p : Int), vI (gap : Int), vI b, vI nf]) (a := q) (by omega)
    have hRs_2 := hRs_1.ne (e := eO 9 [vI ((ct : Int) + 1), vI (L : Int), vR (q + 1), vR (q + 2), vR (q + 3), vR (q + 4), vR (q + 5), vR (q + 6), vR (q + 7), vI (p : Int), vI (gap : Int), vI b, vI nf]) (a := q) (by omega)
    have hS_2 := hS_1.ne (e := eO 9 [vI ((ct : Int) + 1), vI (L : Int), vR (q + 1), vR (q + 2), vR (q + 3), vR (q + 4), vR (q + 5), vR (q + 6), vR (q + 7), vI (p : Int), vI (gap : Int), vI b, vI nf]) (a := q) (by omega)
    have hB_2 := hB_1.ne (e := eO 9 [vI ((ct : Int) + 1), vI (L : Int), vR (q + 1), vR (q + 2), vR (q + 3), vR (q + 4), vR (q + 5), vR (q + 6), vR (q + 7), vI (p : Int), vI (gap : Int), vI b, vI nf]) (a := q) (by omega)
    have hSp_2 := hSp_1.ne (e := eO 9 [vI ((ct : Int) + 1), vI (L : Int), vR (q + 1), vR (q + 2), vR (q + 3), vR (q + 4), vR (q + 5), vR (q + 6), vR (q + 7), vI (p : Int), vI (gap : Int), vI b, vI nf]) (a := q) (by omega)
    have hPv_2 := hPv_1.ne (e := eO 9 [vI ((ct : Int) + 1), vI (L : Int), vR (q + 1), vR (q + 2), vR (q + 3), vR (q + 4), vR (q + 5), vR (q + 6), vR (q + 7), vI (p : Int), vI (gap : Int), vI b, vI nf]) (a := q) (by omega)
    refine g_aload_n (pc := 42) (r := .inl (some q)) dX9_add_42 rfl ?_
    refine g_iconst (pc := 43) dX9_add_43 ?_
    refine g_putf (pc := 44) fpX9_55 dX9_add_44 hq_2 (okv_bool (by omega)) (Nat.le_of_ble_eq_true rfl) ?_
    have hq_3 := hq_2.self (e := eO 9 [vI ((ct : Int) + 1), vI (L : Int), vR (q + 1), vR (q + 2), vR (q + 3), vR (q + 4), vR (q + 5), vR (q + 6), vR (q + 7), vI (p : Int), vI (gap : Int), vI b, vI 0])
    have hNm_3 := hNm_2.ne (e := eO 9 [vI ((ct : Int) + 1), vI (L : Int), vR (q + 1), vR (q + 2), vR (q + 3), vR (q + 4), vR (q + 5), vR (q + 6), vR (q + 7), vI (p : Int), vI (gap : Int), vI b, vI 0]) (a := q) (by omega)
    have hRs_3 := hRs_2.ne (e := eO 9 [vI ((ct : Int) + 1), vI (L : Int), vR (q + 1), vR (q + 2), vR (q + 3), vR (q + 4), vR (q + 5), vR (q + 6), vR (q + 7), vI (p : Int), vI (gap : Int), vI b, vI 0]) (a := q) (by omega)
    have hS_3 := hS_2.ne (e := eO 9 [vI ((ct : Int) + 1), vI (L : Int), vR (q + 1), vR (q + 2), vR (q + 3), vR (q + 4), vR (q + 5), vR (q + 6), vR (q + 7), vI (p : Int), vI (gap : Int), vI b, vI 0]) (a := q) (by omega)
    have hB_3 := hB_2.ne (e := eO 9 [vI ((ct : Int) + 1), vI (L : Int), vR (q + 1), vR (q + 2), vR (q + 3), vR (q + 4), vR (q + 5), vR (q + 6), vR (q + 7), vI (p : Int), vI (gap : Int), vI b, vI 0]) (a := q) (by omega)
    have hSp_3 := hSp_2.ne (e := eO 9 [vI ((ct : Int) + 1), vI (L : Int), vR (q + 1), vR (q + 2), vR (q + 3), vR (q + 4), vR (q + 5), vR (q + 6), vR (q + 7), vI (p : Int), vI (gap : Int), vI b, vI 0]) (a := q) (by omega)
    have hPv_3 := hPv_2.ne (e := eO 9 [vI ((ct : Int) + 1), vI (L : Int), vR (q + 1), vR (q + 2), vR (q + 3), vR (q + 4), vR (q + 5), vR (q + 6), vR (q + 7), vI (p : Int), vI (gap : Int), vI b, vI 0]) (a := q) (by omega)
    refine g_aload_n (pc := 47) (r := .inl (some q)) dX9_add_47 rfl ?_
    have hqn := hq_3
    have bm2 : BMi p ct (va_up s ct (v % (p : Int))) L C B gap b := BMi_congr (fun n hn => (va_up_ne _ _ (by omega)).symm) bm
    have hs2 : ∀ n, n ≤ ct → 0 ≤ va_up s ct (v % (p : Int)) n ∧ va_up s ct (v % (p : Int)) n < p := fun n hn => by
      by_cases e : n = ct
      · rw [e, va_up_self]
        exact ⟨r0, r1⟩
      · rw [va_up_ne _ _ e]
        exact hs n (by omega)
    have eR2 : ∀ n, n ≤ ct → va_up Rs ct (v % (p : Int)) n = va_up s ct (v % (p : Int)) n := fun n hn => by
      by_cases e : n = ct
      · rw [e, va_up_self, va_up_self]
      · rw [va_up_ne _ _ e, va_up_ne _ _ e]
        exact eR n (by omega)
    refine g_callV0 (pc := 48) (as := []) (b := q) (st := []) lvX9_71 dX9_add_48 hq_3 (Nat.le_of_ble_eq_true rfl) (by omega) (Nat.zero_le _) (Nat.zero_le _) (c_lengthen (d := d) (nf := 0) (ct := ct) hp hp2 (by omega) hs2 bm2 hC hBr hb eR2 eS eB hqn hRs_3 hS_3 hB_3 hSp_3) ?_
    rintro r h2 ⟨rfl, ⟨L2, gap2, b2, C2, B2, S2, Bt2, n1, n2, n3, n4, n5, n6, n7, n8, n9, Sp2, n10⟩, k2⟩
    refine g_iconst (pc := 51) dX9_add_51 ?_
    refine r_bool (pc := 52) dX9_add_52 rfl rfl (Nat.le_refl _) (Or.inr rfl) (Or.inr ⟨by omega, rfl, ⟨⟨hp, hp2, by omega, fun n hn => hs2 n (by omega)⟩, L2, gap2, b2, 0, C2, B2, Nm, _, S2, Bt2, Sp2, Pv, g, F, n1, ⟨n2, n3, n4⟩, n5, hNm_3.keep (k2 _ (by omega) (by omega)), hRs_3.keep (k2 _ (by omega) (by omega)), fun n hn => eR2 n (by omega), n6, n7, n8, n9, n10, hPv_3.keep (k2 _ (by omega) (by omega)), tg.keep (fun a z1 z2 => ?_), Or.inl rfl⟩, fun a z => ?_⟩)
    · rw [k2 a (by omega) (by omega), va_up_ne _ _ (by omega), va_up_ne _ _ (by omega), va_up_ne _ _ (by omega)]
    · rw [k2 a (by omega) (by omega), va_up_ne _ _ (by omega), va_up_ne _ _ (by omega), va_up_ne _ _ (by omega)]
  · refine g_iconst (pc := 12) dX9_add_12 ?_
    exact r_bool (pc := 13) dX9_add_13 rfl rfl (Nat.le_refl _) (Or.inl rfl) (Or.inl ⟨by omega, rfl, rfl⟩)
