/-! ===== the reference: hasLine, shortOf ===== -/
theorem hl_w {N d x i k W Ls : Nat} {sx : Nat → Int} {s : Int} {h : MH} {Q : Option MV → MR → MH → Prop} (hW : W ≤ 24) (h1 : (W : Int) * W ≤ s) (h2 : s < ((W : Int) + 1) * (W + 1)) (hs : s < 700) (hK : G mX11_hasLine (d + 1, 0, 0, Ls, sx) 22 [(0, vR x), (1, vI (i : Int)), (2, vI (k : Int)), (3, vI s), (4, vI (W : Int))] [] (0, 0, N) h Q) : ∀ (f w : Nat) (xw : Int), w + f = W → xw = (w : Int) → G mX11_hasLine (d + 1, 0, 0, Ls, sx) 3 [(0, vR x), (1, vI (i : Int)), (2, vI (k : Int)), (3, vI s), (4, vI xw)] [] (0, 0, N) h Q := by
  intro f
  induction f with
  | zero =>
    intro w xw hf ex
    have ew : xw = (W : Int) := by omega
    subst ew
    have hb := mul_bd (A := 25) (B := 25) (x := (W : Int) + 1) (y := (W : Int) + 1) (by omega) (by omega)
    have hn := sq_nn (W : Int)
    refine g_iload (pc := 3) (x := (W : Int)) dX11_hasLine_3 rfl ?_
    refine g_iconst (pc := 5) dX11_hasLine_5 ?_
    refine g_iadd (pc := 6) dX11_hasLine_6 ?_
    refine g_iload (pc := 7) (x := (W : Int)) dX11_hasLine_7 rfl ?_
    refine g_iconst (pc := 9) dX11_hasLine_9 ?_
    refine g_iadd (pc := 10) dX11_hasLine_10 ?_
    refine g_imul (pc := 11) dX11_hasLine_11 ?_
    refine g_iload_n (pc := 12) (x := s) dX11_hasLine_12 rfl ?_
    refine g_icmp_gtT (pc := 13) (tgt := 22) dX11_hasLine_13 (by decide) (by omega) (by omega) (by omega) ?_
    exact hK
  | succ f ih =>
    intro w xw hf ex
    have hb := mul_bd (A := 25) (B := 25) (x := xw + 1) (y := xw + 1) (by omega) (by omega)
    have hn := sq_nn (W : Int)
    have hm := Int.mul_le_mul (show xw + 1 ≤ (W : Int) by omega) (show xw + 1 ≤ (W : Int) by omega) (by omega) (by omega)
    refine g_iload (pc := 3) (x := xw) dX11_hasLine_3 rfl ?_
    refine g_iconst (pc := 5) dX11_hasLine_5 ?_
    refine g_iadd (pc := 6) dX11_hasLine_6 ?_
    refine g_iload (pc := 7) (x := xw) dX11_hasLine_7 rfl ?_
    refine g_iconst (pc := 9) dX11_hasLine_9 ?_
    refine g_iadd (pc := 10) dX11_hasLine_10 ?_
    refine g_imul (pc := 11) dX11_hasLine_11 ?_
    refine g_iload_n (pc := 12) (x := s) dX11_hasLine_12 rfl ?_
    refine g_icmp_gtF (pc := 13) (tgt := 22) dX11_hasLine_13 (by decide) (by omega) (by omega) (by omega) ?_
    refine g_iinc (pc := 16) (x := xw) (lo2 := [(0, vR x), (1, vI (i : Int)), (2, vI (k : Int)), (3, vI s), (4, vI (xw + 1))]) dX11_hasLine_16 rfl (by decide) rfl ?_
    refine g_goto (pc := 19) (tgt := 3) dX11_hasLine_19 (by decide) ?_
    exact ih (w + 1) _ (by omega) (by omega)

theorem isq (s : Nat) : ∃ W : Nat, W * W ≤ s ∧ s < (W + 1) * (W + 1) := by
  induction s with
  | zero => exact ⟨0, by omega, by omega⟩
  | succ s ih =>
    obtain ⟨W, h1, h2⟩ := ih
    by_cases c : s + 1 < (W + 1) * (W + 1)
    · exact ⟨W, by omega, c⟩
    · refine ⟨W + 1, by omega, ?_⟩
      have : (W + 1 + 1) * (W + 1 + 1) = (W + 1) * (W + 1) + 2 * W + 3 := by grind
      omega

theorem hl_2 {N d x i k W sd al M y Ls : Nat} {sx : Nat → Int} {s t th wd pm fm mu um pr ts : Int} {L : Nat → Int} {h : MH} {Q : Option MV → MR → MH → Prop} (hM : 2 ≤ M) (hM2 : M ≤ 500) (ht : 0 ≤ t ∧ t < M) (k4 : k ≤ 4) (bl : ∀ i, i < k → -24 ≤ L i ∧ L i ≤ 24) (hx : Hd (0, 0, N) h x (mdl x th wd pm fm mu um pr ts)) (hL : Hd (0, 0, N) h (x + 23) (eA 0 4 L)) (hK : G mX11_hasLine (d + 1, 0, 0, Ls, sx) 225 [(0, vR x), (1, vI (i : Int)), (2, vI (k : Int)), (3, vI s), (4, vI (W : Int)), (5, vI (sd : Int)), (6, vI (al : Int)), (7, vI (M : Int)), (8, vI t), (9, vI (y : Int)), (10, vI (hsm M t L k)), (11, vI (hqs L k)), (12, vI (hfs L k))] [] (0, 0, N) h Q) : ∀ (f j : Nat) (xj e10 e11 e12 e14 : Int), j + f = k → xj = (j : Int) → e10 = hsm M t L j → e11 = hqs L j → e12 = hfs L j → e14 = hby M t j → G mX11_hasLine (d + 1, 0, 0, Ls, sx) 141 [(0, vR x), (1, vI (i : Int)), (2, vI (k : Int)), (3, vI s), (4, vI (W : Int)), (5, vI (sd : Int)), (6, vI (al : Int)), (7, vI (M : Int)), (8, vI t), (9, vI (y : Int)), (10, vI e10), (11, vI e11), (12, vI e12), (14, vI e14), (15, vI xj)] [] (0, 0, N) h Q := by
  intro f
  induction f with
  | zero =>
    intro j xj e10 e11 e12 e14 hf ex h10 h11 h12 h14
    have ej : j = k := by omega
    subst ej
    subst h10 h11 h12
    refine g_iload (pc := 141) (x := xj) dX11_hasLine_141 rfl ?_
    refine g_iload_n (pc := 143) (x := (j : Int)) dX11_hasLine_143 rfl ?_
    refine g_icmp_geT (pc := 144) (tgt := 225) dX11_hasLine_144 (by decide) (by omega) (by omega) (by omega) ?_
    refine g_pick [0, 1, 2, 3, 4, 5, 6, 7, 8, 9, 10, 11, 12] (lo2 := [(0, vR x), (1, vI (i : Int)), (2, vI (j : Int)), (3, vI s), (4, vI (W : Int)), (5, vI (sd : Int)), (6, vI (al : Int)), (7, vI (M : Int)), (8, vI t), (9, vI (y : Int)), (10, vI (hsm M t L j)), (11, vI (hqs L j)), (12, vI (hfs L j))]) rfl ?_
    exact hK
  | succ f ih =>
    intro j xj e10 e11 e12 e14 hf ex h10 h11 h12 h14
    have b1 := hsm_bd (t := t) (l := L) hM j
    have b2 := hby_bd (t := t) hM j
    have b3 := bl j (by omega)
    have b4 := hfs_bd j (fun i hi => bl i (by omega))
    rw [← h10] at b1
    rw [← h14] at b2
    rw [← h12] at b4
    have m1 := mul_bd (A := 500) (B := 24) (x := e14) (y := L j) (by omega) (by omega)
    have m2 := mul_bd (A := 500) (B := 500) (x := e14) (y := t) (by omega) (by omega)
    have m3 : 0 ≤ e14 * t := Int.mul_nonneg (by omega) (by omega)
    have s1 : hsm M t L (j + 1) = (e10 + e14 * L j) % (M : Int) := by rw [h10, h14]; rfl
    have s2 : hqs L (j + 1) = e11 + L j * L j := by rw [h11]; rfl
    have s3 : hby M t (j + 1) = e14 * t % (M : Int) := by rw [h14]; rfl
    have s4 : hfs L (j + 1) = if e12 = 0 then L j else e12 := by rw [h12]; rfl
    have em : (e14 * t).tmod (M : Int) = hby M t (j + 1) := by rw [s3]; exact Int.tmod_eq_emod_of_nonneg m3
    refine g_iload (pc := 141) (x := xj) dX11_hasLine_141 rfl ?_
    refine g_iload_n (pc := 143) (x := (k : Int)) dX11_hasLine_143 rfl ?_
    refine g_icmp_geF (pc := 144) (tgt := 225) dX11_hasLine_144 (by decide) (by omega) (by omega) (by omega) ?_
    refine g_iload (pc := 147) (x := e11) dX11_hasLine_147 rfl ?_
    refine g_aload_n (pc := 149) (r := .inl (some x)) dX11_hasLine_149 rfl ?_
    refine g_getf (pc := 150) (v := vR (x + 23)) flX11_79 dX11_hasLine_150 hx rfl ?_
    refine g_iload (pc := 153) (x := xj) dX11_hasLine_153 rfl ?_
    refine g_ialdN (pc := 155) (j := j) dX11_hasLine_155 hL (by omega) (by omega) (by omega) ?_
    refine g_aload_n (pc := 156) (r := .inl (some x)) dX11_hasLine_156 rfl ?_
    refine g_getf (pc := 157) (v := vR (x + 23)) flX11_79 dX11_hasLine_157 hx rfl ?_
    refine g_iload (pc := 160) (x := xj) dX11_hasLine_160 rfl ?_
    refine g_ialdN (pc := 162) (j := j) dX11_hasLine_162 hL (by omega) (by omega) (by omega) ?_
    refine g_imul (pc := 163) dX11_hasLine_163 ?_
    refine g_iadd (pc := 164) dX11_hasLine_164 ?_
    refine g_istore (pc := 165) (lo2 := [(0, vR x), (1, vI (i : Int)), (2, vI (k : Int)), (3, vI s), (4, vI (W : Int)), (5, vI (sd : Int)), (6, vI (al : Int)), (7, vI (M : Int)), (8, vI t), (9, vI (y : Int)), (10, vI e10), (11, vI (e11 + ((L j) * (L j)))), (12, vI e12), (14, vI e14), (15, vI xj)]) dX11_hasLine_165 (by decide) rfl ?_
    refine g_iload (pc := 167) (x := e10) dX11_hasLine_167 rfl ?_
    refine g_i2l (pc := 169) dX11_hasLine_169 (by omega) ?_
    refine g_iload (pc := 170) (x := e14) dX11_hasLine_170 rfl ?_
    refine g_i2l (pc := 172) dX11_hasLine_172 (by omega) ?_
    refine g_aload_n (pc := 173) (r := .inl (some x)) dX11_hasLine_173 rfl ?_
    refine g_getf (pc := 174) (v := vR (x + 23)) flX11_79 dX11_hasLine_174 hx rfl ?_
    refine g_iload (pc := 177) (x := xj) dX11_hasLine_177 rfl ?_
    refine g_ialdN (pc := 179) (j := j) dX11_hasLine_179 hL (by omega) (by omega) (by omega) ?_
    refine g_i2l (pc := 180) dX11_hasLine_180 (by omega) ?_
    refine g_lmul (pc := 181) dX11_hasLine_181 ?_
    refine g_ladd (pc := 182) dX11_hasLine_182 ?_
    refine g_iload (pc := 183) (x := (M : Int)) dX11_hasLine_183 rfl ?_
    refine g_callS0 (pc := 185) (as := [vJ (e10 + (e14 * (L j))), vI (M : Int)]) (st := []) lsX11_116 dX11_hasLine_185 (Nat.le_of_ble_eq_true rfl) (by omega) (Nat.zero_le _) (Nat.zero_le _) (c_mrestOf (d := d) (by omega) (by omega) (by omega)) ?_
    rintro r h1 ⟨e9, e8⟩
    subst e9
    subst e8
    rw [← s1]
    refine g_istore (pc := 188) (lo2 := [(0, vR x), (1, vI (i : Int)), (2, vI (k : Int)), (3, vI s), (4, vI (W : Int)), (5, vI (sd : Int)), (6, vI (al : Int)), (7, vI (M : Int)), (8, vI t), (9, vI (y : Int)), (10, vI (hsm M t L (j + 1))), (11, vI (e11 + ((L j) * (L j)))), (12, vI e12), (14, vI e14), (15, vI xj)]) dX11_hasLine_188 (by decide) rfl ?_
    refine g_iload (pc := 190) (x := e14) dX11_hasLine_190 rfl ?_
    refine g_iload (pc := 192) (x := t) dX11_hasLine_192 rfl ?_
    refine g_imul (pc := 194) dX11_hasLine_194 ?_
    refine g_iload (pc := 195) (x := (M : Int)) dX11_hasLine_195 rfl ?_
    refine g_irem (pc := 197) dX11_hasLine_197 (by omega) (by omega) (by omega) ?_
    rw [em]
    refine g_istore (pc := 198) (lo2 := [(0, vR x), (1, vI (i : Int)), (2, vI (k : Int)), (3, vI s), (4, vI (W : Int)), (5, vI (sd : Int)), (6, vI (al : Int)), (7, vI (M : Int)), (8, vI t), (9, vI (y : Int)), (10, vI (hsm M t L (j + 1))), (11, vI (e11 + ((L j) * (L j)))), (12, vI e12), (14, vI (hby M t (j + 1))), (15, vI xj)]) dX11_hasLine_198 (by decide) rfl ?_
    refine g_iload (pc := 200) (x := e12) dX11_hasLine_200 rfl ?_
    refine g_if_ne (pc := 202) (tgt := 215) dX11_hasLine_202 (by decide) (by omega) (fun hc => ?_) (fun hc => ?_)
    · rw [if_neg hc] at s4
      refine g_iload (pc := 215) (x := e12) dX11_hasLine_215 rfl ?_
      refine g_istore (pc := 217) (lo2 := [(0, vR x), (1, vI (i : Int)), (2, vI (k : Int)), (3, vI s), (4, vI (W : Int)), (5, vI (sd : Int)), (6, vI (al : Int)), (7, vI (M : Int)), (8, vI t), (9, vI (y : Int)), (10, vI (hsm M t L (j + 1))), (11, vI (e11 + ((L j) * (L j)))), (12, vI e12), (14, vI (hby M t (j + 1))), (15, vI xj)]) dX11_hasLine_217 (by decide) rfl ?_
      refine g_iinc (pc := 219) (x := xj) (lo2 := [(0, vR x), (1, vI (i : Int)), (2, vI (k : Int)), (3, vI s), (4, vI (W : Int)), (5, vI (sd : Int)), (6, vI (al : Int)), (7, vI (M : Int)), (8, vI t), (9, vI (y : Int)), (10, vI (hsm M t L (j + 1))), (11, vI (e11 + ((L j) * (L j)))), (12, vI e12), (14, vI (hby M t (j + 1))), (15, vI (xj + 1))]) dX11_hasLine_219 rfl (by decide) rfl ?_
      refine g_goto (pc := 222) (tgt := 141) dX11_hasLine_222 (by decide) ?_
      exact ih (j + 1) _ _ _ _ _ (by omega) (by omega) rfl s2.symm s4.symm rfl
    · rw [if_pos (by omega)] at s4
      refine g_aload_n (pc := 205) (r := .inl (some x)) dX11_hasLine_205 rfl ?_
      refine g_getf (pc := 206) (v := vR (x + 23)) flX11_79 dX11_hasLine_206 hx rfl ?_
      refine g_iload (pc := 209) (x := xj) dX11_hasLine_209 rfl ?_
      refine g_ialdN (pc := 211) (j := j) dX11_hasLine_211 hL (by omega) (by omega) (by omega) ?_
      refine g_goto (pc := 212) (tgt := 217) dX11_hasLine_212 (by decide) ?_
      refine g_istore (pc := 217) (lo2 := [(0, vR x), (1, vI (i : Int)), (2, vI (k : Int)), (3, vI s), (4, vI (W : Int)), (5, vI (sd : Int)), (6, vI (al : Int)), (7, vI (M : Int)), (8, vI t), (9, vI (y : Int)), (10, vI (hsm M t L (j + 1))), (11, vI (e11 + ((L j) * (L j)))), (12, vI (L j)), (14, vI (hby M t (j + 1))), (15, vI xj)]) dX11_hasLine_217 (by decide) rfl ?_
      refine g_iinc (pc := 219) (x := xj) (lo2 := [(0, vR x), (1, vI (i : Int)), (2, vI (k : Int)), (3, vI s), (4, vI (W : Int)), (5, vI (sd : Int)), (6, vI (al : Int)), (7, vI (M : Int)), (8, vI t), (9, vI (y : Int)), (10, vI (hsm M t L (j + 1))), (11, vI (e11 + ((L j) * (L j)))), (12, vI (L j)), (14, vI (hby M t (j + 1))), (15, vI (xj + 1))]) dX11_hasLine_219 rfl (by decide) rfl ?_
      refine g_goto (pc := 222) (tgt := 141) dX11_hasLine_222 (by decide) ?_
      exact ih (j + 1) _ _ _ _ _ (by omega) (by omega) rfl s2.symm s4.symm rfl

theorem hl_body {N d x i k W sd al M y Ls : Nat} {sx : Nat → Int} {s t th wd pm fm mu um pr ts : Int} {L : Nat → Int} {h : MH} {Q : Option MV → MR → MH → Prop} (hM : 2 ≤ M) (hM2 : M ≤ 500) (ht : 0 ≤ t ∧ t < M) (k2 : 2 ≤ k) (k4 : k ≤ 4) (hW : W ≤ 24) (esd : sd = 2 * W + 1) (hy : y < al) (hal : al ≤ 20000) (hx : Hd (0, 0, N) h x (mdl x th wd pm fm mu um pr ts)) (hL : Hd (0, 0, N) h (x + 23) (eA 0 4 L)) (hK : ∀ (L2 : Nat → Int) (h2 : MH), (∀ i, i < k → L2 i = rwx sd W k y i) → Hd (0, 0, N) h2 (x + 23) (eA 0 4 L2) → (∀ a, a ≠ x + 23 → h2 a = h a) → G mX11_hasLine (d + 1, 0, 0, Ls, sx) 225 [(0, vR x), (1, vI (i : Int)), (2, vI (k : Int)), (3, vI s), (4, vI (W : Int)), (5, vI (sd : Int)), (6, vI (al : Int)), (7, vI (M : Int)), (8, vI t), (9, vI (y : Int)), (10, vI (hsm M t L2 k)), (11, vI (hqs L2 k)), (12, vI (hfs L2 k))] [] (0, 0, N) h2 Q) : G mX11_hasLine (d + 1, 0, 0, Ls, sx) 77 [(0, vR x), (1, vI (i : Int)), (2, vI (k : Int)), (3, vI s), (4, vI (W : Int)), (5, vI (sd : Int)), (6, vI (al : Int)), (7, vI (M : Int)), (8, vI t), (9, vI (y : Int))] [] (0, 0, N) h Q := by
  have sp : 0 < sd := by omega
  have hbd : ∀ j, 0 ≤ (((rst sd y j % sd : Nat) : Int)) ∧ (((rst sd y j % sd : Nat) : Int)) < 2 * W + 1 := fun j => by
    have := Nat.mod_lt (rst sd y j) sp
    omega
  have hc : k = 2 ∨ k = 3 ∨ k = 4 := by omega
  rcases hc with e | e | e <;> subst e
  · refine g_iload (pc := 77) (x := (y : Int)) dX11_hasLine_77 rfl ?_
    refine g_iload (pc := 79) (x := (al : Int)) dX11_hasLine_79 rfl ?_
    refine g_icmp_geF (pc := 81) (tgt := 249) dX11_hasLine_81 (by decide) (by omega) (by omega) (by omega) ?_
    refine g_iconst (pc := 84) dX11_hasLine_84 ?_
    refine g_istore (pc := 85) (lo2 := [(0, vR x), (1, vI (i : Int)), (2, vI ((2 : Nat) : Int)), (3, vI s), (4, vI (W : Int)), (5, vI (sd : Int)), (6, vI (al : Int)), (7, vI (M : Int)), (8, vI t), (9, vI (y : Int)), (10, vI 0)]) dX11_hasLine_85 (by decide) rfl ?_
    refine g_iconst (pc := 87) dX11_hasLine_87 ?_
    refine g_istore (pc := 88) (lo2 := [(0, vR x), (1, vI (i : Int)), (2, vI ((2 : Nat) : Int)), (3, vI s), (4, vI (W : Int)), (5, vI (sd : Int)), (6, vI (al : Int)), (7, vI (M : Int)), (8, vI t), (9, vI (y : Int)), (10, vI 0), (11, vI 0)]) dX11_hasLine_88 (by decide) rfl ?_
    refine g_iconst (pc := 90) dX11_hasLine_90 ?_
    refine g_istore (pc := 91) (lo2 := [(0, vR x), (1, vI (i : Int)), (2, vI ((2 : Nat) : Int)), (3, vI s), (4, vI (W : Int)), (5, vI (sd : Int)), (6, vI (al : Int)), (7, vI (M : Int)), (8, vI t), (9, vI (y : Int)), (10, vI 0), (11, vI 0), (12, vI 0)]) dX11_hasLine_91 (by decide) rfl ?_
    refine g_iload (pc := 93) (x := (y : Int)) dX11_hasLine_93 rfl ?_
    refine g_istore (pc := 95) (lo2 := [(0, vR x), (1, vI (i : Int)), (2, vI ((2 : Nat) : Int)), (3, vI s), (4, vI (W : Int)), (5, vI (sd : Int)), (6, vI (al : Int)), (7, vI (M : Int)), (8, vI t), (9, vI (y : Int)), (10, vI 0), (11, vI 0), (12, vI 0), (13, vI (y : Int))]) dX11_hasLine_95 (by decide) rfl ?_
    refine g_iload_n (pc := 97) (x := ((2 : Nat) : Int)) dX11_hasLine_97 rfl ?_
    refine g_iconst (pc := 98) dX11_hasLine_98 ?_
    refine g_isub (pc := 99) dX11_hasLine_99 ?_
    refine g_istore (pc := 100) (lo2 := [(0, vR x), (1, vI (i : Int)), (2, vI ((2 : Nat) : Int)), (3, vI s), (4, vI (W : Int)), (5, vI (sd : Int)), (6, vI (al : Int)), (7, vI (M : Int)), (8, vI t), (9, vI (y : Int)), (10, vI 0), (11, vI 0), (12, vI 0), (13, vI (y : Int)), (14, vI (((2 : Nat) : Int) - 1))]) dX11_hasLine_100 (by decide) rfl ?_
    show G mX11_hasLine _ 102 [(0, vR x), (1, vI (i : Int)), (2, vI ((2 : Nat) : Int)), (3, vI s), (4, vI (W : Int)), (5, vI (sd : Int)), (6, vI (al : Int)), (7, vI (M : Int)), (8, vI t), (9, vI (y : Int)), (10, vI 0), (11, vI 0), (12, vI 0), (13, vI (y : Int)), (14, vI 1)] [] _ h _
    refine g_iload (pc := 102) (x := 1) dX11_hasLine_102 rfl ?_
    refine g_if_ltF (pc := 104) (tgt := 135) dX11_hasLine_104 (by decide) (by omega) (by omega) ?_
    refine g_aload_n (pc := 107) (r := .inl (some x)) dX11_hasLine_107 rfl ?_
    refine g_getf (pc := 108) (v := vR (x + 23)) flX11_79 dX11_hasLine_108 hx rfl ?_
    refine g_iload (pc := 111) (x := 1) dX11_hasLine_111 rfl ?_
    refine g_iload (pc := 113) (x := (y : Int)) dX11_hasLine_113 rfl ?_
    refine g_iload (pc := 115) (x := (sd : Int)) dX11_hasLine_115 rfl ?_
    refine g_irem (pc := 117) dX11_hasLine_117 (by omega) (by omega) (by omega) ?_
    rw [show (y : Int).tmod (sd : Int) = ((y % sd : Nat) : Int) from tmodN rfl rfl]
    refine g_iload (pc := 118) (x := (W : Int)) dX11_hasLine_118 rfl ?_
    refine g_isub (pc := 120) dX11_hasLine_120 ?_
    refine g_iastN (pc := 121) (j := 1) dX11_hasLine_121 hL (by omega) (by omega) (by omega) ?_
    have hx_1 := hx.ne (e := eA 0 4 (va_up L 1 (((y % sd : Nat) : Int) - (W : Int)))) (a := x + 23) (by omega)
    have hL_1 := hL.self (e := eA 0 4 (va_up L 1 (((y % sd : Nat) : Int) - (W : Int))))
    refine g_iload (pc := 122) (x := (y : Int)) dX11_hasLine_122 rfl ?_
    refine g_iload (pc := 124) (x := (sd : Int)) dX11_hasLine_124 rfl ?_
    refine g_idiv (pc := 126) dX11_hasLine_126 (by omega) (by omega) (by omega) ?_
    rw [show (y : Int).tdiv (sd : Int) = ((y / sd : Nat) : Int) from tdivN rfl rfl]
    have f1 : y / sd ≤ y := Nat.div_le_self _ _
    obtain ⟨q1, eq1⟩ : ∃ q, q = y / sd := ⟨_, rfl⟩
    rw [← eq1] at f1 ⊢
    refine g_istore (pc := 127) (lo2 := [(0, vR x), (1, vI (i : Int)), (2, vI ((2 : Nat) : Int)), (3, vI s), (4, vI (W : Int)), (5, vI (sd : Int)), (6, vI (al : Int)), (7, vI (M : Int)), (8, vI t), (9, vI (y : Int)), (10, vI 0), (11, vI 0), (12, vI 0), (13, vI (q1 : Int)), (14, vI 1)]) dX11_hasLine_127 (by decide) rfl ?_
    refine g_iinc (pc := 129) (x := 1) (lo2 := [(0, vR x), (1, vI (i : Int)), (2, vI ((2 : Nat) : Int)), (3, vI s), (4, vI (W : Int)), (5, vI (sd : Int)), (6, vI (al : Int)), (7, vI (M : Int)), (8, vI t), (9, vI (y : Int)), (10, vI 0), (11, vI 0), (12, vI 0), (13, vI (q1 : Int)), (14, vI (1 + (-1)))]) dX11_hasLine_129 rfl (by decide) rfl ?_
    refine g_goto (pc := 132) (tgt := 102) dX11_hasLine_132 (by decide) ?_
    show G mX11_hasLine _ 102 [(0, vR x), (1, vI (i : Int)), (2, vI ((2 : Nat) : Int)), (3, vI s), (4, vI (W : Int)), (5, vI (sd : Int)), (6, vI (al : Int)), (7, vI (M : Int)), (8, vI t), (9, vI (y : Int)), (10, vI 0), (11, vI 0), (12, vI 0), (13, vI (q1 : Int)), (14, vI 0)] [] _ (va_up h (x + 23) (eA 0 4 (va_up L 1 (((y % sd : Nat) : Int) - (W : Int))))) _
    refine g_iload (pc := 102) (x := 0) dX11_hasLine_102 rfl ?_
    refine g_if_ltF (pc := 104) (tgt := 135) dX11_hasLine_104 (by decide) (by omega) (by omega) ?_
    refine g_aload_n (pc := 107) (r := .inl (some x)) dX11_hasLine_107 rfl ?_
    refine g_getf (pc := 108) (v := vR (x + 23)) flX11_79 dX11_hasLine_108 hx_1 rfl ?_
    refine g_iload (pc := 111) (x := 0) dX11_hasLine_111 rfl ?_
    refine g_iload (pc := 113) (x := (q1 : Int)) dX11_hasLine_113 rfl ?_
    refine g_iload (pc := 115) (x := (sd : Int)) dX11_hasLine_115 rfl ?_
    refine g_irem (pc := 117) dX11_hasLine_117 (by omega) (by omega) (by omega) ?_
    rw [show (q1 : Int).tmod (sd : Int) = ((q1 % sd : Nat) : Int) from tmodN rfl rfl]
    refine g_iload (pc := 118) (x := (W : Int)) dX11_hasLine_118 rfl ?_
    refine g_isub (pc := 120) dX11_hasLine_120 ?_
    refine g_iastN (pc := 121) (j := 0) dX11_hasLine_121 hL_1 (by omega) (by omega) (by omega) ?_
    have hx_2 := hx_1.ne (e := eA 0 4 (va_up (va_up L 1 (((y % sd : Nat) : Int) - (W : Int))) 0 (((q1 % sd : Nat) : Int) - (W : Int)))) (a := x + 23) (by omega)
    have hL_2 := hL_1.self (e := eA 0 4 (va_up (va_up L 1 (((y % sd : Nat) : Int) - (W : Int))) 0 (((q1 % sd : Nat) : Int) - (W : Int))))
    refine g_iload (pc := 122) (x := (q1 : Int)) dX11_hasLine_122 rfl ?_
    refine g_iload (pc := 124) (x := (sd : Int)) dX11_hasLine_124 rfl ?_
    refine g_idiv (pc := 126) dX11_hasLine_126 (by omega) (by omega) (by omega) ?_
    rw [show (q1 : Int).tdiv (sd : Int) = ((q1 / sd : Nat) : Int) from tdivN rfl rfl]
    have f2 : q1 / sd ≤ y := Nat.le_trans (Nat.div_le_self _ _) f1
    obtain ⟨q2, eq2⟩ : ∃ q, q = q1 / sd := ⟨_, rfl⟩
    rw [← eq2] at f2 ⊢
    refine g_istore (pc := 127) (lo2 := [(0, vR x), (1, vI (i : Int)), (2, vI ((2 : Nat) : Int)), (3, vI s), (4, vI (W : Int)), (5, vI (sd : Int)), (6, vI (al : Int)), (7, vI (M : Int)), (8, vI t), (9, vI (y : Int)), (10, vI 0), (11, vI 0), (12, vI 0), (13, vI (q2 : Int)), (14, vI 0)]) dX11_hasLine_127 (by decide) rfl ?_
    refine g_iinc (pc := 129) (x := 0) (lo2 := [(0, vR x), (1, vI (i : Int)), (2, vI ((2 : Nat) : Int)), (3, vI s), (4, vI (W : Int)), (5, vI (sd : Int)), (6, vI (al : Int)), (7, vI (M : Int)), (8, vI t), (9, vI (y : Int)), (10, vI 0), (11, vI 0), (12, vI 0), (13, vI (q2 : Int)), (14, vI (0 + (-1)))]) dX11_hasLine_129 rfl (by decide) rfl ?_
    refine g_goto (pc := 132) (tgt := 102) dX11_hasLine_132 (by decide) ?_
    show G mX11_hasLine _ 102 [(0, vR x), (1, vI (i : Int)), (2, vI ((2 : Nat) : Int)), (3, vI s), (4, vI (W : Int)), (5, vI (sd : Int)), (6, vI (al : Int)), (7, vI (M : Int)), (8, vI t), (9, vI (y : Int)), (10, vI 0), (11, vI 0), (12, vI 0), (13, vI (q2 : Int)), (14, vI (-1))] [] _ (va_up (va_up h (x + 23) (eA 0 4 (va_up L 1 (((y % sd : Nat) : Int) - (W : Int))))) (x + 23) (eA 0 4 (va_up (va_up L 1 (((y % sd : Nat) : Int) - (W : Int))) 0 (((q1 % sd : Nat) : Int) - (W : Int))))) _
    refine g_iload (pc := 102) (x := (-1)) dX11_hasLine_102 rfl ?_
    refine g_if_ltT (pc := 104) (tgt := 135) dX11_hasLine_104 (by decide) (by omega) (by omega) ?_
    refine g_pick [0, 1, 2, 3, 4, 5, 6, 7, 8, 9, 10, 11, 12] (lo2 := [(0, vR x), (1, vI (i : Int)), (2, vI ((2 : Nat) : Int)), (3, vI s), (4, vI (W : Int)), (5, vI (sd : Int)), (6, vI (al : Int)), (7, vI (M : Int)), (8, vI t), (9, vI (y : Int)), (10, vI 0), (11, vI 0), (12, vI 0)]) rfl ?_
    refine g_iconst (pc := 135) dX11_hasLine_135 ?_
    refine g_istore (pc := 136) (lo2 := [(0, vR x), (1, vI (i : Int)), (2, vI ((2 : Nat) : Int)), (3, vI s), (4, vI (W : Int)), (5, vI (sd : Int)), (6, vI (al : Int)), (7, vI (M : Int)), (8, vI t), (9, vI (y : Int)), (10, vI 0), (11, vI 0), (12, vI 0), (14, vI 1)]) dX11_hasLine_136 (by decide) rfl ?_
    refine g_iconst (pc := 138) dX11_hasLine_138 ?_
    refine g_istore (pc := 139) (lo2 := [(0, vR x), (1, vI (i : Int)), (2, vI ((2 : Nat) : Int)), (3, vI s), (4, vI (W : Int)), (5, vI (sd : Int)), (6, vI (al : Int)), (7, vI (M : Int)), (8, vI t), (9, vI (y : Int)), (10, vI 0), (11, vI 0), (12, vI 0), (14, vI 1), (15, vI 0)]) dX11_hasLine_139 (by decide) rfl ?_
    have hrow : ∀ i, i < 2 → (va_up (va_up L 1 (((y % sd : Nat) : Int) - (W : Int))) 0 (((q1 % sd : Nat) : Int) - (W : Int))) i = rwx sd W 2 y i := fun i hi => by
      have hi4 : i = 0 ∨ i = 1 := by omega
      rcases hi4 with e | e <;> subst e <;> simp [va_up, rwx, rst, eq1]
    have hbl : ∀ i, i < 2 → -24 ≤ (va_up (va_up L 1 (((y % sd : Nat) : Int) - (W : Int))) 0 (((q1 % sd : Nat) : Int) - (W : Int))) i ∧ (va_up (va_up L 1 (((y % sd : Nat) : Int) - (W : Int))) 0 (((q1 % sd : Nat) : Int) - (W : Int))) i ≤ 24 := fun i hi => by
      rw [hrow i hi]
      unfold rwx
      have := hbd (2 - 1 - i)
      omega
    refine hl_2 (k := 2) hM hM2 ht (by omega) hbl hx_2 hL_2 (hK _ _ hrow hL_2 (fun a z1 => by rw [va_up_ne _ _ z1, va_up_ne _ _ z1])) 2 0 _ _ _ _ _ (by omega) rfl rfl rfl rfl rfl
  · refine g_iload (pc := 77) (x := (y : Int)) dX11_hasLine_77 rfl ?_
    refine g_iload (pc := 79) (x := (al : Int)) dX11_hasLine_79 rfl ?_
    refine g_icmp_geF (pc := 81) (tgt := 249) dX11_hasLine_81 (by decide) (by omega) (by omega) (by omega) ?_
    refine g_iconst (pc := 84) dX11_hasLine_84 ?_
    refine g_istore (pc := 85) (lo2 := [(0, vR x), (1, vI (i : Int)), (2, vI ((3 : Nat) : Int)), (3, vI s), (4, vI (W : Int)), (5, vI (sd : Int)), (6, vI (al : Int)), (7, vI (M : Int)), (8, vI t), (9, vI (y : Int)), (10, vI 0)]) dX11_hasLine_85 (by decide) rfl ?_
    refine g_iconst (pc := 87) dX11_hasLine_87 ?_
    refine g_istore (pc := 88) (lo2 := [(0, vR x), (1, vI (i : Int)), (2, vI ((3 : Nat) : Int)), (3, vI s), (4, vI (W : Int)), (5, vI (sd : Int)), (6, vI (al : Int)), (7, vI (M : Int)), (8, vI t), (9, vI (y : Int)), (10, vI 0), (11, vI 0)]) dX11_hasLine_88 (by decide) rfl ?_
    refine g_iconst (pc := 90) dX11_hasLine_90 ?_
    refine g_istore (pc := 91) (lo2 := [(0, vR x), (1, vI (i : Int)), (2, vI ((3 : Nat) : Int)), (3, vI s), (4, vI (W : Int)), (5, vI (sd : Int)), (6, vI (al : Int)), (7, vI (M : Int)), (8, vI t), (9, vI (y : Int)), (10, vI 0), (11, vI 0), (12, vI 0)]) dX11_hasLine_91 (by decide) rfl ?_
    refine g_iload (pc := 93) (x := (y : Int)) dX11_hasLine_93 rfl ?_
    refine g_istore (pc := 95) (lo2 := [(0, vR x), (1, vI (i : Int)), (2, vI ((3 : Nat) : Int)), (3, vI s), (4, vI (W : Int)), (5, vI (sd : Int)), (6, vI (al : Int)), (7, vI (M : Int)), (8, vI t), (9, vI (y : Int)), (10, vI 0), (11, vI 0), (12, vI 0), (13, vI (y : Int))]) dX11_hasLine_95 (by decide) rfl ?_
    refine g_iload_n (pc := 97) (x := ((3 : Nat) : Int)) dX11_hasLine_97 rfl ?_
    refine g_iconst (pc := 98) dX11_hasLine_98 ?_
    refine g_isub (pc := 99) dX11_hasLine_99 ?_
    refine g_istore (pc := 100) (lo2 := [(0, vR x), (1, vI (i : Int)), (2, vI ((3 : Nat) : Int)), (3, vI s), (4, vI (W : Int)), (5, vI (sd : Int)), (6, vI (al : Int)), (7, vI (M : Int)), (8, vI t), (9, vI (y : Int)), (10, vI 0), (11, vI 0), (12, vI 0), (13, vI (y : Int)), (14, vI (((3 : Nat) : Int) - 1))]) dX11_hasLine_100 (by decide) rfl ?_
    show G mX11_hasLine _ 102 [(0, vR x), (1, vI (i : Int)), (2, vI ((3 : Nat) : Int)), (3, vI s), (4, vI (W : Int)), (5, vI (sd : Int)), (6, vI (al : Int)), (7, vI (M : Int)), (8, vI t), (9, vI (y : Int)), (10, vI 0), (11, vI 0), (12, vI 0), (13, vI (y : Int)), (14, vI 2)] [] _ h _
    refine g_iload (pc := 102) (x := 2) dX11_hasLine_102 rfl ?_
    refine g_if_ltF (pc := 104) (tgt := 135) dX11_hasLine_104 (by decide) (by omega) (by omega) ?_
    refine g_aload_n (pc := 107) (r := .inl (some x)) dX11_hasLine_107 rfl ?_
    refine g_getf (pc := 108) (v := vR (x + 23)) flX11_79 dX11_hasLine_108 hx rfl ?_
    refine g_iload (pc := 111) (x := 2) dX11_hasLine_111 rfl ?_
    refine g_iload (pc := 113) (x := (y : Int)) dX11_hasLine_113 rfl ?_
    refine g_iload (pc := 115) (x := (sd : Int)) dX11_hasLine_115 rfl ?_
    refine g_irem (pc := 117) dX11_hasLine_117 (by omega) (by omega) (by omega) ?_
    rw [show (y : Int).tmod (sd : Int) = ((y % sd : Nat) : Int) from tmodN rfl rfl]
    refine g_iload (pc := 118) (x := (W : Int)) dX11_hasLine_118 rfl ?_
    refine g_isub (pc := 120) dX11_hasLine_120 ?_
    refine g_iastN (pc := 121) (j := 2) dX11_hasLine_121 hL (by omega) (by omega) (by omega) ?_
    have hx_1 := hx.ne (e := eA 0 4 (va_up L 2 (((y % sd : Nat) : Int) - (W : Int)))) (a := x + 23) (by omega)
    have hL_1 := hL.self (e := eA 0 4 (va_up L 2 (((y % sd : Nat) : Int) - (W : Int))))
    refine g_iload (pc := 122) (x := (y : Int)) dX11_hasLine_122 rfl ?_
    refine g_iload (pc := 124) (x := (sd : Int)) dX11_hasLine_124 rfl ?_
    refine g_idiv (pc := 126) dX11_hasLine_126 (by omega) (by omega) (by omega) ?_
    rw [show (y : Int).tdiv (sd : Int) = ((y / sd : Nat) : Int) from tdivN rfl rfl]
    have f1 : y / sd ≤ y := Nat.div_le_self _ _
    obtain ⟨q1, eq1⟩ : ∃ q, q = y / sd := ⟨_, rfl⟩
    rw [← eq1] at f1 ⊢
    refine g_istore (pc := 127) (lo2 := [(0, vR x), (1, vI (i : Int)), (2, vI ((3 : Nat) : Int)), (3, vI s), (4, vI (W : Int)), (5, vI (sd : Int)), (6, vI (al : Int)), (7, vI (M : Int)), (8, vI t), (9, vI (y : Int)), (10, vI 0), (11, vI 0), (12, vI 0), (13, vI (q1 : Int)), (14, vI 2)]) dX11_hasLine_127 (by decide) rfl ?_
    refine g_iinc (pc := 129) (x := 2) (lo2 := [(0, vR x), (1, vI (i : Int)), (2, vI ((3 : Nat) : Int)), (3, vI s), (4, vI (W : Int)), (5, vI (sd : Int)), (6, vI (al : Int)), (7, vI (M : Int)), (8, vI t), (9, vI (y : Int)), (10, vI 0), (11, vI 0), (12, vI 0), (13, vI (q1 : Int)), (14, vI (2 + (-1)))]) dX11_hasLine_129 rfl (by decide) rfl ?_
    refine g_goto (pc := 132) (tgt := 102) dX11_hasLine_132 (by decide) ?_
    show G mX11_hasLine _ 102 [(0, vR x), (1, vI (i : Int)), (2, vI ((3 : Nat) : Int)), (3, vI s), (4, vI (W : Int)), (5, vI (sd : Int)), (6, vI (al : Int)), (7, vI (M : Int)), (8, vI t), (9, vI (y : Int)), (10, vI 0), (11, vI 0), (12, vI 0), (13, vI (q1 : Int)), (14, vI 1)] [] _ (va_up h (x + 23) (eA 0 4 (va_up L 2 (((y % sd : Nat) : Int) - (W : Int))))) _
    refine g_iload (pc := 102) (x := 1) dX11_hasLine_102 rfl ?_
    refine g_if_ltF (pc := 104) (tgt := 135) dX11_hasLine_104 (by decide) (by omega) (by omega) ?_
    refine g_aload_n (pc := 107) (r := .inl (some x)) dX11_hasLine_107 rfl ?_
    refine g_getf (pc := 108) (v := vR (x + 23)) flX11_79 dX11_hasLine_108 hx_1 rfl ?_
    refine g_iload (pc := 111) (x := 1) dX11_hasLine_111 rfl ?_
    refine g_iload (pc := 113) (x := (q1 : Int)) dX11_hasLine_113 rfl ?_
    refine g_iload (pc := 115) (x := (sd : Int)) dX11_hasLine_115 rfl ?_
    refine g_irem (pc := 117) dX11_hasLine_117 (by omega) (by omega) (by omega) ?_
    rw [show (q1 : Int).tmod (sd : Int) = ((q1 % sd : Nat) : Int) from tmodN rfl rfl]
    refine g_iload (pc := 118) (x := (W : Int)) dX11_hasLine_118 rfl ?_
    refine g_isub (pc := 120) dX11_hasLine_120 ?_
    refine g_iastN (pc := 121) (j := 1) dX11_hasLine_121 hL_1 (by omega) (by omega) (by omega) ?_
    have hx_2 := hx_1.ne (e := eA 0 4 (va_up (va_up L 2 (((y % sd : Nat) : Int) - (W : Int))) 1 (((q1 % sd : Nat) : Int) - (W : Int)))) (a := x + 23) (by omega)
    have hL_2 := hL_1.self (e := eA 0 4 (va_up (va_up L 2 (((y % sd : Nat) : Int) - (W : Int))) 1 (((q1 % sd : Nat) : Int) - (W : Int))))
    refine g_iload (pc := 122) (x := (q1 : Int)) dX11_hasLine_122 rfl ?_
    refine g_iload (pc := 124) (x := (sd : Int)) dX11_hasLine_124 rfl ?_
    refine g_idiv (pc := 126) dX11_hasLine_126 (by omega) (by omega) (by omega) ?_
    rw [show (q1 : Int).tdiv (sd : Int) = ((q1 / sd : Nat) : Int) from tdivN rfl rfl]
    have f2 : q1 / sd ≤ y := Nat.le_trans (Nat.div_le_self _ _) f1
    obtain ⟨q2, eq2⟩ : ∃ q, q = q1 / sd := ⟨_, rfl⟩
    rw [← eq2] at f2 ⊢
    refine g_istore (pc := 127) (lo2 := [(0, vR x), (1, vI (i : Int)), (2, vI ((3 : Nat) : Int)), (3, vI s), (4, vI (W : Int)), (5, vI (sd : Int)), (6, vI (al : Int)), (7, vI (M : Int)), (8, vI t), (9, vI (y : Int)), (10, vI 0), (11, vI 0), (12, vI 0), (13, vI (q2 : Int)), (14, vI 1)]) dX11_hasLine_127 (by decide) rfl ?_
    refine g_iinc (pc := 129) (x := 1) (lo2 := [(0, vR x), (1, vI (i : Int)), (2, vI ((3 : Nat) : Int)), (3, vI s), (4, vI (W : Int)), (5, vI (sd : Int)), (6, vI (al : Int)), (7, vI (M : Int)), (8, vI t), (9, vI (y : Int)), (10, vI 0), (11, vI 0), (12, vI 0), (13, vI (q2 : Int)), (14, vI (1 + (-1)))]) dX11_hasLine_129 rfl (by decide) rfl ?_
    refine g_goto (pc := 132) (tgt := 102) dX11_hasLine_132 (by decide) ?_
    show G mX11_hasLine _ 102 [(0, vR x), (1, vI (i : Int)), (2, vI ((3 : Nat) : Int)), (3, vI s), (4, vI (W : Int)), (5, vI (sd : Int)), (6, vI (al : Int)), (7, vI (M : Int)), (8, vI t), (9, vI (y : Int)), (10, vI 0), (11, vI 0), (12, vI 0), (13, vI (q2 : Int)), (14, vI 0)] [] _ (va_up (va_up h (x + 23) (eA 0 4 (va_up L 2 (((y % sd : Nat) : Int) - (W : Int))))) (x + 23) (eA 0 4 (va_up (va_up L 2 (((y % sd : Nat) : Int) - (W : Int))) 1 (((q1 % sd : Nat) : Int) - (W : Int))))) _
    refine g_iload (pc := 102) (x := 0) dX11_hasLine_102 rfl ?_
    refine g_if_ltF (pc := 104) (tgt := 135) dX11_hasLine_104 (by decide) (by omega) (by omega) ?_
    refine g_aload_n (pc := 107) (r := .inl (some x)) dX11_hasLine_107 rfl ?_
    refine g_getf (pc := 108) (v := vR (x + 23)) flX11_79 dX11_hasLine_108 hx_2 rfl ?_
    refine g_iload (pc := 111) (x := 0) dX11_hasLine_111 rfl ?_
    refine g_iload (pc := 113) (x := (q2 : Int)) dX11_hasLine_113 rfl ?_
    refine g_iload (pc := 115) (x := (sd : Int)) dX11_hasLine_115 rfl ?_
    refine g_irem (pc := 117) dX11_hasLine_117 (by omega) (by omega) (by omega) ?_
    rw [show (q2 : Int).tmod (sd : Int) = ((q2 % sd : Nat) : Int) from tmodN rfl rfl]
    refine g_iload (pc := 118) (x := (W : Int)) dX11_hasLine_118 rfl ?_
    refine g_isub (pc := 120) dX11_hasLine_120 ?_
    refine g_iastN (pc := 121) (j := 0) dX11_hasLine_121 hL_2 (by omega) (by omega) (by omega) ?_
    have hx_3 := hx_2.ne (e := eA 0 4 (va_up (va_up (va_up L 2 (((y % sd : Nat) : Int) - (W : Int))) 1 (((q1 % sd : Nat) : Int) - (W : Int))) 0 (((q2 % sd : Nat) : Int) - (W : Int)))) (a := x + 23) (by omega)
    have hL_3 := hL_2.self (e := eA 0 4 (va_up (va_up (va_up L 2 (((y % sd : Nat) : Int) - (W : Int))) 1 (((q1 % sd : Nat) : Int) - (W : Int))) 0 (((q2 % sd : Nat) : Int) - (W : Int))))
    refine g_iload (pc := 122) (x := (q2 : Int)) dX11_hasLine_122 rfl ?_
    refine g_iload (pc := 124) (x := (sd : Int)) dX11_hasLine_124 rfl ?_
    refine g_idiv (pc := 126) dX11_hasLine_126 (by omega) (by omega) (by omega) ?_
    rw [show (q2 : Int).tdiv (sd : Int) = ((q2 / sd : Nat) : Int) from tdivN rfl rfl]
    have f3 : q2 / sd ≤ y := Nat.le_trans (Nat.div_le_self _ _) f2
    obtain ⟨q3, eq3⟩ : ∃ q, q = q2 / sd := ⟨_, rfl⟩
    rw [← eq3] at f3 ⊢
    refine g_istore (pc := 127) (lo2 := [(0, vR x), (1, vI (i : Int)), (2, vI ((3 : Nat) : Int)), (3, vI s), (4, vI (W : Int)), (5, vI (sd : Int)), (6, vI (al : Int)), (7, vI (M : Int)), (8, vI t), (9, vI (y : Int)), (10, vI 0), (11, vI 0), (12, vI 0), (13, vI (q3 : Int)), (14, vI 0)]) dX11_hasLine_127 (by decide) rfl ?_
    refine g_iinc (pc := 129) (x := 0) (lo2 := [(0, vR x), (1, vI (i : Int)), (2, vI ((3 : Nat) : Int)), (3, vI s), (4, vI (W : Int)), (5, vI (sd : Int)), (6, vI (al : Int)), (7, vI (M : Int)), (8, vI t), (9, vI (y : Int)), (10, vI 0), (11, vI 0), (12, vI 0), (13, vI (q3 : Int)), (14, vI (0 + (-1)))]) dX11_hasLine_129 rfl (by decide) rfl ?_
    refine g_goto (pc := 132) (tgt := 102) dX11_hasLine_132 (by decide) ?_
    show G mX11_hasLine _ 102 [(0, vR x), (1, vI (i : Int)), (2, vI ((3 : Nat) : Int)), (3, vI s), (4, vI (W : Int)), (5, vI (sd : Int)), (6, vI (al : Int)), (7, vI (M : Int)), (8, vI t), (9, vI (y : Int)), (10, vI 0), (11, vI 0), (12, vI 0), (13, vI (q3 : Int)), (14, vI (-1))] [] _ (va_up (va_up (va_up h (x + 23) (eA 0 4 (va_up L 2 (((y % sd : Nat) : Int) - (W : Int))))) (x + 23) (eA 0 4 (va_up (va_up L 2 (((y % sd : Nat) : Int) - (W : Int))) 1 (((q1 % sd : Nat) : Int) - (W : Int))))) (x + 23) (eA 0 4 (va_up (va_up (va_up L 2 (((y % sd : Nat) : Int) - (W : Int))) 1 (((q1 % sd : Nat) : Int) - (W : Int))) 0 (((q2 % sd : Nat) : Int) - (W : Int))))) _
    refine g_iload (pc := 102) (x := (-1)) dX11_hasLine_102 rfl ?_
    refine g_if_ltT (pc := 104) (tgt := 135) dX11_hasLine_104 (by decide) (by omega) (by omega) ?_
    refine g_pick [0, 1, 2, 3, 4, 5, 6, 7, 8, 9, 10, 11, 12] (lo2 := [(0, vR x), (1, vI (i : Int)), (2, vI ((3 : Nat) : Int)), (3, vI s), (4, vI (W : Int)), (5, vI (sd : Int)), (6, vI (al : Int)), (7, vI (M : Int)), (8, vI t), (9, vI (y : Int)), (10, vI 0), (11, vI 0), (12, vI 0)]) rfl ?_
    refine g_iconst (pc := 135) dX11_hasLine_135 ?_
    refine g_istore (pc := 136) (lo2 := [(0, vR x), (1, vI (i : Int)), (2, vI ((3 : Nat) : Int)), (3, vI s), (4, vI (W : Int)), (5, vI (sd : Int)), (6, vI (al : Int)), (7, vI (M : Int)), (8, vI t), (9, vI (y : Int)), (10, vI 0), (11, vI 0), (12, vI 0), (14, vI 1)]) dX11_hasLine_136 (by decide) rfl ?_
    refine g_iconst (pc := 138) dX11_hasLine_138 ?_
    refine g_istore (pc := 139) (lo2 := [(0, vR x), (1, vI (i : Int)), (2, vI ((3 : Nat) : Int)), (3, vI s), (4, vI (W : Int)), (5, vI (sd : Int)), (6, vI (al : Int)), (7, vI (M : Int)), (8, vI t), (9, vI (y : Int)), (10, vI 0), (11, vI 0), (12, vI 0), (14, vI 1), (15, vI 0)]) dX11_hasLine_139 (by decide) rfl ?_
    have hrow : ∀ i, i < 3 → (va_up (va_up (va_up L 2 (((y % sd : Nat) : Int) - (W : Int))) 1 (((q1 % sd : Nat) : Int) - (W : Int))) 0 (((q2 % sd : Nat) : Int) - (W : Int))) i = rwx sd W 3 y i := fun i hi => by
      have hi4 : i = 0 ∨ i = 1 ∨ i = 2 := by omega
      rcases hi4 with e | e | e <;> subst e <;> simp [va_up, rwx, rst, eq1, eq2]
    have hbl : ∀ i, i < 3 → -24 ≤ (va_up (va_up (va_up L 2 (((y % sd : Nat) : Int) - (W : Int))) 1 (((q1 % sd : Nat) : Int) - (W : Int))) 0 (((q2 % sd : Nat) : Int) - (W : Int))) i ∧ (va_up (va_up (va_up L 2 (((y % sd : Nat) : Int) - (W : Int))) 1 (((q1 % sd : Nat) : Int) - (W : Int))) 0 (((q2 % sd : Nat) : Int) - (W : Int))) i ≤ 24 := fun i hi => by
      rw [hrow i hi]
      unfold rwx
      have := hbd (3 - 1 - i)
      omega
    refine hl_2 (k := 3) hM hM2 ht (by omega) hbl hx_3 hL_3 (hK _ _ hrow hL_3 (fun a z1 => by rw [va_up_ne _ _ z1, va_up_ne _ _ z1, va_up_ne _ _ z1])) 3 0 _ _ _ _ _ (by omega) rfl rfl rfl rfl rfl
  · refine g_iload (pc := 77) (x := (y : Int)) dX11_hasLine_77 rfl ?_
    refine g_iload (pc := 79) (x := (al : Int)) dX11_hasLine_79 rfl ?_
    refine g_icmp_geF (pc := 81) (tgt := 249) dX11_hasLine_81 (by decide) (by omega) (by omega) (by omega) ?_
    refine g_iconst (pc := 84) dX11_hasLine_84 ?_
    refine g_istore (pc := 85) (lo2 := [(0, vR x), (1, vI (i : Int)), (2, vI ((4 : Nat) : Int)), (3, vI s), (4, vI (W : Int)), (5, vI (sd : Int)), (6, vI (al : Int)), (7, vI (M : Int)), (8, vI t), (9, vI (y : Int)), (10, vI 0)]) dX11_hasLine_85 (by decide) rfl ?_
    refine g_iconst (pc := 87) dX11_hasLine_87 ?_
    refine g_istore (pc := 88) (lo2 := [(0, vR x), (1, vI (i : Int)), (2, vI ((4 : Nat) : Int)), (3, vI s), (4, vI (W : Int)), (5, vI (sd : Int)), (6, vI (al : Int)), (7, vI (M : Int)), (8, vI t), (9, vI (y : Int)), (10, vI 0), (11, vI 0)]) dX11_hasLine_88 (by decide) rfl ?_
    refine g_iconst (pc := 90) dX11_hasLine_90 ?_
    refine g_istore (pc := 91) (lo2 := [(0, vR x), (1, vI (i : Int)), (2, vI ((4 : Nat) : Int)), (3, vI s), (4, vI (W : Int)), (5, vI (sd : Int)), (6, vI (al : Int)), (7, vI (M : Int)), (8, vI t), (9, vI (y : Int)), (10, vI 0), (11, vI 0), (12, vI 0)]) dX11_hasLine_91 (by decide) rfl ?_
    refine g_iload (pc := 93) (x := (y : Int)) dX11_hasLine_93 rfl ?_
    refine g_istore (pc := 95) (lo2 := [(0, vR x), (1, vI (i : Int)), (2, vI ((4 : Nat) : Int)), (3, vI s), (4, vI (W : Int)), (5, vI (sd : Int)), (6, vI (al : Int)), (7, vI (M : Int)), (8, vI t), (9, vI (y : Int)), (10, vI 0), (11, vI 0), (12, vI 0), (13, vI (y : Int))]) dX11_hasLine_95 (by decide) rfl ?_
    refine g_iload_n (pc := 97) (x := ((4 : Nat) : Int)) dX11_hasLine_97 rfl ?_
    refine g_iconst (pc := 98) dX11_hasLine_98 ?_
    refine g_isub (pc := 99) dX11_hasLine_99 ?_
    refine g_istore (pc := 100) (lo2 := [(0, vR x), (1, vI (i : Int)), (2, vI ((4 : Nat) : Int)), (3, vI s), (4, vI (W : Int)), (5, vI (sd : Int)), (6, vI (al : Int)), (7, vI (M : Int)), (8, vI t), (9, vI (y : Int)), (10, vI 0), (11, vI 0), (12, vI 0), (13, vI (y : Int)), (14, vI (((4 : Nat) : Int) - 1))]) dX11_hasLine_100 (by decide) rfl ?_
    show G mX11_hasLine _ 102 [(0, vR x), (1, vI (i : Int)), (2, vI ((4 : Nat) : Int)), (3, vI s), (4, vI (W : Int)), (5, vI (sd : Int)), (6, vI (al : Int)), (7, vI (M : Int)), (8, vI t), (9, vI (y : Int)), (10, vI 0), (11, vI 0), (12, vI 0), (13, vI (y : Int)), (14, vI 3)] [] _ h _
    refine g_iload (pc := 102) (x := 3) dX11_hasLine_102 rfl ?_
    refine g_if_ltF (pc := 104) (tgt := 135) dX11_hasLine_104 (by decide) (by omega) (by omega) ?_
    refine g_aload_n (pc := 107) (r := .inl (some x)) dX11_hasLine_107 rfl ?_
    refine g_getf (pc := 108) (v := vR (x + 23)) flX11_79 dX11_hasLine_108 hx rfl ?_
    refine g_iload (pc := 111) (x := 3) dX11_hasLine_111 rfl ?_
    refine g_iload (pc := 113) (x := (y : Int)) dX11_hasLine_113 rfl ?_
    refine g_iload (pc := 115) (x := (sd : Int)) dX11_hasLine_115 rfl ?_
    refine g_irem (pc := 117) dX11_hasLine_117 (by omega) (by omega) (by omega) ?_
    rw [show (y : Int).tmod (sd : Int) = ((y % sd : Nat) : Int) from tmodN rfl rfl]
    refine g_iload (pc := 118) (x := (W : Int)) dX11_hasLine_118 rfl ?_
    refine g_isub (pc := 120) dX11_hasLine_120 ?_
    refine g_iastN (pc := 121) (j := 3) dX11_hasLine_121 hL (by omega) (by omega) (by omega) ?_
    have hx_1 := hx.ne (e := eA 0 4 (va_up L 3 (((y % sd : Nat) : Int) - (W : Int)))) (a := x + 23) (by omega)
    have hL_1 := hL.self (e := eA 0 4 (va_up L 3 (((y % sd : Nat) : Int) - (W : Int))))
    refine g_iload (pc := 122) (x := (y : Int)) dX11_hasLine_122 rfl ?_
    refine g_iload (pc := 124) (x := (sd : Int)) dX11_hasLine_124 rfl ?_
    refine g_idiv (pc := 126) dX11_hasLine_126 (by omega) (by omega) (by omega) ?_
    rw [show (y : Int).tdiv (sd : Int) = ((y / sd : Nat) : Int) from tdivN rfl rfl]
    have f1 : y / sd ≤ y := Nat.div_le_self _ _
    obtain ⟨q1, eq1⟩ : ∃ q, q = y / sd := ⟨_, rfl⟩
    rw [← eq1] at f1 ⊢
    refine g_istore (pc := 127) (lo2 := [(0, vR x), (1, vI (i : Int)), (2, vI ((4 : Nat) : Int)), (3, vI s), (4, vI (W : Int)), (5, vI (sd : Int)), (6, vI (al : Int)), (7, vI (M : Int)), (8, vI t), (9, vI (y : Int)), (10, vI 0), (11, vI 0), (12, vI 0), (13, vI (q1 : Int)), (14, vI 3)]) dX11_hasLine_127 (by decide) rfl ?_
    refine g_iinc (pc := 129) (x := 3) (lo2 := [(0, vR x), (1, vI (i : Int)), (2, vI ((4 : Nat) : Int)), (3, vI s), (4, vI (W : Int)), (5, vI (sd : Int)), (6, vI (al : Int)), (7, vI (M : Int)), (8, vI t), (9, vI (y : Int)), (10, vI 0), (11, vI 0), (12, vI 0), (13, vI (q1 : Int)), (14, vI (3 + (-1)))]) dX11_hasLine_129 rfl (by decide) rfl ?_
    refine g_goto (pc := 132) (tgt := 102) dX11_hasLine_132 (by decide) ?_
    show G mX11_hasLine _ 102 [(0, vR x), (1, vI (i : Int)), (2, vI ((4 : Nat) : Int)), (3, vI s), (4, vI (W : Int)), (5, vI (sd : Int)), (6, vI (al : Int)), (7, vI (M : Int)), (8, vI t), (9, vI (y : Int)), (10, vI 0), (11, vI 0), (12, vI 0), (13, vI (q1 : Int)), (14, vI 2)] [] _ (va_up h (x + 23) (eA 0 4 (va_up L 3 (((y % sd : Nat) : Int) - (W : Int))))) _
    refine g_iload (pc := 102) (x := 2) dX11_hasLine_102 rfl ?_
    refine g_if_ltF (pc := 104) (tgt := 135) dX11_hasLine_104 (by decide) (by omega) (by omega) ?_
    refine g_aload_n (pc := 107) (r := .inl (some x)) dX11_hasLine_107 rfl ?_
    refine g_getf (pc := 108) (v := vR (x + 23)) flX11_79 dX11_hasLine_108 hx_1 rfl ?_
    refine g_iload (pc := 111) (x := 2) dX11_hasLine_111 rfl ?_
    refine g_iload (pc := 113) (x := (q1 : Int)) dX11_hasLine_113 rfl ?_
    refine g_iload (pc := 115) (x := (sd : Int)) dX11_hasLine_115 rfl ?_
    refine g_irem (pc := 117) dX11_hasLine_117 (by omega) (by omega) (by omega) ?_
    rw [show (q1 : Int).tmod (sd : Int) = ((q1 % sd : Nat) : Int) from tmodN rfl rfl]
    refine g_iload (pc := 118) (x := (W : Int)) dX11_hasLine_118 rfl ?_
    refine g_isub (pc := 120) dX11_hasLine_120 ?_
    refine g_iastN (pc := 121) (j := 2) dX11_hasLine_121 hL_1 (by omega) (by omega) (by omega) ?_
    have hx_2 := hx_1.ne (e := eA 0 4 (va_up (va_up L 3 (((y % sd : Nat) : Int) - (W : Int))) 2 (((q1 % sd : Nat) : Int) - (W : Int)))) (a := x + 23) (by omega)
    have hL_2 := hL_1.self (e := eA 0 4 (va_up (va_up L 3 (((y % sd : Nat) : Int) - (W : Int))) 2 (((q1 % sd : Nat) : Int) - (W : Int))))
    refine g_iload (pc := 122) (x := (q1 : Int)) dX11_hasLine_122 rfl ?_
    refine g_iload (pc := 124) (x := (sd : Int)) dX11_hasLine_124 rfl ?_
    refine g_idiv (pc := 126) dX11_hasLine_126 (by omega) (by omega) (by omega) ?_
    rw [show (q1 : Int).tdiv (sd : Int) = ((q1 / sd : Nat) : Int) from tdivN rfl rfl]
    have f2 : q1 / sd ≤ y := Nat.le_trans (Nat.div_le_self _ _) f1
    obtain ⟨q2, eq2⟩ : ∃ q, q = q1 / sd := ⟨_, rfl⟩
    rw [← eq2] at f2 ⊢
    refine g_istore (pc := 127) (lo2 := [(0, vR x), (1, vI (i : Int)), (2, vI ((4 : Nat) : Int)), (3, vI s), (4, vI (W : Int)), (5, vI (sd : Int)), (6, vI (al : Int)), (7, vI (M : Int)), (8, vI t), (9, vI (y : Int)), (10, vI 0), (11, vI 0), (12, vI 0), (13, vI (q2 : Int)), (14, vI 2)]) dX11_hasLine_127 (by decide) rfl ?_
    refine g_iinc (pc := 129) (x := 2) (lo2 := [(0, vR x), (1, vI (i : Int)), (2, vI ((4 : Nat) : Int)), (3, vI s), (4, vI (W : Int)), (5, vI (sd : Int)), (6, vI (al : Int)), (7, vI (M : Int)), (8, vI t), (9, vI (y : Int)), (10, vI 0), (11, vI 0), (12, vI 0), (13, vI (q2 : Int)), (14, vI (2 + (-1)))]) dX11_hasLine_129 rfl (by decide) rfl ?_
    refine g_goto (pc := 132) (tgt := 102) dX11_hasLine_132 (by decide) ?_
    show G mX11_hasLine _ 102 [(0, vR x), (1, vI (i : Int)), (2, vI ((4 : Nat) : Int)), (3, vI s), (4, vI (W : Int)), (5, vI (sd : Int)), (6, vI (al : Int)), (7, vI (M : Int)), (8, vI t), (9, vI (y : Int)), (10, vI 0), (11, vI 0), (12, vI 0), (13, vI (q2 : Int)), (14, vI 1)] [] _ (va_up (va_up h (x + 23) (eA 0 4 (va_up L 3 (((y % sd : Nat) : Int) - (W : Int))))) (x + 23) (eA 0 4 (va_up (va_up L 3 (((y % sd : Nat) : Int) - (W : Int))) 2 (((q1 % sd : Nat) : Int) - (W : Int))))) _
    refine g_iload (pc := 102) (x := 1) dX11_hasLine_102 rfl ?_
    refine g_if_ltF (pc := 104) (tgt := 135) dX11_hasLine_104 (by decide) (by omega) (by omega) ?_
    refine g_aload_n (pc := 107) (r := .inl (some x)) dX11_hasLine_107 rfl ?_
    refine g_getf (pc := 108) (v := vR (x + 23)) flX11_79 dX11_hasLine_108 hx_2 rfl ?_
    refine g_iload (pc := 111) (x := 1) dX11_hasLine_111 rfl ?_
    refine g_iload (pc := 113) (x := (q2 : Int)) dX11_hasLine_113 rfl ?_
    refine g_iload (pc := 115) (x := (sd : Int)) dX11_hasLine_115 rfl ?_
    refine g_irem (pc := 117) dX11_hasLine_117 (by omega) (by omega) (by omega) ?_
    rw [show (q2 : Int).tmod (sd : Int) = ((q2 % sd : Nat) : Int) from tmodN rfl rfl]
    refine g_iload (pc := 118) (x := (W : Int)) dX11_hasLine_118 rfl ?_
    refine g_isub (pc := 120) dX11_hasLine_120 ?_
    refine g_iastN (pc := 121) (j := 1) dX11_hasLine_121 hL_2 (by omega) (by omega) (by omega) ?_
    have hx_3 := hx_2.ne (e := eA 0 4 (va_up (va_up (va_up L 3 (((y % sd : Nat) : Int) - (W : Int))) 2 (((q1 % sd : Nat) : Int) - (W : Int))) 1 (((q2 % sd : Nat) : Int) - (W : Int)))) (a := x + 23) (by omega)
    have hL_3 := hL_2.self (e := eA 0 4 (va_up (va_up (va_up L 3 (((y % sd : Nat) : Int) - (W : Int))) 2 (((q1 % sd : Nat) : Int) - (W : Int))) 1 (((q2 % sd : Nat) : Int) - (W : Int))))
    refine g_iload (pc := 122) (x := (q2 : Int)) dX11_hasLine_122 rfl ?_
    refine g_iload (pc := 124) (x := (sd : Int)) dX11_hasLine_124 rfl ?_
    refine g_idiv (pc := 126) dX11_hasLine_126 (by omega) (by omega) (by omega) ?_
    rw [show (q2 : Int).tdiv (sd : Int) = ((q2 / sd : Nat) : Int) from tdivN rfl rfl]
    have f3 : q2 / sd ≤ y := Nat.le_trans (Nat.div_le_self _ _) f2
    obtain ⟨q3, eq3⟩ : ∃ q, q = q2 / sd := ⟨_, rfl⟩
    rw [← eq3] at f3 ⊢
    refine g_istore (pc := 127) (lo2 := [(0, vR x), (1, vI (i : Int)), (2, vI ((4 : Nat) : Int)), (3, vI s), (4, vI (W : Int)), (5, vI (sd : Int)), (6, vI (al : Int)), (7, vI (M : Int)), (8, vI t), (9, vI (y : Int)), (10, vI 0), (11, vI 0), (12, vI 0), (13, vI (q3 : Int)), (14, vI 1)]) dX11_hasLine_127 (by decide) rfl ?_
    refine g_iinc (pc := 129) (x := 1) (lo2 := [(0, vR x), (1, vI (i : Int)), (2, vI ((4 : Nat) : Int)), (3, vI s), (4, vI (W : Int)), (5, vI (sd : Int)), (6, vI (al : Int)), (7, vI (M : Int)), (8, vI t), (9, vI (y : Int)), (10, vI 0), (11, vI 0), (12, vI 0), (13, vI (q3 : Int)), (14, vI (1 + (-1)))]) dX11_hasLine_129 rfl (by decide) rfl ?_
    refine g_goto (pc := 132) (tgt := 102) dX11_hasLine_132 (by decide) ?_
    show G mX11_hasLine _ 102 [(0, vR x), (1, vI (i : Int)), (2, vI ((4 : Nat) : Int)), (3, vI s), (4, vI (W : Int)), (5, vI (sd : Int)), (6, vI (al : Int)), (7, vI (M : Int)), (8, vI t), (9, vI (y : Int)), (10, vI 0), (11, vI 0), (12, vI 0), (13, vI (q3 : Int)), (14, vI 0)] [] _ (va_up (va_up (va_up h (x + 23) (eA 0 4 (va_up L 3 (((y % sd : Nat) : Int) - (W : Int))))) (x + 23) (eA 0 4 (va_up (va_up L 3 (((y % sd : Nat) : Int) - (W : Int))) 2 (((q1 % sd : Nat) : Int) - (W : Int))))) (x + 23) (eA 0 4 (va_up (va_up (va_up L 3 (((y % sd : Nat) : Int) - (W : Int))) 2 (((q1 % sd : Nat) : Int) - (W : Int))) 1 (((q2 % sd : Nat) : Int) - (W : Int))))) _
    refine g_iload (pc := 102) (x := 0) dX11_hasLine_102 rfl ?_
    refine g_if_ltF (pc := 104) (tgt := 135) dX11_hasLine_104 (by decide) (by omega) (by omega) ?_
    refine g_aload_n (pc := 107) (r := .inl (some x)) dX11_hasLine_107 rfl ?_
    refine g_getf (pc := 108) (v := vR (x + 23)) flX11_79 dX11_hasLine_108 hx_3 rfl ?_
    refine g_iload (pc := 111) (x := 0) dX11_hasLine_111 rfl ?_
    refine g_iload (pc := 113) (x := (q3 : Int)) dX11_hasLine_113 rfl ?_
    refine g_iload (pc := 115) (x := (sd : Int)) dX11_hasLine_115 rfl ?_
    refine g_irem (pc := 117) dX11_hasLine_117 (by omega) (by omega) (by omega) ?_
    rw [show (q3 : Int).tmod (sd : Int) = ((q3 % sd : Nat) : Int) from tmodN rfl rfl]
    refine g_iload (pc := 118) (x := (W : Int)) dX11_hasLine_118 rfl ?_
    refine g_isub (pc := 120) dX11_hasLine_120 ?_
    refine g_iastN (pc := 121) (j := 0) dX11_hasLine_121 hL_3 (by omega) (by omega) (by omega) ?_
    have hx_4 := hx_3.ne (e := eA 0 4 (va_up (va_up (va_up (va_up L 3 (((y % sd : Nat) : Int) - (W : Int))) 2 (((q1 % sd : Nat) : Int) - (W : Int))) 1 (((q2 % sd : Nat) : Int) - (W : Int))) 0 (((q3 % sd : Nat) : Int) - (W : Int)))) (a := x + 23) (by omega)
    have hL_4 := hL_3.self (e := eA 0 4 (va_up (va_up (va_up (va_up L 3 (((y % sd : Nat) : Int) - (W : Int))) 2 (((q1 % sd : Nat) : Int) - (W : Int))) 1 (((q2 % sd : Nat) : Int) - (W : Int))) 0 (((q3 % sd : Nat) : Int) - (W : Int))))
    refine g_iload (pc := 122) (x := (q3 : Int)) dX11_hasLine_122 rfl ?_
    refine g_iload (pc := 124) (x := (sd : Int)) dX11_hasLine_124 rfl ?_
    refine g_idiv (pc := 126) dX11_hasLine_126 (by omega) (by omega) (by omega) ?_
    rw [show (q3 : Int).tdiv (sd : Int) = ((q3 / sd : Nat) : Int) from tdivN rfl rfl]
    have f4 : q3 / sd ≤ y := Nat.le_trans (Nat.div_le_self _ _) f3
    obtain ⟨q4, eq4⟩ : ∃ q, q = q3 / sd := ⟨_, rfl⟩
    rw [← eq4] at f4 ⊢
    refine g_istore (pc := 127) (lo2 := [(0, vR x), (1, vI (i : Int)), (2, vI ((4 : Nat) : Int)), (3, vI s), (4, vI (W : Int)), (5, vI (sd : Int)), (6, vI (al : Int)), (7, vI (M : Int)), (8, vI t), (9, vI (y : Int)), (10, vI 0), (11, vI 0), (12, vI 0), (13, vI (q4 : Int)), (14, vI 0)]) dX11_hasLine_127 (by decide) rfl ?_
    refine g_iinc (pc := 129) (x := 0) (lo2 := [(0, vR x), (1, vI (i : Int)), (2, vI ((4 : Nat) : Int)), (3, vI s), (4, vI (W : Int)), (5, vI (sd : Int)), (6, vI (al : Int)), (7, vI (M : Int)), (8, vI t), (9, vI (y : Int)), (10, vI 0), (11, vI 0), (12, vI 0), (13, vI (q4 : Int)), (14, vI (0 + (-1)))]) dX11_hasLine_129 rfl (by decide) rfl ?_
    refine g_goto (pc := 132) (tgt := 102) dX11_hasLine_132 (by decide) ?_
    show G mX11_hasLine _ 102 [(0, vR x), (1, vI (i : Int)), (2, vI ((4 : Nat) : Int)), (3, vI s), (4, vI (W : Int)), (5, vI (sd : Int)), (6, vI (al : Int)), (7, vI (M : Int)), (8, vI t), (9, vI (y : Int)), (10, vI 0), (11, vI 0), (12, vI 0), (13, vI (q4 : Int)), (14, vI (-1))] [] _ (va_up (va_up (va_up (va_up h (x + 23) (eA 0 4 (va_up L 3 (((y % sd : Nat) : Int) - (W : Int))))) (x + 23) (eA 0 4 (va_up (va_up L 3 (((y % sd : Nat) : Int) - (W : Int))) 2 (((q1 % sd : Nat) : Int) - (W : Int))))) (x + 23) (eA 0 4 (va_up (va_up (va_up L 3 (((y % sd : Nat) : Int) - (W : Int))) 2 (((q1 % sd : Nat) : Int) - (W : Int))) 1 (((q2 % sd : Nat) : Int) - (W : Int))))) (x + 23) (eA 0 4 (va_up (va_up (va_up (va_up L 3 (((y % sd : Nat) : Int) - (W : Int))) 2 (((q1 % sd : Nat) : Int) - (W : Int))) 1 (((q2 % sd : Nat) : Int) - (W : Int))) 0 (((q3 % sd : Nat) : Int) - (W : Int))))) _
    refine g_iload (pc := 102) (x := (-1)) dX11_hasLine_102 rfl ?_
    refine g_if_ltT (pc := 104) (tgt := 135) dX11_hasLine_104 (by decide) (by omega) (by omega) ?_
    refine g_pick [0, 1, 2, 3, 4, 5, 6, 7, 8, 9, 10, 11, 12] (lo2 := [(0, vR x), (1, vI (i : Int)), (2, vI ((4 : Nat) : Int)), (3, vI s), (4, vI (W : Int)), (5, vI (sd : Int)), (6, vI (al : Int)), (7, vI (M : Int)), (8, vI t), (9, vI (y : Int)), (10, vI 0), (11, vI 0), (12, vI 0)]) rfl ?_
    refine g_iconst (pc := 135) dX11_hasLine_135 ?_
    refine g_istore (pc := 136) (lo2 := [(0, vR x), (1, vI (i : Int)), (2, vI ((4 : Nat) : Int)), (3, vI s), (4, vI (W : Int)), (5, vI (sd : Int)), (6, vI (al : Int)), (7, vI (M : Int)), (8, vI t), (9, vI (y : Int)), (10, vI 0), (11, vI 0), (12, vI 0), (14, vI 1)]) dX11_hasLine_136 (by decide) rfl ?_
    refine g_iconst (pc := 138) dX11_hasLine_138 ?_
    refine g_istore (pc := 139) (lo2 := [(0, vR x), (1, vI (i : Int)), (2, vI ((4 : Nat) : Int)), (3, vI s), (4, vI (W : Int)), (5, vI (sd : Int)), (6, vI (al : Int)), (7, vI (M : Int)), (8, vI t), (9, vI (y : Int)), (10, vI 0), (11, vI 0), (12, vI 0), (14, vI 1), (15, vI 0)]) dX11_hasLine_139 (by decide) rfl ?_
    have hrow : ∀ i, i < 4 → (va_up (va_up (va_up (va_up L 3 (((y % sd : Nat) : Int) - (W : Int))) 2 (((q1 % sd : Nat) : Int) - (W : Int))) 1 (((q2 % sd : Nat) : Int) - (W : Int))) 0 (((q3 % sd : Nat) : Int) - (W : Int))) i = rwx sd W 4 y i := fun i hi => by
      have hi4 : i = 0 ∨ i = 1 ∨ i = 2 ∨ i = 3 := by omega
      rcases hi4 with e | e | e | e <;> subst e <;> simp [va_up, rwx, rst, eq1, eq2, eq3]
    have hbl : ∀ i, i < 4 → -24 ≤ (va_up (va_up (va_up (va_up L 3 (((y % sd : Nat) : Int) - (W : Int))) 2 (((q1 % sd : Nat) : Int) - (W : Int))) 1 (((q2 % sd : Nat) : Int) - (W : Int))) 0 (((q3 % sd : Nat) : Int) - (W : Int))) i ∧ (va_up (va_up (va_up (va_up L 3 (((y % sd : Nat) : Int) - (W : Int))) 2 (((q1 % sd : Nat) : Int) - (W : Int))) 1 (((q2 % sd : Nat) : Int) - (W : Int))) 0 (((q3 % sd : Nat) : Int) - (W : Int))) i ≤ 24 := fun i hi => by
      rw [hrow i hi]
      unfold rwx
      have := hbd (4 - 1 - i)
      omega
    refine hl_2 (k := 4) hM hM2 ht (by omega) hbl hx_4 hL_4 (hK _ _ hrow hL_4 (fun a z1 => by rw [va_up_ne _ _ z1, va_up_ne _ _ z1, va_up_ne _ _ z1, va_up_ne _ _ z1])) 4 0 _ _ _ _ _ (by omega) rfl rfl rfl rfl rfl

theorem hl_to {N d x i k W sd al M yE Ls : Nat} {sx : Nat → Int} {s t th wd pm fm mu um pr ts : Int} {h0 : MH} {Q : Option MV → MR → MH → Prop} (hM : 2 ≤ M) (hM2 : M ≤ 500) (ht : 0 ≤ t ∧ t < M) (k2 : 2 ≤ k) (k4 : k ≤ 4) (hs : 0 ≤ s ∧ s < 700) (hW : W ≤ 24) (esd : sd = 2 * W + 1) (hyE : yE ≤ al) (hal : al ≤ 20000) (hno : ∀ y, y < yE → ¬ hit M k t s (rwx sd W k y)) (hx0 : Hd (0, 0, N) h0 x (mdl x th wd pm fm mu um pr ts)) (hK : ∀ (L2 : Nat → Int) (h2 : MH), Hd (0, 0, N) h2 (x + 23) (eA 0 4 L2) → (∀ a, a ≠ x + 23 → h2 a = h0 a) → G mX11_hasLine (d + 1, 0, 0, Ls, sx) 77 [(0, vR x), (1, vI (i : Int)), (2, vI (k : Int)), (3, vI s), (4, vI (W : Int)), (5, vI (sd : Int)), (6, vI (al : Int)), (7, vI (M : Int)), (8, vI t), (9, vI (yE : Int))] [] (0, 0, N) h2 Q) : ∀ (f y : Nat) (L : Nat → Int) (h : MH), y + f = yE → Hd (0, 0, N) h (x + 23) (eA 0 4 L) → (∀ a, a ≠ x + 23 → h a = h0 a) → G mX11_hasLine (d + 1, 0, 0, Ls, sx) 77 [(0, vR x), (1, vI (i : Int)), (2, vI (k : Int)), (3, vI s), (4, vI (W : Int)), (5, vI (sd : Int)), (6, vI (al : Int)), (7, vI (M : Int)), (8, vI t), (9, vI (y : Int))] [] (0, 0, N) h Q := by
  intro f
  induction f with
  | zero =>
    intro y L h hf hL hfr
    have ey : y = yE := by omega
    subst ey
    exact hK L h hL hfr
  | succ f ih =>
    intro y L h hf hL hfr
    have hx := hx0.keep (hfr x (by omega))
    refine hl_body hM hM2 ht k2 k4 hW esd (by omega) hal hx hL (fun L2 h2 hr hL2 k1 => ?_)
    have hnh : ¬ hit M k t s L2 := fun z => hno y (by omega) ((hit_congr hr).mp z)
    have bl : ∀ i, i < k → -24 ≤ L2 i ∧ L2 i ≤ 24 := fun i hi => by
      rw [hr i hi]
      unfold rwx
      have := Nat.mod_lt (rst sd y (k - 1 - i)) (show 0 < sd by omega)
      omega
    have b1 := hsm_bd (t := t) (l := L2) hM k
    have b2 := hqs_bd k bl
    have b3 := hfs_bd k bl
    refine g_iload (pc := 225) (x := hqs L2 k) dX11_hasLine_225 rfl ?_
    refine g_iload_n (pc := 227) (x := s) dX11_hasLine_227 rfl ?_
    refine g_icmp_ne (pc := 228) (tgt := 243) dX11_hasLine_228 (by decide) (by omega) (by omega) (fun c1 => ?_) (fun c1 => ?_)
    · refine g_iinc (pc := 243) (x := (y : Int)) (lo2 := [(0, vR x), (1, vI (i : Int)), (2, vI (k : Int)), (3, vI s), (4, vI (W : Int)), (5, vI (sd : Int)), (6, vI (al : Int)), (7, vI (M : Int)), (8, vI t), (9, vI ((y : Int) + 1)), (10, vI (hsm M t L2 k)), (11, vI (hqs L2 k)), (12, vI (hfs L2 k))]) dX11_hasLine_243 rfl (by decide) rfl ?_
      refine g_goto (pc := 246) (tgt := 77) dX11_hasLine_246 (by decide) ?_
      refine g_pick [0, 1, 2, 3, 4, 5, 6, 7, 8, 9] (lo2 := [(0, vR x), (1, vI (i : Int)), (2, vI (k : Int)), (3, vI s), (4, vI (W : Int)), (5, vI (sd : Int)), (6, vI (al : Int)), (7, vI (M : Int)), (8, vI t), (9, vI ((y : Int) + 1))]) rfl ?_
      rw [show (y : Int) + 1 = ((y + 1 : Nat) : Int) by omega]
      exact ih (y + 1) L2 h2 (by omega) hL2 (fun a z1 => (k1 a z1).trans (hfr a z1))
    · refine g_iload (pc := 231) (x := hsm M t L2 k) dX11_hasLine_231 rfl ?_
      refine g_if_ne (pc := 233) (tgt := 243) dX11_hasLine_233 (by decide) (by omega) (fun c2 => ?_) (fun c2 => ?_)
      · refine g_iinc (pc := 243) (x := (y : Int)) (lo2 := [(0, vR x), (1, vI (i : Int)), (2, vI (k : Int)), (3, vI s), (4, vI (W : Int)), (5, vI (sd : Int)), (6, vI (al : Int)), (7, vI (M : Int)), (8, vI t), (9, vI ((y : Int) + 1)), (10, vI (hsm M t L2 k)), (11, vI (hqs L2 k)), (12, vI (hfs L2 k))]) dX11_hasLine_243 rfl (by decide) rfl ?_
        refine g_goto (pc := 246) (tgt := 77) dX11_hasLine_246 (by decide) ?_
        refine g_pick [0, 1, 2, 3, 4, 5, 6, 7, 8, 9] (lo2 := [(0, vR x), (1, vI (i : Int)), (2, vI (k : Int)), (3, vI s), (4, vI (W : Int)), (5, vI (sd : Int)), (6, vI (al : Int)), (7, vI (M : Int)), (8, vI t), (9, vI ((y : Int) + 1))]) rfl ?_
        rw [show (y : Int) + 1 = ((y + 1 : Nat) : Int) by omega]
        exact ih (y + 1) L2 h2 (by omega) hL2 (fun a z1 => (k1 a z1).trans (hfr a z1))
      · refine g_iload (pc := 236) (x := hfs L2 k) dX11_hasLine_236 rfl ?_
        refine g_if_le (pc := 238) (tgt := 243) dX11_hasLine_238 (by decide) (by omega) (fun c3 => ?_) (fun c3 => ?_)
        · refine g_iinc (pc := 243) (x := (y : Int)) (lo2 := [(0, vR x), (1, vI (i : Int)), (2, vI (k : Int)), (3, vI s), (4, vI (W : Int)), (5, vI (sd : Int)), (6, vI (al : Int)), (7, vI (M : Int)), (8, vI t), (9, vI ((y : Int) + 1)), (10, vI (hsm M t L2 k)), (11, vI (hqs L2 k)), (12, vI (hfs L2 k))]) dX11_hasLine_243 rfl (by decide) rfl ?_
          refine g_goto (pc := 246) (tgt := 77) dX11_hasLine_246 (by decide) ?_
          refine g_pick [0, 1, 2, 3, 4, 5, 6, 7, 8, 9] (lo2 := [(0, vR x), (1, vI (i : Int)), (2, vI (k : Int)), (3, vI s), (4, vI (W : Int)), (5, vI (sd : Int)), (6, vI (al : Int)), (7, vI (M : Int)), (8, vI t), (9, vI ((y : Int) + 1))]) rfl ?_
          rw [show (y : Int) + 1 = ((y + 1 : Nat) : Int) by omega]
          exact ih (y + 1) L2 h2 (by omega) hL2 (fun a z1 => (k1 a z1).trans (hfr a z1))
        · exact absurd ⟨by omega, by omega, by omega⟩ hnh

theorem c_hasLine {N d x i k M : Nat} {s S t th wd pm fm mu um pr ts : Int} {Z Ms Tb L : Nat → Int} {h : MH} (hM : 2 ≤ M) (hM2 : M ≤ 500) (ht : 0 ≤ t ∧ t < M) (hi : i < 6) (k2 : 2 ≤ k) (k4 : k ≤ 4) (hZ : isShort t M k S Z) (hs : 0 ≤ s ∧ s ≤ S) (hx : Hd (0, 0, N) h x (mdl x th wd pm fm mu um pr ts)) (hMs : Hd (0, 0, N) h (x + 3) (eA 0 6 Ms)) (hTb : Hd (0, 0, N) h (x + 5) (eA 0 96 Tb)) (hL : Hd (0, 0, N) h (x + 23) (eA 0 4 L)) (eM : Ms i = (M : Int)) (eT : Tb (16 * i) = t) : Ok mX11_hasLine (d + 1) 0 0 [vR x, vI (i : Int), vI (k : Int), vI s] N h (fun r h2 => (∀ a, a ≠ x + 23 → h2 a = h a) ∧ ((s < S ∧ r = some (vI 0) ∧ ∃ L2, Hd (0, 0, N) h2 (x + 23) (eA 0 4 L2)) ∨ (s = S ∧ r = some (vI 1) ∧ ∃ L2, Hd (0, 0, N) h2 (x + 23) (eA 0 4 L2) ∧ ∀ j, j < k → L2 j = Z j))) := by
  refine Ok.of pfX11_hasLine rfl (Nat.le_of_ble_eq_true rfl) (fun Ls sx => ?_)
  show G mX11_hasLine (d + 1, 0, 0, Ls, sx) 0 [(0, vR x), (1, vI (i : Int)), (2, vI (k : Int)), (3, vI s)] [] (0, 0, N) h _
  obtain ⟨q1, q2, q3⟩ := short_bd hM hM2 ht k2 k4 hZ
  obtain ⟨W, w1, w2⟩ := isq s.toNat
  have hbk : bndK k ≤ 625 := by unfold bndK; split <;> (try split) <;> omega
  have w1' : (W : Int) * W ≤ s := by rw [← Int.natCast_mul]; omega
  have w2' : s < ((W : Int) + 1) * (W + 1) := by
    have : (((W + 1) * (W + 1) : Nat) : Int) = ((W : Int) + 1) * (W + 1) := by simp only [Int.natCast_mul, Int.natCast_add]; rfl
    omega
  have hWk : ∀ c : Nat, s < ((c * c : Nat) : Int) → W < c := fun c hc => by
    by_cases z : W < c
    · exact z
    · have := Nat.mul_le_mul (show c ≤ W by omega) (show c ≤ W by omega)
      omega
  have hW24 : W ≤ 24 := by have := hWk 25 (by omega); omega
  refine g_iconst (pc := 0) dX11_hasLine_0 ?_
  refine g_istore (pc := 1) (lo2 := [(0, vR x), (1, vI (i : Int)), (2, vI (k : Int)), (3, vI s), (4, vI 0)]) dX11_hasLine_1 (by decide) rfl ?_
  refine hl_w hW24 w1' w2' (by omega) ?_ W 0 _ (by omega) rfl
  refine g_iconst (pc := 22) dX11_hasLine_22 ?_
  refine g_iload (pc := 23) (x := (W : Int)) dX11_hasLine_23 rfl ?_
  refine g_imul (pc := 25) dX11_hasLine_25 ?_
  refine g_iconst (pc := 26) dX11_hasLine_26 ?_
  refine g_iadd (pc := 27) dX11_hasLine_27 ?_
  obtain ⟨sd, esd⟩ : ∃ sd : Nat, sd = 2 * W + 1 := ⟨_, rfl⟩
  rw [show 2 * (W : Int) + 1 = (sd : Int) by omega]
  refine g_istore (pc := 28) (lo2 := [(0, vR x), (1, vI (i : Int)), (2, vI (k : Int)), (3, vI s), (4, vI (W : Int)), (5, vI (sd : Int))]) dX11_hasLine_28 (by decide) rfl ?_
  refine g_iconst (pc := 30) dX11_hasLine_30 ?_
  refine g_istore (pc := 31) (lo2 := [(0, vR x), (1, vI (i : Int)), (2, vI (k : Int)), (3, vI s), (4, vI (W : Int)), (5, vI (sd : Int)), (6, vI 1)]) dX11_hasLine_31 (by decide) rfl ?_
  refine g_iconst (pc := 33) dX11_hasLine_33 ?_
  refine g_istore (pc := 34) (lo2 := [(0, vR x), (1, vI (i : Int)), (2, vI (k : Int)), (3, vI s), (4, vI (W : Int)), (5, vI (sd : Int)), (6, vI 1), (7, vI 0)]) dX11_hasLine_34 (by decide) rfl ?_
  have hc : k = 2 ∨ k = 3 ∨ k = 4 := by omega
  rcases hc with e | e | e <;> subst e
  · rw [show bndK 2 = 625 from rfl] at q2
    have hWr : W ≤ 24 := by have := hWk 25 (by omega); omega
    have al0 : 1 ≤ 1 := Nat.le_refl 1
    refine g_iload (pc := 36) (x := 0) dX11_hasLine_36 rfl ?_
    refine g_iload_n (pc := 38) (x := ((2 : Nat) : Int)) dX11_hasLine_38 rfl ?_
    refine g_icmp_geF (pc := 39) (tgt := 55) dX11_hasLine_39 (by decide) (by omega) (by omega) (by omega) ?_
    refine g_iload (pc := 42) (x := 1) dX11_hasLine_42 rfl ?_
    refine g_iload (pc := 44) (x := (sd : Int)) dX11_hasLine_44 rfl ?_
    refine g_imul (pc := 46) dX11_hasLine_46 ?_
    refine g_istore (pc := 47) (lo2 := [(0, vR x), (1, vI (i : Int)), (2, vI ((2 : Nat) : Int)), (3, vI s), (4, vI (W : Int)), (5, vI (sd : Int)), (6, vI (1 * (sd : Int))), (7, vI 0)]) dX11_hasLine_47 (by decide) rfl ?_
    refine g_iinc (pc := 49) (x := 0) (lo2 := [(0, vR x), (1, vI (i : Int)), (2, vI ((2 : Nat) : Int)), (3, vI s), (4, vI (W : Int)), (5, vI (sd : Int)), (6, vI (1 * (sd : Int))), (7, vI (0 + 1))]) dX11_hasLine_49 rfl (by decide) rfl ?_
    refine g_goto (pc := 52) (tgt := 36) dX11_hasLine_52 (by decide) ?_
    have ea0 : 1 * (sd : Int) = ((1 * sd : Nat) : Int) := (Int.natCast_mul _ _).symm
    rw [ea0]
    show G mX11_hasLine _ 36 [(0, vR x), (1, vI (i : Int)), (2, vI ((2 : Nat) : Int)), (3, vI s), (4, vI (W : Int)), (5, vI (sd : Int)), (6, vI ((1 * sd : Nat) : Int)), (7, vI 1)] [] _ h _
    have al1 : 1 * sd ≤ 49 := Nat.mul_le_mul al0 (show sd ≤ 49 by omega)
    refine g_iload (pc := 36) (x := 1) dX11_hasLine_36 rfl ?_
    refine g_iload_n (pc := 38) (x := ((2 : Nat) : Int)) dX11_hasLine_38 rfl ?_
    refine g_icmp_geF (pc := 39) (tgt := 55) dX11_hasLine_39 (by decide) (by omega) (by omega) (by omega) ?_
    refine g_iload (pc := 42) (x := ((1 * sd : Nat) : Int)) dX11_hasLine_42 rfl ?_
    refine g_iload (pc := 44) (x := (sd : Int)) dX11_hasLine_44 rfl ?_
    refine g_imul (pc := 46) dX11_hasLine_46 ?_
    refine g_istore (pc := 47) (lo2 := [(0, vR x), (1, vI (i : Int)), (2, vI ((2 : Nat) : Int)), (3, vI s), (4, vI (W : Int)), (5, vI (sd : Int)), (6, vI (((1 * sd : Nat) : Int) * (sd : Int))), (7, vI 1)]) dX11_hasLine_47 (by decide) rfl ?_
    refine g_iinc (pc := 49) (x := 1) (lo2 := [(0, vR x), (1, vI (i : Int)), (2, vI ((2 : Nat) : Int)), (3, vI s), (4, vI (W : Int)), (5, vI (sd : Int)), (6, vI (((1 * sd : Nat) : Int) * (sd : Int))), (7, vI (1 + 1))]) dX11_hasLine_49 rfl (by decide) rfl ?_
    refine g_goto (pc := 52) (tgt := 36) dX11_hasLine_52 (by decide) ?_
    have ea1 : ((1 * sd : Nat) : Int) * (sd : Int) = ((1 * sd * sd : Nat) : Int) := (Int.natCast_mul _ _).symm
    rw [ea1]
    show G mX11_hasLine _ 36 [(0, vR x), (1, vI (i : Int)), (2, vI ((2 : Nat) : Int)), (3, vI s), (4, vI (W : Int)), (5, vI (sd : Int)), (6, vI ((1 * sd * sd : Nat) : Int)), (7, vI 2)] [] _ h _
    have al2 : 1 * sd * sd ≤ 2401 := Nat.mul_le_mul al1 (show sd ≤ 49 by omega)
    refine g_iload (pc := 36) (x := 2) dX11_hasLine_36 rfl ?_
    refine g_iload_n (pc := 38) (x := ((2 : Nat) : Int)) dX11_hasLine_38 rfl ?_
    refine g_icmp_geT (pc := 39) (tgt := 55) dX11_hasLine_39 (by decide) (by omega) (by omega) (by omega) ?_
    refine g_aload_n (pc := 55) (r := .inl (some x)) dX11_hasLine_55 rfl ?_
    refine g_getf (pc := 56) (v := vR (x + 3)) flX11_17 dX11_hasLine_56 hx rfl ?_
    refine g_iload_n (pc := 59) (x := (i : Int)) dX11_hasLine_59 rfl ?_
    refine g_ialdN (pc := 60) (j := i) dX11_hasLine_60 hMs (by omega) (by omega) (by omega) ?_
    rw [eM]
    refine g_istore (pc := 61) (lo2 := [(0, vR x), (1, vI (i : Int)), (2, vI ((2 : Nat) : Int)), (3, vI s), (4, vI (W : Int)), (5, vI (sd : Int)), (6, vI ((1 * sd * sd : Nat) : Int)), (7, vI (M : Int))]) dX11_hasLine_61 (by decide) rfl ?_
    refine g_aload_n (pc := 63) (r := .inl (some x)) dX11_hasLine_63 rfl ?_
    refine g_getf (pc := 64) (v := vR (x + 5)) flX11_23 dX11_hasLine_64 hx rfl ?_
    refine g_bipush (pc := 67) dX11_hasLine_67 (by decide +kernel) ?_
    refine g_iload_n (pc := 69) (x := (i : Int)) dX11_hasLine_69 rfl ?_
    refine g_imul (pc := 70) dX11_hasLine_70 ?_
    refine g_ialdN (pc := 71) (j := 16 * i) dX11_hasLine_71 hTb (by omega) (by omega) (by omega) ?_
    rw [eT]
    refine g_istore (pc := 72) (lo2 := [(0, vR x), (1, vI (i : Int)), (2, vI ((2 : Nat) : Int)), (3, vI s), (4, vI (W : Int)), (5, vI (sd : Int)), (6, vI ((1 * sd * sd : Nat) : Int)), (7, vI (M : Int)), (8, vI t)]) dX11_hasLine_72 (by decide) rfl ?_
    refine g_iconst (pc := 74) dX11_hasLine_74 ?_
    refine g_istore (pc := 75) (lo2 := [(0, vR x), (1, vI (i : Int)), (2, vI ((2 : Nat) : Int)), (3, vI s), (4, vI (W : Int)), (5, vI (sd : Int)), (6, vI ((1 * sd * sd : Nat) : Int)), (7, vI (M : Int)), (8, vI t), (9, vI 0)]) dX11_hasLine_75 (by decide) rfl ?_
    by_cases hsS : s < S
    · refine hl_to (al := 1 * sd * sd) (yE := 1 * sd * sd) (W := W) hM hM2 ht k2 k4 (by omega) hW24 esd (Nat.le_refl _) (by omega) (fun y hy hh => ?_) hx (fun L2 h2 hL2 k1 => ?_) (1 * sd * sd) 0 L h (by omega) hL (fun _ _ => rfl)
      · obtain ⟨z1, z2⟩ := (hit_iff hM k2 k4).mp hh
        have := hZ.2.2 _ z1
        omega
      · refine g_iload (pc := 77) (x := ((1 * sd * sd : Nat) : Int)) dX11_hasLine_77 rfl ?_
        refine g_iload (pc := 79) (x := ((1 * sd * sd : Nat) : Int)) dX11_hasLine_79 rfl ?_
        refine g_icmp_geT (pc := 81) (tgt := 249) dX11_hasLine_81 (by decide) (by omega) (by omega) (by omega) ?_
        refine g_iconst (pc := 249) dX11_hasLine_249 ?_
        exact r_bool (pc := 250) dX11_hasLine_250 rfl rfl (Nat.le_refl _) (Or.inl rfl) ⟨k1, Or.inl ⟨hsS, rfl, L2, hL2⟩⟩
    · have esS : s = S := by omega
      obtain ⟨yZ, y1, y2, y3⟩ := yz_2 (w := W) hM hZ (by omega)
      rw [← esd] at y1 y2 y3
      rw [← esS] at y3
      refine hl_to (al := 1 * sd * sd) (yE := yZ) (W := W) hM hM2 ht k2 k4 (by omega) hW24 esd (by omega) (by omega) y3 hx (fun L2 h2 hL2 k1 => ?_) yZ 0 L h (by omega) hL (fun _ _ => rfl)
      refine hl_body hM hM2 ht k2 k4 hW24 esd y1 (by omega) (hx.keep (k1 x (by omega))) hL2 (fun L3 h3 hr hL3 k3 => ?_)
      have hz : ∀ j, j < 2 → L3 j = Z j := fun j hj => (hr j hj).trans (y2 j hj)
      have hzx : ∀ j, j < 4 → zx 2 L3 j = Z j := fun j hj => by
        unfold zx
        by_cases c : j < 2
        · rw [if_pos c]
          exact hz j c
        · rw [if_neg c]
          exact (hZ.1.1 j (by omega) hj).symm
      obtain ⟨g1, g2, g3⟩ := (hit_iff (l := L3) (s := s) hM k2 k4).mpr ⟨(lnOk_congr hzx).mpr hZ.1, by rw [sq4_congr hzx, ← hZ.2.1, esS]⟩
      have g0 : s ≤ 700 := by omega
      have g4 := hfs_bd (l := L3) 2 (fun j hj => by rw [hr j hj]; unfold rwx; have := Nat.mod_lt (rst sd yZ (2 - 1 - j)) (show 0 < sd by omega); omega)
      refine g_iload (pc := 225) (x := hqs L3 2) dX11_hasLine_225 rfl ?_
      refine g_iload_n (pc := 227) (x := s) dX11_hasLine_227 rfl ?_
      refine g_icmp_neF (pc := 228) (tgt := 243) dX11_hasLine_228 (by decide) (by omega) (by omega) (by omega) ?_
      refine g_iload (pc := 231) (x := hsm M t L3 2) dX11_hasLine_231 rfl ?_
      refine g_if_neF (pc := 233) (tgt := 243) dX11_hasLine_233 (by decide) (by omega) (by omega) ?_
      refine g_iload (pc := 236) (x := hfs L3 2) dX11_hasLine_236 rfl ?_
      refine g_if_leF (pc := 238) (tgt := 243) dX11_hasLine_238 (by decide) (by omega) (by omega) ?_
      refine g_iconst (pc := 241) dX11_hasLine_241 ?_
      exact r_bool (pc := 242) dX11_hasLine_242 rfl rfl (Nat.le_refl _) (Or.inr rfl) ⟨fun a z1 => (k3 a z1).trans (k1 a z1), Or.inr ⟨esS, rfl, L3, hL3, hz⟩⟩
  · rw [show bndK 3 = 81 from rfl] at q2
    have hWr : W ≤ 8 := by have := hWk 9 (by omega); omega
    have al0 : 1 ≤ 1 := Nat.le_refl 1
    refine g_iload (pc := 36) (x := 0) dX11_hasLine_36 rfl ?_
    refine g_iload_n (pc := 38) (x := ((3 : Nat) : Int)) dX11_hasLine_38 rfl ?_
    refine g_icmp_geF (pc := 39) (tgt := 55) dX11_hasLine_39 (by decide) (by omega) (by omega) (by omega) ?_
    refine g_iload (pc := 42) (x := 1) dX11_hasLine_42 rfl ?_
    refine g_iload (pc := 44) (x := (sd : Int)) dX11_hasLine_44 rfl ?_
    refine g_imul (pc := 46) dX11_hasLine_46 ?_
    refine g_istore (pc := 47) (lo2 := [(0, vR x), (1, vI (i : Int)), (2, vI ((3 : Nat) : Int)), (3, vI s), (4, vI (W : Int)), (5, vI (sd : Int)), (6, vI (1 * (sd : Int))), (7, vI 0)]) dX11_hasLine_47 (by decide) rfl ?_
    refine g_iinc (pc := 49) (x := 0) (lo2 := [(0, vR x), (1, vI (i : Int)), (2, vI ((3 : Nat) : Int)), (3, vI s), (4, vI (W : Int)), (5, vI (sd : Int)), (6, vI (1 * (sd : Int))), (7, vI (0 + 1))]) dX11_hasLine_49 rfl (by decide) rfl ?_
    refine g_goto (pc := 52) (tgt := 36) dX11_hasLine_52 (by decide) ?_
    have ea0 : 1 * (sd : Int) = ((1 * sd : Nat) : Int) := (Int.natCast_mul _ _).symm
    rw [ea0]
    show G mX11_hasLine _ 36 [(0, vR x), (1, vI (i : Int)), (2, vI ((3 : Nat) : Int)), (3, vI s), (4, vI (W : Int)), (5, vI (sd : Int)), (6, vI ((1 * sd : Nat) : Int)), (7, vI 1)] [] _ h _
    have al1 : 1 * sd ≤ 17 := Nat.mul_le_mul al0 (show sd ≤ 17 by omega)
    refine g_iload (pc := 36) (x := 1) dX11_hasLine_36 rfl ?_
    refine g_iload_n (pc := 38) (x := ((3 : Nat) : Int)) dX11_hasLine_38 rfl ?_
    refine g_icmp_geF (pc := 39) (tgt := 55) dX11_hasLine_39 (by decide) (by omega) (by omega) (by omega) ?_
    refine g_iload (pc := 42) (x := ((1 * sd : Nat) : Int)) dX11_hasLine_42 rfl ?_
    refine g_iload (pc := 44) (x := (sd : Int)) dX11_hasLine_44 rfl ?_
    refine g_imul (pc := 46) dX11_hasLine_46 ?_
    refine g_istore (pc := 47) (lo2 := [(0, vR x), (1, vI (i : Int)), (2, vI ((3 : Nat) : Int)), (3, vI s), (4, vI (W : Int)), (5, vI (sd : Int)), (6, vI (((1 * sd : Nat) : Int) * (sd : Int))), (7, vI 1)]) dX11_hasLine_47 (by decide) rfl ?_
    refine g_iinc (pc := 49) (x := 1) (lo2 := [(0, vR x), (1, vI (i : Int)), (2, vI ((3 : Nat) : Int)), (3, vI s), (4, vI (W : Int)), (5, vI (sd : Int)), (6, vI (((1 * sd : Nat) : Int) * (sd : Int))), (7, vI (1 + 1))]) dX11_hasLine_49 rfl (by decide) rfl ?_
    refine g_goto (pc := 52) (tgt := 36) dX11_hasLine_52 (by decide) ?_
    have ea1 : ((1 * sd : Nat) : Int) * (sd : Int) = ((1 * sd * sd : Nat) : Int) := (Int.natCast_mul _ _).symm
    rw [ea1]
    show G mX11_hasLine _ 36 [(0, vR x), (1, vI (i : Int)), (2, vI ((3 : Nat) : Int)), (3, vI s), (4, vI (W : Int)), (5, vI (sd : Int)), (6, vI ((1 * sd * sd : Nat) : Int)), (7, vI 2)] [] _ h _
    have al2 : 1 * sd * sd ≤ 289 := Nat.mul_le_mul al1 (show sd ≤ 17 by omega)
    refine g_iload (pc := 36) (x := 2) dX11_hasLine_36 rfl ?_
    refine g_iload_n (pc := 38) (x := ((3 : Nat) : Int)) dX11_hasLine_38 rfl ?_
    refine g_icmp_geF (pc := 39) (tgt := 55) dX11_hasLine_39 (by decide) (by omega) (by omega) (by omega) ?_
    refine g_iload (pc := 42) (x := ((1 * sd * sd : Nat) : Int)) dX11_hasLine_42 rfl ?_
    refine g_iload (pc := 44) (x := (sd : Int)) dX11_hasLine_44 rfl ?_
    refine g_imul (pc := 46) dX11_hasLine_46 ?_
    refine g_istore (pc := 47) (lo2 := [(0, vR x), (1, vI (i : Int)), (2, vI ((3 : Nat) : Int)), (3, vI s), (4, vI (W : Int)), (5, vI (sd : Int)), (6, vI (((1 * sd * sd : Nat) : Int) * (sd : Int))), (7, vI 2)]) dX11_hasLine_47 (by decide) rfl ?_
    refine g_iinc (pc := 49) (x := 2) (lo2 := [(0, vR x), (1, vI (i : Int)), (2, vI ((3 : Nat) : Int)), (3, vI s), (4, vI (W : Int)), (5, vI (sd : Int)), (6, vI (((1 * sd * sd : Nat) : Int) * (sd : Int))), (7, vI (2 + 1))]) dX11_hasLine_49 rfl (by decide) rfl ?_
    refine g_goto (pc := 52) (tgt := 36) dX11_hasLine_52 (by decide) ?_
    have ea2 : ((1 * sd * sd : Nat) : Int) * (sd : Int) = ((1 * sd * sd * sd : Nat) : Int) := (Int.natCast_mul _ _).symm
    rw [ea2]
    show G mX11_hasLine _ 36 [(0, vR x), (1, vI (i : Int)), (2, vI ((3 : Nat) : Int)), (3, vI s), (4, vI (W : Int)), (5, vI (sd : Int)), (6, vI ((1 * sd * sd * sd : Nat) : Int)), (7, vI 3)] [] _ h _
    have al3 : 1 * sd * sd * sd ≤ 4913 := Nat.mul_le_mul al2 (show sd ≤ 17 by omega)
    refine g_iload (pc := 36) (x := 3) dX11_hasLine_36 rfl ?_
    refine g_iload_n (pc := 38) (x := ((3 : Nat) : Int)) dX11_hasLine_38 rfl ?_
    refine g_icmp_geT (pc := 39) (tgt := 55) dX11_hasLine_39 (by decide) (by omega) (by omega) (by omega) ?_
    refine g_aload_n (pc := 55) (r := .inl (some x)) dX11_hasLine_55 rfl ?_
    refine g_getf (pc := 56) (v := vR (x + 3)) flX11_17 dX11_hasLine_56 hx rfl ?_
    refine g_iload_n (pc := 59) (x := (i : Int)) dX11_hasLine_59 rfl ?_
    refine g_ialdN (pc := 60) (j := i) dX11_hasLine_60 hMs (by omega) (by omega) (by omega) ?_
    rw [eM]
    refine g_istore (pc := 61) (lo2 := [(0, vR x), (1, vI (i : Int)), (2, vI ((3 : Nat) : Int)), (3, vI s), (4, vI (W : Int)), (5, vI (sd : Int)), (6, vI ((1 * sd * sd * sd : Nat) : Int)), (7, vI (M : Int))]) dX11_hasLine_61 (by decide) rfl ?_
    refine g_aload_n (pc := 63) (r := .inl (some x)) dX11_hasLine_63 rfl ?_
    refine g_getf (pc := 64) (v := vR (x + 5)) flX11_23 dX11_hasLine_64 hx rfl ?_
    refine g_bipush (pc := 67) dX11_hasLine_67 (by decide +kernel) ?_
    refine g_iload_n (pc := 69) (x := (i : Int)) dX11_hasLine_69 rfl ?_
    refine g_imul (pc := 70) dX11_hasLine_70 ?_
    refine g_ialdN (pc := 71) (j := 16 * i) dX11_hasLine_71 hTb (by omega) (by omega) (by omega) ?_
    rw [eT]
    refine g_istore (pc := 72) (lo2 := [(0, vR x), (1, vI (i : Int)), (2, vI ((3 : Nat) : Int)), (3, vI s), (4, vI (W : Int)), (5, vI (sd : Int)), (6, vI ((1 * sd * sd * sd : Nat) : Int)), (7, vI (M : Int)), (8, vI t)]) dX11_hasLine_72 (by decide) rfl ?_
    refine g_iconst (pc := 74) dX11_hasLine_74 ?_
    refine g_istore (pc := 75) (lo2 := [(0, vR x), (1, vI (i : Int)), (2, vI ((3 : Nat) : Int)), (3, vI s), (4, vI (W : Int)), (5, vI (sd : Int)), (6, vI ((1 * sd * sd * sd : Nat) : Int)), (7, vI (M : Int)), (8, vI t), (9, vI 0)]) dX11_hasLine_75 (by decide) rfl ?_
    by_cases hsS : s < S
    · refine hl_to (al := 1 * sd * sd * sd) (yE := 1 * sd * sd * sd) (W := W) hM hM2 ht k2 k4 (by omega) hW24 esd (Nat.le_refl _) (by omega) (fun y hy hh => ?_) hx (fun L2 h2 hL2 k1 => ?_) (1 * sd * sd * sd) 0 L h (by omega) hL (fun _ _ => rfl)
      · obtain ⟨z1, z2⟩ := (hit_iff hM k2 k4).mp hh
        have := hZ.2.2 _ z1
        omega
      · refine g_iload (pc := 77) (x := ((1 * sd * sd * sd : Nat) : Int)) dX11_hasLine_77 rfl ?_
        refine g_iload (pc := 79) (x := ((1 * sd * sd * sd : Nat) : Int)) dX11_hasLine_79 rfl ?_
        refine g_icmp_geT (pc := 81) (tgt := 249) dX11_hasLine_81 (by decide) (by omega) (by omega) (by omega) ?_
        refine g_iconst (pc := 249) dX11_hasLine_249 ?_
        exact r_bool (pc := 250) dX11_hasLine_250 rfl rfl (Nat.le_refl _) (Or.inl rfl) ⟨k1, Or.inl ⟨hsS, rfl, L2, hL2⟩⟩
    · have esS : s = S := by omega
      obtain ⟨yZ, y1, y2, y3⟩ := yz_3 (w := W) hM hZ (by omega)
      rw [← esd] at y1 y2 y3
      rw [← esS] at y3
      refine hl_to (al := 1 * sd * sd * sd) (yE := yZ) (W := W) hM hM2 ht k2 k4 (by omega) hW24 esd (by omega) (by omega) y3 hx (fun L2 h2 hL2 k1 => ?_) yZ 0 L h (by omega) hL (fun _ _ => rfl)
      refine hl_body hM hM2 ht k2 k4 hW24 esd y1 (by omega) (hx.keep (k1 x (by omega))) hL2 (fun L3 h3 hr hL3 k3 => ?_)
      have hz : ∀ j, j < 3 → L3 j = Z j := fun j hj => (hr j hj).trans (y2 j hj)
      have hzx : ∀ j, j < 4 → zx 3 L3 j = Z j := fun j hj => by
        unfold zx
        by_cases c : j < 3
        · rw [if_pos c]
          exact hz j c
        · rw [if_neg c]
          exact (hZ.1.1 j (by omega) hj).symm
      obtain ⟨g1, g2, g3⟩ := (hit_iff (l := L3) (s := s) hM k2 k4).mpr ⟨(lnOk_congr hzx).mpr hZ.1, by rw [sq4_congr hzx, ← hZ.2.1, esS]⟩
      have g0 : s ≤ 700 := by omega
      have g4 := hfs_bd (l := L3) 3 (fun j hj => by rw [hr j hj]; unfold rwx; have := Nat.mod_lt (rst sd yZ (3 - 1 - j)) (show 0 < sd by omega); omega)
      refine g_iload (pc := 225) (x := hqs L3 3) dX11_hasLine_225 rfl ?_
      refine g_iload_n (pc := 227) (x := s) dX11_hasLine_227 rfl ?_
      refine g_icmp_neF (pc := 228) (tgt := 243) dX11_hasLine_228 (by decide) (by omega) (by omega) (by omega) ?_
      refine g_iload (pc := 231) (x := hsm M t L3 3) dX11_hasLine_231 rfl ?_
      refine g_if_neF (pc := 233) (tgt := 243) dX11_hasLine_233 (by decide) (by omega) (by omega) ?_
      refine g_iload (pc := 236) (x := hfs L3 3) dX11_hasLine_236 rfl ?_
      refine g_if_leF (pc := 238) (tgt := 243) dX11_hasLine_238 (by decide) (by omega) (by omega) ?_
      refine g_iconst (pc := 241) dX11_hasLine_241 ?_
      exact r_bool (pc := 242) dX11_hasLine_242 rfl rfl (Nat.le_refl _) (Or.inr rfl) ⟨fun a z1 => (k3 a z1).trans (k1 a z1), Or.inr ⟨esS, rfl, L3, hL3, hz⟩⟩
  · rw [show bndK 4 = 36 from rfl] at q2
    have hWr : W ≤ 5 := by have := hWk 6 (by omega); omega
    have al0 : 1 ≤ 1 := Nat.le_refl 1
    refine g_iload (pc := 36) (x := 0) dX11_hasLine_36 rfl ?_
    refine g_iload_n (pc := 38) (x := ((4 : Nat) : Int)) dX11_hasLine_38 rfl ?_
    refine g_icmp_geF (pc := 39) (tgt := 55) dX11_hasLine_39 (by decide) (by omega) (by omega) (by omega) ?_
    refine g_iload (pc := 42) (x := 1) dX11_hasLine_42 rfl ?_
    refine g_iload (pc := 44) (x := (sd : Int)) dX11_hasLine_44 rfl ?_
    refine g_imul (pc := 46) dX11_hasLine_46 ?_
    refine g_istore (pc := 47) (lo2 := [(0, vR x), (1, vI (i : Int)), (2, vI ((4 : Nat) : Int)), (3, vI s), (4, vI (W : Int)), (5, vI (sd : Int)), (6, vI (1 * (sd : Int))), (7, vI 0)]) dX11_hasLine_47 (by decide) rfl ?_
    refine g_iinc (pc := 49) (x := 0) (lo2 := [(0, vR x), (1, vI (i : Int)), (2, vI ((4 : Nat) : Int)), (3, vI s), (4, vI (W : Int)), (5, vI (sd : Int)), (6, vI (1 * (sd : Int))), (7, vI (0 + 1))]) dX11_hasLine_49 rfl (by decide) rfl ?_
    refine g_goto (pc := 52) (tgt := 36) dX11_hasLine_52 (by decide) ?_
    have ea0 : 1 * (sd : Int) = ((1 * sd : Nat) : Int) := (Int.natCast_mul _ _).symm
    rw [ea0]
    show G mX11_hasLine _ 36 [(0, vR x), (1, vI (i : Int)), (2, vI ((4 : Nat) : Int)), (3, vI s), (4, vI (W : Int)), (5, vI (sd : Int)), (6, vI ((1 * sd : Nat) : Int)), (7, vI 1)] [] _ h _
    have al1 : 1 * sd ≤ 11 := Nat.mul_le_mul al0 (show sd ≤ 11 by omega)
    refine g_iload (pc := 36) (x := 1) dX11_hasLine_36 rfl ?_
    refine g_iload_n (pc := 38) (x := ((4 : Nat) : Int)) dX11_hasLine_38 rfl ?_
    refine g_icmp_geF (pc := 39) (tgt := 55) dX11_hasLine_39 (by decide) (by omega) (by omega) (by omega) ?_
    refine g_iload (pc := 42) (x := ((1 * sd : Nat) : Int)) dX11_hasLine_42 rfl ?_
    refine g_iload (pc := 44) (x := (sd : Int)) dX11_hasLine_44 rfl ?_
    refine g_imul (pc := 46) dX11_hasLine_46 ?_
    refine g_istore (pc := 47) (lo2 := [(0, vR x), (1, vI (i : Int)), (2, vI ((4 : Nat) : Int)), (3, vI s), (4, vI (W : Int)), (5, vI (sd : Int)), (6, vI (((1 * sd : Nat) : Int) * (sd : Int))), (7, vI 1)]) dX11_hasLine_47 (by decide) rfl ?_
    refine g_iinc (pc := 49) (x := 1) (lo2 := [(0, vR x), (1, vI (i : Int)), (2, vI ((4 : Nat) : Int)), (3, vI s), (4, vI (W : Int)), (5, vI (sd : Int)), (6, vI (((1 * sd : Nat) : Int) * (sd : Int))), (7, vI (1 + 1))]) dX11_hasLine_49 rfl (by decide) rfl ?_
    refine g_goto (pc := 52) (tgt := 36) dX11_hasLine_52 (by decide) ?_
    have ea1 : ((1 * sd : Nat) : Int) * (sd : Int) = ((1 * sd * sd : Nat) : Int) := (Int.natCast_mul _ _).symm
    rw [ea1]
    show G mX11_hasLine _ 36 [(0, vR x), (1, vI (i : Int)), (2, vI ((4 : Nat) : Int)), (3, vI s), (4, vI (W : Int)), (5, vI (sd : Int)), (6, vI ((1 * sd * sd : Nat) : Int)), (7, vI 2)] [] _ h _
    have al2 : 1 * sd * sd ≤ 121 := Nat.mul_le_mul al1 (show sd ≤ 11 by omega)
    refine g_iload (pc := 36) (x := 2) dX11_hasLine_36 rfl ?_
    refine g_iload_n (pc := 38) (x := ((4 : Nat) : Int)) dX11_hasLine_38 rfl ?_
    refine g_icmp_geF (pc := 39) (tgt := 55) dX11_hasLine_39 (by decide) (by omega) (by omega) (by omega) ?_
    refine g_iload (pc := 42) (x := ((1 * sd * sd : Nat) : Int)) dX11_hasLine_42 rfl ?_
    refine g_iload (pc := 44) (x := (sd : Int)) dX11_hasLine_44 rfl ?_
    refine g_imul (pc := 46) dX11_hasLine_46 ?_
    refine g_istore (pc := 47) (lo2 := [(0, vR x), (1, vI (i : Int)), (2, vI ((4 : Nat) : Int)), (3, vI s), (4, vI (W : Int)), (5, vI (sd : Int)), (6, vI (((1 * sd * sd : Nat) : Int) * (sd : Int))), (7, vI 2)]) dX11_hasLine_47 (by decide) rfl ?_
    refine g_iinc (pc := 49) (x := 2) (lo2 := [(0, vR x), (1, vI (i : Int)), (2, vI ((4 : Nat) : Int)), (3, vI s), (4, vI (W : Int)), (5, vI (sd : Int)), (6, vI (((1 * sd * sd : Nat) : Int) * (sd : Int))), (7, vI (2 + 1))]) dX11_hasLine_49 rfl (by decide) rfl ?_
    refine g_goto (pc := 52) (tgt := 36) dX11_hasLine_52 (by decide) ?_
    have ea2 : ((1 * sd * sd : Nat) : Int) * (sd : Int) = ((1 * sd * sd * sd : Nat) : Int) := (Int.natCast_mul _ _).symm
    rw [ea2]
    show G mX11_hasLine _ 36 [(0, vR x), (1, vI (i : Int)), (2, vI ((4 : Nat) : Int)), (3, vI s), (4, vI (W : Int)), (5, vI (sd : Int)), (6, vI ((1 * sd * sd * sd : Nat) : Int)), (7, vI 3)] [] _ h _
    have al3 : 1 * sd * sd * sd ≤ 1331 := Nat.mul_le_mul al2 (show sd ≤ 11 by omega)
    refine g_iload (pc := 36) (x := 3) dX11_hasLine_36 rfl ?_
    refine g_iload_n (pc := 38) (x := ((4 : Nat) : Int)) dX11_hasLine_38 rfl ?_
    refine g_icmp_geF (pc := 39) (tgt := 55) dX11_hasLine_39 (by decide) (by omega) (by omega) (by omega) ?_
    refine g_iload (pc := 42) (x := ((1 * sd * sd * sd : Nat) : Int)) dX11_hasLine_42 rfl ?_
    refine g_iload (pc := 44) (x := (sd : Int)) dX11_hasLine_44 rfl ?_
    refine g_imul (pc := 46) dX11_hasLine_46 ?_
    refine g_istore (pc := 47) (lo2 := [(0, vR x), (1, vI (i : Int)), (2, vI ((4 : Nat) : Int)), (3, vI s), (4, vI (W : Int)), (5, vI (sd : Int)), (6, vI (((1 * sd * sd * sd : Nat) : Int) * (sd : Int))), (7, vI 3)]) dX11_hasLine_47 (by decide) rfl ?_
    refine g_iinc (pc := 49) (x := 3) (lo2 := [(0, vR x), (1, vI (i : Int)), (2, vI ((4 : Nat) : Int)), (3, vI s), (4, vI (W : Int)), (5, vI (sd : Int)), (6, vI (((1 * sd * sd * sd : Nat) : Int) * (sd : Int))), (7, vI (3 + 1))]) dX11_hasLine_49 rfl (by decide) rfl ?_
    refine g_goto (pc := 52) (tgt := 36) dX11_hasLine_52 (by decide) ?_
    have ea3 : ((1 * sd * sd * sd : Nat) : Int) * (sd : Int) = ((1 * sd * sd * sd * sd : Nat) : Int) := (Int.natCast_mul _ _).symm
    rw [ea3]
    show G mX11_hasLine _ 36 [(0, vR x), (1, vI (i : Int)), (2, vI ((4 : Nat) : Int)), (3, vI s), (4, vI (W : Int)), (5, vI (sd : Int)), (6, vI ((1 * sd * sd * sd * sd : Nat) : Int)), (7, vI 4)] [] _ h _
    have al4 : 1 * sd * sd * sd * sd ≤ 14641 := Nat.mul_le_mul al3 (show sd ≤ 11 by omega)
    refine g_iload (pc := 36) (x := 4) dX11_hasLine_36 rfl ?_
    refine g_iload_n (pc := 38) (x := ((4 : Nat) : Int)) dX11_hasLine_38 rfl ?_
    refine g_icmp_geT (pc := 39) (tgt := 55) dX11_hasLine_39 (by decide) (by omega) (by omega) (by omega) ?_
    refine g_aload_n (pc := 55) (r := .inl (some x)) dX11_hasLine_55 rfl ?_
    refine g_getf (pc := 56) (v := vR (x + 3)) flX11_17 dX11_hasLine_56 hx rfl ?_
    refine g_iload_n (pc := 59) (x := (i : Int)) dX11_hasLine_59 rfl ?_
    refine g_ialdN (pc := 60) (j := i) dX11_hasLine_60 hMs (by omega) (by omega) (by omega) ?_
    rw [eM]
    refine g_istore (pc := 61) (lo2 := [(0, vR x), (1, vI (i : Int)), (2, vI ((4 : Nat) : Int)), (3, vI s), (4, vI (W : Int)), (5, vI (sd : Int)), (6, vI ((1 * sd * sd * sd * sd : Nat) : Int)), (7, vI (M : Int))]) dX11_hasLine_61 (by decide) rfl ?_
    refine g_aload_n (pc := 63) (r := .inl (some x)) dX11_hasLine_63 rfl ?_
    refine g_getf (pc := 64) (v := vR (x + 5)) flX11_23 dX11_hasLine_64 hx rfl ?_
    refine g_bipush (pc := 67) dX11_hasLine_67 (by decide +kernel) ?_
    refine g_iload_n (pc := 69) (x := (i : Int)) dX11_hasLine_69 rfl ?_
    refine g_imul (pc := 70) dX11_hasLine_70 ?_
    refine g_ialdN (pc := 71) (j := 16 * i) dX11_hasLine_71 hTb (by omega) (by omega) (by omega) ?_
    rw [eT]
    refine g_istore (pc := 72) (lo2 := [(0, vR x), (1, vI (i : Int)), (2, vI ((4 : Nat) : Int)), (3, vI s), (4, vI (W : Int)), (5, vI (sd : Int)), (6, vI ((1 * sd * sd * sd * sd : Nat) : Int)), (7, vI (M : Int)), (8, vI t)]) dX11_hasLine_72 (by decide) rfl ?_
    refine g_iconst (pc := 74) dX11_hasLine_74 ?_
    refine g_istore (pc := 75) (lo2 := [(0, vR x), (1, vI (i : Int)), (2, vI ((4 : Nat) : Int)), (3, vI s), (4, vI (W : Int)), (5, vI (sd : Int)), (6, vI ((1 * sd * sd * sd * sd : Nat) : Int)), (7, vI (M : Int)), (8, vI t), (9, vI 0)]) dX11_hasLine_75 (by decide) rfl ?_
    by_cases hsS : s < S
    · refine hl_to (al := 1 * sd * sd * sd * sd) (yE := 1 * sd * sd * sd * sd) (W := W) hM hM2 ht k2 k4 (by omega) hW24 esd (Nat.le_refl _) (by omega) (fun y hy hh => ?_) hx (fun L2 h2 hL2 k1 => ?_) (1 * sd * sd * sd * sd) 0 L h (by omega) hL (fun _ _ => rfl)
      · obtain ⟨z1, z2⟩ := (hit_iff hM k2 k4).mp hh
        have := hZ.2.2 _ z1
        omega
      · refine g_iload (pc := 77) (x := ((1 * sd * sd * sd * sd : Nat) : Int)) dX11_hasLine_77 rfl ?_
        refine g_iload (pc := 79) (x := ((1 * sd * sd * sd * sd : Nat) : Int)) dX11_hasLine_79 rfl ?_
        refine g_icmp_geT (pc := 81) (tgt := 249) dX11_hasLine_81 (by decide) (by omega) (by omega) (by omega) ?_
        refine g_iconst (pc := 249) dX11_hasLine_249 ?_
        exact r_bool (pc := 250) dX11_hasLine_250 rfl rfl (Nat.le_refl _) (Or.inl rfl) ⟨k1, Or.inl ⟨hsS, rfl, L2, hL2⟩⟩
    · have esS : s = S := by omega
      obtain ⟨yZ, y1, y2, y3⟩ := yz_4 (w := W) hM hZ (by omega)
      rw [← esd] at y1 y2 y3
      rw [← esS] at y3
      refine hl_to (al := 1 * sd * sd * sd * sd) (yE := yZ) (W := W) hM hM2 ht k2 k4 (by omega) hW24 esd (by omega) (by omega) y3 hx (fun L2 h2 hL2 k1 => ?_) yZ 0 L h (by omega) hL (fun _ _ => rfl)
      refine hl_body hM hM2 ht k2 k4 hW24 esd y1 (by omega) (hx.keep (k1 x (by omega))) hL2 (fun L3 h3 hr hL3 k3 => ?_)
      have hz : ∀ j, j < 4 → L3 j = Z j := fun j hj => (hr j hj).trans (y2 j hj)
      have hzx : ∀ j, j < 4 → zx 4 L3 j = Z j := fun j hj => by
        unfold zx
        by_cases c : j < 4
        · rw [if_pos c]
          exact hz j c
        · rw [if_neg c]
          exact (hZ.1.1 j (by omega) hj).symm
      obtain ⟨g1, g2, g3⟩ := (hit_iff (l := L3) (s := s) hM k2 k4).mpr ⟨(lnOk_congr hzx).mpr hZ.1, by rw [sq4_congr hzx, ← hZ.2.1, esS]⟩
      have g0 : s ≤ 700 := by omega
      have g4 := hfs_bd (l := L3) 4 (fun j hj => by rw [hr j hj]; unfold rwx; have := Nat.mod_lt (rst sd yZ (4 - 1 - j)) (show 0 < sd by omega); omega)
      refine g_iload (pc := 225) (x := hqs L3 4) dX11_hasLine_225 rfl ?_
      refine g_iload_n (pc := 227) (x := s) dX11_hasLine_227 rfl ?_
      refine g_icmp_neF (pc := 228) (tgt := 243) dX11_hasLine_228 (by decide) (by omega) (by omega) (by omega) ?_
      refine g_iload (pc := 231) (x := hsm M t L3 4) dX11_hasLine_231 rfl ?_
      refine g_if_neF (pc := 233) (tgt := 243) dX11_hasLine_233 (by decide) (by omega) (by omega) ?_
      refine g_iload (pc := 236) (x := hfs L3 4) dX11_hasLine_236 rfl ?_
      refine g_if_leF (pc := 238) (tgt := 243) dX11_hasLine_238 (by decide) (by omega) (by omega) ?_
      refine g_iconst (pc := 241) dX11_hasLine_241 ?_
      exact r_bool (pc := 242) dX11_hasLine_242 rfl rfl (Nat.le_refl _) (Or.inr rfl) ⟨fun a z1 => (k3 a z1).trans (k1 a z1), Or.inr ⟨esS, rfl, L3, hL3, hz⟩⟩

theorem sho_l {N d x i k M : Nat} {S t th wd pm fm mu um pr ts : Int} {Z Ms Tb : Nat → Int} {h0 : MH} (hM : 2 ≤ M) (hM2 : M ≤ 500) (ht : 0 ≤ t ∧ t < M) (hi : i < 6) (k2 : 2 ≤ k) (k4 : k ≤ 4) (hZ : isShort t M k S Z) (hx0 : Hd (0, 0, N) h0 x (mdl x th wd pm fm mu um pr ts)) (hMs : Hd (0, 0, N) h0 (x + 3) (eA 0 6 Ms)) (hTb : Hd (0, 0, N) h0 (x + 5) (eA 0 96 Tb)) (eM : Ms i = (M : Int)) (eT : Tb (16 * i) = t) {Ls : Nat} {sx : Nat → Int} : ∀ (f : Nat) (s : Int) (L : Nat → Int) (h : MH), s + f = S → 1 ≤ s → Hd (0, 0, N) h (x + 23) (eA 0 4 L) → (∀ a, a ≠ x + 23 → h a = h0 a) → G mX11_shortOf (d + 2, 0, 0, Ls, sx) 2 [(0, vR x), (1, vI (i : Int)), (2, vI (k : Int)), (3, vI s)] [] (0, 0, N) h (Pq mX11_shortOf 0 0 (fun r h2 => r = some (vI S) ∧ (∀ a, a ≠ x + 23 → h2 a = h0 a) ∧ ∃ L2, Hd (0, 0, N) h2 (x + 23) (eA 0 4 L2) ∧ ∀ j, j < k → L2 j = Z j)) := by
  intro f
  obtain ⟨q1, q2, q3⟩ := short_bd hM hM2 ht k2 k4 hZ
  have hbk : bndK k ≤ 625 := by unfold bndK; split <;> (try split) <;> omega
  induction f with
  | zero =>
    intro s L h hf s1 hL hfr
    have hx := hx0.keep (hfr x (by omega))
    refine g_aload_n (pc := 2) (r := .inl (some x)) dX11_shortOf_2 rfl ?_
    refine g_iload_n (pc := 3) (x := (i : Int)) dX11_shortOf_3 rfl ?_
    refine g_iload_n (pc := 4) (x := (k : Int)) dX11_shortOf_4 rfl ?_
    refine g_iload_n (pc := 5) (x := s) dX11_shortOf_5 rfl ?_
    refine g_callV0 (pc := 6) (as := [vI (i : Int), vI (k : Int), vI s]) (b := x) (st := []) lvX11_238 dX11_shortOf_6 hx (Nat.le_of_ble_eq_true rfl) (by omega) (Nat.zero_le _) (Nat.zero_le _) (c_hasLine (d := d) hM hM2 ht hi k2 k4 hZ (by omega) hx (hMs.keep (hfr _ (by omega))) (hTb.keep (hfr _ (by omega))) hL eM eT) ?_
    rintro r h1 ⟨k1, e9⟩
    obtain ⟨eS, e8, L2, hL2, hz⟩ := e9.resolve_left (fun z => by omega)
    subst e8
    refine g_if_neT (pc := 9) (tgt := 18) dX11_shortOf_9 (by decide) (by omega) (by omega) ?_
    refine g_iload_n (pc := 18) (x := s) dX11_shortOf_18 rfl ?_
    exact r_int (pc := 19) dX11_shortOf_19 rfl rfl (Nat.le_refl _) ⟨by rw [eS], fun a z1 => (k1 a z1).trans (hfr a z1), L2, hL2, hz⟩
  | succ f ih =>
    intro s L h hf s1 hL hfr
    have hx := hx0.keep (hfr x (by omega))
    refine g_aload_n (pc := 2) (r := .inl (some x)) dX11_shortOf_2 rfl ?_
    refine g_iload_n (pc := 3) (x := (i : Int)) dX11_shortOf_3 rfl ?_
    refine g_iload_n (pc := 4) (x := (k : Int)) dX11_shortOf_4 rfl ?_
    refine g_iload_n (pc := 5) (x := s) dX11_shortOf_5 rfl ?_
    refine g_callV0 (pc := 6) (as := [vI (i : Int), vI (k : Int), vI s]) (b := x) (st := []) lvX11_238 dX11_shortOf_6 hx (Nat.le_of_ble_eq_true rfl) (by omega) (Nat.zero_le _) (Nat.zero_le _) (c_hasLine (d := d) hM hM2 ht hi k2 k4 hZ (by omega) hx (hMs.keep (hfr _ (by omega))) (hTb.keep (hfr _ (by omega))) hL eM eT) ?_
    rintro r h1 ⟨k1, e9⟩
    obtain ⟨eS, e8, L2, hL2⟩ := e9.resolve_right (fun z => by omega)
    subst e8
    refine g_if_neF (pc := 9) (tgt := 18) dX11_shortOf_9 (by decide) (by omega) (by omega) ?_
    refine g_iinc (pc := 12) (x := s) (lo2 := [(0, vR x), (1, vI (i : Int)), (2, vI (k : Int)), (3, vI (s + 1))]) dX11_shortOf_12 rfl (by decide) rfl ?_
    refine g_goto (pc := 15) (tgt := 2) dX11_shortOf_15 (by decide) ?_
    exact ih (s + 1) L2 h1 (by omega) (by omega) hL2 (fun a z1 => (k1 a z1).trans (hfr a z1))
theorem c_shortOf {N d x i k M : Nat} {S t th wd pm fm mu um pr ts : Int} {Z Ms Tb : Nat → Int} {h0 : MH} (hM : 2 ≤ M) (hM2 : M ≤ 500) (ht : 0 ≤ t ∧ t < M) (hi : i < 6) (k2 : 2 ≤ k) (k4 : k ≤ 4) (hZ : isShort t M k S Z) (hx0 : Hd (0, 0, N) h0 x (mdl x th wd pm fm mu um pr ts)) (hMs : Hd (0, 0, N) h0 (x + 3) (eA 0 6 Ms)) (hTb : Hd (0, 0, N) h0 (x + 5) (eA 0 96 Tb)) (eM : Ms i = (M : Int)) (eT : Tb (16 * i) = t) {L : Nat → Int} (hL : Hd (0, 0, N) h0 (x + 23) (eA 0 4 L)) : Ok mX11_shortOf (d + 2) 0 0 [vR x, vI (i : Int), vI (k : Int)] N h0 (fun r h2 => r = some (vI S) ∧ (∀ a, a ≠ x + 23 → h2 a = h0 a) ∧ ∃ L2, Hd (0, 0, N) h2 (x + 23) (eA 0 4 L2) ∧ ∀ j, j < k → L2 j = Z j) := by
  refine Ok.of pfX11_shortOf rfl (Nat.le_of_ble_eq_true rfl) (fun Ls sx => ?_)
  show G mX11_shortOf (d + 2, 0, 0, Ls, sx) 0 [(0, vR x), (1, vI (i : Int)), (2, vI (k : Int))] [] (0, 0, N) h0 _
  refine g_iconst (pc := 0) dX11_shortOf_0 ?_
  refine g_istore_n (pc := 1) (lo2 := [(0, vR x), (1, vI (i : Int)), (2, vI (k : Int)), (3, vI 1)]) dX11_shortOf_1 (by decide) rfl ?_
  have q1 := (short_bd hM hM2 ht k2 k4 hZ).1
  exact sho_l hM hM2 ht hi k2 k4 hZ hx0 hMs hTb eM eT (S - 1).toNat 1 L h0 (by omega) (by omega) hL (fun _ _ => rfl)
