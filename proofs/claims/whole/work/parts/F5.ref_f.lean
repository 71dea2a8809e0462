/-! ===== the reference: a new mill ===== -/
theorem mml_a {N x Ls : Nat} {sx : Nat → Int} {k mm ss th wd pm fm mu um pr ts : Int} {σ : Nat → Option MSt} {Th Kd Ms Sz Tb Mo Pl Pi : Nat → Int} {h : MH} {Q : Option MV → MR → MH → Prop} (hx : Hd (0, 0, N) h x (mdl x th wd pm fm mu um pr ts)) (ra : RA N h x σ Th Kd Ms Sz Tb Mo Pl Pi) (hK : ∀ i : Nat, i ≤ 6 → (∀ j, j < i → σ j ≠ none) → (i < 6 → σ i = none) → G mX11_mill (10, 0, 0, Ls, sx) 92 [(0, vR x), (1, vI k), (2, vI mm), (3, vI ss), (4, vI (i : Int))] [] (0, 0, N) h Q) : ∀ (f i : Nat) (xi : Int), i + f = 6 → xi = (i : Int) → (∀ j, j < i → σ j ≠ none) → G mX11_mill (10, 0, 0, Ls, sx) 69 [(0, vR x), (1, vI k), (2, vI mm), (3, vI ss), (4, vI xi)] [] (0, 0, N) h Q := by
  intro f
  induction f with
  | zero =>
    intro i xi hf ei hno
    subst ei
    refine g_iload (pc := 69) (x := (i : Int)) dX11_mill_69 rfl ?_
    refine g_bipush (pc := 71) dX11_mill_71 (by decide +kernel) ?_
    refine g_icmp_geT (pc := 73) (tgt := 92) dX11_mill_73 (by decide) (by omega) (by omega) (by omega) ?_
    exact hK i (by omega) hno (fun z => by omega)
  | succ f ih =>
    intro i xi hf ei hno
    subst ei
    have a1 := ra.1
    have mi := ra.2.2.2.2.2.2.2.2.2 i (by omega)
    refine g_iload (pc := 69) (x := (i : Int)) dX11_mill_69 rfl ?_
    refine g_bipush (pc := 71) dX11_mill_71 (by decide +kernel) ?_
    refine g_icmp_geF (pc := 73) (tgt := 92) dX11_mill_73 (by decide) (by omega) (by omega) (by omega) ?_
    refine g_aload_n (pc := 76) (r := .inl (some x)) dX11_mill_76 rfl ?_
    refine g_getf (pc := 77) (v := vR (x + 1)) flX11_7 dX11_mill_77 hx rfl ?_
    refine g_iload (pc := 80) (x := (i : Int)) dX11_mill_80 rfl ?_
    refine g_zaldN (pc := 82) (j := i) dX11_mill_82 a1 (by omega) (by omega) (by omega) ?_
    rcases eo : σ i with _ | ⟨kd, M, n, T, Y, P⟩
    · rw [mi.1 eo]
      refine g_if_eqT (pc := 83) (tgt := 92) dX11_mill_83 (by decide) (by omega) (by omega) ?_
      exact hK i (by omega) hno (fun _ => eo)
    · rw [(mi.out eo).2.1]
      refine g_if_eqF (pc := 83) (tgt := 92) dX11_mill_83 (by decide) (by omega) (by omega) ?_
      refine g_iinc (pc := 86) (x := (i : Int)) (lo2 := [(0, vR x), (1, vI k), (2, vI mm), (3, vI ss), (4, vI ((i : Int) + 1))]) dX11_mill_86 rfl (by decide) rfl ?_
      refine g_goto (pc := 89) (tgt := 69) dX11_mill_89 (by decide) ?_
      exact ih (i + 1) _ (by omega) (by omega) (fun j hj => by
        by_cases e : j = i
        · rw [e, eo]
          exact fun z => nomatch z
        · exact hno j (by omega))

theorem mml_b {N x i Ls : Nat} {sx Tb : Nat → Int} {k mm ss th wd pm fm mu um pr ts : Int} {h0 : MH} {Q : Option MV → MR → MH → Prop} (hi : i < 6) (hx0 : Hd (0, 0, N) h0 x (mdl x th wd pm fm mu um pr ts)) (hK : ∀ (xj : Int) (A5 : Nat → Int) (h : MH), Hd (0, 0, N) h (x + 5) (eA 0 96 A5) → (∀ a, a < 16 → A5 (16 * i + a) = 0) → (∀ a, (a < 16 * i ∨ 16 * i + 16 ≤ a) → A5 a = Tb a) → (∀ a, a ≠ x + 5 → h a = h0 a) → G mX11_mill (10, 0, 0, Ls, sx) 163 [(0, vR x), (1, vI k), (2, vI mm), (3, vI ss), (4, vI (i : Int)), (5, vI xj)] [] (0, 0, N) h Q) : ∀ (f j : Nat) (xj : Int) (A5 : Nat → Int) (h : MH), j + f = 16 → xj = (j : Int) → Hd (0, 0, N) h (x + 5) (eA 0 96 A5) → (∀ a, a < j → A5 (16 * i + a) = 0) → (∀ a, (a < 16 * i ∨ 16 * i + j ≤ a) → A5 a = Tb a) → (∀ a, a ≠ x + 5 → h a = h0 a) → G mX11_mill (10, 0, 0, Ls, sx) 136 [(0, vR x), (1, vI k), (2, vI mm), (3, vI ss), (4, vI (i : Int)), (5, vI xj)] [] (0, 0, N) h Q := by
  intro f
  induction f with
  | zero =>
    intro j xj A5 h hf ej c5 z5 o5 kh
    have e9 : j = 16 := by omega
    subst e9
    refine g_iload (pc := 136) (x := xj) dX11_mill_136 rfl ?_
    refine g_bipush (pc := 138) dX11_mill_138 (by decide +kernel) ?_
    refine g_icmp_geT (pc := 140) (tgt := 163) dX11_mill_140 (by decide) (by omega) (by omega) (by omega) ?_
    exact hK _ A5 h c5 z5 o5 kh
  | succ f ih =>
    intro j xj A5 h hf ej c5 z5 o5 kh
    have hx := hx0.keep (kh x (by omega))
    refine g_iload (pc := 136) (x := xj) dX11_mill_136 rfl ?_
    refine g_bipush (pc := 138) dX11_mill_138 (by decide +kernel) ?_
    refine g_icmp_geF (pc := 140) (tgt := 163) dX11_mill_140 (by decide) (by omega) (by omega) (by omega) ?_
    refine g_aload_n (pc := 143) (r := .inl (some x)) dX11_mill_143 rfl ?_
    refine g_getf (pc := 144) (v := vR (x + 5)) flX11_23 dX11_mill_144 hx rfl ?_
    refine g_bipush (pc := 147) dX11_mill_147 (by decide +kernel) ?_
    refine g_iload (pc := 149) (x := (i : Int)) dX11_mill_149 rfl ?_
    refine g_imul (pc := 151) dX11_mill_151 ?_
    refine g_iload (pc := 152) (x := xj) dX11_mill_152 rfl ?_
    refine g_iadd (pc := 154) dX11_mill_154 ?_
    refine g_iconst (pc := 155) dX11_mill_155 ?_
    refine g_iastN (pc := 156) (j := (16 * i) + j) dX11_mill_156 c5 (by omega) (by omega) (by omega) ?_
    have hx_1 := hx.ne (e := eA 0 96 (va_up A5 ((16 * i) + j) 0)) (a := x + 5) (by omega)
    have c5_1 := c5.self (e := eA 0 96 (va_up A5 ((16 * i) + j) 0))
    refine g_iinc (pc := 157) (x := xj) (lo2 := [(0, vR x), (1, vI k), (2, vI mm), (3, vI ss), (4, vI (i : Int)), (5, vI (xj + 1))]) dX11_mill_157 rfl (by decide) rfl ?_
    refine g_goto (pc := 160) (tgt := 136) dX11_mill_160 (by decide) ?_
    refine ih (j + 1) _ _ _ (by omega) (by omega) c5_1 (fun a ha => ?_) (fun a ha => ?_) (fun a z5 => (va_up_ne _ _ z5).trans (kh a z5))
    · by_cases e : a = j
      · rw [e, va_up_self]
      · rw [va_up_ne _ _ (by omega), z5 a (by omega)]
    · rw [va_up_ne _ _ (by omega), o5 a (by omega)]

theorem mml_c {N x i Ls : Nat} {sx Mo Pl : Nat → Int} {k mm ss th wd pm fm mu um pr ts : Int} {h0 : MH} {Q : Option MV → MR → MH → Prop} (hi : i < 6) (hx0 : Hd (0, 0, N) h0 x (mdl x th wd pm fm mu um pr ts)) (hK : ∀ (xj : Int) (A6 A7 : Nat → Int) (h : MH), Hd (0, 0, N) h (x + 6) (eA 0 24 A6) → (∀ a, a < 4 → A6 (4 * i + a) = 0) → (∀ a, (a < 4 * i ∨ 4 * i + 4 ≤ a) → A6 a = Mo a) → Hd (0, 0, N) h (x + 7) (eA 0 24 A7) → (∀ a, a < 4 → A7 (4 * i + a) = 0) → (∀ a, (a < 4 * i ∨ 4 * i + 4 ≤ a) → A7 a = Pl a) → (∀ a, a ≠ x + 6 → a ≠ x + 7 → h a = h0 a) → G mX11_mill (10, 0, 0, Ls, sx) 204 [(0, vR x), (1, vI k), (2, vI mm), (3, vI ss), (4, vI (i : Int)), (5, vI xj)] [] (0, 0, N) h Q) : ∀ (f j : Nat) (xj : Int) (A6 A7 : Nat → Int) (h : MH), j + f = 4 → xj = (j : Int) → Hd (0, 0, N) h (x + 6) (eA 0 24 A6) → (∀ a, a < j → A6 (4 * i + a) = 0) → (∀ a, (a < 4 * i ∨ 4 * i + j ≤ a) → A6 a = Mo a) → Hd (0, 0, N) h (x + 7) (eA 0 24 A7) → (∀ a, a < j → A7 (4 * i + a) = 0) → (∀ a, (a < 4 * i ∨ 4 * i + j ≤ a) → A7 a = Pl a) → (∀ a, a ≠ x + 6 → a ≠ x + 7 → h a = h0 a) → G mX11_mill (10, 0, 0, Ls, sx) 166 [(0, vR x), (1, vI k), (2, vI mm), (3, vI ss), (4, vI (i : Int)), (5, vI xj)] [] (0, 0, N) h Q := by
  intro f
  induction f with
  | zero =>
    intro j xj A6 A7 h hf ej c6 z6 o6 c7 z7 o7 kh
    have e9 : j = 4 := by omega
    subst e9
    refine g_iload (pc := 166) (x := xj) dX11_mill_166 rfl ?_
    refine g_iconst (pc := 168) dX11_mill_168 ?_
    refine g_icmp_geT (pc := 169) (tgt := 204) dX11_mill_169 (by decide) (by omega) (by omega) (by omega) ?_
    exact hK _ A6 A7 h c6 z6 o6 c7 z7 o7 kh
  | succ f ih =>
    intro j xj A6 A7 h hf ej c6 z6 o6 c7 z7 o7 kh
    have hx := hx0.keep (kh x (by omega) (by omega))
    refine g_iload (pc := 166) (x := xj) dX11_mill_166 rfl ?_
    refine g_iconst (pc := 168) dX11_mill_168 ?_
    refine g_icmp_geF (pc := 169) (tgt := 204) dX11_mill_169 (by decide) (by omega) (by omega) (by omega) ?_
    refine g_aload_n (pc := 172) (r := .inl (some x)) dX11_mill_172 rfl ?_
    refine g_getf (pc := 173) (v := vR (x + 6)) flX11_26 dX11_mill_173 hx rfl ?_
    refine g_iconst (pc := 176) dX11_mill_176 ?_
    refine g_iload (pc := 177) (x := (i : Int)) dX11_mill_177 rfl ?_
    refine g_imul (pc := 179) dX11_mill_179 ?_
    refine g_iload (pc := 180) (x := xj) dX11_mill_180 rfl ?_
    refine g_iadd (pc := 182) dX11_mill_182 ?_
    refine g_iconst (pc := 183) dX11_mill_183 ?_
    refine g_iastN (pc := 184) (j := (4 * i) + j) dX11_mill_184 c6 (by omega) (by omega) (by omega) ?_
    have hx_1 := hx.ne (e := eA 0 24 (va_up A6 ((4 * i) + j) 0)) (a := x + 6) (by omega)
    have c6_1 := c6.self (e := eA 0 24 (va_up A6 ((4 * i) + j) 0))
    have c7_1 := c7.ne (e := eA 0 24 (va_up A6 ((4 * i) + j) 0)) (a := x + 6) (by omega)
    refine g_aload_n (pc := 185) (r := .inl (some x)) dX11_mill_185 rfl ?_
    refine g_getf (pc := 186) (v := vR (x + 7)) flX11_29 dX11_mill_186 hx_1 rfl ?_
    refine g_iconst (pc := 189) dX11_mill_189 ?_
    refine g_iload (pc := 190) (x := (i : Int)) dX11_mill_190 rfl ?_
    refine g_imul (pc := 192) dX11_mill_192 ?_
    refine g_iload (pc := 193) (x := xj) dX11_mill_193 rfl ?_
    refine g_iadd (pc := 195) dX11_mill_195 ?_
    refine g_iconst (pc := 196) dX11_mill_196 ?_
    refine g_iastN (pc := 197) (j := (4 * i) + j) dX11_mill_197 c7_1 (by omega) (by omega) (by omega) ?_
    have hx_2 := hx_1.ne (e := eA 0 24 (va_up A7 ((4 * i) + j) 0)) (a := x + 7) (by omega)
    have c6_2 := c6_1.ne (e := eA 0 24 (va_up A7 ((4 * i) + j) 0)) (a := x + 7) (by omega)
    have c7_2 := c7_1.self (e := eA 0 24 (va_up A7 ((4 * i) + j) 0))
    refine g_iinc (pc := 198) (x := xj) (lo2 := [(0, vR x), (1, vI k), (2, vI mm), (3, vI ss), (4, vI (i : Int)), (5, vI (xj + 1))]) dX11_mill_198 rfl (by decide) rfl ?_
    refine g_goto (pc := 201) (tgt := 166) dX11_mill_201 (by decide) ?_
    refine ih (j + 1) _ _ _ _ (by omega) (by omega) c6_2 (fun a ha => ?_) (fun a ha => ?_) c7_2 (fun a ha => ?_) (fun a ha => ?_) (fun a z6 z7 => (va_up_ne _ _ z7).trans ((va_up_ne _ _ z6).trans (kh a z6 z7)))
    · by_cases e : a = j
      · rw [e, va_up_self]
      · rw [va_up_ne _ _ (by omega), z6 a (by omega)]
    · rw [va_up_ne _ _ (by omega), o6 a (by omega)]
    · by_cases e : a = j
      · rw [e, va_up_self]
      · rw [va_up_ne _ _ (by omega), z7 a (by omega)]
    · rw [va_up_ne _ _ (by omega), o7 a (by omega)]

theorem mml_d {N x i Ls : Nat} {sx Pi : Nat → Int} {k mm ss th wd pm fm mu um pr ts : Int} {h0 : MH} {Q : Option MV → MR → MH → Prop} (hi : i < 6) (hx0 : Hd (0, 0, N) h0 x (mdl x th wd pm fm mu um pr ts)) (hK : ∀ (xj : Int) (A8 : Nat → Int) (h : MH), Hd (0, 0, N) h (x + 8) (eA 1 24576 A8) → (∀ a, a < 4096 → A8 (4096 * i + a) = 0) → (∀ a, (a < 4096 * i ∨ 4096 * i + 4096 ≤ a) → A8 a = Pi a) → (∀ a, a ≠ x + 8 → h a = h0 a) → G mX11_mill (10, 0, 0, Ls, sx) 236 [(0, vR x), (1, vI k), (2, vI mm), (3, vI ss), (4, vI (i : Int)), (5, vI xj)] [] (0, 0, N) h Q) : ∀ (f j : Nat) (xj : Int) (A8 : Nat → Int) (h : MH), j + f = 4096 → xj = (j : Int) → Hd (0, 0, N) h (x + 8) (eA 1 24576 A8) → (∀ a, a < j → A8 (4096 * i + a) = 0) → (∀ a, (a < 4096 * i ∨ 4096 * i + j ≤ a) → A8 a = Pi a) → (∀ a, a ≠ x + 8 → h a = h0 a) → G mX11_mill (10, 0, 0, Ls, sx) 207 [(0, vR x), (1, vI k), (2, vI mm), (3, vI ss), (4, vI (i : Int)), (5, vI xj)] [] (0, 0, N) h Q := by
  intro f
  induction f with
  | zero =>
    intro j xj A8 h hf ej c8 z8 o8 kh
    have e9 : j = 4096 := by omega
    subst e9
    refine g_iload (pc := 207) (x := xj) dX11_mill_207 rfl ?_
    refine g_sipush (pc := 209) dX11_mill_209 (by decide +kernel) ?_
    refine g_icmp_geT (pc := 212) (tgt := 236) dX11_mill_212 (by decide) (by omega) (by omega) (by omega) ?_
    exact hK _ A8 h c8 z8 o8 kh
  | succ f ih =>
    intro j xj A8 h hf ej c8 z8 o8 kh
    have hx := hx0.keep (kh x (by omega))
    refine g_iload (pc := 207) (x := xj) dX11_mill_207 rfl ?_
    refine g_sipush (pc := 209) dX11_mill_209 (by decide +kernel) ?_
    refine g_icmp_geF (pc := 212) (tgt := 236) dX11_mill_212 (by decide) (by omega) (by omega) (by omega) ?_
    refine g_aload_n (pc := 215) (r := .inl (some x)) dX11_mill_215 rfl ?_
    refine g_getf (pc := 216) (v := vR (x + 8)) flX11_32 dX11_mill_216 hx rfl ?_
    refine g_sipush (pc := 219) dX11_mill_219 (by decide +kernel) ?_
    refine g_iload (pc := 222) (x := (i : Int)) dX11_mill_222 rfl ?_
    refine g_imul (pc := 224) dX11_mill_224 ?_
    refine g_iload (pc := 225) (x := xj) dX11_mill_225 rfl ?_
    refine g_iadd (pc := 227) dX11_mill_227 ?_
    refine g_iconst (pc := 228) dX11_mill_228 ?_
    refine g_bastN (pc := 229) (j := (4096 * i) + j) dX11_mill_229 c8 (by omega) (by omega) (by omega) ?_
    have hx_1 := hx.ne (e := eA 1 24576 (va_up A8 ((4096 * i) + j) ((Int32.ofInt 0).toInt8.toInt32.toInt))) (a := x + 8) (by omega)
    have c8_1 := c8.self (e := eA 1 24576 (va_up A8 ((4096 * i) + j) ((Int32.ofInt 0).toInt8.toInt32.toInt)))
    refine g_iinc (pc := 230) (x := xj) (lo2 := [(0, vR x), (1, vI k), (2, vI mm), (3, vI ss), (4, vI (i : Int)), (5, vI (xj + 1))]) dX11_mill_230 rfl (by decide) rfl ?_
    refine g_goto (pc := 233) (tgt := 207) dX11_mill_233 (by decide) ?_
    refine ih (j + 1) _ _ _ (by omega) (by omega) c8_1 (fun a ha => ?_) (fun a ha => ?_) (fun a z8 => (va_up_ne _ _ z8).trans (kh a z8))
    · by_cases e : a = j
      · rw [e, va_up_self]
        rfl
      · rw [va_up_ne _ _ (by omega), z8 a (by omega)]
    · rw [va_up_ne _ _ (by omega), o8 a (by omega)]

theorem mml_e {N x i n Ls : Nat} {sx Tb : Nat → Int} {k mm th wd pm fm mu um pr ts : Int} {h0 : MH} {Q : Option MV → MR → MH → Prop} (hi : i < 6) (n1 : 1 ≤ n) (hn : n ≤ 4) (hk : i32 k) (hx0 : Hd (0, 0, N) h0 x (mdl x th wd pm fm mu um pr ts)) (hK : ∀ (xj : Int) (A5 : Nat → Int) (h : MH), Hd (0, 0, N) h (x + 5) (eA 0 96 A5) → (∀ r c, r < 4 → c < 4 → A5 (16 * i + 4 * r + c) = if k = 2 ∧ c = r + 1 ∧ r + 1 < n then 1 else 0) → (∀ a, (a < 16 * i ∨ 16 * i + 16 ≤ a) → A5 a = Tb a) → (∀ a, a ≠ x + 5 → h a = h0 a) → G mX11_mill (10, 0, 0, Ls, sx) 279 [(0, vR x), (1, vI k), (2, vI mm), (3, vI (n : Int)), (4, vI (i : Int)), (5, vI xj)] [] (0, 0, N) h Q) : ∀ (f j : Nat) (xj : Int) (A5 : Nat → Int) (h : MH), j + f + 1 = n → xj = (j : Int) → (k = 2 ∨ j = 0) → Hd (0, 0, N) h (x + 5) (eA 0 96 A5) → (∀ r c, r < 4 → c < 4 → A5 (16 * i + 4 * r + c) = if k = 2 ∧ c = r + 1 ∧ r < j then 1 else 0) → (∀ a, (a < 16 * i ∨ 16 * i + 16 ≤ a) → A5 a = Tb a) → (∀ a, a ≠ x + 5 → h a = h0 a) → G mX11_mill (10, 0, 0, Ls, sx) 239 [(0, vR x), (1, vI k), (2, vI mm), (3, vI (n : Int)), (4, vI (i : Int)), (5, vI xj)] [] (0, 0, N) h Q := by
  intro f
  induction f with
  | zero =>
    intro j xj A5 h hf ej hkj c5 z5 o5 kh
    refine g_iload (pc := 239) (x := xj) dX11_mill_239 rfl ?_
    refine g_iconst (pc := 241) dX11_mill_241 ?_
    refine g_iadd (pc := 242) dX11_mill_242 ?_
    refine g_iload_n (pc := 243) (x := (n : Int)) dX11_mill_243 rfl ?_
    refine g_icmp_geT (pc := 244) (tgt := 279) dX11_mill_244 (by decide) (by omega) (by omega) (by omega) ?_
    exact hK _ A5 h c5 (fun r c z1 z2 => by rw [z5 r c z1 z2]; simp only [show (r < j) = (r + 1 < n) from propext ⟨fun z => by omega, fun z => by omega⟩]) o5 kh
  | succ f ih =>
    intro j xj A5 h hf ej hkj c5 z5 o5 kh
    have hx := hx0.keep (kh x (by omega))
    refine g_iload (pc := 239) (x := xj) dX11_mill_239 rfl ?_
    refine g_iconst (pc := 241) dX11_mill_241 ?_
    refine g_iadd (pc := 242) dX11_mill_242 ?_
    refine g_iload_n (pc := 243) (x := (n : Int)) dX11_mill_243 rfl ?_
    refine g_icmp_geF (pc := 244) (tgt := 279) dX11_mill_244 (by decide) (by omega) (by omega) (by omega) ?_
    refine g_iload_n (pc := 247) (x := k) dX11_mill_247 rfl ?_
    refine g_iconst (pc := 248) dX11_mill_248 ?_
    refine g_icmp_ne (pc := 249) (tgt := 279) dX11_mill_249 (by decide) (by omega) (by omega) (fun k0 => ?_) (fun k0 => ?_)
    · exact hK _ A5 h c5 (fun r c z1 z2 => by rw [z5 r c z1 z2, if_neg (fun z => k0 z.1), if_neg (fun z => k0 z.1)]) o5 kh
    · refine g_aload_n (pc := 252) (r := .inl (some x)) dX11_mill_252 rfl ?_
      refine g_getf (pc := 253) (v := vR (x + 5)) flX11_23 dX11_mill_253 hx rfl ?_
      refine g_bipush (pc := 256) dX11_mill_256 (by decide +kernel) ?_
      refine g_iload (pc := 258) (x := (i : Int)) dX11_mill_258 rfl ?_
      refine g_imul (pc := 260) dX11_mill_260 ?_
      refine g_iconst (pc := 261) dX11_mill_261 ?_
      refine g_iload (pc := 262) (x := xj) dX11_mill_262 rfl ?_
      refine g_imul (pc := 264) dX11_mill_264 ?_
      refine g_iadd (pc := 265) dX11_mill_265 ?_
      refine g_iload (pc := 266) (x := xj) dX11_mill_266 rfl ?_
      refine g_iadd (pc := 268) dX11_mill_268 ?_
      refine g_iconst (pc := 269) dX11_mill_269 ?_
      refine g_iadd (pc := 270) dX11_mill_270 ?_
      refine g_iconst (pc := 271) dX11_mill_271 ?_
      refine g_iastN (pc := 272) (j := 16 * i + 4 * j + (j + 1)) dX11_mill_272 c5 (by omega) (by omega) (by omega) ?_
      have hx_1 := hx.ne (e := eA 0 96 (va_up A5 (16 * i + 4 * j + (j + 1)) 1)) (a := x + 5) (by omega)
      have c5_1 := c5.self (e := eA 0 96 (va_up A5 (16 * i + 4 * j + (j + 1)) 1))
      refine g_iinc (pc := 273) (x := xj) (lo2 := [(0, vR x), (1, vI k), (2, vI mm), (3, vI (n : Int)), (4, vI (i : Int)), (5, vI (xj + 1))]) dX11_mill_273 rfl (by decide) rfl ?_
      refine g_goto (pc := 276) (tgt := 239) dX11_mill_276 (by decide) ?_
      refine ih (j + 1) _ _ _ (by omega) (by omega) (Or.inl (by omega)) c5_1 (fun r c z1 z2 => ?_) (fun a ha => ?_) (fun a z => (va_up_ne _ _ z).trans (kh a z))
      · by_cases e : 16 * i + 4 * r + c = 16 * i + 4 * j + (j + 1)
        · rw [e, va_up_self, if_pos (by omega)]
        · rw [va_up_ne _ _ e, z5 r c z1 z2]
          by_cases e2 : k = 2 ∧ c = r + 1 ∧ r < j
          · rw [if_pos e2, if_pos (by omega)]
          · rw [if_neg e2, if_neg (by omega)]
      · rw [va_up_ne _ _ (by omega), o5 a ha]

theorem mml_z {N x n Ls : Nat} {sx : Nat → Int} {k mm wd pm fm mu um pr ts : Int} {σ : Nat → Option MSt} {Th Kd Ms Sz Tb Mo Pl Pi : Nat → Int} {h g : MH} (hok : okMill k mm (n : Int)) (hss : i32 (n : Int)) (hk : i32 k) (hmm : i32 mm) (rs : RMs N g x σ pr ts) (hx : Hd (0, 0, N) g x (mdl x 0 wd pm fm mu um pr ts)) (sc : SC3 N g x) (ra : RA N g x σ Th Kd Ms Sz Tb Mo Pl Pi) (kg : ∀ a, a ≠ x → g a = h a) : G mX11_mill (10, 0, 0, Ls, sx) 66 [(0, vR x), (1, vI k), (2, vI mm), (3, vI (n : Int))] [] (0, 0, N) g (Pq mX11_mill 0 0 (fun r9 h2 => ((¬ okMill k mm (n : Int) ∧ r9 = some (vI (-1)) ∧ rP N h h2 x σ pr ts) ∨ (okMill k mm (n : Int) ∧ (((∀ i, i < 6 → σ i ≠ none) ∧ r9 = some (vI (-1)) ∧ rP N h h2 x σ pr ts) ∨ ∃ i, i < 6 ∧ σ i = none ∧ (∀ j, j < i → σ j ≠ none) ∧ r9 = some (vI (i : Int)) ∧ ∀ (kd M n9 : Nat) (T Y : Nat → Int), k = (kd : Int) → mm = (M : Int) → (n : Int) = (n9 : Int) → iniT kd n9 T → (∀ r, r < n9 → Y r = 0) → okS kd M n9 T Y (fun _ _ => 0) → rP N h h2 x (va_up σ i (some (kd, M, n9, T, Y, fun _ _ => 0))) pr ts))))) := by
  obtain ⟨⟨q1, q2⟩, ⟨q3, q4⟩, ⟨q5, q6⟩, q7, q8⟩ := id hok
  obtain ⟨a1, a2, a3, a4, a5, a6, a7, a8, ⟨rT, rM, rP9⟩, mi⟩ := id ra
  refine g_iconst (pc := 66) dX11_mill_66 ?_
  refine g_istore (pc := 67) (lo2 := [(0, vR x), (1, vI k), (2, vI mm), (3, vI (n : Int)), (4, vI 0)]) dX11_mill_67 (by decide) rfl ?_
  refine mml_a hx ra (fun i hi6 hno hfr => ?_) 6 0 0 (by omega) rfl (fun j hj => by omega)
  refine g_iload (pc := 92) (x := (i : Int)) dX11_mill_92 rfl ?_
  refine g_bipush (pc := 94) dX11_mill_94 (by decide +kernel) ?_
  refine g_icmp_ne (pc := 96) (tgt := 101) dX11_mill_96 (by decide) (by omega) (by omega) (fun k0 => ?_) (fun k0 => ?_)
  · have hi : i < 6 := by omega
    have hs0 := hfr hi
    refine g_aload_n (pc := 101) (r := .inl (some x)) dX11_mill_101 rfl ?_
    refine g_getf (pc := 102) (v := vR (x + 1)) flX11_7 dX11_mill_102 hx rfl ?_
    refine g_iload (pc := 105) (x := (i : Int)) dX11_mill_105 rfl ?_
    refine g_iconst (pc := 107) dX11_mill_107 ?_
    refine g_zastN (pc := 108) (j := i) dX11_mill_108 a1 (by omega) (by omega) (by omega) (by omega) ?_
    have hx_1 := hx.ne (e := eA 2 6 (va_up Th i 1)) (a := x + 1) (by omega)
    have a1_1 := a1.self (e := eA 2 6 (va_up Th i 1))
    have a2_1 := a2.ne (e := eA 2 6 (va_up Th i 1)) (a := x + 1) (by omega)
    have a3_1 := a3.ne (e := eA 2 6 (va_up Th i 1)) (a := x + 1) (by omega)
    have a4_1 := a4.ne (e := eA 2 6 (va_up Th i 1)) (a := x + 1) (by omega)
    have a5_1 := a5.ne (e := eA 2 6 (va_up Th i 1)) (a := x + 1) (by omega)
    have a6_1 := a6.ne (e := eA 2 6 (va_up Th i 1)) (a := x + 1) (by omega)
    have a7_1 := a7.ne (e := eA 2 6 (va_up Th i 1)) (a := x + 1) (by omega)
    have a8_1 := a8.ne (e := eA 2 6 (va_up Th i 1)) (a := x + 1) (by omega)
    refine g_aload_n (pc := 109) (r := .inl (some x)) dX11_mill_109 rfl ?_
    refine g_getf (pc := 110) (v := vR (x + 2)) flX11_13 dX11_mill_110 hx_1 rfl ?_
    refine g_iload (pc := 113) (x := (i : Int)) dX11_mill_113 rfl ?_
    refine g_iload_n (pc := 115) (x := k) dX11_mill_115 rfl ?_
    refine g_iastN (pc := 116) (j := i) dX11_mill_116 a2_1 (by omega) (by omega) (by omega) ?_
    have hx_2 := hx_1.ne (e := eA 0 6 (va_up Kd i k)) (a := x + 2) (by omega)
    have a1_2 := a1_1.ne (e := eA 0 6 (va_up Kd i k)) (a := x + 2) (by omega)
    have a2_2 := a2_1.self (e := eA 0 6 (va_up Kd i k))
    have a3_2 := a3_1.ne (e := eA 0 6 (va_up Kd i k)) (a := x + 2) (by omega)
    have a4_2 := a4_1.ne (e := eA 0 6 (va_up Kd i k)) (a := x + 2) (by omega)
    have a5_2 := a5_1.ne (e := eA 0 6 (va_up Kd i k)) (a := x + 2) (by omega)
    have a6_2 := a6_1.ne (e := eA 0 6 (va_up Kd i k)) (a := x + 2) (by omega)
    have a7_2 := a7_1.ne (e := eA 0 6 (va_up Kd i k)) (a := x + 2) (by omega)
    have a8_2 := a8_1.ne (e := eA 0 6 (va_up Kd i k)) (a := x + 2) (by omega)
    refine g_aload_n (pc := 117) (r := .inl (some x)) dX11_mill_117 rfl ?_
    refine g_getf (pc := 118) (v := vR (x + 3)) flX11_17 dX11_mill_118 hx_2 rfl ?_
    refine g_iload (pc := 121) (x := (i : Int)) dX11_mill_121 rfl ?_
    refine g_iload_n (pc := 123) (x := mm) dX11_mill_123 rfl ?_
    refine g_iastN (pc := 124) (j := i) dX11_mill_124 a3_2 (by omega) (by omega) (by omega) ?_
    have hx_3 := hx_2.ne (e := eA 0 6 (va_up Ms i mm)) (a := x + 3) (by omega)
    have a1_3 := a1_2.ne (e := eA 0 6 (va_up Ms i mm)) (a := x + 3) (by omega)
    have a2_3 := a2_2.ne (e := eA 0 6 (va_up Ms i mm)) (a := x + 3) (by omega)
    have a3_3 := a3_2.self (e := eA 0 6 (va_up Ms i mm))
    have a4_3 := a4_2.ne (e := eA 0 6 (va_up Ms i mm)) (a := x + 3) (by omega)
    have a5_3 := a5_2.ne (e := eA 0 6 (va_up Ms i mm)) (a := x + 3) (by omega)
    have a6_3 := a6_2.ne (e := eA 0 6 (va_up Ms i mm)) (a := x + 3) (by omega)
    have a7_3 := a7_2.ne (e := eA 0 6 (va_up Ms i mm)) (a := x + 3) (by omega)
    have a8_3 := a8_2.ne (e := eA 0 6 (va_up Ms i mm)) (a := x + 3) (by omega)
    refine g_aload_n (pc := 125) (r := .inl (some x)) dX11_mill_125 rfl ?_
    refine g_getf (pc := 126) (v := vR (x + 4)) flX11_20 dX11_mill_126 hx_3 rfl ?_
    refine g_iload (pc := 129) (x := (i : Int)) dX11_mill_129 rfl ?_
    refine g_iload_n (pc := 131) (x := (n : Int)) dX11_mill_131 rfl ?_
    refine g_iastN (pc := 132) (j := i) dX11_mill_132 a4_3 (by omega) (by omega) (by omega) ?_
    have hx_4 := hx_3.ne (e := eA 0 6 (va_up Sz i (n : Int))) (a := x + 4) (by omega)
    have a1_4 := a1_3.ne (e := eA 0 6 (va_up Sz i (n : Int))) (a := x + 4) (by omega)
    have a2_4 := a2_3.ne (e := eA 0 6 (va_up Sz i (n : Int))) (a := x + 4) (by omega)
    have a3_4 := a3_3.ne (e := eA 0 6 (va_up Sz i (n : Int))) (a := x + 4) (by omega)
    have a4_4 := a4_3.self (e := eA 0 6 (va_up Sz i (n : Int)))
    have a5_4 := a5_3.ne (e := eA 0 6 (va_up Sz i (n : Int))) (a := x + 4) (by omega)
    have a6_4 := a6_3.ne (e := eA 0 6 (va_up Sz i (n : Int))) (a := x + 4) (by omega)
    have a7_4 := a7_3.ne (e := eA 0 6 (va_up Sz i (n : Int))) (a := x + 4) (by omega)
    have a8_4 := a8_3.ne (e := eA 0 6 (va_up Sz i (n : Int))) (a := x + 4) (by omega)
    refine g_iconst (pc := 133) dX11_mill_133 ?_
    refine g_istore (pc := 134) (lo2 := [(0, vR x), (1, vI k), (2, vI mm), (3, vI (n : Int)), (4, vI (i : Int)), (5, vI 0)]) dX11_mill_134 (by decide) rfl ?_
    obtain ⟨g1, eg1⟩ : ∃ g1, g1 = va_up (va_up (va_up (va_up g (x + 1) (eA 2 6 (va_up Th i 1))) (x + 2) (eA 0 6 (va_up Kd i k))) (x + 3) (eA 0 6 (va_up Ms i mm))) (x + 4) (eA 0 6 (va_up Sz i (n : Int))) := ⟨_, rfl⟩
    rw [← eg1] at hx_4 a1_4 a2_4 a3_4 a4_4 a5_4 a6_4 a7_4 a8_4 ⊢
    have kg1 : ∀ a, a ≠ x + 1 → a ≠ x + 2 → a ≠ x + 3 → a ≠ x + 4 → g1 a = g a := fun a z1 z2 z3 z4 => by rw [eg1, va_up_ne _ _ z4, va_up_ne _ _ z3, va_up_ne _ _ z2, va_up_ne _ _ z1]
    clear eg1
    refine mml_b hi hx_4 (fun xj1 A5 g2 c5 z5 o5 kg2 => ?_) 16 0 0 Tb g1 (by omega) rfl a5_4 (fun a z => by omega) (fun a z => rfl) (fun a z => rfl)
    refine g_iconst (pc := 163) dX11_mill_163 ?_
    refine g_istore (pc := 164) (lo2 := [(0, vR x), (1, vI k), (2, vI mm), (3, vI (n : Int)), (4, vI (i : Int)), (5, vI 0)]) dX11_mill_164 (by decide) rfl ?_
    have hx2 := hx_4.keep (kg2 x (by omega))
    refine mml_c hi hx2 (fun xj2 A6 A7 g3 c6 z6 o6 c7 z7 o7 kg3 => ?_) 4 0 0 Mo Pl g2 (by omega) rfl (a6_4.keep (kg2 _ (by omega))) (fun a z => by omega) (fun a z => rfl) (a7_4.keep (kg2 _ (by omega))) (fun a z => by omega) (fun a z => rfl) (fun a z1 z2 => rfl)
    refine g_iconst (pc := 204) dX11_mill_204 ?_
    refine g_istore (pc := 205) (lo2 := [(0, vR x), (1, vI k), (2, vI mm), (3, vI (n : Int)), (4, vI (i : Int)), (5, vI 0)]) dX11_mill_205 (by decide) rfl ?_
    have hx3 := hx2.keep (kg3 x (by omega) (by omega))
    refine mml_d hi hx3 (fun xj3 A8 g4 c8 z8 o8 kg4 => ?_) 4096 0 0 Pi g3 (by omega) rfl ((a8_4.keep (kg2 _ (by omega))).keep (kg3 _ (by omega) (by omega))) (fun a z => by omega) (fun a z => rfl) (fun a z => rfl)
    refine g_iconst (pc := 236) dX11_mill_236 ?_
    refine g_istore (pc := 237) (lo2 := [(0, vR x), (1, vI k), (2, vI mm), (3, vI (n : Int)), (4, vI (i : Int)), (5, vI 0)]) dX11_mill_237 (by decide) rfl ?_
    have hx4 := hx3.keep (kg4 x (by omega))
    refine mml_e hi (by omega) (by omega) hk hx4 (fun xj4 B5 g5 d5 y5 p5 kg5 => ?_) (n - 1) 0 0 A5 g4 (by omega) rfl (Or.inr rfl) ((c5.keep (kg3 _ (by omega) (by omega))).keep (kg4 _ (by omega))) (fun r c z1 z2 => by rw [if_neg (by omega), Nat.add_assoc]; exact z5 (4 * r + c) (by omega)) (fun a z => o5 a z) (fun a z => rfl)
    refine g_iload (pc := 279) (x := (i : Int)) dX11_mill_279 rfl ?_
    have hx5 := hx4.keep (kg5 x (by omega))
    have kk : ∀ a, (a < x + 1 ∨ x + 8 < a) → g5 a = g a := fun a z => (kg5 a (by omega)).trans ((kg4 a (by omega)).trans ((kg3 a (by omega) (by omega)).trans ((kg2 a (by omega)).trans (kg1 a (by omega) (by omega) (by omega) (by omega)))))
    have k14 : ∀ a, a ≤ x + 4 → g5 a = g1 a := fun a z => (kg5 a (by omega)).trans ((kg4 a (by omega)).trans ((kg3 a (by omega) (by omega)).trans (kg2 a (by omega))))
    have rB5 : rng B5 := fun a => by
      by_cases e : a < 16 * i ∨ 16 * i + 16 ≤ a
      · rw [p5 a e]
        exact rT a
      · have e1 := y5 ((a - 16 * i) / 4) ((a - 16 * i) % 4) (by omega) (by omega)
        rw [show 16 * i + 4 * ((a - 16 * i) / 4) + (a - 16 * i) % 4 = a by omega] at e1
        rw [e1]
        split <;> omega
    have rB6 : rng A6 := fun a => by
      by_cases e : a < 4 * i ∨ 4 * i + 4 ≤ a
      · rw [o6 a e]
        exact rM a
      · have e1 := z6 (a - 4 * i) (by omega)
        rw [show 4 * i + (a - 4 * i) = a by omega] at e1
        omega
    have rB7 : rng A7 := fun a => by
      by_cases e : a < 4 * i ∨ 4 * i + 4 ≤ a
      · rw [o7 a e]
        exact rP9 a
      · have e1 := z7 (a - 4 * i) (by omega)
        rw [show 4 * i + (a - 4 * i) = a by omega] at e1
        omega
    refine r_int (pc := 281) dX11_mill_281 rfl rfl (Nat.le_refl _) (Or.inr ⟨hok, Or.inr ⟨i, hi, hs0, hno, rfl, ?_⟩⟩)
    intro kd M n2 T Y e1 e2 e3 hT hY ok
    have en2 : n2 = n := by omega
    subst en2
    refine ⟨RMs.of (Th := va_up Th i 1) (Kd := va_up Kd i k) (Ms := va_up Ms i mm) (Sz := va_up Sz i (n2 : Int)) (Tb := B5) (Mo := A6) (Pl := A7) (Pi := A8) ⟨_, _, _, _, _, _, hx5⟩ (sc.keep (fun a z1 z2 => kk a (by omega))) ⟨a1_4.keep (k14 _ (by omega)), a2_4.keep (k14 _ (by omega)), a3_4.keep (k14 _ (by omega)), a4_4.keep (k14 _ (by omega)), d5, (c6.keep (kg4 _ (by omega))).keep (kg5 _ (by omega)), (c7.keep (kg4 _ (by omega))).keep (kg5 _ (by omega)), c8.keep (kg5 _ (by omega)), ⟨rB5, rB6, rB7⟩, fun j hj => ?_⟩, fun a z => (kk a (by omega)).trans (kg a (by omega))⟩
    by_cases e : j = i
    · subst e
      rw [va_up_self]
      refine MI9.mk ⟨ok, va_up_self _ _ _, (va_up_self _ _ _).trans e1, (va_up_self _ _ _).trans e2, va_up_self _ _ _, fun r c hr hc => ?_, fun r hr => ?_, fun r hr => ?_, fun _ x2 y2 hx2 hy2 => ?_⟩
      · rw [y5 r c (by omega) (by omega), hT r c hr (Or.inl hc)]
        by_cases e9 : kd = 2 ∧ c = r + 1 ∧ c < n2
        · rw [if_pos e9, if_pos (by omega)]
        · rw [if_neg e9, if_neg (by omega)]
      · rw [z6 r (by omega), hT r 4 hr (Or.inr rfl), if_neg (by omega)]
      · rw [z7 r (by omega), hY r hr]
      · have := ok.2.2.2.2.2.2.1 ‹_›
        rw [Nat.add_assoc, z8 (64 * y2 + x2) (by omega)]
        rfl
    · rw [va_up_ne _ _ e]
      exact (mi j hj).keep (va_up_ne _ _ e) (va_up_ne _ _ e) (va_up_ne _ _ e) (va_up_ne _ _ e) (fun q z1 z2 => p5 q (by omega)) (fun q z1 z2 => o6 q (by omega)) (fun q z1 z2 => o7 q (by omega)) (fun q z1 z2 => o8 q (by omega))
  · refine g_iconst (pc := 99) dX11_mill_99 ?_
    exact r_int (pc := 100) dX11_mill_100 rfl rfl (Nat.le_refl _) (Or.inr ⟨hok, Or.inl ⟨fun j hj => hno j (by omega), rfl, rs, fun a z => kg a (by omega)⟩⟩)

theorem r_mill {N x : Nat} {pr ts : Int} {k mm ss : Int} {σ : Nat → Option MSt} {h : MH} (hk : i32 k) (hmm : i32 mm) (hss : i32 ss) (rs0 : RMs N h x σ pr ts) : Ok mX11_mill 10 0 0 [vR x, vI k, vI mm, vI ss] N h (fun r9 h2 => ((¬ okMill k mm ss ∧ r9 = some (vI (-1)) ∧ rP N h h2 x σ pr ts) ∨ (okMill k mm ss ∧ (((∀ i, i < 6 → σ i ≠ none) ∧ r9 = some (vI (-1)) ∧ rP N h h2 x σ pr ts) ∨ ∃ i, i < 6 ∧ σ i = none ∧ (∀ j, j < i → σ j ≠ none) ∧ r9 = some (vI (i : Int)) ∧ ∀ (kd M n9 : Nat) (T Y : Nat → Int), k = (kd : Int) → mm = (M : Int) → ss = (n9 : Int) → iniT kd n9 T → (∀ r, r < n9 → Y r = 0) → okS kd M n9 T Y (fun _ _ => 0) → rP N h h2 x (va_up σ i (some (kd, M, n9, T, Y, fun _ _ => 0))) pr ts)))) := by
  refine Ok.of pfX11_mill rfl (Nat.le_of_ble_eq_true rfl) (fun Ls sx => ?_)
  show G mX11_mill (10, 0, 0, Ls, sx) 0 [(0, vR x), (1, vI k), (2, vI mm), (3, vI ss)] [] (0, 0, N) h _
  obtain ⟨⟨th, wd, pm, fm, mu, um, hx0⟩, sc0, Th, Kd, Ms, Sz, Tb, Mo, Pl, Pi, ra0⟩ := id rs0
  replace ra0 : RA N h x σ Th Kd Ms Sz Tb Mo Pl Pi := ra0
  refine g_aload_n (pc := 0) (r := .inl (some x)) dX11_mill_0 rfl ?_
  refine g_iconst (pc := 1) dX11_mill_1 ?_
  refine g_putf (pc := 2) fpX11_104 dX11_mill_2 hx0 (okv_int _) (Nat.le_of_ble_eq_true rfl) ?_
  have hx_1 := hx0.self (e := mdl x 0 wd pm fm mu um pr ts)
  show G mX11_mill _ 5 [(0, vR x), (1, vI k), (2, vI mm), (3, vI ss)] [] _ (va_up h x (mdl x 0 wd pm fm mu um pr ts)) _
  obtain ⟨g, eg0⟩ : ∃ g, g = va_up h x (mdl x 0 wd pm fm mu um pr ts) := ⟨_, rfl⟩
  rw [← eg0] at hx_1 ⊢
  have hx := hx_1
  have kg : ∀ a, a ≠ x → g a = h a := fun a z => by rw [eg0, va_up_ne _ _ z]
  have ra := ra0.keep (h2 := g) (fun a z1 z2 => kg a (by omega))
  have sc := sc0.keep (h2 := g) (fun a z1 z2 => kg a (by omega))
  have mo : MO N g x pr ts := ⟨_, _, _, _, _, _, hx⟩
  have rs : RMs N g x σ pr ts := RMs.of mo sc ra
  have rp : rP N h g x σ pr ts := ⟨rs, fun a z => kg a (by omega)⟩
  by_cases hok : okMill k mm ss
  · obtain ⟨⟨q1, q2⟩, ⟨q3, q4⟩, ⟨q5, q6⟩, q7, q8⟩ := id hok
    obtain ⟨a1, a2, a3, a4, a5, a6, a7, a8, ⟨rT, rM, rP9⟩, mi⟩ := id ra
    obtain ⟨n, en⟩ : ∃ n : Nat, ss = (n : Int) := ⟨ss.toNat, by omega⟩
    subst en
    refine g_iload_n (pc := 5) (x := k) dX11_mill_5 rfl ?_
    refine g_if_ltF (pc := 6) (tgt := 36) dX11_mill_6 (by decide) (by omega) (by omega) ?_
    refine g_iload_n (pc := 9) (x := k) dX11_mill_9 rfl ?_
    refine g_iconst (pc := 10) dX11_mill_10 ?_
    refine g_icmp_gtF (pc := 11) (tgt := 36) dX11_mill_11 (by decide) (by omega) (by omega) (by omega) ?_
    refine g_iload_n (pc := 14) (x := mm) dX11_mill_14 rfl ?_
    refine g_iconst (pc := 15) dX11_mill_15 ?_
    refine g_icmp_ltF (pc := 16) (tgt := 36) dX11_mill_16 (by decide) (by omega) (by omega) (by omega) ?_
    refine g_iload_n (pc := 19) (x := mm) dX11_mill_19 rfl ?_
    refine g_sipush (pc := 20) dX11_mill_20 (by decide +kernel) ?_
    refine g_icmp_gtF (pc := 23) (tgt := 36) dX11_mill_23 (by decide) (by omega) (by omega) (by omega) ?_
    refine g_iload_n (pc := 26) (x := (n : Int)) dX11_mill_26 rfl ?_
    refine g_iconst (pc := 27) dX11_mill_27 ?_
    refine g_icmp_ltF (pc := 28) (tgt := 36) dX11_mill_28 (by decide) (by omega) (by omega) (by omega) ?_
    refine g_iload_n (pc := 31) (x := (n : Int)) dX11_mill_31 rfl ?_
    refine g_iconst (pc := 32) dX11_mill_32 ?_
    refine g_icmp_leT (pc := 33) (tgt := 38) dX11_mill_33 (by decide) (by omega) (by omega) (by omega) ?_
    refine g_iload_n (pc := 38) (x := k) dX11_mill_38 rfl ?_
    refine g_iconst (pc := 39) dX11_mill_39 ?_
    refine g_icmp_ne (pc := 40) (tgt := 48) dX11_mill_40 (by decide) (by omega) (by omega) (fun q40 => ?_) (fun q40 => ?_)
    · refine g_iload_n (pc := 48) (x := k) dX11_mill_48 rfl ?_
      refine g_iconst (pc := 49) dX11_mill_49 ?_
      refine g_icmp_ne (pc := 50) (tgt := 66) dX11_mill_50 (by decide) (by omega) (by omega) (fun q50 => ?_) (fun q50 => ?_)
      · exact mml_z hok hss hk hmm rs hx sc ra kg
      · refine g_iload_n (pc := 53) (x := (n : Int)) dX11_mill_53 rfl ?_
        refine g_iconst (pc := 54) dX11_mill_54 ?_
        refine g_icmp_ne (pc := 55) (tgt := 64) dX11_mill_55 (by decide) (by omega) (by omega) (fun q55 => ?_) (fun q55 => ?_)
        · refine g_iconst (pc := 64) dX11_mill_64 ?_
          exact absurd hok (by unfold okMill; omega)
        · refine g_iload_n (pc := 58) (x := mm) dX11_mill_58 rfl ?_
          refine g_bipush (pc := 59) dX11_mill_59 (by decide +kernel) ?_
          refine g_icmp_le (pc := 61) (tgt := 66) dX11_mill_61 (by decide) (by omega) (by omega) (fun q61 => ?_) (fun q61 => ?_)
          · exact mml_z hok hss hk hmm rs hx sc ra kg
          · refine g_iconst (pc := 64) dX11_mill_64 ?_
            exact absurd hok (by unfold okMill; omega)
    · refine g_iload_n (pc := 43) (x := (n : Int)) dX11_mill_43 rfl ?_
      refine g_iconst (pc := 44) dX11_mill_44 ?_
      refine g_icmp_ne (pc := 45) (tgt := 64) dX11_mill_45 (by decide) (by omega) (by omega) (fun q45 => ?_) (fun q45 => ?_)
      · refine g_iconst (pc := 64) dX11_mill_64 ?_
        exact absurd hok (by unfold okMill; omega)
      · refine g_iload_n (pc := 48) (x := k) dX11_mill_48 rfl ?_
        refine g_iconst (pc := 49) dX11_mill_49 ?_
        refine g_icmp_ne (pc := 50) (tgt := 66) dX11_mill_50 (by decide) (by omega) (by omega) (fun q50 => ?_) (fun q50 => ?_)
        · exact mml_z hok hss hk hmm rs hx sc ra kg
        · refine g_iload_n (pc := 53) (x := (n : Int)) dX11_mill_53 rfl ?_
          refine g_iconst (pc := 54) dX11_mill_54 ?_
          refine g_icmp_ne (pc := 55) (tgt := 64) dX11_mill_55 (by decide) (by omega) (by omega) (fun q55 => ?_) (fun q55 => ?_)
          · refine g_iconst (pc := 64) dX11_mill_64 ?_
            exact absurd hok (by unfold okMill; omega)
          · refine g_iload_n (pc := 58) (x := mm) dX11_mill_58 rfl ?_
            refine g_bipush (pc := 59) dX11_mill_59 (by decide +kernel) ?_
            refine g_icmp_le (pc := 61) (tgt := 66) dX11_mill_61 (by decide) (by omega) (by omega) (fun q61 => ?_) (fun q61 => ?_)
            · exact mml_z hok hss hk hmm rs hx sc ra kg
            · refine g_iconst (pc := 64) dX11_mill_64 ?_
              exact absurd hok (by unfold okMill; omega)
  · have hno := hok
    unfold okMill at hok
    refine g_iload_n (pc := 5) (x := k) dX11_mill_5 rfl ?_
    refine g_if_lt (pc := 6) (tgt := 36) dX11_mill_6 (by decide) (by omega) (fun q6 => ?_) (fun q6 => ?_)
    · refine g_iconst (pc := 36) dX11_mill_36 ?_
      exact r_int (pc := 37) dX11_mill_37 rfl rfl (Nat.le_refl _) (Or.inl ⟨hno, rfl, rp⟩)
    · refine g_iload_n (pc := 9) (x := k) dX11_mill_9 rfl ?_
      refine g_iconst (pc := 10) dX11_mill_10 ?_
      refine g_icmp_gt (pc := 11) (tgt := 36) dX11_mill_11 (by decide) (by omega) (by omega) (fun q11 => ?_) (fun q11 => ?_)
      · refine g_iconst (pc := 36) dX11_mill_36 ?_
        exact r_int (pc := 37) dX11_mill_37 rfl rfl (Nat.le_refl _) (Or.inl ⟨hno, rfl, rp⟩)
      · refine g_iload_n (pc := 14) (x := mm) dX11_mill_14 rfl ?_
        refine g_iconst (pc := 15) dX11_mill_15 ?_
        refine g_icmp_lt (pc := 16) (tgt := 36) dX11_mill_16 (by decide) (by omega) (by omega) (fun q16 => ?_) (fun q16 => ?_)
        · refine g_iconst (pc := 36) dX11_mill_36 ?_
          exact r_int (pc := 37) dX11_mill_37 rfl rfl (Nat.le_refl _) (Or.inl ⟨hno, rfl, rp⟩)
        · refine g_iload_n (pc := 19) (x := mm) dX11_mill_19 rfl ?_
          refine g_sipush (pc := 20) dX11_mill_20 (by decide +kernel) ?_
          refine g_icmp_gt (pc := 23) (tgt := 36) dX11_mill_23 (by decide) (by omega) (by omega) (fun q23 => ?_) (fun q23 => ?_)
          · refine g_iconst (pc := 36) dX11_mill_36 ?_
            exact r_int (pc := 37) dX11_mill_37 rfl rfl (Nat.le_refl _) (Or.inl ⟨hno, rfl, rp⟩)
          · refine g_iload_n (pc := 26) (x := ss) dX11_mill_26 rfl ?_
            refine g_iconst (pc := 27) dX11_mill_27 ?_
            refine g_icmp_lt (pc := 28) (tgt := 36) dX11_mill_28 (by decide) (by omega) (by omega) (fun q28 => ?_) (fun q28 => ?_)
            · refine g_iconst (pc := 36) dX11_mill_36 ?_
              exact r_int (pc := 37) dX11_mill_37 rfl rfl (Nat.le_refl _) (Or.inl ⟨hno, rfl, rp⟩)
            · refine g_iload_n (pc := 31) (x := ss) dX11_mill_31 rfl ?_
              refine g_iconst (pc := 32) dX11_mill_32 ?_
              refine g_icmp_le (pc := 33) (tgt := 38) dX11_mill_33 (by decide) (by omega) (by omega) (fun q33 => ?_) (fun q33 => ?_)
              · refine g_iload_n (pc := 38) (x := k) dX11_mill_38 rfl ?_
                refine g_iconst (pc := 39) dX11_mill_39 ?_
                refine g_icmp_ne (pc := 40) (tgt := 48) dX11_mill_40 (by decide) (by omega) (by omega) (fun q40 => ?_) (fun q40 => ?_)
                · refine g_iload_n (pc := 48) (x := k) dX11_mill_48 rfl ?_
                  refine g_iconst (pc := 49) dX11_mill_49 ?_
                  refine g_icmp_ne (pc := 50) (tgt := 66) dX11_mill_50 (by decide) (by omega) (by omega) (fun q50 => ?_) (fun q50 => ?_)
                  · exact absurd (by omega) hok
                  · refine g_iload_n (pc := 53) (x := ss) dX11_mill_53 rfl ?_
                    refine g_iconst (pc := 54) dX11_mill_54 ?_
                    refine g_icmp_ne (pc := 55) (tgt := 64) dX11_mill_55 (by decide) (by omega) (by omega) (fun q55 => ?_) (fun q55 => ?_)
                    · refine g_iconst (pc := 64) dX11_mill_64 ?_
                      exact r_int (pc := 65) dX11_mill_65 rfl rfl (Nat.le_refl _) (Or.inl ⟨hno, rfl, rp⟩)
                    · refine g_iload_n (pc := 58) (x := mm) dX11_mill_58 rfl ?_
                      refine g_bipush (pc := 59) dX11_mill_59 (by decide +kernel) ?_
                      refine g_icmp_le (pc := 61) (tgt := 66) dX11_mill_61 (by decide) (by omega) (by omega) (fun q61 => ?_) (fun q61 => ?_)
                      · exact absurd (by omega) hok
                      · refine g_iconst (pc := 64) dX11_mill_64 ?_
                        exact r_int (pc := 65) dX11_mill_65 rfl rfl (Nat.le_refl _) (Or.inl ⟨hno, rfl, rp⟩)
                · refine g_iload_n (pc := 43) (x := ss) dX11_mill_43 rfl ?_
                  refine g_iconst (pc := 44) dX11_mill_44 ?_
                  refine g_icmp_ne (pc := 45) (tgt := 64) dX11_mill_45 (by decide) (by omega) (by omega) (fun q45 => ?_) (fun q45 => ?_)
                  · refine g_iconst (pc := 64) dX11_mill_64 ?_
                    exact r_int (pc := 65) dX11_mill_65 rfl rfl (Nat.le_refl _) (Or.inl ⟨hno, rfl, rp⟩)
                  · refine g_iload_n (pc := 48) (x := k) dX11_mill_48 rfl ?_
                    refine g_iconst (pc := 49) dX11_mill_49 ?_
                    refine g_icmp_ne (pc := 50) (tgt := 66) dX11_mill_50 (by decide) (by omega) (by omega) (fun q50 => ?_) (fun q50 => ?_)
                    · exact absurd (by omega) hok
                    · refine g_iload_n (pc := 53) (x := ss) dX11_mill_53 rfl ?_
                      refine g_iconst (pc := 54) dX11_mill_54 ?_
                      refine g_icmp_ne (pc := 55) (tgt := 64) dX11_mill_55 (by decide) (by omega) (by omega) (fun q55 => ?_) (fun q55 => ?_)
                      · refine g_iconst (pc := 64) dX11_mill_64 ?_
                        exact r_int (pc := 65) dX11_mill_65 rfl rfl (Nat.le_refl _) (Or.inl ⟨hno, rfl, rp⟩)
                      · refine g_iload_n (pc := 58) (x := mm) dX11_mill_58 rfl ?_
                        refine g_bipush (pc := 59) dX11_mill_59 (by decide +kernel) ?_
                        refine g_icmp_le (pc := 61) (tgt := 66) dX11_mill_61 (by decide) (by omega) (by omega) (fun q61 => ?_) (fun q61 => ?_)
                        · exact absurd (by omega) hok
                        · refine g_iconst (pc := 64) dX11_mill_64 ?_
                          exact r_int (pc := 65) dX11_mill_65 rfl rfl (Nat.le_refl _) (Or.inl ⟨hno, rfl, rp⟩)
              · refine g_iconst (pc := 36) dX11_mill_36 ?_
                exact r_int (pc := 37) dX11_mill_37 rfl rfl (Nat.le_refl _) (Or.inl ⟨hno, rfl, rp⟩)
