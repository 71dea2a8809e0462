/-! ===== the law: the calls that are left ===== -/
theorem law_0 {Ls i : Nat} {sx : Nat → Int} {h : MH} {Q : Option MV → MR → MH → Prop} (hsx : ∀ n, i32 (sx n)) (hL : Ls ≤ 2560) (hi : i + 5 ≤ Ls) (li : LI h) (hK : ∀ h2, LI h2 → G mL_law (11, 600000, 7302250, Ls, sx) 1427 [(0, vS true), (1, vR 0), (2, vR 633), (3, vI (i : Int))] [] (663, 83939, 663) h2 Q) : G mL_law (11, 600000, 7302250, Ls, sx) 176 [(0, vS true), (1, vR 0), (2, vR 633), (3, vI (i : Int))] [] (663, 83939, 663) h Q := by
  obtain ⟨σ, p, ct, s, c, td, rs, rt⟩ := li
  have h10 : Hd (663, 83939, 663) h 0 (eO 10 [vR 1, vR 2, vR 74]) := c.1
  refine g_aload_n (pc := 176) (r := .inl (some 0)) dL_law_176 rfl ?_
  refine g_aload_n (pc := 177) (r := .inr true) dL_law_177 rfl ?_
  refine g_iload_n (pc := 178) (x := (i : Int)) dL_law_178 rfl ?_
  refine g_iconst (pc := 179) dL_law_179 ?_
  refine g_iadd (pc := 180) dL_law_180 ?_
  refine g_sald (pc := 181) dL_law_181 (by omega) (show (i : Int) + 1 < (Ls : Int) by omega) (show (Ls : Nat) ≤ 2147483647 by omega) ?_
  refine g_aload_n (pc := 182) (r := .inr true) dL_law_182 rfl ?_
  refine g_iload_n (pc := 183) (x := (i : Int)) dL_law_183 rfl ?_
  refine g_iconst (pc := 184) dL_law_184 ?_
  refine g_iadd (pc := 185) dL_law_185 ?_
  refine g_sald (pc := 186) dL_law_186 (by omega) (show (i : Int) + 2 < (Ls : Int) by omega) (show (Ls : Nat) ≤ 2147483647 by omega) ?_
  refine g_aload_n (pc := 187) (r := .inr true) dL_law_187 rfl ?_
  refine g_iload_n (pc := 188) (x := (i : Int)) dL_law_188 rfl ?_
  refine g_iconst (pc := 189) dL_law_189 ?_
  refine g_iadd (pc := 190) dL_law_190 ?_
  refine g_sald (pc := 191) dL_law_191 (by omega) (show (i : Int) + 3 < (Ls : Int) by omega) (show (Ls : Nat) ≤ 2147483647 by omega) ?_
  refine g_callV0 (pc := 192) (as := [vI (sx ((i : Int) + 1).toNat), vI (sx ((i : Int) + 2).toNat), vI (sx ((i : Int) + 3).toNat)]) (b := 0) (st := []) lvL_13 dL_law_192 h10 (Nat.le_of_ble_eq_true rfl) (Nat.le_of_ble_eq_true rfl) (Nat.le_of_ble_eq_true rfl) (Nat.le_of_ble_eq_true rfl) (k_mill (hsx _) (hsx _) (hsx _) c) ?_
  rintro r8 h2 (⟨hno, rfl, c2⟩ | ⟨kd, M, n, ek, eM, en, hok, ⟨hfull, rfl, c2⟩ | ⟨i9, T, Y, hi9, hs9, hno9, rfl, hT, hY, ok9, c2⟩⟩)
  · have rs2 := LI.ref rs c2
    obtain ⟨th2, wd2, pm2, fm2, mu2, um2, hx2⟩ := id rs2.1
    have h11 : Hd (663, 83939, 663) h2 633 (mdl 633 th2 wd2 pm2 fm2 mu2 um2 (p : Int) (ct : Int)) := hx2
    refine g_aload_n (pc := 195) (r := .inl (some 633)) dL_law_195 rfl ?_
    refine g_aload_n (pc := 196) (r := .inr true) dL_law_196 rfl ?_
    refine g_iload_n (pc := 197) (x := (i : Int)) dL_law_197 rfl ?_
    refine g_iconst (pc := 198) dL_law_198 ?_
    refine g_iadd (pc := 199) dL_law_199 ?_
    refine g_sald (pc := 200) dL_law_200 (by omega) (show (i : Int) + 1 < (Ls : Int) by omega) (show (Ls : Nat) ≤ 2147483647 by omega) ?_
    refine g_aload_n (pc := 201) (r := .inr true) dL_law_201 rfl ?_
    refine g_iload_n (pc := 202) (x := (i : Int)) dL_law_202 rfl ?_
    refine g_iconst (pc := 203) dL_law_203 ?_
    refine g_iadd (pc := 204) dL_law_204 ?_
    refine g_sald (pc := 205) dL_law_205 (by omega) (show (i : Int) + 2 < (Ls : Int) by omega) (show (Ls : Nat) ≤ 2147483647 by omega) ?_
    refine g_aload_n (pc := 206) (r := .inr true) dL_law_206 rfl ?_
    refine g_iload_n (pc := 207) (x := (i : Int)) dL_law_207 rfl ?_
    refine g_iconst (pc := 208) dL_law_208 ?_
    refine g_iadd (pc := 209) dL_law_209 ?_
    refine g_sald (pc := 210) dL_law_210 (by omega) (show (i : Int) + 3 < (Ls : Int) by omega) (show (Ls : Nat) ≤ 2147483647 by omega) ?_
    refine g_callV0 (pc := 211) (as := [vI (sx ((i : Int) + 1).toNat), vI (sx ((i : Int) + 2).toNat), vI (sx ((i : Int) + 3).toNat)]) (b := 633) (st := [vI (-1)]) lvL_17 dL_law_211 h11 (Nat.le_of_ble_eq_true rfl) (Nat.le_of_ble_eq_true rfl) (Nat.le_of_ble_eq_true rfl) (Nat.le_of_ble_eq_true rfl) (r_mill (hsx _) (hsx _) (hsx _) rs2) ?_
    rintro r9 h3 (⟨hno2, rfl, r3⟩ | ⟨hok2, ⟨hfull2, rfl, r3⟩ | ⟨j, hj, hsj, hnoj, rfl, hall⟩⟩)
    · refine g_icmp_eqS (pc := 214) (tgt := 1427) dL_law_214 (by decide) ?_
      exact hK _ (LI.mills td rt c2 r3)
    · exact absurd hok2 hno
    · exact absurd hok2 hno
  · have rs2 := LI.ref rs c2
    obtain ⟨th2, wd2, pm2, fm2, mu2, um2, hx2⟩ := id rs2.1
    have h11 : Hd (663, 83939, 663) h2 633 (mdl 633 th2 wd2 pm2 fm2 mu2 um2 (p : Int) (ct : Int)) := hx2
    refine g_aload_n (pc := 195) (r := .inl (some 633)) dL_law_195 rfl ?_
    refine g_aload_n (pc := 196) (r := .inr true) dL_law_196 rfl ?_
    refine g_iload_n (pc := 197) (x := (i : Int)) dL_law_197 rfl ?_
    refine g_iconst (pc := 198) dL_law_198 ?_
    refine g_iadd (pc := 199) dL_law_199 ?_
    refine g_sald (pc := 200) dL_law_200 (by omega) (show (i : Int) + 1 < (Ls : Int) by omega) (show (Ls : Nat) ≤ 2147483647 by omega) ?_
    refine g_aload_n (pc := 201) (r := .inr true) dL_law_201 rfl ?_
    refine g_iload_n (pc := 202) (x := (i : Int)) dL_law_202 rfl ?_
    refine g_iconst (pc := 203) dL_law_203 ?_
    refine g_iadd (pc := 204) dL_law_204 ?_
    refine g_sald (pc := 205) dL_law_205 (by omega) (show (i : Int) + 2 < (Ls : Int) by omega) (show (Ls : Nat) ≤ 2147483647 by omega) ?_
    refine g_aload_n (pc := 206) (r := .inr true) dL_law_206 rfl ?_
    refine g_iload_n (pc := 207) (x := (i : Int)) dL_law_207 rfl ?_
    refine g_iconst (pc := 208) dL_law_208 ?_
    refine g_iadd (pc := 209) dL_law_209 ?_
    refine g_sald (pc := 210) dL_law_210 (by omega) (show (i : Int) + 3 < (Ls : Int) by omega) (show (Ls : Nat) ≤ 2147483647 by omega) ?_
    refine g_callV0 (pc := 211) (as := [vI (sx ((i : Int) + 1).toNat), vI (sx ((i : Int) + 2).toNat), vI (sx ((i : Int) + 3).toNat)]) (b := 633) (st := [vI (-1)]) lvL_17 dL_law_211 h11 (Nat.le_of_ble_eq_true rfl) (Nat.le_of_ble_eq_true rfl) (Nat.le_of_ble_eq_true rfl) (Nat.le_of_ble_eq_true rfl) (r_mill (hsx _) (hsx _) (hsx _) rs2) ?_
    rintro r9 h3 (⟨hno2, rfl, r3⟩ | ⟨hok2, ⟨hfull2, rfl, r3⟩ | ⟨j, hj, hsj, hnoj, rfl, hall⟩⟩)
    · exact absurd hok hno2
    · refine g_icmp_eqS (pc := 214) (tgt := 1427) dL_law_214 (by decide) ?_
      exact hK _ (LI.mills td rt c2 r3)
    · exact absurd hsj (hfull j hj)
  · have rs2 := LI.ref rs c2
    obtain ⟨th2, wd2, pm2, fm2, mu2, um2, hx2⟩ := id rs2.1
    have h11 : Hd (663, 83939, 663) h2 633 (mdl 633 th2 wd2 pm2 fm2 mu2 um2 (p : Int) (ct : Int)) := hx2
    refine g_aload_n (pc := 195) (r := .inl (some 633)) dL_law_195 rfl ?_
    refine g_aload_n (pc := 196) (r := .inr true) dL_law_196 rfl ?_
    refine g_iload_n (pc := 197) (x := (i : Int)) dL_law_197 rfl ?_
    refine g_iconst (pc := 198) dL_law_198 ?_
    refine g_iadd (pc := 199) dL_law_199 ?_
    refine g_sald (pc := 200) dL_law_200 (by omega) (show (i : Int) + 1 < (Ls : Int) by omega) (show (Ls : Nat) ≤ 2147483647 by omega) ?_
    refine g_aload_n (pc := 201) (r := .inr true) dL_law_201 rfl ?_
    refine g_iload_n (pc := 202) (x := (i : Int)) dL_law_202 rfl ?_
    refine g_iconst (pc := 203) dL_law_203 ?_
    refine g_iadd (pc := 204) dL_law_204 ?_
    refine g_sald (pc := 205) dL_law_205 (by omega) (show (i : Int) + 2 < (Ls : Int) by omega) (show (Ls : Nat) ≤ 2147483647 by omega) ?_
    refine g_aload_n (pc := 206) (r := .inr true) dL_law_206 rfl ?_
    refine g_iload_n (pc := 207) (x := (i : Int)) dL_law_207 rfl ?_
    refine g_iconst (pc := 208) dL_law_208 ?_
    refine g_iadd (pc := 209) dL_law_209 ?_
    refine g_sald (pc := 210) dL_law_210 (by omega) (show (i : Int) + 3 < (Ls : Int) by omega) (show (Ls : Nat) ≤ 2147483647 by omega) ?_
    refine g_callV0 (pc := 211) (as := [vI (sx ((i : Int) + 1).toNat), vI (sx ((i : Int) + 2).toNat), vI (sx ((i : Int) + 3).toNat)]) (b := 633) (st := [vI (i9 : Int)]) lvL_17 dL_law_211 h11 (Nat.le_of_ble_eq_true rfl) (Nat.le_of_ble_eq_true rfl) (Nat.le_of_ble_eq_true rfl) (Nat.le_of_ble_eq_true rfl) (r_mill (hsx _) (hsx _) (hsx _) rs2) ?_
    rintro r9 h3 (⟨hno2, rfl, r3⟩ | ⟨hok2, ⟨hfull2, rfl, r3⟩ | ⟨j, hj, hsj, hnoj, rfl, hall⟩⟩)
    · exact absurd hok hno2
    · exact absurd hs9 (hfull2 i9 hi9)
    · have ej : j = i9 := by
        rcases Nat.lt_trichotomy j i9 with z | z | z
        · exact absurd hsj (hno9 j z)
        · exact z
        · exact absurd hs9 (hnoj i9 z)
      subst ej
      refine g_icmp_eqS (pc := 214) (tgt := 1427) dL_law_214 (by decide) ?_
      exact hK _ (LI.mills td rt c2 (hall kd M n T Y ek eM en hT hY ok9))

theorem law_26 {Ls i : Nat} {sx : Nat → Int} {h : MH} {Q : Option MV → MR → MH → Prop} (hsx : ∀ n, i32 (sx n)) (hL : Ls ≤ 2560) (hi : i + 5 ≤ Ls) (li : LI h) (hK : ∀ h2, LI h2 → G mL_law (11, 600000, 7302250, Ls, sx) 1427 [(0, vS true), (1, vR 0), (2, vR 633), (3, vI (i : Int))] [] (663, 83939, 663) h2 Q) : G mL_law (11, 600000, 7302250, Ls, sx) 1269 [(0, vS true), (1, vR 0), (2, vR 633), (3, vI (i : Int))] [] (663, 83939, 663) h Q := by
  obtain ⟨σ, p, ct, s, c, td, rs, rt⟩ := li
  have h10 : Hd (663, 83939, 663) h 0 (eO 10 [vR 1, vR 2, vR 74]) := c.1
  refine g_aload_n (pc := 1269) (r := .inl (some 0)) dL_law_1269 rfl ?_
  refine g_aload_n (pc := 1270) (r := .inr true) dL_law_1270 rfl ?_
  refine g_iload_n (pc := 1271) (x := (i : Int)) dL_law_1271 rfl ?_
  refine g_iconst (pc := 1272) dL_law_1272 ?_
  refine g_iadd (pc := 1273) dL_law_1273 ?_
  refine g_sald (pc := 1274) dL_law_1274 (by omega) (show (i : Int) + 1 < (Ls : Int) by omega) (show (Ls : Nat) ≤ 2147483647 by omega) ?_
  refine g_callV0 (pc := 1275) (as := [vI (sx ((i : Int) + 1).toNat)]) (b := 0) (st := []) lvL_129 dL_law_1275 h10 (Nat.le_of_ble_eq_true rfl) (Nat.le_of_ble_eq_true rfl) (Nat.le_of_ble_eq_true rfl) (Nat.le_of_ble_eq_true rfl) (k_begin (hsx _) c.1 td) ?_
  rintro r8 h2 (⟨hno, rfl, rfl⟩ | ⟨p9, ev, hp9, hq9, rfl, td2, k2⟩)
  · obtain ⟨th2, wd2, pm2, fm2, mu2, um2, hx2⟩ := id rs.1
    have h11 : Hd (663, 83939, 663) h2 633 (mdl 633 th2 wd2 pm2 fm2 mu2 um2 (p : Int) (ct : Int)) := hx2
    refine g_aload_n (pc := 1278) (r := .inl (some 633)) dL_law_1278 rfl ?_
    refine g_aload_n (pc := 1279) (r := .inr true) dL_law_1279 rfl ?_
    refine g_iload_n (pc := 1280) (x := (i : Int)) dL_law_1280 rfl ?_
    refine g_iconst (pc := 1281) dL_law_1281 ?_
    refine g_iadd (pc := 1282) dL_law_1282 ?_
    refine g_sald (pc := 1283) dL_law_1283 (by omega) (show (i : Int) + 1 < (Ls : Int) by omega) (show (Ls : Nat) ≤ 2147483647 by omega) ?_
    refine g_callV0 (pc := 1284) (as := [vI (sx ((i : Int) + 1).toNat)]) (b := 633) (st := [vI 0]) lvL_132 dL_law_1284 h11 (Nat.le_of_ble_eq_true rfl) (Nat.le_of_ble_eq_true rfl) (Nat.le_of_ble_eq_true rfl) (Nat.le_of_ble_eq_true rfl) (r_begin (hsx _) rt rs) ?_
    rintro r9 h3 (⟨-, rfl, r3⟩ | ⟨hyes, -, -⟩)
    · refine g_icmp_eqS (pc := 1287) (tgt := 1427) dL_law_1287 (by decide) ?_
      exact hK _ (LI.told c (fun a z => rfl) td r3)
    · exact absurd hyes hno
  · have rs2 := rs.keep (h2 := h2) (fun a z1 z2 => k2 a (by omega))
    have rt2 := rt.keep (h2 := h2) (fun a z1 z2 => k2 a (by omega))
    obtain ⟨th2, wd2, pm2, fm2, mu2, um2, hx2⟩ := id rs2.1
    have h11 : Hd (663, 83939, 663) h2 633 (mdl 633 th2 wd2 pm2 fm2 mu2 um2 (p : Int) (ct : Int)) := hx2
    refine g_aload_n (pc := 1278) (r := .inl (some 633)) dL_law_1278 rfl ?_
    refine g_aload_n (pc := 1279) (r := .inr true) dL_law_1279 rfl ?_
    refine g_iload_n (pc := 1280) (x := (i : Int)) dL_law_1280 rfl ?_
    refine g_iconst (pc := 1281) dL_law_1281 ?_
    refine g_iadd (pc := 1282) dL_law_1282 ?_
    refine g_sald (pc := 1283) dL_law_1283 (by omega) (show (i : Int) + 1 < (Ls : Int) by omega) (show (Ls : Nat) ≤ 2147483647 by omega) ?_
    refine g_callV0 (pc := 1284) (as := [vI (sx ((i : Int) + 1).toNat)]) (b := 633) (st := [vI 1]) lvL_132 dL_law_1284 h11 (Nat.le_of_ble_eq_true rfl) (Nat.le_of_ble_eq_true rfl) (Nat.le_of_ble_eq_true rfl) (Nat.le_of_ble_eq_true rfl) (r_begin (hsx _) rt2 rs2) ?_
    rintro r9 h3 (⟨hno, -, -⟩ | ⟨-, rfl, r3⟩)
    · exact absurd (by rw [ev]; exact tprime_of hp9 hq9) hno
    · refine g_icmp_eqS (pc := 1287) (tgt := 1427) dL_law_1287 (by decide) ?_
      rw [ev] at r3
      exact hK _ (LI.told c k2 td2 r3)

theorem law_27 {Ls i : Nat} {sx : Nat → Int} {h : MH} {Q : Option MV → MR → MH → Prop} (hsx : ∀ n, i32 (sx n)) (hL : Ls ≤ 2560) (hi : i + 5 ≤ Ls) (li : LI h) (hK : ∀ h2, LI h2 → G mL_law (11, 600000, 7302250, Ls, sx) 1427 [(0, vS true), (1, vR 0), (2, vR 633), (3, vI (i : Int))] [] (663, 83939, 663) h2 Q) : G mL_law (11, 600000, 7302250, Ls, sx) 1292 [(0, vS true), (1, vR 0), (2, vR 633), (3, vI (i : Int))] [] (663, 83939, 663) h Q := by
  obtain ⟨σ, p, ct, s, c, td, rs, rt⟩ := li
  have h10 : Hd (663, 83939, 663) h 0 (eO 10 [vR 1, vR 2, vR 74]) := c.1
  obtain ⟨⟨hp, hp2, hct, hs⟩, -⟩ := wT td
  refine g_aload_n (pc := 1292) (r := .inl (some 0)) dL_law_1292 rfl ?_
  refine g_aload_n (pc := 1293) (r := .inr true) dL_law_1293 rfl ?_
  refine g_iload_n (pc := 1294) (x := (i : Int)) dL_law_1294 rfl ?_
  refine g_iconst (pc := 1295) dL_law_1295 ?_
  refine g_iadd (pc := 1296) dL_law_1296 ?_
  refine g_sald (pc := 1297) dL_law_1297 (by omega) (show (i : Int) + 1 < (Ls : Int) by omega) (show (Ls : Nat) ≤ 2147483647 by omega) ?_
  refine g_callV0 (pc := 1298) (as := [vI (sx ((i : Int) + 1).toNat)]) (b := 0) (st := []) lvL_133 dL_law_1298 h10 (Nat.le_of_ble_eq_true rfl) (Nat.le_of_ble_eq_true rfl) (Nat.le_of_ble_eq_true rfl) (Nat.le_of_ble_eq_true rfl) (k_tell (hsx _) c.1 td) ?_
  rintro r8 h2 (⟨e64, rfl, rfl⟩ | ⟨hlt, rfl, td2, k2⟩)
  · obtain ⟨th2, wd2, pm2, fm2, mu2, um2, hx2⟩ := id rs.1
    have h11 : Hd (663, 83939, 663) h2 633 (mdl 633 th2 wd2 pm2 fm2 mu2 um2 (p : Int) (ct : Int)) := hx2
    refine g_aload_n (pc := 1301) (r := .inl (some 633)) dL_law_1301 rfl ?_
    refine g_aload_n (pc := 1302) (r := .inr true) dL_law_1302 rfl ?_
    refine g_iload_n (pc := 1303) (x := (i : Int)) dL_law_1303 rfl ?_
    refine g_iconst (pc := 1304) dL_law_1304 ?_
    refine g_iadd (pc := 1305) dL_law_1305 ?_
    refine g_sald (pc := 1306) dL_law_1306 (by omega) (show (i : Int) + 1 < (Ls : Int) by omega) (show (Ls : Nat) ≤ 2147483647 by omega) ?_
    refine g_callV0 (pc := 1307) (as := [vI (sx ((i : Int) + 1).toNat)]) (b := 633) (st := [vI (-1)]) lvL_136 dL_law_1307 h11 (Nat.le_of_ble_eq_true rfl) (Nat.le_of_ble_eq_true rfl) (Nat.le_of_ble_eq_true rfl) (Nat.le_of_ble_eq_true rfl) (r_tell (hsx _) hp hp2 hct rt rs) ?_
    rintro r9 h3 (⟨-, rfl, r3⟩ | ⟨hlt2, -, -⟩)
    · refine g_icmp_eqS (pc := 1310) (tgt := 1427) dL_law_1310 (by decide) ?_
      exact hK _ (LI.told c (fun a z => rfl) td r3)
    · omega
  · have rs2 := rs.keep (h2 := h2) (fun a z1 z2 => k2 a (by omega))
    have rt2 := rt.keep (h2 := h2) (fun a z1 z2 => k2 a (by omega))
    obtain ⟨th2, wd2, pm2, fm2, mu2, um2, hx2⟩ := id rs2.1
    have h11 : Hd (663, 83939, 663) h2 633 (mdl 633 th2 wd2 pm2 fm2 mu2 um2 (p : Int) (ct : Int)) := hx2
    refine g_aload_n (pc := 1301) (r := .inl (some 633)) dL_law_1301 rfl ?_
    refine g_aload_n (pc := 1302) (r := .inr true) dL_law_1302 rfl ?_
    refine g_iload_n (pc := 1303) (x := (i : Int)) dL_law_1303 rfl ?_
    refine g_iconst (pc := 1304) dL_law_1304 ?_
    refine g_iadd (pc := 1305) dL_law_1305 ?_
    refine g_sald (pc := 1306) dL_law_1306 (by omega) (show (i : Int) + 1 < (Ls : Int) by omega) (show (Ls : Nat) ≤ 2147483647 by omega) ?_
    refine g_callV0 (pc := 1307) (as := [vI (sx ((i : Int) + 1).toNat)]) (b := 633) (st := [vI ((ct + 1 : Nat) : Int)]) lvL_136 dL_law_1307 h11 (Nat.le_of_ble_eq_true rfl) (Nat.le_of_ble_eq_true rfl) (Nat.le_of_ble_eq_true rfl) (Nat.le_of_ble_eq_true rfl) (r_tell (hsx _) hp hp2 hct rt2 rs2) ?_
    rintro r9 h3 (⟨e64, -, -⟩ | ⟨-, rfl, r3⟩)
    · omega
    · refine g_icmp_eqS (pc := 1310) (tgt := 1427) dL_law_1310 (by decide) ?_
      exact hK _ (LI.told c k2 td2 r3)

theorem law_28 {Ls i : Nat} {sx : Nat → Int} {h : MH} {Q : Option MV → MR → MH → Prop} (hsx : ∀ n, i32 (sx n)) (hL : Ls ≤ 2560) (hi : i + 5 ≤ Ls) (li : LI h) (hK : ∀ h2, LI h2 → G mL_law (11, 600000, 7302250, Ls, sx) 1427 [(0, vS true), (1, vR 0), (2, vR 633), (3, vI (i : Int))] [] (663, 83939, 663) h2 Q) : G mL_law (11, 600000, 7302250, Ls, sx) 1315 [(0, vS true), (1, vR 0), (2, vR 633), (3, vI (i : Int))] [] (663, 83939, 663) h Q := by
  obtain ⟨σ, p, ct, s, c, td, rs, rt⟩ := li
  have h10 : Hd (663, 83939, 663) h 0 (eO 10 [vR 1, vR 2, vR 74]) := c.1
  obtain ⟨⟨hp, hp2, hct, hs⟩, L, hLm, hmin⟩ := wT td
  refine g_aload_n (pc := 1315) (r := .inl (some 0)) dL_law_1315 rfl ?_
  refine g_callV0 (pc := 1316) (as := []) (b := 0) (st := []) lvL_137 dL_law_1316 h10 (Nat.le_of_ble_eq_true rfl) (Nat.le_of_ble_eq_true rfl) (Nat.le_of_ble_eq_true rfl) (Nat.le_of_ble_eq_true rfl) (k_least hLm hmin c.1 td) ?_
  rintro r8 h2 ⟨rfl, rfl⟩
  obtain ⟨th2, wd2, pm2, fm2, mu2, um2, hx2⟩ := id rs.1
  have h11 : Hd (663, 83939, 663) h2 633 (mdl 633 th2 wd2 pm2 fm2 mu2 um2 (p : Int) (ct : Int)) := hx2
  refine g_aload_n (pc := 1319) (r := .inl (some 633)) dL_law_1319 rfl ?_
  refine g_callV0 (pc := 1320) (as := []) (b := 633) (st := [vI _]) lvL_141 dL_law_1320 h11 (Nat.le_of_ble_eq_true rfl) (Nat.le_of_ble_eq_true rfl) (Nat.le_of_ble_eq_true rfl) (Nat.le_of_ble_eq_true rfl) (r_least hp hp2 hct hs hLm hmin rfl rfl rt rs) ?_
  rintro r9 h3 ⟨rfl, r3⟩
  refine g_icmp_eqS (pc := 1323) (tgt := 1427) dL_law_1323 (by decide) ?_
  exact hK _ (LI.told c (fun a z => rfl) td r3)

theorem law_29 {Ls i : Nat} {sx : Nat → Int} {h : MH} {Q : Option MV → MR → MH → Prop} (hsx : ∀ n, i32 (sx n)) (hL : Ls ≤ 2560) (hi : i + 5 ≤ Ls) (li : LI h) (hK : ∀ h2, LI h2 → G mL_law (11, 600000, 7302250, Ls, sx) 1427 [(0, vS true), (1, vR 0), (2, vR 633), (3, vI (i : Int))] [] (663, 83939, 663) h2 Q) : G mL_law (11, 600000, 7302250, Ls, sx) 1328 [(0, vS true), (1, vR 0), (2, vR 633), (3, vI (i : Int))] [] (663, 83939, 663) h Q := by
  obtain ⟨σ, p, ct, s, c, td, rs, rt⟩ := li
  have h10 : Hd (663, 83939, 663) h 0 (eO 10 [vR 1, vR 2, vR 74]) := c.1
  obtain ⟨⟨hp, hp2, hct, hs⟩, L, hLm, hmin⟩ := wT td
  refine g_aload_n (pc := 1328) (r := .inl (some 0)) dL_law_1328 rfl ?_
  refine g_callV0 (pc := 1329) (as := []) (b := 0) (st := []) lvL_142 dL_law_1329 h10 (Nat.le_of_ble_eq_true rfl) (Nat.le_of_ble_eq_true rfl) (Nat.le_of_ble_eq_true rfl) (Nat.le_of_ble_eq_true rfl) (k_shown hLm hmin c.1 td) ?_
  rintro r8 h2 ⟨rfl, rfl⟩
  obtain ⟨th2, wd2, pm2, fm2, mu2, um2, hx2⟩ := id rs.1
  have h11 : Hd (663, 83939, 663) h2 633 (mdl 633 th2 wd2 pm2 fm2 mu2 um2 (p : Int) (ct : Int)) := hx2
  refine g_aload_n (pc := 1332) (r := .inl (some 633)) dL_law_1332 rfl ?_
  refine g_callV0 (pc := 1333) (as := []) (b := 633) (st := [vI _]) lvL_145 dL_law_1333 h11 (Nat.le_of_ble_eq_true rfl) (Nat.le_of_ble_eq_true rfl) (Nat.le_of_ble_eq_true rfl) (Nat.le_of_ble_eq_true rfl) (r_shown hp hp2 hct hs hLm hmin rfl rfl rt rs) ?_
  rintro r9 h3 ⟨rfl, r3⟩
  refine g_icmp_eqS (pc := 1336) (tgt := 1427) dL_law_1336 (by decide) ?_
  exact hK _ (LI.told c (fun a z => rfl) td r3)

theorem law_30 {Ls i : Nat} {sx : Nat → Int} {h : MH} {Q : Option MV → MR → MH → Prop} (hsx : ∀ n, i32 (sx n)) (hL : Ls ≤ 2560) (hi : i + 5 ≤ Ls) (li : LI h) (hK : ∀ h2, LI h2 → G mL_law (11, 600000, 7302250, Ls, sx) 1427 [(0, vS true), (1, vR 0), (2, vR 633), (3, vI (i : Int))] [] (663, 83939, 663) h2 Q) : G mL_law (11, 600000, 7302250, Ls, sx) 1341 [(0, vS true), (1, vR 0), (2, vR 633), (3, vI (i : Int))] [] (663, 83939, 663) h Q := by
  obtain ⟨σ, p, ct, s, c, td, rs, rt⟩ := li
  have h10 : Hd (663, 83939, 663) h 0 (eO 10 [vR 1, vR 2, vR 74]) := c.1
  obtain ⟨⟨hp, hp2, hct, hs⟩, L, hLm, hmin⟩ := wT td
  refine g_aload_n (pc := 1341) (r := .inl (some 0)) dL_law_1341 rfl ?_
  refine g_aload_n (pc := 1342) (r := .inr true) dL_law_1342 rfl ?_
  refine g_iload_n (pc := 1343) (x := (i : Int)) dL_law_1343 rfl ?_
  refine g_iconst (pc := 1344) dL_law_1344 ?_
  refine g_iadd (pc := 1345) dL_law_1345 ?_
  refine g_sald (pc := 1346) dL_law_1346 (by omega) (show (i : Int) + 1 < (Ls : Int) by omega) (show (Ls : Nat) ≤ 2147483647 by omega) ?_
  refine g_callV0 (pc := 1347) (as := [vI (sx ((i : Int) + 1).toNat)]) (b := 0) (st := []) lvL_146 dL_law_1347 h10 (Nat.le_of_ble_eq_true rfl) (Nat.le_of_ble_eq_true rfl) (Nat.le_of_ble_eq_true rfl) (Nat.le_of_ble_eq_true rfl) (k_rule (hsx _) hLm hmin c.1 td) ?_
  rintro r8 h2 ⟨rfl, td2, k2⟩
  have rs2 := rs.keep (h2 := h2) (fun a z1 z2 => k2 a (by omega))
  have rt2 := rt.keep (h2 := h2) (fun a z1 z2 => k2 a (by omega))
  obtain ⟨th2, wd2, pm2, fm2, mu2, um2, hx2⟩ := id rs2.1
  have h11 : Hd (663, 83939, 663) h2 633 (mdl 633 th2 wd2 pm2 fm2 mu2 um2 (p : Int) (ct : Int)) := hx2
  refine g_aload_n (pc := 1350) (r := .inl (some 633)) dL_law_1350 rfl ?_
  refine g_aload_n (pc := 1351) (r := .inr true) dL_law_1351 rfl ?_
  refine g_iload_n (pc := 1352) (x := (i : Int)) dL_law_1352 rfl ?_
  refine g_iconst (pc := 1353) dL_law_1353 ?_
  refine g_iadd (pc := 1354) dL_law_1354 ?_
  refine g_sald (pc := 1355) dL_law_1355 (by omega) (show (i : Int) + 1 < (Ls : Int) by omega) (show (Ls : Nat) ≤ 2147483647 by omega) ?_
  refine g_callV0 (pc := 1356) (as := [vI (sx ((i : Int) + 1).toNat)]) (b := 633) (st := [vI _]) lvL_149 dL_law_1356 h11 (Nat.le_of_ble_eq_true rfl) (Nat.le_of_ble_eq_true rfl) (Nat.le_of_ble_eq_true rfl) (Nat.le_of_ble_eq_true rfl) (r_rule (hsx _) hp hp2 hct hs hLm hmin rfl rfl rt2 rs2) ?_
  rintro r9 h3 ⟨rfl, r3⟩
  refine g_icmp_eqS (pc := 1359) (tgt := 1427) dL_law_1359 (by decide) ?_
  exact hK _ (LI.told c k2 td2 r3)

theorem law_loop {Ls : Nat} {sx : Nat → Int} (hsx : ∀ n, i32 (sx n)) (hL : Ls ≤ 2560) : ∀ (f i : Nat) (xi : Int) (h : MH), Ls < i + 5 * f + 5 → i ≤ Ls → xi = (i : Int) → LI h → G mL_law (11, 600000, 7302250, Ls, sx) 18 [(0, vS true), (1, vR 0), (2, vR 633), (3, vI xi)] [] (663, 83939, 663) h (fun r ρ (_ : MH) => r = some (vI 1) ∧ ρ = (663, 83939, 663)) := by
  intro f
  induction f with
  | zero =>
    intro i xi h hf hil ei li
    subst ei
    refine g_iload_n (pc := 18) (x := (i : Int)) dL_law_18 rfl ?_
    refine g_aload_n (pc := 19) (r := .inr true) dL_law_19 rfl ?_
    refine g_slen (pc := 20) dL_law_20 ?_
    show G mL_law (11, 600000, 7302250, Ls, sx) 21 [(0, vS true), (1, vR 0), (2, vR 633), (3, vI (i : Int))] [vI (Ls : Int), vI (i : Int)] (663, 83939, 663) _ _
    refine g_iconst (pc := 21) dL_law_21 ?_
    refine g_isub (pc := 22) dL_law_22 ?_
    refine g_icmp_gtT (pc := 23) (tgt := 1433) dL_law_23 (by decide) (by omega) (by omega) (by omega) ?_
    refine g_iconst (pc := 1433) dL_law_1433 ?_
    exact g_iret (pc := 1434) dL_law_1434 ⟨rfl, rfl⟩
  | succ f ih =>
    intro i xi h hf hil ei li
    subst ei
    have hK : i + 5 ≤ Ls → ∀ h2, LI h2 → G mL_law (11, 600000, 7302250, Ls, sx) 1427 [(0, vS true), (1, vR 0), (2, vR 633), (3, vI (i : Int))] [] (663, 83939, 663) h2 (fun r ρ (_ : MH) => r = some (vI 1) ∧ ρ = (663, 83939, 663)) := fun hi5 h2 l2 => by
      refine g_iinc (pc := 1427) (x := (i : Int)) (lo2 := [(0, vS true), (1, vR 0), (2, vR 633), (3, vI ((i : Int) + 5))]) dL_law_1427 rfl (by decide) rfl ?_
      refine g_goto (pc := 1430) (tgt := 18) dL_law_1430 (by decide) ?_
      exact ih (i + 5) _ h2 (by omega) (by omega) (by omega) l2
    refine g_iload_n (pc := 18) (x := (i : Int)) dL_law_18 rfl ?_
    refine g_aload_n (pc := 19) (r := .inr true) dL_law_19 rfl ?_
    refine g_slen (pc := 20) dL_law_20 ?_
    show G mL_law (11, 600000, 7302250, Ls, sx) 21 [(0, vS true), (1, vR 0), (2, vR 633), (3, vI (i : Int))] [vI (Ls : Int), vI (i : Int)] (663, 83939, 663) _ _
    refine g_iconst (pc := 21) dL_law_21 ?_
    refine g_isub (pc := 22) dL_law_22 ?_
    refine g_icmp_gt (pc := 23) (tgt := 1433) dL_law_23 (by decide) (by omega) (by omega) (fun k0 => ?_) (fun k0 => ?_)
    · refine g_iconst (pc := 1433) dL_law_1433 ?_
      exact g_iret (pc := 1434) dL_law_1434 ⟨rfl, rfl⟩
    · refine g_aload_n (pc := 26) (r := .inr true) dL_law_26 rfl ?_
      refine g_iload_n (pc := 27) (x := (i : Int)) dL_law_27 rfl ?_
      refine g_sald (pc := 28) dL_law_28 (by omega) (show (i : Int) < (Ls : Int) by omega) (show (Ls : Nat) ≤ 2147483647 by omega) ?_
      refine g_bipush (pc := 29) dL_law_29 (by decide +kernel) ?_
      refine g_iand (pc := 31) dL_law_31 ?_
      have hv := and31 (Int32.ofInt (sx ((i : Int)).toNat))
      obtain ⟨v, ev⟩ : ∃ v, v = (Int32.ofInt (sx (i : Int).toNat) &&& Int32.ofInt 31).toInt := ⟨_, rfl⟩
      rw [← ev] at hv
      have hcs : v = 0 ∨ v = 1 ∨ v = 2 ∨ v = 3 ∨ v = 4 ∨ v = 5 ∨ v = 6 ∨ v = 7 ∨ v = 8 ∨ v = 9 ∨ v = 10 ∨ v = 11 ∨ v = 12 ∨ v = 13 ∨ v = 14 ∨ v = 15 ∨ v = 16 ∨ v = 17 ∨ v = 18 ∨ v = 19 ∨ v = 20 ∨ v = 21 ∨ v = 22 ∨ v = 23 ∨ v = 24 ∨ v = 25 ∨ v = 26 ∨ v = 27 ∨ v = 28 ∨ v = 29 ∨ v = 30 ∨ v = 31 := by omega
      refine g_top (show vI ((Int32.ofInt (sx (i : Int).toNat) &&& Int32.ofInt 31).toInt) = vI v from congrArg vI ev.symm) ?_
      rcases hcs with e0 | e1 | e2 | e3 | e4 | e5 | e6 | e7 | e8 | e9 | e10 | e11 | e12 | e13 | e14 | e15 | e16 | e17 | e18 | e19 | e20 | e21 | e22 | e23 | e24 | e25 | e26 | e27 | e28 | e29 | e30 | e31
      · exact g_tabIn (pc := 32) (tgt := 176) dL_law_32 (by omega) (by omega) (by omega) (by rw [e0]; rfl) (by decide) (law_0 hsx hL (by omega) li (hK (by omega)))
      · exact g_tabIn (pc := 32) (tgt := 219) dL_law_32 (by omega) (by omega) (by omega) (by rw [e1]; rfl) (by decide) (law_1 hsx hL (by omega) li (hK (by omega)))
      · exact g_tabIn (pc := 32) (tgt := 242) dL_law_32 (by omega) (by omega) (by omega) (by rw [e2]; rfl) (by decide) (law_2 hsx hL (by omega) li (hK (by omega)))
      · exact g_tabIn (pc := 32) (tgt := 295) dL_law_32 (by omega) (by omega) (by omega) (by rw [e3]; rfl) (by decide) (law_3 hsx hL (by omega) li (hK (by omega)))
      · exact g_tabIn (pc := 32) (tgt := 338) dL_law_32 (by omega) (by omega) (by omega) (by rw [e4]; rfl) (by decide) (law_4 hsx hL (by omega) li (hK (by omega)))
      · exact g_tabIn (pc := 32) (tgt := 381) dL_law_32 (by omega) (by omega) (by omega) (by rw [e5]; rfl) (by decide) (law_5 hsx hL (by omega) li (hK (by omega)))
      · exact g_tabIn (pc := 32) (tgt := 414) dL_law_32 (by omega) (by omega) (by omega) (by rw [e6]; rfl) (by decide) (law_6 hsx hL (by omega) li (hK (by omega)))
      · exact g_tabIn (pc := 32) (tgt := 447) dL_law_32 (by omega) (by omega) (by omega) (by rw [e7]; rfl) (by decide) (law_7 hsx hL (by omega) li (hK (by omega)))
      · exact g_tabIn (pc := 32) (tgt := 490) dL_law_32 (by omega) (by omega) (by omega) (by rw [e8]; rfl) (by decide) (law_8 hsx hL (by omega) li (hK (by omega)))
      · exact g_tabIn (pc := 32) (tgt := 523) dL_law_32 (by omega) (by omega) (by omega) (by rw [e9]; rfl) (by decide) (law_9 hsx hL (by omega) li (hK (by omega)))
      · exact g_tabIn (pc := 32) (tgt := 586) dL_law_32 (by omega) (by omega) (by omega) (by rw [e10]; rfl) (by decide) (law_10 hsx hL (by omega) li (hK (by omega)))
      · exact g_tabIn (pc := 32) (tgt := 649) dL_law_32 (by omega) (by omega) (by omega) (by rw [e11]; rfl) (by decide) (law_11 hsx hL (by omega) li (hK (by omega)))
      · exact g_tabIn (pc := 32) (tgt := 672) dL_law_32 (by omega) (by omega) (by omega) (by rw [e12]; rfl) (by decide) (law_12 hsx hL (by omega) li (hK (by omega)))
      · exact g_tabIn (pc := 32) (tgt := 696) dL_law_32 (by omega) (by omega) (by omega) (by rw [e13]; rfl) (by decide) (law_13 hsx hL (by omega) li (hK (by omega)))
      · exact g_tabIn (pc := 32) (tgt := 720) dL_law_32 (by omega) (by omega) (by omega) (by rw [e14]; rfl) (by decide) (law_14 hsx hL (by omega) li (hK (by omega)))
      · exact g_tabIn (pc := 32) (tgt := 784) dL_law_32 (by omega) (by omega) (by omega) (by rw [e15]; rfl) (by decide) (law_15 hsx hL (by omega) li (hK (by omega)))
      · exact g_tabIn (pc := 32) (tgt := 848) dL_law_32 (by omega) (by omega) (by omega) (by rw [e16]; rfl) (by decide) (law_16 hsx hL (by omega) li (hK (by omega)))
      · exact g_tabIn (pc := 32) (tgt := 891) dL_law_32 (by omega) (by omega) (by omega) (by rw [e17]; rfl) (by decide) (law_17 hsx hL (by omega) li (hK (by omega)))
      · exact g_tabIn (pc := 32) (tgt := 934) dL_law_32 (by omega) (by omega) (by omega) (by rw [e18]; rfl) (by decide) (law_18 hsx hL (by omega) li (hK (by omega)))
      · exact g_tabIn (pc := 32) (tgt := 987) dL_law_32 (by omega) (by omega) (by omega) (by rw [e19]; rfl) (by decide) (law_19 hsx hL (by omega) li (hK (by omega)))
      · exact g_tabIn (pc := 32) (tgt := 1010) dL_law_32 (by omega) (by omega) (by omega) (by rw [e20]; rfl) (by decide) (law_20 hsx hL (by omega) li (hK (by omega)))
      · exact g_tabIn (pc := 32) (tgt := 1043) dL_law_32 (by omega) (by omega) (by omega) (by rw [e21]; rfl) (by decide) (law_21 hsx hL (by omega) li (hK (by omega)))
      · exact g_tabIn (pc := 32) (tgt := 1086) dL_law_32 (by omega) (by omega) (by omega) (by rw [e22]; rfl) (by decide) (law_22 hsx hL (by omega) li (hK (by omega)))
      · exact g_tabIn (pc := 32) (tgt := 1139) dL_law_32 (by omega) (by omega) (by omega) (by rw [e23]; rfl) (by decide) (law_23 hsx hL (by omega) li (hK (by omega)))
      · exact g_tabIn (pc := 32) (tgt := 1182) dL_law_32 (by omega) (by omega) (by omega) (by rw [e24]; rfl) (by decide) (law_24 hsx hL (by omega) li (hK (by omega)))
      · exact g_tabIn (pc := 32) (tgt := 1245) dL_law_32 (by omega) (by omega) (by omega) (by rw [e25]; rfl) (by decide) (law_25 hsx hL (by omega) li (hK (by omega)))
      · exact g_tabIn (pc := 32) (tgt := 1269) dL_law_32 (by omega) (by omega) (by omega) (by rw [e26]; rfl) (by decide) (law_26 hsx hL (by omega) li (hK (by omega)))
      · exact g_tabIn (pc := 32) (tgt := 1292) dL_law_32 (by omega) (by omega) (by omega) (by rw [e27]; rfl) (by decide) (law_27 hsx hL (by omega) li (hK (by omega)))
      · exact g_tabIn (pc := 32) (tgt := 1315) dL_law_32 (by omega) (by omega) (by omega) (by rw [e28]; rfl) (by decide) (law_28 hsx hL (by omega) li (hK (by omega)))
      · exact g_tabIn (pc := 32) (tgt := 1328) dL_law_32 (by omega) (by omega) (by omega) (by rw [e29]; rfl) (by decide) (law_29 hsx hL (by omega) li (hK (by omega)))
      · exact g_tabIn (pc := 32) (tgt := 1341) dL_law_32 (by omega) (by omega) (by omega) (by rw [e30]; rfl) (by decide) (law_30 hsx hL (by omega) li (hK (by omega)))
      · exact g_tabIn (pc := 32) (tgt := 1364) dL_law_32 (by omega) (by omega) (by omega) (by rw [e31]; rfl) (by decide) (law_31 hsx hL (by omega) li (hK (by omega)))
