/-! ===== rows for walks: places as Nat, calls that make nothing, ends ===== -/
theorem cpN : Cond.native arraycopyName ∈ tbg := tb2 227 rfl rfl
theorem cpS : Cond.static arraycopyName ∈ tbg := tb2 226 rfl rfl
theorem cpI : Cond.initialized "java/lang/System" ∈ tbg := tb1 17 rfl rfl
theorem cpX6_49 : Cond.methodLink RX6 49 arraycopyName ∈ tbg := tb2 225 rfl rfl
theorem cpX8_165 : Cond.methodLink RX8 165 arraycopyName ∈ tbg := tb3 40 rfl rfl
theorem cpX2_45 : Cond.methodLink RX2 45 arraycopyName ∈ tbg := tb3 216 rfl rfl
theorem cpX5_37 : Cond.methodLink RX5 37 arraycopyName ∈ tbg := tb4 11 rfl rfl
theorem cpX9_74 : Cond.methodLink RX9 74 arraycopyName ∈ tbg := tb4 45 rfl rfl
section MF
variable {μ : MI} {κ : KX} {pc : Nat} {lo : List (Nat × MV)} {st : List MV} {ρ : MR} {h : MH} {Q : Option MV → MR → MH → Prop}
theorem g_ialdN {a n j : Nat} {f : Nat → Int} {i : Int} (hd : decode μ.2.2.1 pc = .ok (.iaload, 1)) (hc : Hd ρ h a (eA 0 n f)) (hi : i = (j : Int)) (h1 : j < n) (hn : n ≤ 2147483647) (hk : G μ κ (pc + 1) lo (vI (f j) :: st) ρ h Q) : G μ κ pc lo (vI i :: vR a :: st) ρ h Q := by
  subst hi
  exact g_iald hd hc (Int.natCast_nonneg j) (Int.ofNat_lt.mpr h1) hn (by rw [Int.toNat_natCast]; exact hk)
theorem g_baldN {a n j : Nat} {f : Nat → Int} {i : Int} (hd : decode μ.2.2.1 pc = .ok (.baload, 1)) (hc : Hd ρ h a (eA 1 n f)) (hi : i = (j : Int)) (h1 : j < n) (hn : n ≤ 2147483647) (hk : G μ κ (pc + 1) lo (vI (f j) :: st) ρ h Q) : G μ κ pc lo (vI i :: vR a :: st) ρ h Q := by
  subst hi
  exact g_bald hd hc (Int.natCast_nonneg j) (Int.ofNat_lt.mpr h1) hn (by rw [Int.toNat_natCast]; exact hk)
theorem g_zaldN {a n j : Nat} {f : Nat → Int} {i : Int} (hd : decode μ.2.2.1 pc = .ok (.baload, 1)) (hc : Hd ρ h a (eA 2 n f)) (hi : i = (j : Int)) (h1 : j < n) (hn : n ≤ 2147483647) (hk : G μ κ (pc + 1) lo (vI (f j) :: st) ρ h Q) : G μ κ pc lo (vI i :: vR a :: st) ρ h Q := by
  subst hi
  exact g_zald hd hc (Int.natCast_nonneg j) (Int.ofNat_lt.mpr h1) hn (by rw [Int.toNat_natCast]; exact hk)
theorem g_laldN {a n j : Nat} {f : Nat → Int} {i : Int} (hd : decode μ.2.2.1 pc = .ok (.laload, 1)) (hc : Hd ρ h a (eA 3 n f)) (hi : i = (j : Int)) (h1 : j < n) (hn : n ≤ 2147483647) (hk : G μ κ (pc + 1) lo (vJ (f j) :: st) ρ h Q) : G μ κ pc lo (vI i :: vR a :: st) ρ h Q := by
  subst hi
  exact g_lald hd hc (Int.natCast_nonneg j) (Int.ofNat_lt.mpr h1) hn (by rw [Int.toNat_natCast]; exact hk)
theorem g_iastN {a n j : Nat} {f : Nat → Int} {i x : Int} (hd : decode μ.2.2.1 pc = .ok (.iastore, 1)) (hc : Hd ρ h a (eA 0 n f)) (hi : i = (j : Int)) (h1 : j < n) (hn : n ≤ 2147483647) (hk : G μ κ (pc + 1) lo st ρ (va_up h a (eA 0 n (va_up f j x))) Q) : G μ κ pc lo (vI x :: vI i :: vR a :: st) ρ h Q := by
  subst hi
  exact g_iast hd hc (Int.natCast_nonneg j) (Int.ofNat_lt.mpr h1) hn (by rw [Int.toNat_natCast]; exact hk)
theorem g_bastN {a n j : Nat} {f : Nat → Int} {i x : Int} (hd : decode μ.2.2.1 pc = .ok (.bastore, 1)) (hc : Hd ρ h a (eA 1 n f)) (hi : i = (j : Int)) (h1 : j < n) (hn : n ≤ 2147483647) (hk : G μ κ (pc + 1) lo st ρ (va_up h a (eA 1 n (va_up f j (Int32.ofInt x).toInt8.toInt32.toInt))) Q) : G μ κ pc lo (vI x :: vI i :: vR a :: st) ρ h Q := by
  subst hi
  exact g_bast hd hc (Int.natCast_nonneg j) (Int.ofNat_lt.mpr h1) hn (by rw [Int.toNat_natCast]; exact hk)
theorem g_zastN {a n j : Nat} {f : Nat → Int} {i x : Int} (hd : decode μ.2.2.1 pc = .ok (.bastore, 1)) (hc : Hd ρ h a (eA 2 n f)) (hi : i = (j : Int)) (h1 : j < n) (hn : n ≤ 2147483647) (hx : x = 0 ∨ x = 1) (hk : G μ κ (pc + 1) lo st ρ (va_up h a (eA 2 n (va_up f j x))) Q) : G μ κ pc lo (vI x :: vI i :: vR a :: st) ρ h Q := by
  subst hi
  exact g_zast hd hc (Int.natCast_nonneg j) (Int.ofNat_lt.mpr h1) hn hx (by rw [Int.toNat_natCast]; exact hk)
theorem g_lastN {a n j : Nat} {f : Nat → Int} {i x : Int} (hd : decode μ.2.2.1 pc = .ok (.lastore, 1)) (hc : Hd ρ h a (eA 3 n f)) (hi : i = (j : Int)) (h1 : j < n) (hn : n ≤ 2147483647) (hk : G μ κ (pc + 1) lo st ρ (va_up h a (eA 3 n (va_up f j x))) Q) : G μ κ pc lo (vJ x :: vI i :: vR a :: st) ρ h Q := by
  subst hi
  exact g_last hd hc (Int.natCast_nonneg j) (Int.ofNat_lt.mpr h1) hn (by rw [Int.toNat_natCast]; exact hk)
theorem g_aaldN {a n kq j : Nat} {f : Nat → Option Nat} {i : Int} (hd : decode μ.2.2.1 pc = .ok (.aaload, 1)) (hc : Hd ρ h a (eQ kq n f)) (hq : kq = 4 ∨ kq = 5 ∨ kq = 6) (hi : i = (j : Int)) (h1 : j < n) (hn : n ≤ 2147483647) (hk : G μ κ (pc + 1) lo (vO (f j) :: st) ρ h Q) : G μ κ pc lo (vI i :: vR a :: st) ρ h Q := by
  subst hi
  exact g_aald hd hc hq (Int.natCast_nonneg j) (Int.ofNat_lt.mpr h1) hn (by rw [Int.toNat_natCast]; exact hk)
theorem g_aastN {a b n kq j : Nat} {f : Nat → Option Nat} {i : Int} (hd : decode μ.2.2.1 pc = .ok (.aastore, 1)) (hc : Hd ρ h a (eQ kq n f)) (hq : okq ρ h kq b) (hi : i = (j : Int)) (h1 : j < n) (hn : n ≤ 2147483647) (hk : G μ κ (pc + 1) lo st ρ (va_up h a (eQ kq n (va_up f j (some b)))) Q) : G μ κ pc lo (vR b :: vI i :: vR a :: st) ρ h Q := by
  subst hi
  exact g_aast hd hc hq (Int.natCast_nonneg j) (Int.ofNat_lt.mpr h1) hn (by rw [Int.toNat_natCast]; exact hk)
theorem g_callV0 {μ' : MI} {d ix b ci : Nat} {as : List MV} {fs : List MV} {Q' : Option MV → MH → Prop} (hL : mlV μ.1 ix μ' ci as.length) (hd : decode μ.2.2.1 pc = .ok (.invokevirtual ix, 3)) (hb : Hd ρ h b (eO ci fs)) (hst : (st.map mcat).sum ≤ 8) (hR : d + 1 ≤ κ.1) (hc : ρ.1 ≤ κ.2.1) (hs : ρ.2.1 ≤ κ.2.2.1)
    (hM : Ok μ' d 0 0 (vR b :: as) ρ.2.2 h Q') (hk : ∀ r h', Q' r h' → G μ κ (pc + 3) lo (r.toList ++ st) ρ h' Q) : G μ κ pc lo (as.reverse ++ vR b :: st) ρ h Q := g_callV hL hd hb hst hR hc hs hM hk
theorem g_callS0 {μ' : MI} {d ix : Nat} {as : List MV} {Q' : Option MV → MH → Prop} (hL : mlS μ.1 ix μ' as.length) (hd : decode μ.2.2.1 pc = .ok (.invokestatic ix, 3)) (hst : (st.map mcat).sum ≤ 8) (hR : d + 1 ≤ κ.1) (hc : ρ.1 ≤ κ.2.1) (hs : ρ.2.1 ≤ κ.2.2.1)
    (hM : Ok μ' d 0 0 as ρ.2.2 h Q') (hk : ∀ r h', Q' r h' → G μ κ (pc + 3) lo (r.toList ++ st) ρ h' Q) : G μ κ pc lo (as.reverse ++ st) ρ h Q := g_callS hL hd hst hR hc hs hM hk
theorem r_int {mc ms : Nat} {P : Option MV → MH → Prop} {x : Int} (hd : decode μ.2.2.1 pc = .ok (.ireturn, 1)) (ht : μ.2.2.2.2 = some .int) (h1 : ρ.1 = mc) (h2 : ρ.2.1 ≤ ms) (hq : P (some (vI x)) h) : G μ κ pc lo [vI x] ρ h (Pq μ mc ms P) := g_iret hd ⟨h1, h2, Or.inl ht, hq⟩
theorem r_bool {mc ms : Nat} {P : Option MV → MH → Prop} {x : Int} (hd : decode μ.2.2.1 pc = .ok (.ireturn, 1)) (ht : μ.2.2.2.2 = some .boolean) (h1 : ρ.1 = mc) (h2 : ρ.2.1 ≤ ms) (hx : x = 0 ∨ x = 1) (hq : P (some (vI x)) h) : G μ κ pc lo [vI x] ρ h (Pq μ mc ms P) := g_iret hd ⟨h1, h2, Or.inr ⟨ht, hx⟩, hq⟩
theorem r_long {mc ms : Nat} {P : Option MV → MH → Prop} {x : Int} (hd : decode μ.2.2.1 pc = .ok (.lreturn, 1)) (ht : μ.2.2.2.2 = some .long) (h1 : ρ.1 = mc) (h2 : ρ.2.1 ≤ ms) (hq : P (some (vJ x)) h) : G μ κ pc lo [vJ x] ρ h (Pq μ mc ms P) := g_lret hd ⟨h1, h2, ht, hq⟩
theorem r_void {mc ms : Nat} {P : Option MV → MH → Prop} (hd : decode μ.2.2.1 pc = .ok (.return_, 1)) (ht : μ.2.2.2.2 = none) (h1 : ρ.1 = mc) (h2 : ρ.2.1 ≤ ms) (hq : P none h) : G μ κ pc lo [] ρ h (Pq μ mc ms P) := g_vret hd ⟨h1, h2, ht, hq⟩
theorem r_ref {mc ms : Nat} {P : Option MV → MH → Prop} {o : Option Nat} {t : FieldType} (hd : decode μ.2.2.1 pc = .ok (.areturn, 1)) (ht : μ.2.2.2.2 = some t) (hto : (∃ n, t = .object n) ∨ ∃ u, t = .array u) (h1 : ρ.1 = mc) (h2 : ρ.2.1 ≤ ms) (hq : P (some (vO o)) h) : G μ κ pc lo [vO o] ρ h (Pq μ mc ms P) := g_aret hd ⟨h1, h2, ⟨t, ht, hto⟩, hq⟩
theorem Ok.mono {d mc ms N : Nat} {as : List MV} {P P' : Option MV → MH → Prop} (hM : Ok μ d mc ms as N h P) (hq : ∀ r h', P r h' → P' r h') : Ok μ d mc ms as N h P' := by
  intro l D tc g Ls sx
  have K := hM l D tc g Ls sx
  intro p e ha hc hk s m args below hf hfit hP hT
  obtain ⟨k, o, h1, h2, h3, ⟨r, h', e1, e2, e3⟩, e4⟩ := K p e ha hc hk s m args below hf hfit hP hT
  exact ⟨k, o, h1, h2, h3, ⟨r, h', e1, hq _ _ e2, e3⟩, e4⟩
theorem g_pick {lo2 : List (Nat × MV)} (ks : List Nat) (e2 : ks.filterMap (fun k => lo[k]?) = lo2) (hk : G μ κ pc lo2 st ρ h Q) : G μ κ pc lo st ρ h Q := by
  intro p l e R s m args below meth c D tc g Zf F E ls H locs hl hW hS
  refine hk p l e R s m args below meth c D tc g Zf F E ls H locs ⟨hl.1, hl.2.1, fun q hq => ?_⟩ hW hS
  obtain ⟨a, ha, rfl⟩ := List.mem_map.mp hq
  rw [← e2] at ha
  obtain ⟨k, -, hk2⟩ := List.mem_filterMap.mp ha
  exact hl.2.2 _ (List.mem_map.mpr ⟨a, List.mem_of_getElem? hk2, rfl⟩)
theorem cpy_of (f f2 : Nat → Int) (sp dp n : Nat) : va_cpy (fun j => Int32.ofInt (f j)) (fun j => Int32.ofInt (f2 j)) sp dp n = fun j => Int32.ofInt (va_cpy f f2 sp dp n j) := by
  funext j
  unfold va_cpy
  split <;> rfl
/-- System.arraycopy of ints -/
theorem g_copy {a0 a n0 n1 ix sp dp n : Nat} {f f2 : Nat → Int} {xs xd xn : Int} (hL : Cond.methodLink μ.1 ix arraycopyName ∈ tbg) (hd : decode μ.2.2.1 pc = .ok (.invokestatic ix, 3)) (hc0 : Hd ρ h a0 (eA 0 n0 f)) (hc1 : Hd ρ h a (eA 0 n1 f2)) (es : xs = (sp : Int)) (ed : xd = (dp : Int)) (en : xn = (n : Int)) (h4 : sp + n ≤ n0) (h5 : dp + n ≤ n1) (hn0 : n0 ≤ 2147483647) (hn1 : n1 ≤ 2147483647) (hR : 1 ≤ κ.1) (hst : (st.map mcat).sum ≤ 8)
    (hk : G μ κ (pc + 3) lo st ρ (va_up h a (eA 0 n1 (va_cpy f f2 sp dp n))) Q) : G μ κ pc lo (vI xn :: vI xd :: vR a :: vI xs :: vR a0 :: st) ρ h Q := by
  subst es
  subst ed
  subst en
  intro p l e R s m args below meth c D tc g Zf F E ls H locs hl hW hS
  have hts := F.2.2.2.2.1
  have hK := F.2.2.2.2.2.2.2.2.1
  obtain ⟨r1, r2, r3, r4⟩ := F.2.2.2.2.2.2.2.2.2.1
  have ha0 : (mws tc g ρ.2.2 h)[a0]? = some (g.1 + a0, rE tc g (eA 0 n0 f)) := by rw [mws_get hc0.1, hc0.2]
  have ha1 : (mws tc g ρ.2.2 h)[a]? = some (g.1 + a, rE tc g (eA 0 n1 f2)) := by rw [mws_get hc1.1, hc1.2]
  have nn : ∀ z : Nat, z ≤ 2147483647 → ¬ Int32.ofInt (z : Int) < 0 ∧ (Int32.ofInt (z : Int)).toNatClampNeg = z := fun z hz => by
    refine ⟨?_, ?_⟩
    · rw [show (0 : Int32) = Int32.ofInt 0 from rfl, i32_lt ⟨by omega, by omega⟩ ⟨by decide, by decide⟩]
      omega
    · rw [i32_clamp (by omega) (by omega), Int.toNat_natCast]
  obtain ⟨s1, s2⟩ := nn sp (by omega)
  obtain ⟨d1, d2⟩ := nn dp (by omega)
  obtain ⟨k1, k2⟩ := nn n (by omega)
  refine va_copyi F.1 F.2.1 (F.2.2.1.trans hl.1.symm) F.2.2.2.1 (hts _ hL) (hts _ cpN) (hts _ cpS) (hts _ cpI) hK hW.2 mws_D hS.1 a0 a 0 0 (ty := .int) ha0 ha1 rfl rfl rfl s1 d1 k1 (by rw [s2, k2]; exact h4) (by rw [d2, k2]; exact h5) (fun i _ => rfl) (by omega) ?_ hd (fun H1 locs1 hP1 _ hS1 => ?_)
  · rw [mcat_sum]
    show _ + (nativeFrameWords "java/lang/System" "arraycopy" 5 + 11) ≤ _
    have : nativeFrameWords "java/lang/System" "arraycopy" 5 = 7 := by decide +kernel
    omega
  · rw [s2, d2, k2, cpy_of] at hP1
    refine W_size (fun hz => ?_)
    have hP2 : va_P D mcl ((mws tc g ρ.2.2 h).set a (g.1 + a, rE tc g (eA 0 n1 (va_cpy f f2 sp dp n)))) H1 := hP1
    rw [mws_set hc1.1] at hP2
    have hlast := (hP2 (ρ.2.2 - 1) _ (mws_get (by have := hc1.1; omega))).lt
    dsimp only at hlast
    have h9 := hS.2
    have h8 := hc1.1
    exact hk p l e R s m args below meth c D tc g Zf F E ls H1 locs1 hl ⟨by omega, hP2⟩ ⟨hS1, hS.2⟩
end MF
