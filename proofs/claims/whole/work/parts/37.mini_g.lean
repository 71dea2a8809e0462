/-! ===== rows for walks: places as Nat, calls that make nothing, ends ===== -/
section MF
variable {μ : MI} {κ : KX} {pc : Nat} {lo : List (Nat × MV)} {st : List MV} {ρ : MR} {h : MH} {Q : Option MV → MR → MH → Prop}
theorem g_ialdN {a n j : Nat} {f : Nat → Int} {i : Int} (hd : decode μ.2.2.1 pc = .ok (.iaload, 1)) (hc : Hd ρ h a (eA 0 n f)) (hi : i = (j : Int)) (h1 : j < n) (hn : n ≤ 2147483647) (hk : G μ κ (pc + 1) lo (vI (f j) :: st) ρ h Q) : G μ κ pc lo (vI i :: vR a :: st) ρ h Q := by
  subst hi
  exact g_iald hd hc (Int.natCast_nonneg j) (Int.ofNat_lt.mpr h1) hn (by rw [Int.toNat_natCast]; exact hk)
theorem g_baldN {a n j : Nat} {f : Nat → Int} {i : Int} (hd : decode μ.2.2.1 pc = .ok (.baload, 1)) (hc : Hd ρ h a (eA 1 n f)) (hi : i = (j : Int)) (h1 : j < n) (hn : n ≤ 2147483647) (hk : G μ κ (pc + 1) lo (vI (f j) :: st) ρ h Q) : G μ κ pc lo (vI i :: vR a :: st) ρ h Q := by
  subst hi
  exact g_bald hd hc (Int.natCast_nonneg j) (Int.ofNat_lt.mpr h1) hn (by rw [Int.toNat_natCast]; exact hk)
theorem g_zaldN {a n j : Nat} {f : Nat → Int} {i : Int} (hd : decode μ.2.2.1 pc = .ok (.baload, 1)) (hc : Hd ρ h a (eA 2 n f)) (hi : i = (j : Int)) (h1 : j < n) (hn : n ≤ 2147483647) (hk : G μ κ (pc + 1) lo (vI (f j) :: st) ρ h Q) : G μ κ pc lo (vI i :: vR a :: st) ρ h Q := by
  subst hi
  exact g_zald hd hc (Int.natCast_nonneg j) (Int.ofNat_lt.mpr h1) hn (by rw [Int.toNat_natCast]; exact hk)
theorem g_laldN {a n j : Nat} {f : Nat → Int} {i : Int} (hd : decode μ.2.2.1 pc = .ok (.laload, 1)) (hc : Hd ρ h a (eA 3 n f)) (hi : i = (j : Int)) (h1 : j < n) (hn : n ≤ 2147483647) (hk : G μ κ (pc + 1) lo (vJ (f j) :: st) ρ h Q) : G μ κ pc lo (vI i :: vR a :: st) ρ h Q := by
  subst hi
  exact g_lald hd hc (Int.natCast_nonneg j) (Int.ofNat_lt.mpr h1) hn (by rw [Int.toNat_natCast]; exact hk)
theorem g_iastN {a n j : Nat} {f : Nat → Int} {i x : Int} (hd : decode μ.2.2.1 pc = .ok (.iastore, 1)) (hc : Hd ρ h a (eA 0 n f)) (hi : i = (j : Int)) (h1 : j < n) (hn : n ≤ 2147483647) (hk : G μ κ (pc + 1) lo st ρ (va_up h a (eA 0 n (va_up f j x))) Q) : G μ κ pc lo (vI x :: vI i :: vR a :: st) ρ h Q := by
  subst hi
  exact g_iast hd hc (Int.natCast_nonneg j) (Int.ofNat_lt.mpr h1) hn (by rw [Int.toNat_natCast]; exact hk)
theorem g_bastN {a n j : Nat} {f : Nat → Int} {i x : Int} (hd : decode μ.2.2.1 pc = .ok (.bastore, 1)) (hc : Hd ρ h a (eA 1 n f)) (hi : i = (j : Int)) (h1 : j < n) (hn : n ≤ 2147483647) (hk : G μ κ (pc + 1) lo st ρ (va_up h a (eA 1 n (va_up f j (Int32.ofInt x).toInt8.toInt32.toInt))) Q) : G μ κ pc lo (vI x :: vI i :: vR a :: st) ρ h Q := by
  subst hi
  exact g_bast hd hc (Int.natCast_nonneg j) (Int.ofNat_lt.mpr h1) hn (by rw [Int.toNat_natCast]; exact hk)
theorem g_zastN {a n j : Nat} {f : Nat → Int} {i x : Int} (hd : decode μ.2.2.1 pc = .ok (.bastore, 1)) (hc : Hd ρ h a (eA 2 n f)) (hi : i = (j : Int)) (h1 : j < n) (hn : n ≤ 2147483647) (hx : x = 0 ∨ x = 1) (hk : G μ κ (pc + 1) lo st ρ (va_up h a (eA 2 n (va_up f j x))) Q) : G μ κ pc lo (vI x :: vI i :: vR a :: st) ρ h Q := by
  subst hi
  exact g_zast hd hc (Int.natCast_nonneg j) (Int.ofNat_lt.mpr h1) hn hx (by rw [Int.toNat_natCast]; exact hk)
theorem g_lastN {a n j : Nat} {f : Nat → Int} {i x : Int} (hd : decode μ.2.2.1 pc = .ok (.lastore, 1)) (hc : Hd ρ h a (eA 3 n f)) (hi : i = (j : Int)) (h1 : j < n) (hn : n ≤ 2147483647) (hk : G μ κ (pc + 1) lo st ρ (va_up h a (eA 3 n (va_up f j x))) Q) : G μ κ pc lo (vJ x :: vI i :: vR a :: st) ρ h Q := by
  subst hi
  exact g_last hd hc (Int.natCast_nonneg j) (Int.ofNat_lt.mpr h1) hn (by rw [Int.toNat_natCast]; exact hk)
theorem g_aaldN {a n kq j : Nat} {f : Nat → Option Nat} {i : Int} (hd : decode μ.2.2.1 pc = .ok (.aaload, 1)) (hc : Hd ρ h a (eQ kq n f)) (hq : kq = 4 ∨ kq = 5 ∨ kq = 6) (hi : i = (j : Int)) (h1 : j < n) (hn : n ≤ 2147483647) (hk : G μ κ (pc + 1) lo (vO (f j) :: st) ρ h Q) : G μ κ pc lo (vI i :: vR a :: st) ρ h Q := by
  subst hi
  exact g_aald hd hc hq (Int.natCast_nonneg j) (Int.ofNat_lt.mpr h1) hn (by rw [Int.toNat_natCast]; exact hk)
theorem g_aastN {a b n kq j : Nat} {f : Nat → Option Nat} {i : Int} (hd : decode μ.2.2.1 pc = .ok (.aastore, 1)) (hc : Hd ρ h a (eQ kq n f)) (hq : okq ρ h kq b) (hi : i = (j : Int)) (h1 : j < n) (hn : n ≤ 2147483647) (hk : G μ κ (pc + 1) lo st ρ (va_up h a (eQ kq n (va_up f j (some b)))) Q) : G μ κ pc lo (vR b :: vI i :: vR a :: st) ρ h Q := by
  subst hi
  exact g_aast hd hc hq (Int.natCast_nonneg j) (Int.ofNat_lt.mpr h1) hn (by rw [Int.toNat_natCast]; exact hk)
theorem g_callV0 {μ' : MI} {d ix b ci : Nat} {as : List MV} {fs : List MV} {Q' : Option MV → MH → Prop} (hL : mlV μ.1 ix μ' ci as.length) (hd : decode μ.2.2.1 pc = .ok (.invokevirtual ix, 3)) (hb : Hd ρ h b (eO ci fs)) (hst : (st.map mcat).sum ≤ 8) (hR : d + 1 ≤ κ.1) (hc : ρ.1 ≤ κ.2.1) (hs : ρ.2.1 ≤ κ.2.2.1)
    (hM : Ok μ' d 0 0 (vR b :: as) ρ.2.2 h Q') (hk : ∀ r h', Q' r h' → G μ κ (pc + 3) lo (r.toList ++ st) ρ h' Q) : G μ κ pc lo (as.reverse ++ vR b :: st) ρ h Q := g_callV hL hd hb hst hR hc hs hM hk
theorem g_callS0 {μ' : MI} {d ix : Nat} {as : List MV} {Q' : Option MV → MH → Prop} (hL : mlS μ.1 ix μ' as.length) (hd : decode μ.2.2.1 pc = .ok (.invokestatic ix, 3)) (hst : (st.map mcat).sum ≤ 8) (hR : d + 1 ≤ κ.1) (hc : ρ.1 ≤ κ.2.1) (hs : ρ.2.1 ≤ κ.2.2.1)
    (hM : Ok μ' d 0 0 as ρ.2.2 h Q') (hk : ∀ r h', Q' r h' → G μ κ (pc + 3) lo (r.toList ++ st) ρ h' Q) : G μ κ pc lo (as.reverse ++ st) ρ h Q := g_callS hL hd hst hR hc hs hM hk
theorem r_int {mc ms : Nat} {P : Option MV → MH → Prop} {x : Int} (hd : decode μ.2.2.1 pc = .ok (.ireturn, 1)) (ht : μ.2.2.2.2 = some .int) (h1 : ρ.1 = mc) (h2 : ρ.2.1 ≤ ms) (hq : P (some (vI x)) h) : G μ κ pc lo [vI x] ρ h (Pq μ mc ms P) := g_iret hd ⟨h1, h2, Or.inl ht, hq⟩
theorem r_bool {mc ms : Nat} {P : Option MV → MH → Prop} {x : Int} (hd : decode μ.2.2.1 pc = .ok (.ireturn, 1)) (ht : μ.2.2.2.2 = some .boolean) (h1 : ρ.1 = mc) (h2 : ρ.2.1 ≤ ms) (hx : x = 0 ∨ x = 1) (hq : P (some (vI x)) h) : G μ κ pc lo [vI x] ρ h (Pq μ mc ms P) := g_iret hd ⟨h1, h2, Or.inr ⟨ht, hx⟩, hq⟩
theorem r_long {mc ms : Nat} {P : Option MV → MH → Prop} {x : Int} (hd : decode μ.2.2.1 pc = .ok (.lreturn, 1)) (ht : μ.2.2.2.2 = some .long) (h1 : ρ.1 = mc) (h2 : ρ.2.1 ≤ ms) (hq : P (some (vJ x)) h) : G μ κ pc lo [vJ x] ρ h (Pq μ mc ms P) := g_lret hd ⟨h1, h2, ht, hq⟩
theorem r_void {mc ms : Nat} {P : Option MV → MH → Prop} (hd : decode μ.2.2.1 pc = .ok (.return_, 1)) (ht : μ.2.2.2.2 = none) (h1 : ρ.1 = mc) (h2 : ρ.2.1 ≤ ms) (hq : P none h) : G μ κ pc lo [] ρ h (Pq μ mc ms P) := g_vret hd ⟨h1, h2, ht, hq⟩
theorem r_ref {mc ms : Nat} {P : Option MV → MH → Prop} {o : Option Nat} {t : FieldType} (hd : decode μ.2.2.1 pc = .ok (.areturn, 1)) (ht : μ.2.2.2.2 = some t) (hto : (∃ n, t = .object n) ∨ ∃ u, t = .array u) (h1 : ρ.1 = mc) (h2 : ρ.2.1 ≤ ms) (hq : P (some (vO o)) h) : G μ κ pc lo [vO o] ρ h (Pq μ mc ms P) := g_aret hd ⟨h1, h2, ⟨t, ht, hto⟩, hq⟩
theorem Ok.mono {d mc ms N : Nat} {as : List MV} {P P' : Option MV → MH → Prop} (hM : Ok μ d mc ms as N h P) (hq : ∀ r h', P r h' → P' r h') : Ok μ d mc ms as N h P' := by
  intro l D tc g Ls sx
  have K := hM l D tc g Ls sx
  intro p e ha hc hk s m args below hf hfit hP hT
  obtain ⟨k, o, h1, h2, h3, ⟨r, h', e1, e2, e3⟩, e4⟩ := K p e ha hc hk s m args below hf hfit hP hT
  exact ⟨k, o, h1, h2, h3, ⟨r, h', e1, hq _ _ e2, e3⟩, e4⟩
end MF
