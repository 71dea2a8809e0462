/-! ===== Told: findNumbers ===== -/
def F0s (s : Nat → Int) (r k : Nat) : Int := s (r + k)
/-- number k of the least rule -/
def numS (p ct L : Nat) (s : Nat → Int) (k : Nat) : Int := nmb L (gj p (ct - L) (F0s s) L).1 (gj p (ct - L) (F0s s) L).2.2 (L - k)
theorem elm_congr {p m l u c q : Nat} {F G : Nat → Nat → Int} {w : Int} (hq : u ≤ q) (hqm : q < m) (hc : c ≤ l) (h : ∀ r k, r < m → k ≤ l → F r k = G r k) {r k : Nat} (hr : r < m) (hk : k ≤ l) : elm p F u c q w r k = elm p G u c q w r k := by
  unfold elm
  rw [h q k hqm hk, h _ k (tsp_ge hq hqm hr).2.1 hk, h _ c (tsp_ge hq hqm hr).2.1 hc]

theorem fnn_1 {N d q ct L p m Ls : Nat} {pg pw : Int} {sx s : Nat → Int} {g : Nat → Nat} {Rs : Nat → Int} {h0 : MH} {Q : Option MV → MR → MH → Prop} (hp : prm p) (hp2 : p ≤ 499) (hm : m + L = ct) (hct : ct ≤ 64) (hs : ∀ n, n < ct → 0 ≤ s n ∧ s n < p) (hq0 : Hd (0, 0, N) h0 q (told9 q (ct : Int) (L : Int) (p : Int) pg pw 1)) (hRs0 : Hd (0, 0, N) h0 (q + 2) (eA 0 64 Rs)) (eR : ∀ n, n < ct → Rs n = s n) (hK : ∀ (F : Nat → Nat → Int) (h : MH), TGr N h q g F → (∀ j k, j < m → k ≤ L → F j k = s (j + k)) → (∀ a, (a < q + 8 ∨ q + 72 ≤ a) → h a = h0 a) → G mX9_findNumbers (d + 4, 0, 0, Ls, sx) 55 [(0, vR q)] [] (0, 0, N) h Q) : ∀ (f r : Nat) (xr : Int) (F : Nat → Nat → Int) (h : MH), r + f = m → xr = (r : Int) → TGr N h q g F → (∀ j k, j < r → k ≤ L → F j k = s (j + k)) → (∀ a, (a < q + 8 ∨ q + 72 ≤ a) → h a = h0 a) → G mX9_findNumbers (d + 4, 0, 0, Ls, sx) 15 [(0, vR q), (1, vI xr)] [] (0, 0, N) h Q := by
  intro f
  induction f with
  | zero =>
    intro r xr F h hf ex tg f1 hk
    have hq := hq0.keep (hk q (by omega))
    have hRs := hRs0.keep (hk (q + 2) (by omega))
    refine g_iload_n (pc := 15) (x := xr) dX9_findNumbers_15 rfl ?_
    refine g_aload_n (pc := 16) (r := .inl (some q)) dX9_findNumbers_16 rfl ?_
    refine g_getf (pc := 17) (v := vI (L : Int)) flX9_46 dX9_findNumbers_17 hq rfl ?_
    refine g_iadd (pc := 20) dX9_findNumbers_20 ?_
    refine g_aload_n (pc := 21) (r := .inl (some q)) dX9_findNumbers_21 rfl ?_
    refine g_getf (pc := 22) (v := vI (ct : Int)) flX9_43 dX9_findNumbers_22 hq rfl ?_
    refine g_icmp_geT (pc := 25) (tgt := 55) dX9_findNumbers_25 (by decide) (by omega) (by omega) (by omega) ?_
    refine g_pick [0] (lo2 := [(0, vR q)]) rfl ?_
    exact hK F h tg (fun j k z1 z2 => f1 j k (by omega) z2) hk
  | succ f ih =>
    intro r xr F h hf ex tg f1 hk
    have hq := hq0.keep (hk q (by omega))
    have hRs := hRs0.keep (hk (q + 2) (by omega))
    subst ex
    have gr := tg.2.2.1 r (by omega)
    refine g_iload_n (pc := 15) (x := (r : Int)) dX9_findNumbers_15 rfl ?_
    refine g_aload_n (pc := 16) (r := .inl (some q)) dX9_findNumbers_16 rfl ?_
    refine g_getf (pc := 17) (v := vI (L : Int)) flX9_46 dX9_findNumbers_17 hq rfl ?_
    refine g_iadd (pc := 20) dX9_findNumbers_20 ?_
    refine g_aload_n (pc := 21) (r := .inl (some q)) dX9_findNumbers_21 rfl ?_
    refine g_getf (pc := 22) (v := vI (ct : Int)) flX9_43 dX9_findNumbers_22 hq rfl ?_
    refine g_icmp_geF (pc := 25) (tgt := 55) dX9_findNumbers_25 (by decide) (by omega) (by omega) (by omega) ?_
    refine g_aload_n (pc := 28) (r := .inl (some q)) dX9_findNumbers_28 rfl ?_
    refine g_getf (pc := 29) (v := vR (q + 2)) flX9_15 dX9_findNumbers_29 hq rfl ?_
    refine g_iload_n (pc := 32) (x := (r : Int)) dX9_findNumbers_32 rfl ?_
    refine g_aload_n (pc := 33) (r := .inl (some q)) dX9_findNumbers_33 rfl ?_
    refine g_getf (pc := 34) (v := vR (q + 7)) flX9_32 dX9_findNumbers_34 hq rfl ?_
    refine g_iload_n (pc := 37) (x := (r : Int)) dX9_findNumbers_37 rfl ?_
    refine g_aaldN (pc := 38) (j := r) dX9_findNumbers_38 tg.1 (by decide) (by omega) (by omega) (by omega) ?_
    rw [tqF_at (b := q + 8) (g := g) (i := r) (by omega)]
    refine g_iconst (pc := 39) dX9_findNumbers_39 ?_
    refine g_aload_n (pc := 40) (r := .inl (some q)) dX9_findNumbers_40 rfl ?_
    refine g_getf (pc := 41) (v := vI (L : Int)) flX9_46 dX9_findNumbers_41 hq rfl ?_
    refine g_iconst (pc := 44) dX9_findNumbers_44 ?_
    refine g_iadd (pc := 45) dX9_findNumbers_45 ?_
    refine g_copy (pc := 46) (st := []) (sp := r) (dp := 0) (n := L + 1) cpX9_74 dX9_findNumbers_46 hRs (tg.2.1 r (by omega)) (by omega) (by omega) (by omega) (by omega) (by omega) (by omega) (by omega) (by omega) (Nat.le_of_ble_eq_true rfl) ?_
    have hRs_1 := hRs.ne (e := eA 0 65 (va_cpy Rs (F r) r 0 (L + 1))) (a := q + 8 + g r) (by omega)
    have hrow_1 := (tg.2.1 r (by omega)).self (e := eA 0 65 (va_cpy Rs (F r) r 0 (L + 1)))
    refine g_iinc (pc := 49) (x := (r : Int)) (lo2 := [(0, vR q), (1, vI ((r : Int) + 1))]) dX9_findNumbers_49 rfl (by decide) rfl ?_
    refine g_goto (pc := 52) (tgt := 15) dX9_findNumbers_52 (by decide) ?_
    have he1 := tg.set (show r < 64 by omega) (va_cpy Rs (F r) r 0 (L + 1))
    refine ih (r + 1) _ _ _ (by omega) (by omega) he1 (fun j k z1 z2 => ?_) (fun a z1 => (va_up_ne _ _ (by omega)).trans (hk a z1))
    by_cases ej : j = r
    · rw [ej, va_up_self]
      show (if 0 ≤ k ∧ k < 0 + (L + 1) then Rs (r + (k - 0)) else F r k) = _
      rw [if_pos ⟨Nat.zero_le k, by omega⟩, Nat.sub_zero]
      exact eR _ (by omega)
    · rw [va_up_ne _ _ ej]
      exact f1 j k (by omega) z2

theorem fnn_2 {N d q ct L p m Ls : Nat} {pg pw : Int} {sx s : Nat → Int} {h0 : MH} {Q : Option MV → MR → MH → Prop} (hp : prm p) (hp2 : p ≤ 499) (hm : m + L = ct) (hct : ct ≤ 64) (hs : ∀ n, n < ct → 0 ≤ s n ∧ s n < p) (hq0 : Hd (0, 0, N) h0 q (told9 q (ct : Int) (L : Int) (p : Int) pg pw 1)) (hK : ∀ (F : Nat → Nat → Int) (Pv : Nat → Int) (g : Nat → Nat) (h : MH), Hd (0, 0, N) h (q + 6) (eA 0 64 Pv) → TGr N h q g F → (∀ r k, r < m → k ≤ L → F r k = (gj p m (F0s s) L).1 r k) → (∀ j, j < L → Pv j = (gj p m (F0s s) L).2.2 j) → (∀ a, (a < q + 6 ∨ q + 72 ≤ a) → h a = h0 a) → G mX9_findNumbers (d + 4, 0, 0, Ls, sx) 122 [(0, vR q)] [] (0, 0, N) h Q) : ∀ (f c u : Nat) (xc xu : Int) (F : Nat → Nat → Int) (Pv : Nat → Int) (g : Nat → Nat) (h : MH), c + f = L → xc = (c : Int) → xu = (u : Int) → u = (gj p m (F0s s) c).2.1 → Hd (0, 0, N) h (q + 6) (eA 0 64 Pv) → TGr N h q g F → (∀ r k, r < m → k ≤ L → F r k = (gj p m (F0s s) c).1 r k) → (∀ j, j < c → Pv j = (gj p m (F0s s) c).2.2 j) → (∀ a, (a < q + 6 ∨ q + 72 ≤ a) → h a = h0 a) → G mX9_findNumbers (d + 4, 0, 0, Ls, sx) 59 [(0, vR q), (1, vI xu), (2, vI xc)] [] (0, 0, N) h Q := by
  intro f
  induction f with
  | zero =>
    intro c u xc xu F Pv g h hf ex exu eu hPv tg f1 f2 hk
    have hq := hq0.keep (hk q (by omega))
    refine g_iload_n (pc := 59) (x := xc) dX9_findNumbers_59 rfl ?_
    refine g_aload_n (pc := 60) (r := .inl (some q)) dX9_findNumbers_60 rfl ?_
    refine g_getf (pc := 61) (v := vI (L : Int)) flX9_46 dX9_findNumbers_61 hq rfl ?_
    refine g_icmp_geT (pc := 64) (tgt := 122) dX9_findNumbers_64 (by decide) (by omega) (by omega) (by omega) ?_
    refine g_pick [0] (lo2 := [(0, vR q)]) rfl ?_
    have ec : c = L := by omega
    subst ec
    exact hK F Pv g h hPv tg f1 f2 hk
  | succ f ih =>
    intro c u xc xu F Pv g h hf ex exu eu hPv tg f1 f2 hk
    have hq := hq0.keep (hk q (by omega))
    subst ex
    subst exu
    obtain ⟨gi, -⟩ := gj_all (F0 := F0s s) (m := m) (l := L) hp (fun r k z1 z2 => hs (r + k) (by omega)) c (by omega)
    rw [← eu] at gi
    obtain ⟨⟨i1, i2⟩, i3, i4, i5, i6, i7⟩ := id gi
    have hF : ∀ r k, r < m → k ≤ L → 0 ≤ F r k ∧ F r k < p := fun r k z1 z2 => by rw [f1 r k z1 z2]; exact i3 r k z1 z2
    refine g_iload_n (pc := 59) (x := (c : Int)) dX9_findNumbers_59 rfl ?_
    refine g_aload_n (pc := 60) (r := .inl (some q)) dX9_findNumbers_60 rfl ?_
    refine g_getf (pc := 61) (v := vI (L : Int)) flX9_46 dX9_findNumbers_61 hq rfl ?_
    refine g_icmp_geF (pc := 64) (tgt := 122) dX9_findNumbers_64 (by decide) (by omega) (by omega) (by omega) ?_
    refine g_aload_n (pc := 67) (r := .inl (some q)) dX9_findNumbers_67 rfl ?_
    refine g_getf (pc := 68) (v := vR (q + 6)) flX9_27 dX9_findNumbers_68 hq rfl ?_
    refine g_iload_n (pc := 71) (x := (c : Int)) dX9_findNumbers_71 rfl ?_
    refine g_aload_n (pc := 72) (r := .inl (some q)) dX9_findNumbers_72 rfl ?_
    refine g_iload_n (pc := 73) (x := (u : Int)) dX9_findNumbers_73 rfl ?_
    refine g_iload_n (pc := 74) (x := (c : Int)) dX9_findNumbers_74 rfl ?_
    refine g_callV0 (pc := 75) (as := [vI (u : Int), vI (c : Int)]) (b := q) (st := [vI (c : Int), vR (q + 6)]) lvX9_84 dX9_findNumbers_75 hq (Nat.le_of_ble_eq_true rfl) (by omega) (Nat.zero_le _) (Nat.zero_le _) (c_findRow (d := d + 3) i1 hp hp2 hm hct (show c < L by omega) hF hq tg) ?_
    rintro r9 h1 ⟨e9, e8⟩
    subst e9
    rcases e8 with ⟨e8, hz⟩ | ⟨v, e8, v1, v2, v3, v4⟩ <;> subst e8
    · refine g_iastN (pc := 78) (j := c) dX9_findNumbers_78 hPv (by omega) (by omega) (by omega) ?_
      have hq_1 := hq.ne (e := eA 0 64 (va_up Pv c (-1))) (a := q + 6) (by omega)
      have hPv_1 := hPv.self (e := eA 0 64 (va_up Pv c (-1)))
      refine g_aload_n (pc := 79) (r := .inl (some q)) dX9_findNumbers_79 rfl ?_
      refine g_getf (pc := 80) (v := vR (q + 6)) flX9_27 dX9_findNumbers_80 hq_1 rfl ?_
      refine g_iload_n (pc := 83) (x := (c : Int)) dX9_findNumbers_83 rfl ?_
      refine g_ialdN (pc := 84) (j := c) dX9_findNumbers_84 hPv_1 (by omega) (by omega) (by omega) ?_
      rw [va_up_self]
      refine g_iconst (pc := 85) dX9_findNumbers_85 ?_
      refine g_icmp_eqT (pc := 86) (tgt := 116) dX9_findNumbers_86 (by decide) (by omega) (by omega) (by omega) ?_
      refine g_iinc (pc := 116) (x := (c : Int)) (lo2 := [(0, vR q), (1, vI (u : Int)), (2, vI ((c : Int) + 1))]) dX9_findNumbers_116 rfl (by decide) rfl ?_
      refine g_goto (pc := 119) (tgt := 59) dX9_findNumbers_119 (by decide) ?_
      have eg := gj_no (p := p) (m := m) (c := c) (F0 := F0s s) (by rw [← eu]; exact i1) (fun j j1 j2 => by rw [← f1 j c j2 (by omega)]; exact hz j (by rw [eu]; exact j1) j2)
      refine ih (c + 1) u _ _ F _ g _ (by omega) (by omega) rfl (by rw [eg]; exact eu) hPv_1 (tg.keep (fun a z1 z2 => va_up_ne _ _ (by omega))) (fun r k z1 z2 => by rw [eg]; exact f1 r k z1 z2) (fun j z1 => ?_) (fun a z1 => (va_up_ne _ _ (by omega)).trans (hk a z1))
      rw [eg]
      dsimp only
      by_cases ej : j = c
      · rw [ej, va_up_self, va_up_self]
      · rw [va_up_ne _ _ ej, va_up_ne _ _ ej]
        exact f2 j (by omega)
    · refine g_iastN (pc := 78) (j := c) dX9_findNumbers_78 hPv (by omega) (by omega) (by omega) ?_
      have hq_1 := hq.ne (e := eA 0 64 (va_up Pv c (v : Int))) (a := q + 6) (by omega)
      have hPv_1 := hPv.self (e := eA 0 64 (va_up Pv c (v : Int)))
      refine g_aload_n (pc := 79) (r := .inl (some q)) dX9_findNumbers_79 rfl ?_
      refine g_getf (pc := 80) (v := vR (q + 6)) flX9_27 dX9_findNumbers_80 hq_1 rfl ?_
      refine g_iload_n (pc := 83) (x := (c : Int)) dX9_findNumbers_83 rfl ?_
      refine g_ialdN (pc := 84) (j := c) dX9_findNumbers_84 hPv_1 (by omega) (by omega) (by omega) ?_
      rw [va_up_self]
      refine g_iconst (pc := 85) dX9_findNumbers_85 ?_
      refine g_icmp_eqF (pc := 86) (tgt := 116) dX9_findNumbers_86 (by decide) (by omega) (by omega) (by omega) ?_
      refine g_aload_n (pc := 89) (r := .inl (some q)) dX9_findNumbers_89 rfl ?_
      refine g_iload_n (pc := 90) (x := (u : Int)) dX9_findNumbers_90 rfl ?_
      refine g_aload_n (pc := 91) (r := .inl (some q)) dX9_findNumbers_91 rfl ?_
      refine g_getf (pc := 92) (v := vR (q + 6)) flX9_27 dX9_findNumbers_92 hq_1 rfl ?_
      refine g_iload_n (pc := 95) (x := (c : Int)) dX9_findNumbers_95 rfl ?_
      refine g_ialdN (pc := 96) (j := c) dX9_findNumbers_96 hPv_1 (by omega) (by omega) (by omega) ?_
      rw [va_up_self]
      have tg1 := tg.keep (h2 := va_up h1 (q + 6) (eA 0 64 (va_up Pv c (v : Int)))) (fun a z1 z2 => va_up_ne _ _ (by omega))
      refine g_callV0 (pc := 97) (as := [vI (u : Int), vI (v : Int)]) (b := q) (st := []) lvX9_87 dX9_findNumbers_97 hq_1 (Nat.le_of_ble_eq_true rfl) (by omega) (Nat.zero_le _) (Nat.zero_le _) (c_tswap (m := m) (d := d + 3) (show u < 64 by omega) (show v < 64 by omega) hq_1 tg1) ?_
      rintro r9 h2 ⟨rfl, tg2, k2⟩
      have hq_2 := hq_1.keep (k2 _ (by omega))
      have hPv_2 := hPv_1.keep (k2 _ (by omega))
      refine g_aload_n (pc := 100) (r := .inl (some q)) dX9_findNumbers_100 rfl ?_
      refine g_iload_n (pc := 101) (x := (u : Int)) dX9_findNumbers_101 rfl ?_
      refine g_iload_n (pc := 102) (x := (c : Int)) dX9_findNumbers_102 rfl ?_
      have tlt : ∀ r, r < m → tsp u v r < m := fun r hr => (tsp_ge v1 v2 hr).2.1
      refine g_callV0 (pc := 103) (as := [vI (u : Int), vI (c : Int)]) (b := q) (st := []) lvX9_91 dX9_findNumbers_103 hq_2 (Nat.le_of_ble_eq_true rfl) (by omega) (Nat.zero_le _) (Nat.zero_le _) (c_clearColumn (d := d) (F0 := fun k => F (tsp u v k)) hp hp2 hm hct (show u < m by omega) (show c < L by omega) (fun r k z1 z2 => hF _ k (tlt r z1) z2) (fun k hk2 => by show F (tsp u v u) k = 0; rw [tsp_l, f1 v k v2 (by omega)]; exact i4 v k v1 v2 hk2) (by show F (tsp u v u) c ≠ 0; rw [tsp_l]; exact v3) hq_2 tg2) ?_
      rintro r9 h3 ⟨rfl, ⟨F2, tg3, g1, g2⟩, k3⟩
      have hq_3 := hq_2.keep (k3 _ (by omega))
      have hPv_3 := hPv_2.keep (k3 _ (by omega))
      rw [show F (tsp u v u) = F v by rw [tsp_l]] at g1 g2
      refine g_aload_n (pc := 106) (r := .inl (some q)) dX9_findNumbers_106 rfl ?_
      refine g_getf (pc := 107) (v := vR (q + 6)) flX9_27 dX9_findNumbers_107 hq_3 rfl ?_
      refine g_iload_n (pc := 110) (x := (c : Int)) dX9_findNumbers_110 rfl ?_
      refine g_iload_n (pc := 111) (x := (u : Int)) dX9_findNumbers_111 rfl ?_
      refine g_iastN (pc := 112) (j := c) dX9_findNumbers_112 hPv_3 (by omega) (by omega) (by omega) ?_
      have hq_4 := hq_3.ne (e := eA 0 64 (va_up (va_up Pv c (v : Int)) c (u : Int))) (a := q + 6) (by omega)
      have hPv_4 := hPv_3.self (e := eA 0 64 (va_up (va_up Pv c (v : Int)) c (u : Int)))
      refine g_iinc (pc := 113) (x := (u : Int)) (lo2 := [(0, vR q), (1, vI ((u : Int) + 1)), (2, vI (c : Int))]) dX9_findNumbers_113 rfl (by decide) rfl ?_
      refine g_iinc (pc := 116) (x := (c : Int)) (lo2 := [(0, vR q), (1, vI ((u : Int) + 1)), (2, vI ((c : Int) + 1))]) dX9_findNumbers_116 rfl (by decide) rfl ?_
      refine g_goto (pc := 119) (tgt := 59) dX9_findNumbers_119 (by decide) ?_
      have eg := gj_yes (p := p) (m := m) (c := c) (q := v) (F0 := F0s s) (by rw [← eu]; exact v1) v2 (fun j j1 j2 => by rw [← f1 j c (by omega) (by omega)]; exact v4 j (by rw [eu]; exact j1) j2) (by rw [← f1 v c v2 (by omega)]; exact v3)
      rw [← eu] at eg
      refine ih (c + 1) (u + 1) _ _ F2 _ _ _ (by omega) (by omega) (by omega) (by rw [eg]) hPv_4 (tg3.keep (fun a z1 z2 => va_up_ne _ _ (by omega))) (fun r k z1 z2 => ?_) (fun j z1 => ?_) (fun a z1 => ?_)
      · rw [eg]
        show F2 r k = elm p (gj p m (F0s s) c).1 u c v (pin p ((gj p m (F0s s) c).1 v c)) r k
        rw [← f1 v c v2 (by omega), ← elm_congr (F := F) v1 v2 (show c ≤ L by omega) f1 z1 z2]
        unfold elm
        by_cases er : r = u
        · rw [if_pos er, er]
          exact g1 k z2
        · rw [if_neg er]
          exact g2 r z1 er k z2
      · rw [eg]
        dsimp only
        by_cases ej : j = c
        · rw [ej, va_up_self, va_up_self]
        · rw [va_up_ne _ _ ej, va_up_ne _ _ ej, va_up_ne _ _ ej]
          exact f2 j (by omega)
      · rw [va_up_ne _ _ (by omega), k3 a (by omega), k2 a (by omega), va_up_ne _ _ (by omega)]
        exact hk a z1

theorem fnn_3 {N d q ct L p m Ls : Nat} {pg pw : Int} {sx s : Nat → Int} {g : Nat → Nat} {F : Nat → Nat → Int} {Pv : Nat → Int} {h0 : MH} (hp : prm p) (hp2 : p ≤ 499) (hm : m + L = ct) (hct : ct ≤ 64) (hs : ∀ n, n < ct → 0 ≤ s n ∧ s n < p) (hq0 : Hd (0, 0, N) h0 q (told9 q (ct : Int) (L : Int) (p : Int) pg pw 1)) (hPv0 : Hd (0, 0, N) h0 (q + 6) (eA 0 64 Pv)) (tg0 : TGr N h0 q g F) (f1 : ∀ r k, r < m → k ≤ L → F r k = (gj p m (F0s s) L).1 r k) (f2 : ∀ j, j < L → Pv j = (gj p m (F0s s) L).2.2 j) : ∀ (f c : Nat) (xc : Int) (Nm : Nat → Int) (h : MH), c + f = L → xc = (c : Int) → Hd (0, 0, N) h (q + 1) (eA 0 65 Nm) → (∀ j, j < c → Nm (L - j) = nmb L (gj p m (F0s s) L).1 (gj p m (F0s s) L).2.2 j) → (∀ a, a ≠ q + 1 → h a = h0 a) → G mX9_findNumbers (d + 4, 0, 0, Ls, sx) 124 [(0, vR q), (2, vI xc)] [] (0, 0, N) h (Pq mX9_findNumbers 0 0 (fun r h2 => r = none ∧ (∃ Nm2, Hd (0, 0, N) h2 (q + 1) (eA 0 65 Nm2) ∧ ∀ k, 1 ≤ k → k ≤ L → Nm2 k = numS p ct L s k) ∧ ∀ a, a ≠ q + 1 → h2 a = h0 a)) := by
  intro f
  induction f with
  | zero =>
    intro c xc Nm h hf ex hNm fn hk
    have hq := hq0.keep (hk q (by omega))
    have hPv := hPv0.keep (hk _ (by omega))
    have tg := tg0.keep (fun a z1 z2 => hk a (by omega))
    refine g_iload_n (pc := 124) (x := xc) dX9_findNumbers_124 rfl ?_
    refine g_aload_n (pc := 125) (r := .inl (some q)) dX9_findNumbers_125 rfl ?_
    refine g_getf (pc := 126) (v := vI (L : Int)) flX9_46 dX9_findNumbers_126 hq rfl ?_
    refine g_icmp_geT (pc := 129) (tgt := 179) dX9_findNumbers_129 (by decide) (by omega) (by omega) (by omega) ?_
    refine r_void (pc := 179) dX9_findNumbers_179 rfl rfl (Nat.le_refl _) ⟨rfl, ⟨Nm, hNm, fun k k1 k2 => ?_⟩, hk⟩
    have := fn (L - k) (by omega)
    rw [show L - (L - k) = k by omega] at this
    rw [this]
    unfold numS
    rw [show ct - L = m by omega]
  | succ f ih =>
    intro c xc Nm h hf ex hNm fn hk
    have hq := hq0.keep (hk q (by omega))
    have hPv := hPv0.keep (hk _ (by omega))
    have tg := tg0.keep (fun a z1 z2 => hk a (by omega))
    subst ex
    obtain ⟨gi, -⟩ := gj_all (F0 := F0s s) (m := m) (l := L) hp (fun r k z1 z2 => hs (r + k) (by omega)) L (Nat.le_refl L)
    obtain ⟨⟨i1, i2⟩, i3, i4, i5, i6, i7⟩ := gi
    have eP := f2 c (by omega)
    obtain ⟨G, eG⟩ : ∃ G, G = (gj p m (F0s s) L) := ⟨_, rfl⟩
    rw [← eG] at i1 i2 i3 i4 i5 i6 i7 eP f1 fn f2
    refine g_iload_n (pc := 124) (x := (c : Int)) dX9_findNumbers_124 rfl ?_
    refine g_aload_n (pc := 125) (r := .inl (some q)) dX9_findNumbers_125 rfl ?_
    refine g_getf (pc := 126) (v := vI (L : Int)) flX9_46 dX9_findNumbers_126 hq rfl ?_
    refine g_icmp_geF (pc := 129) (tgt := 179) dX9_findNumbers_129 (by decide) (by omega) (by omega) (by omega) ?_
    refine g_aload_n (pc := 132) (r := .inl (some q)) dX9_findNumbers_132 rfl ?_
    refine g_getf (pc := 133) (v := vR (q + 1)) flX9_9 dX9_findNumbers_133 hq rfl ?_
    refine g_aload_n (pc := 136) (r := .inl (some q)) dX9_findNumbers_136 rfl ?_
    refine g_getf (pc := 137) (v := vI (L : Int)) flX9_46 dX9_findNumbers_137 hq rfl ?_
    refine g_iload_n (pc := 140) (x := (c : Int)) dX9_findNumbers_140 rfl ?_
    refine g_isub (pc := 141) dX9_findNumbers_141 ?_
    refine g_aload_n (pc := 142) (r := .inl (some q)) dX9_findNumbers_142 rfl ?_
    refine g_getf (pc := 143) (v := vR (q + 6)) flX9_27 dX9_findNumbers_143 hq rfl ?_
    refine g_iload_n (pc := 146) (x := (c : Int)) dX9_findNumbers_146 rfl ?_
    refine g_ialdN (pc := 147) (j := c) dX9_findNumbers_147 hPv (by omega) (by omega) (by omega) ?_
    rw [eP]
    rcases i5 c (by omega) with y | ⟨t, t1, t2, t3, t4⟩
    · rw [y]
      refine g_iconst (pc := 148) dX9_findNumbers_148 ?_
      refine g_icmp_neF (pc := 149) (tgt := 156) dX9_findNumbers_149 (by decide) (by omega) (by omega) (by omega) ?_
      refine g_iconst (pc := 152) dX9_findNumbers_152 ?_
      refine g_goto (pc := 153) (tgt := 172) dX9_findNumbers_153 (by decide) ?_
      refine g_iastN (pc := 172) (j := L - c) dX9_findNumbers_172 hNm (by omega) (by omega) (by omega) ?_
      have hq_1 := hq.ne (e := eA 0 65 (va_up Nm (L - c) 0)) (a := q + 1) (by omega)
      have hNm_1 := hNm.self (e := eA 0 65 (va_up Nm (L - c) 0))
      have hPv_1 := hPv.ne (e := eA 0 65 (va_up Nm (L - c) 0)) (a := q + 1) (by omega)
      have hgr_1 := tg.1.ne (e := eA 0 65 (va_up Nm (L - c) 0)) (a := q + 1) (by omega)
      refine g_iinc (pc := 173) (x := (c : Int)) (lo2 := [(0, vR q), (2, vI ((c : Int) + 1))]) dX9_findNumbers_173 rfl (by decide) rfl ?_
      refine g_goto (pc := 176) (tgt := 124) dX9_findNumbers_176 (by decide) ?_
      refine ih (c + 1) _ _ _ (by omega) (by omega) hNm_1 (fun j z1 => ?_) (fun a z1 => (va_up_ne _ _ z1).trans (hk a z1))
      rw [← eG]
      by_cases ej : j = c
      · rw [ej, va_up_self]
        unfold nmb
        rw [if_pos y]
      · rw [va_up_ne _ _ (by omega)]
        exact fn j (by omega)
    · rw [t1]
      refine g_iconst (pc := 148) dX9_findNumbers_148 ?_
      refine g_icmp_neT (pc := 149) (tgt := 156) dX9_findNumbers_149 (by decide) (by omega) (by omega) (by omega) ?_
      refine g_aload_n (pc := 156) (r := .inl (some q)) dX9_findNumbers_156 rfl ?_
      refine g_getf (pc := 157) (v := vR (q + 7)) flX9_32 dX9_findNumbers_157 hq rfl ?_
      refine g_aload_n (pc := 160) (r := .inl (some q)) dX9_findNumbers_160 rfl ?_
      refine g_getf (pc := 161) (v := vR (q + 6)) flX9_27 dX9_findNumbers_161 hq rfl ?_
      refine g_iload_n (pc := 164) (x := (c : Int)) dX9_findNumbers_164 rfl ?_
      refine g_ialdN (pc := 165) (j := c) dX9_findNumbers_165 hPv (by omega) (by omega) (by omega) ?_
      rw [eP, t1]
      refine g_aaldN (pc := 166) (j := t) dX9_findNumbers_166 tg.1 (by decide) (by omega) (by omega) (by omega) ?_
      rw [tqF_at (b := q + 8) (g := g) (i := t) (by omega)]
      refine g_aload_n (pc := 167) (r := .inl (some q)) dX9_findNumbers_167 rfl ?_
      refine g_getf (pc := 168) (v := vI (L : Int)) flX9_46 dX9_findNumbers_168 hq rfl ?_
      refine g_ialdN (pc := 171) (j := L) dX9_findNumbers_171 (tg.2.1 t (by omega)) (by omega) (by omega) (by omega) ?_
      rw [f1 t L (by omega) (Nat.le_refl L)]
      refine g_iastN (pc := 172) (j := L - c) dX9_findNumbers_172 hNm (by omega) (by omega) (by omega) ?_
      have hq_1 := hq.ne (e := eA 0 65 (va_up Nm (L - c) (G.1 t L))) (a := q + 1) (by omega)
      have hNm_1 := hNm.self (e := eA 0 65 (va_up Nm (L - c) (G.1 t L)))
      have hPv_1 := hPv.ne (e := eA 0 65 (va_up Nm (L - c) (G.1 t L))) (a := q + 1) (by omega)
      have hgr_1 := tg.1.ne (e := eA 0 65 (va_up Nm (L - c) (G.1 t L))) (a := q + 1) (by omega)
      refine g_iinc (pc := 173) (x := (c : Int)) (lo2 := [(0, vR q), (2, vI ((c : Int) + 1))]) dX9_findNumbers_173 rfl (by decide) rfl ?_
      refine g_goto (pc := 176) (tgt := 124) dX9_findNumbers_176 (by decide) ?_
      refine ih (c + 1) _ _ _ (by omega) (by omega) hNm_1 (fun j z1 => ?_) (fun a z1 => (va_up_ne _ _ z1).trans (hk a z1))
      rw [← eG]
      by_cases ej : j = c
      · rw [ej, va_up_self]
        unfold nmb
        rw [if_neg (by omega), t1, Int.toNat_natCast]
      · rw [va_up_ne _ _ (by omega)]
        exact fn j (by omega)

theorem c_findNumbers {N d q ct L p : Nat} {pg pw nf : Int} {s Nm Rs Pv : Nat → Int} {g : Nat → Nat} {F : Nat → Nat → Int} {h : MH} (hp : prm p) (hp2 : p ≤ 499) (hL : L ≤ ct) (hct : ct ≤ 64) (hs : ∀ n, n < ct → 0 ≤ s n ∧ s n < p) (hq : Hd (0, 0, N) h q (told9 q (ct : Int) (L : Int) (p : Int) pg pw nf)) (hNm : Hd (0, 0, N) h (q + 1) (eA 0 65 Nm)) (hRs : Hd (0, 0, N) h (q + 2) (eA 0 64 Rs)) (eR : ∀ n, n < ct → Rs n = s n) (hPv : Hd (0, 0, N) h (q + 6) (eA 0 64 Pv)) (tg : TGr N h q g F) (hnf : nf = 0 ∨ (nf = 1 ∧ (∀ k, 1 ≤ k → k ≤ L → Nm k = numS p ct L s k))) : Ok mX9_findNumbers (d + 4) 0 0 [vR q] N h (fun r h2 => r = none ∧ Hd (0, 0, N) h2 q (told9 q (ct : Int) (L : Int) (p : Int) pg pw 1) ∧ (∃ Nm2, Hd (0, 0, N) h2 (q + 1) (eA 0 65 Nm2) ∧ (∀ k, 1 ≤ k → k ≤ L → Nm2 k = numS p ct L s k)) ∧ (∃ Pv2, Hd (0, 0, N) h2 (q + 6) (eA 0 64 Pv2)) ∧ (∃ g2 F2, TGr N h2 q g2 F2) ∧ ∀ a, a ≠ q → a ≠ q + 1 → (a < q + 6 ∨ q + 72 ≤ a) → h2 a = h a) := by
  refine Ok.of pfX9_findNumbers rfl (Nat.le_of_ble_eq_true rfl) (fun Ls sx => ?_)
  show G mX9_findNumbers (d + 4, 0, 0, Ls, sx) 0 [(0, vR q)] [] (0, 0, N) h _
  obtain ⟨m, hm⟩ : ∃ m, m + L = ct := ⟨ct - L, by omega⟩
  refine g_aload_n (pc := 0) (r := .inl (some q)) dX9_findNumbers_0 rfl ?_
  refine g_getf (pc := 1) (v := vI nf) flX9_55 dX9_findNumbers_1 hq rfl ?_
  rcases hnf with e | ⟨e, hnum⟩ <;> subst e
  · refine g_if_eqT (pc := 4) (tgt := 8) dX9_findNumbers_4 (by decide) (by omega) (by omega) ?_
    refine g_aload_n (pc := 8) (r := .inl (some q)) dX9_findNumbers_8 rfl ?_
    refine g_iconst (pc := 9) dX9_findNumbers_9 ?_
    refine g_putf (pc := 10) fpX9_55 dX9_findNumbers_10 hq (okv_bool (by omega)) (Nat.le_of_ble_eq_true rfl) ?_
    have hq_1 := hq.self (e := eO 9 [vI (ct : Int), vI (L : Int), vR (q + 1), vR (q + 2), vR (q + 3), vR (q + 4), vR (q + 5), vR (q + 6), vR (q + 7), vI (p : Int), vI pg, vI pw, vI 1])
    have hNm_1 := hNm.ne (e := eO 9 [vI (ct : Int), vI (L : Int), vR (q + 1), vR (q + 2), vR (q + 3), vR (q + 4), vR (q + 5), vR (q + 6), vR (q + 7), vI (p : Int), vI pg, vI pw, vI 1]) (a := q) (by omega)
    have hRs_1 := hRs.ne (e := eO 9 [vI (ct : Int), vI (L : Int), vR (q + 1), vR (q + 2), vR (q + 3), vR (q + 4), vR (q + 5), vR (q + 6), vR (q + 7), vI (p : Int), vI pg, vI pw, vI 1]) (a := q) (by omega)
    have hPv_1 := hPv.ne (e := eO 9 [vI (ct : Int), vI (L : Int), vR (q + 1), vR (q + 2), vR (q + 3), vR (q + 4), vR (q + 5), vR (q + 6), vR (q + 7), vI (p : Int), vI pg, vI pw, vI 1]) (a := q) (by omega)
    refine g_iconst (pc := 13) dX9_findNumbers_13 ?_
    refine g_istore_n (pc := 14) (lo2 := [(0, vR q), (1, vI 0)]) dX9_findNumbers_14 (by decide) rfl ?_
    have tg1 := tg.keep (h2 := va_up h q (eO 9 [vI (ct : Int), vI (L : Int), vR (q + 1), vR (q + 2), vR (q + 3), vR (q + 4), vR (q + 5), vR (q + 6), vR (q + 7), vI (p : Int), vI pg, vI pw, vI 1])) (fun a z1 z2 => va_up_ne _ _ (by omega))
    refine fnn_1 (h0 := va_up h q (eO 9 [vI (ct : Int), vI (L : Int), vR (q + 1), vR (q + 2), vR (q + 3), vR (q + 4), vR (q + 5), vR (q + 6), vR (q + 7), vI (p : Int), vI pg, vI pw, vI 1])) hp hp2 hm hct hs hq_1 hRs_1 eR (fun F1 h3 tg3 g1 k3 => ?_) m 0 _ F _ (by omega) rfl tg1 (fun j k z => absurd z (Nat.not_lt_zero j)) (fun _ _ => rfl)
    refine g_iconst (pc := 55) dX9_findNumbers_55 ?_
    refine g_istore_n (pc := 56) (lo2 := [(0, vR q), (1, vI 0)]) dX9_findNumbers_56 (by decide) rfl ?_
    refine g_iconst (pc := 57) dX9_findNumbers_57 ?_
    refine g_istore_n (pc := 58) (lo2 := [(0, vR q), (1, vI 0), (2, vI 0)]) dX9_findNumbers_58 (by decide) rfl ?_
    refine fnn_2 (h0 := h3) hp hp2 hm hct hs (hq_1.keep (k3 _ (by omega))) (fun F4 Pv4 g4 h4 p4 tg4 a4 b4 k4 => ?_) L 0 0 _ _ F1 Pv g h3 (by omega) rfl rfl rfl (hPv_1.keep (k3 _ (by omega))) tg3 (fun r k z1 z2 => g1 r k z1 z2) (fun j z => absurd z (Nat.not_lt_zero j)) (fun _ _ => rfl)
    refine g_iconst (pc := 122) dX9_findNumbers_122 ?_
    refine g_istore_n (pc := 123) (lo2 := [(0, vR q), (2, vI 0)]) dX9_findNumbers_123 (by decide) rfl ?_
    refine Q_mono (fnn_3 (h0 := h4) hp hp2 hm hct hs ((hq_1.keep (k3 _ (by omega))).keep (k4 _ (by omega))) p4 tg4 a4 b4 L 0 _ Nm h4 (by omega) rfl ((hNm_1.keep (k3 _ (by omega))).keep (k4 _ (by omega))) (fun j z => absurd z (Nat.not_lt_zero j)) (fun _ _ => rfl)) ?_
    rintro r h5 ⟨o1, o2, o3⟩
    exact ⟨o1, ((hq_1.keep (k3 _ (by omega))).keep (k4 _ (by omega))).keep (o3 _ (by omega)), o2, ⟨Pv4, p4.keep (o3 _ (by omega))⟩, ⟨g4, F4, tg4.keep (fun a z1 z2 => o3 a (by omega))⟩, fun a z1 z2 z3 => by rw [o3 a z2, k4 a (by omega), k3 a (by omega), va_up_ne _ _ z1]⟩
  · refine g_if_eqF (pc := 4) (tgt := 8) dX9_findNumbers_4 (by decide) (by omega) (by omega) ?_
    exact r_void (pc := 7) dX9_findNumbers_7 rfl rfl (Nat.le_refl _) ⟨rfl, hq, ⟨Nm, hNm, hnum⟩, ⟨Pv, hPv⟩, ⟨g, F, tg⟩, fun _ _ _ _ => rfl⟩
