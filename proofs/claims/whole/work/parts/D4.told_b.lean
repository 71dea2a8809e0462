/-! ===== Told: findRow, swap, clearColumn, findNumbers ===== -/
def tqF (b : Nat) (g : Nat → Nat) (i : Nat) : Option Nat := if i < 64 then some (b + g i) else none
theorem tqF_at {b i : Nat} {g : Nat → Nat} (h : i < 64) : tqF b g i = some (b + g i) := if_pos h
def TGr (N : Nat) (h : MH) (q : Nat) (g : Nat → Nat) (F : Nat → Nat → Int) : Prop := Hd (0, 0, N) h (q + 7) (eQ 6 64 (tqF (q + 8) g)) ∧ (∀ i, i < 64 → Hd (0, 0, N) h (q + 8 + g i) (eA 0 65 (F i))) ∧ (∀ i, i < 64 → g i < 64) ∧ ∀ i j, i < 64 → j < 64 → g i = g j → i = j
theorem TGr.set {N : Nat} {h : MH} {q : Nat} {g : Nat → Nat} {F : Nat → Nat → Int} (he : TGr N h q g F) {r : Nat} (hr : r < 64) (f : Nat → Int) : TGr N (va_up h (q + 8 + g r) (eA 0 65 f)) q g (va_up F r f) := by
  obtain ⟨a2, a3, a4, a5⟩ := he
  refine ⟨a2.ne (by omega), fun i hi => ?_, a4, a5⟩
  by_cases e : i = r
  · subst e
    rw [va_up_self]
    exact (a3 i hi).self
  · rw [va_up_ne _ _ e]
    exact (a3 i hi).ne (fun z => e (a5 i r hi hr (by omega)))
theorem TGr.keep {N : Nat} {h h2 : MH} {q : Nat} {g : Nat → Nat} {F : Nat → Nat → Int} (he : TGr N h q g F) (k : ∀ a, q + 7 ≤ a → a < q + 72 → h2 a = h a) : TGr N h2 q g F := by
  obtain ⟨a2, a3, a4, a5⟩ := he
  exact ⟨a2.keep (k _ (by omega) (by omega)), fun i hi => (a3 i hi).keep (k _ (by omega) (by have := a4 i hi; omega)), a4, a5⟩
theorem tq_swap {b i a : Nat} {g : Nat → Nat} (hi : i < 64) (ha : a < 64) : va_up (va_up (tqF b g) i (some (b + g a))) a (some (b + g i)) = tqF b (fun k => g (tsp i a k)) := by
  funext k
  by_cases hka : k = a
  · subst hka
    have e : tsp i k k = i := by
      unfold tsp
      split
      · assumption
      · exact if_pos rfl
    rw [va_up_self, tqF_at ha, e]
  · rw [va_up_ne _ _ hka]
    by_cases hki : k = i
    · subst hki
      have e : tsp k a k = a := if_pos rfl
      rw [va_up_self, tqF_at hi, e]
    · have e : tsp i a k = k := by
        unfold tsp
        rw [if_neg hki, if_neg hka]
      rw [va_up_ne _ _ hki]
      show (if k < 64 then some (b + g k) else none) = if k < 64 then some (b + g (tsp i a k)) else none
      rw [e]
theorem TGr.swp {N : Nat} {h : MH} {q i a : Nat} {g : Nat → Nat} {F : Nat → Nat → Int} (he : TGr N h q g F) (hi : i < 64) (ha : a < 64) : TGr N (va_up (va_up h (q + 7) (eQ 6 64 (va_up (tqF (q + 8) g) i (some (q + 8 + g a))))) (q + 7) (eQ 6 64 (va_up (va_up (tqF (q + 8) g) i (some (q + 8 + g a))) a (some (q + 8 + g i))))) q (fun k => g (tsp i a k)) (fun k => F (tsp i a k)) := by
  obtain ⟨a2, a3, a4, a5⟩ := he
  have ht : ∀ k, k < 64 → tsp i a k < 64 := fun k hk => (tsp_in (i := 0) ⟨Nat.zero_le _, hi⟩ ⟨Nat.zero_le _, ha⟩ ⟨Nat.zero_le _, hk⟩).2
  refine ⟨?_, fun k hk => ((a3 _ (ht k hk)).ne (by omega)).ne (by omega), fun k hk => a4 _ (ht k hk), fun x y hx hy hxy => ?_⟩
  · rw [← tq_swap hi ha]
    exact (a2.self (e := eQ 6 64 (va_up (tqF (q + 8) g) i (some (q + 8 + g a))))).self
  · have := a5 _ _ (ht x hx) (ht y hy) hxy
    rw [← tsp_inv i a x, this, tsp_inv]

theorem fnr_l {N d q ct L p m : Nat} {pg pw nf : Int} {g : Nat → Nat} {u c Ls : Nat} {sx : Nat → Int} {F : Nat → Nat → Int} {h : MH} (hp : prm p) (hp2 : p ≤ 499) (hm : m + L = ct) (hct : ct ≤ 64) (hc : c < L) (hF : (∀ r k, r < m → k ≤ L → 0 ≤ F r k ∧ F r k < p)) (hq : Hd (0, 0, N) h q (told9 q (ct : Int) (L : Int) (p : Int) pg pw nf)) (tg : TGr N h q g F) : ∀ (f r : Nat) (xr : Int), r + f = m → xr = (r : Int) → u ≤ r → (∀ j, u ≤ j → j < r → F j c = 0) → G mX9_findRow (d, 0, 0, Ls, sx) 2 [(0, vR q), (1, vI (u : Int)), (2, vI (c : Int)), (3, vI xr)] [] (0, 0, N) h (Pq mX9_findRow 0 0 (fun r9 h2 => h2 = h ∧ ((r9 = some (vI (-1)) ∧ ∀ j, u ≤ j → j < m → F j c = 0) ∨ ∃ v : Nat, r9 = some (vI (v : Int)) ∧ u ≤ v ∧ v < m ∧ F v c ≠ 0 ∧ ∀ j, u ≤ j → j < v → F j c = 0))) := by
  intro f
  induction f with
  | zero =>
    intro r xr hf ex hur hz
    refine g_iload_n (pc := 2) (x := xr) dX9_findRow_2 rfl ?_
    refine g_aload_n (pc := 3) (r := .inl (some q)) dX9_findRow_3 rfl ?_
    refine g_getf (pc := 4) (v := vI (L : Int)) flX9_46 dX9_findRow_4 hq rfl ?_
    refine g_iadd (pc := 7) dX9_findRow_7 ?_
    refine g_aload_n (pc := 8) (r := .inl (some q)) dX9_findRow_8 rfl ?_
    refine g_getf (pc := 9) (v := vI (ct : Int)) flX9_43 dX9_findRow_9 hq rfl ?_
    refine g_icmp_geT (pc := 12) (tgt := 34) dX9_findRow_12 (by decide) (by omega) (by omega) (by omega) ?_
    refine g_iconst (pc := 34) dX9_findRow_34 ?_
    exact r_int (pc := 35) dX9_findRow_35 rfl rfl (Nat.le_refl _) ⟨rfl, Or.inl ⟨rfl, fun j j1 j2 => hz j j1 (by omega)⟩⟩
  | succ f ih =>
    intro r xr hf ex hur hz
    subst ex
    have hb := hF r c (by omega) (by omega)
    refine g_iload_n (pc := 2) (x := (r : Int)) dX9_findRow_2 rfl ?_
    refine g_aload_n (pc := 3) (r := .inl (some q)) dX9_findRow_3 rfl ?_
    refine g_getf (pc := 4) (v := vI (L : Int)) flX9_46 dX9_findRow_4 hq rfl ?_
    refine g_iadd (pc := 7) dX9_findRow_7 ?_
    refine g_aload_n (pc := 8) (r := .inl (some q)) dX9_findRow_8 rfl ?_
    refine g_getf (pc := 9) (v := vI (ct : Int)) flX9_43 dX9_findRow_9 hq rfl ?_
    refine g_icmp_geF (pc := 12) (tgt := 34) dX9_findRow_12 (by decide) (by omega) (by omega) (by omega) ?_
    refine g_aload_n (pc := 15) (r := .inl (some q)) dX9_findRow_15 rfl ?_
    refine g_getf (pc := 16) (v := vR (q + 7)) flX9_32 dX9_findRow_16 hq rfl ?_
    refine g_iload_n (pc := 19) (x := (r : Int)) dX9_findRow_19 rfl ?_
    refine g_aaldN (pc := 20) (j := r) dX9_findRow_20 tg.1 (by decide) (by omega) (by omega) (by omega) ?_
    rw [tqF_at (b := q + 8) (g := g) (i := r) (by omega)]
    refine g_iload_n (pc := 21) (x := (c : Int)) dX9_findRow_21 rfl ?_
    refine g_ialdN (pc := 22) (j := c) dX9_findRow_22 (tg.2.1 r (by omega)) (by omega) (by omega) (by omega) ?_
    refine g_if_eq (pc := 23) (tgt := 28) dX9_findRow_23 (by decide) (by omega) (fun hc0 => ?_) (fun hc0 => ?_)
    · refine g_iinc (pc := 28) (x := (r : Int)) (lo2 := [(0, vR q), (1, vI (u : Int)), (2, vI (c : Int)), (3, vI ((r : Int) + 1))]) dX9_findRow_28 rfl (by decide) rfl ?_
      refine g_goto (pc := 31) (tgt := 2) dX9_findRow_31 (by decide) ?_
      refine ih (r + 1) _ (by omega) (by omega) (by omega) (fun j j1 j2 => ?_)
      by_cases e : j = r
      · rw [e]
        exact hc0
      · exact hz j j1 (by omega)
    · refine g_iload_n (pc := 26) (x := (r : Int)) dX9_findRow_26 rfl ?_
      exact r_int (pc := 27) dX9_findRow_27 rfl rfl (Nat.le_refl _) ⟨rfl, Or.inr ⟨r, rfl, hur, by omega, hc0, hz⟩⟩

theorem c_findRow {N d q ct L p m : Nat} {pg pw nf : Int} {g : Nat → Nat} {u c : Nat} {F : Nat → Nat → Int} {h : MH} (hu : u ≤ m) (hp : prm p) (hp2 : p ≤ 499) (hm : m + L = ct) (hct : ct ≤ 64) (hc : c < L) (hF : (∀ r k, r < m → k ≤ L → 0 ≤ F r k ∧ F r k < p)) (hq : Hd (0, 0, N) h q (told9 q (ct : Int) (L : Int) (p : Int) pg pw nf)) (tg : TGr N h q g F) : Ok mX9_findRow d 0 0 [vR q, vI (u : Int), vI (c : Int)] N h (fun r9 h2 => h2 = h ∧ ((r9 = some (vI (-1)) ∧ ∀ j, u ≤ j → j < m → F j c = 0) ∨ ∃ v : Nat, r9 = some (vI (v : Int)) ∧ u ≤ v ∧ v < m ∧ F v c ≠ 0 ∧ ∀ j, u ≤ j → j < v → F j c = 0)) := by
  refine Ok.of pfX9_findRow rfl (Nat.le_of_ble_eq_true rfl) (fun Ls sx => ?_)
  show G mX9_findRow (d, 0, 0, Ls, sx) 0 [(0, vR q), (1, vI (u : Int)), (2, vI (c : Int))] [] (0, 0, N) h _
  refine g_iload_n (pc := 0) (x := (u : Int)) dX9_findRow_0 rfl ?_
  refine g_istore_n (pc := 1) (lo2 := [(0, vR q), (1, vI (u : Int)), (2, vI (c : Int)), (3, vI (u : Int))]) dX9_findRow_1 (by decide) rfl ?_
  exact fnr_l hp hp2 hm hct hc hF hq tg (m - u) u _ (by omega) rfl (Nat.le_refl u) (fun j j1 j2 => by omega)

theorem c_tswap {N d q ct L p m : Nat} {pg pw nf : Int} {g : Nat → Nat} {u v : Nat} {F : Nat → Nat → Int} {h : MH} (hu : u < 64) (hv : v < 64) (hq : Hd (0, 0, N) h q (told9 q (ct : Int) (L : Int) (p : Int) pg pw nf)) (tg : TGr N h q g F) : Ok mX9_swap d 0 0 [vR q, vI (u : Int), vI (v : Int)] N h (fun r9 h2 => r9 = none ∧ TGr N h2 q (fun k => g (tsp u v k)) (fun k => F (tsp u v k)) ∧ ∀ a, a ≠ q + 7 → h2 a = h a) := by
  refine Ok.of pfX9_swap rfl (Nat.le_of_ble_eq_true rfl) (fun Ls sx => ?_)
  show G mX9_swap (d, 0, 0, Ls, sx) 0 [(0, vR q), (1, vI (u : Int)), (2, vI (v : Int))] [] (0, 0, N) h _
  refine g_aload_n (pc := 0) (r := .inl (some q)) dX9_swap_0 rfl ?_
  refine g_getf (pc := 1) (v := vR (q + 7)) flX9_32 dX9_swap_1 hq rfl ?_
  refine g_iload_n (pc := 4) (x := (u : Int)) dX9_swap_4 rfl ?_
  refine g_aaldN (pc := 5) (j := u) dX9_swap_5 tg.1 (by decide) (by omega) (by omega) (by omega) ?_
  rw [tqF_at (b := q + 8) (g := g) (i := u) (by omega)]
  refine g_astore_n (pc := 6) (r := .inl (some (q + 8 + g u))) (lo2 := [(0, vR q), (1, vI (u : Int)), (2, vI (v : Int)), (3, vR (q + 8 + g u))]) dX9_swap_6 (by decide) rfl ?_
  refine g_aload_n (pc := 7) (r := .inl (some q)) dX9_swap_7 rfl ?_
  refine g_getf (pc := 8) (v := vR (q + 7)) flX9_32 dX9_swap_8 hq rfl ?_
  refine g_iload_n (pc := 11) (x := (u : Int)) dX9_swap_11 rfl ?_
  refine g_aload_n (pc := 12) (r := .inl (some q)) dX9_swap_12 rfl ?_
  refine g_getf (pc := 13) (v := vR (q + 7)) flX9_32 dX9_swap_13 hq rfl ?_
  refine g_iload_n (pc := 16) (x := (v : Int)) dX9_swap_16 rfl ?_
  refine g_aaldN (pc := 17) (j := v) dX9_swap_17 tg.1 (by decide) (by omega) (by omega) (by omega) ?_
  rw [tqF_at (b := q + 8) (g := g) (i := v) (by omega)]
  refine g_aastN (pc := 18) (j := u) dX9_swap_18 tg.1 (Or.inr (Or.inr ⟨rfl, _, _, tg.2.1 v (by omega)⟩)) (by omega) (by omega) (by omega) ?_
  have hq_1 := hq.ne (e := eQ 6 64 (va_up (tqF (q + 8) g) u (some (q + 8 + g v)))) (a := q + 7) (by omega)
  have hgr_1 := tg.1.self (e := eQ 6 64 (va_up (tqF (q + 8) g) u (some (q + 8 + g v))))
  refine g_aload_n (pc := 19) (r := .inl (some q)) dX9_swap_19 rfl ?_
  refine g_getf (pc := 20) (v := vR (q + 7)) flX9_32 dX9_swap_20 hq_1 rfl ?_
  refine g_iload_n (pc := 23) (x := (v : Int)) dX9_swap_23 rfl ?_
  refine g_aload_n (pc := 24) (r := .inl (some (q + 8 + g u))) dX9_swap_24 rfl ?_
  refine g_aastN (pc := 25) (j := v) dX9_swap_25 hgr_1 (Or.inr (Or.inr ⟨rfl, _, _, (tg.2.1 u (by omega)).ne (by omega)⟩)) (by omega) (by omega) (by omega) ?_
  have hq_2 := hq_1.ne (e := eQ 6 64 (va_up (va_up (tqF (q + 8) g) u (some (q + 8 + g v))) v (some (q + 8 + g u)))) (a := q + 7) (by omega)
  have hgr_2 := hgr_1.self (e := eQ 6 64 (va_up (va_up (tqF (q + 8) g) u (some (q + 8 + g v))) v (some (q + 8 + g u))))
  exact r_void (pc := 26) dX9_swap_26 rfl rfl (Nat.le_refl _) ⟨rfl, tg.swp hu hv, fun a z => (va_up_ne _ _ z).trans (va_up_ne _ _ z)⟩

theorem clc_1 {N d q ct L p m : Nat} {pg pw nf : Int} {g : Nat → Nat} {u c Ls : Nat} {w : Int} {sx : Nat → Int} {F0 : Nat → Nat → Int} {h0 : MH} {Q : Option MV → MR → MH → Prop} (hp : prm p) (hp2 : p ≤ 499) (hm : m + L = ct) (hct : ct ≤ 64) (hu : u < m) (hc : c < L) (hF0 : (∀ r k, r < m → k ≤ L → 0 ≤ F0 r k ∧ F0 r k < p)) (hw : 0 ≤ w ∧ w < p) (hq0 : Hd (0, 0, N) h0 q (told9 q (ct : Int) (L : Int) (p : Int) pg pw nf)) (hK : ∀ (F : Nat → Nat → Int) (h : MH), TGr N h q g F → (∀ r, r ≠ u → F r = F0 r) → (∀ j, F u j = if c ≤ j ∧ j < (L + 1) then F0 u j * w % (p : Int) else F0 u j) → (∀ a, (a < q + 8 ∨ q + 72 ≤ a) → h a = h0 a) → G mX9_clearColumn (d + 3, 0, 0, Ls, sx) 63 [(0, vR q), (1, vI (u : Int)), (2, vI (c : Int)), (3, vI w)] [] (0, 0, N) h Q) : ∀ (f k : Nat) (xk : Int) (F : Nat → Nat → Int) (h : MH), k + f = L + 1 → xk = (k : Int) → c ≤ k → TGr N h q g F → (∀ r, r ≠ u → F r = F0 r) → (∀ j, F u j = if c ≤ j ∧ j < k then F0 u j * w % (p : Int) else F0 u j) → (∀ a, (a < q + 8 ∨ q + 72 ≤ a) → h a = h0 a) → G mX9_clearColumn (d + 3, 0, 0, Ls, sx) 19 [(0, vR q), (1, vI (u : Int)), (2, vI (c : Int)), (3, vI w), (4, vI xk)] [] (0, 0, N) h Q := by
  intro f
  induction f with
  | zero =>
    intro k xk F h hf ex hck tg f1 f2 hk
    have hq := hq0.keep (hk q (by omega))
    refine g_iload (pc := 19) (x := xk) dX9_clearColumn_19 rfl ?_
    refine g_aload_n (pc := 21) (r := .inl (some q)) dX9_clearColumn_21 rfl ?_
    refine g_getf (pc := 22) (v := vI (L : Int)) flX9_46 dX9_clearColumn_22 hq rfl ?_
    refine g_icmp_gtT (pc := 25) (tgt := 63) dX9_clearColumn_25 (by decide) (by omega) (by omega) (by omega) ?_
    refine g_pick [0, 1, 2, 3] (lo2 := [(0, vR q), (1, vI (u : Int)), (2, vI (c : Int)), (3, vI w)]) rfl ?_
    exact hK F h tg f1 (fun j => by rw [f2 j, show k = L + 1 by omega]) hk
  | succ f ih =>
    intro k xk F h hf ex hck tg f1 f2 hk
    have hq := hq0.keep (hk q (by omega))
    subst ex
    have gu := tg.2.2.1 u (by omega)
    have e0 : F u k = F0 u k := by rw [f2 k, if_neg (by omega)]
    have hb := hF0 u k hu (by omega)
    have m1 := mul_bd (A := 500) (B := 500) (x := F0 u k) (y := w) (by omega) (by omega)
    have p2 := hp.1
    refine g_iload (pc := 19) (x := (k : Int)) dX9_clearColumn_19 rfl ?_
    refine g_aload_n (pc := 21) (r := .inl (some q)) dX9_clearColumn_21 rfl ?_
    refine g_getf (pc := 22) (v := vI (L : Int)) flX9_46 dX9_clearColumn_22 hq rfl ?_
    refine g_icmp_gtF (pc := 25) (tgt := 63) dX9_clearColumn_25 (by decide) (by omega) (by omega) (by omega) ?_
    refine g_aload_n (pc := 28) (r := .inl (some q)) dX9_clearColumn_28 rfl ?_
    refine g_getf (pc := 29) (v := vR (q + 7)) flX9_32 dX9_clearColumn_29 hq rfl ?_
    refine g_iload_n (pc := 32) (x := (u : Int)) dX9_clearColumn_32 rfl ?_
    refine g_aaldN (pc := 33) (j := u) dX9_clearColumn_33 tg.1 (by decide) (by omega) (by omega) (by omega) ?_
    rw [tqF_at (b := q + 8) (g := g) (i := u) (by omega)]
    refine g_iload (pc := 34) (x := (k : Int)) dX9_clearColumn_34 rfl ?_
    refine g_aload_n (pc := 36) (r := .inl (some q)) dX9_clearColumn_36 rfl ?_
    refine g_getf (pc := 37) (v := vR (q + 7)) flX9_32 dX9_clearColumn_37 hq rfl ?_
    refine g_iload_n (pc := 40) (x := (u : Int)) dX9_clearColumn_40 rfl ?_
    refine g_aaldN (pc := 41) (j := u) dX9_clearColumn_41 tg.1 (by decide) (by omega) (by omega) (by omega) ?_
    rw [tqF_at (b := q + 8) (g := g) (i := u) (by omega)]
    refine g_iload (pc := 42) (x := (k : Int)) dX9_clearColumn_42 rfl ?_
    refine g_ialdN (pc := 44) (j := k) dX9_clearColumn_44 (tg.2.1 u (by omega)) (by omega) (by omega) (by omega) ?_
    rw [e0]
    refine g_i2l (pc := 45) dX9_clearColumn_45 (by omega) ?_
    refine g_iload_n (pc := 46) (x := w) dX9_clearColumn_46 rfl ?_
    refine g_i2l (pc := 47) dX9_clearColumn_47 (by omega) ?_
    refine g_lmul (pc := 48) dX9_clearColumn_48 ?_
    refine g_aload_n (pc := 49) (r := .inl (some q)) dX9_clearColumn_49 rfl ?_
    refine g_getf (pc := 50) (v := vI (p : Int)) flX9_39 dX9_clearColumn_50 hq rfl ?_
    refine g_callS0 (pc := 53) (as := [vJ ((F0 u k) * w), vI (p : Int)]) (st := [vI (k : Int), vR (q + 8 + g u)]) lsX9_65 dX9_clearColumn_53 (Nat.le_of_ble_eq_true rfl) (by omega) (Nat.zero_le _) (Nat.zero_le _) (c_restOf (d := d) (by omega) (by omega) (by omega)) ?_
    rintro r h1 ⟨e9, e8⟩
    subst e9
    subst e8
    refine g_iastN (pc := 56) (j := k) dX9_clearColumn_56 (tg.2.1 u (by omega)) (by omega) (by omega) (by omega) ?_
    have hrow_1 := (tg.2.1 u (by omega)).self (e := eA 0 65 (va_up (F u) k (F0 u k * w % (p : Int))))
    refine g_iinc (pc := 57) (x := (k : Int)) (lo2 := [(0, vR q), (1, vI (u : Int)), (2, vI (c : Int)), (3, vI w), (4, vI ((k : Int) + 1))]) dX9_clearColumn_57 rfl (by decide) rfl ?_
    refine g_goto (pc := 60) (tgt := 19) dX9_clearColumn_60 (by decide) ?_
    have he1 := tg.set (show u < 64 by omega) (va_up (F u) k (F0 u k * w % (p : Int)))
    refine ih (k + 1) _ _ _ (by omega) (by omega) (by omega) he1 (fun r z1 => ?_) (fun j => ?_) (fun a z1 => (va_up_ne _ _ (by omega)).trans (hk a z1))
    · rw [va_up_ne _ _ z1]
      exact f1 r z1
    · rw [va_up_self]
      by_cases ej : j = k
      · rw [ej, va_up_self, if_pos ⟨hck, by omega⟩]
      · rw [va_up_ne _ _ ej, f2 j]
        by_cases cj : c ≤ j ∧ j < k
        · rw [if_pos cj, if_pos ⟨cj.1, by omega⟩]
        · rw [if_neg cj, if_neg (by omega)]

theorem clc_i {N d q ct L p m : Nat} {pg pw nf : Int} {g : Nat → Nat} {u c r Ls : Nat} {w tm : Int} {sx : Nat → Int} {F1 : Nat → Nat → Int} {h0 : MH} {Q : Option MV → MR → MH → Prop} (hp : prm p) (hp2 : p ≤ 499) (hm : m + L = ct) (hct : ct ≤ 64) (hu : u < m) (hr : r < m) (hru : r ≠ u) (hc : c < L) (hF1 : (∀ r k, r < m → k ≤ L → 0 ≤ F1 r k ∧ F1 r k < p)) (htm : 0 < tm ∧ tm < p) (hq0 : Hd (0, 0, N) h0 q (told9 q (ct : Int) (L : Int) (p : Int) pg pw nf)) (hK : ∀ (F : Nat → Nat → Int) (h : MH), TGr N h q g F → (∀ j, j ≠ r → F j = F1 j) → (∀ j, F r j = if c ≤ j ∧ j < (L + 1) then (F1 r j - tm * F1 u j) % (p : Int) else F1 r j) → (∀ a, (a < q + 8 ∨ q + 72 ≤ a) → h a = h0 a) → G mX9_clearColumn (d + 3, 0, 0, Ls, sx) 169 [(0, vR q), (1, vI (u : Int)), (2, vI (c : Int)), (3, vI w), (4, vI (r : Int))] [] (0, 0, N) h Q) : ∀ (f k : Nat) (xk : Int) (F : Nat → Nat → Int) (h : MH), k + f = L + 1 → xk = (k : Int) → c ≤ k → TGr N h q g F → (∀ j, j ≠ r → F j = F1 j) → (∀ j, F r j = if c ≤ j ∧ j < k then (F1 r j - tm * F1 u j) % (p : Int) else F1 r j) → (∀ a, (a < q + 8 ∨ q + 72 ≤ a) → h a = h0 a) → G mX9_clearColumn (d + 3, 0, 0, Ls, sx) 105 [(0, vR q), (1, vI (u : Int)), (2, vI (c : Int)), (3, vI w), (4, vI (r : Int)), (5, vJ tm), (7, vI xk)] [] (0, 0, N) h Q := by
  intro f
  induction f with
  | zero =>
    intro k xk F h hf ex hck tg f1 f2 hk
    have hq := hq0.keep (hk q (by omega))
    refine g_iload (pc := 105) (x := xk) dX9_clearColumn_105 rfl ?_
    refine g_aload_n (pc := 107) (r := .inl (some q)) dX9_clearColumn_107 rfl ?_
    refine g_getf (pc := 108) (v := vI (L : Int)) flX9_46 dX9_clearColumn_108 hq rfl ?_
    refine g_icmp_gtT (pc := 111) (tgt := 169) dX9_clearColumn_111 (by decide) (by omega) (by omega) (by omega) ?_
    refine g_pick [0, 1, 2, 3, 4] (lo2 := [(0, vR q), (1, vI (u : Int)), (2, vI (c : Int)), (3, vI w), (4, vI (r : Int))]) rfl ?_
    exact hK F h tg f1 (fun j => by rw [f2 j, show k = L + 1 by omega]) hk
  | succ f ih =>
    intro k xk F h hf ex hck tg f1 f2 hk
    have hq := hq0.keep (hk q (by omega))
    subst ex
    have gu := tg.2.2.1 u (by omega)
    have gr := tg.2.2.1 r (by omega)
    have e0 : F r k = F1 r k := by rw [f2 k, if_neg (by omega)]
    have e1 : F u k = F1 u k := by rw [f1 u (fun z => hru z.symm)]
    have hb := hF1 r k hr (by omega)
    have hb2 := hF1 u k hu (by omega)
    have m1 := mul_bd (A := 500) (B := 500) (x := tm) (y := F1 u k) (by omega) (by omega)
    have p2 := hp.1
    refine g_iload (pc := 105) (x := (k : Int)) dX9_clearColumn_105 rfl ?_
    refine g_aload_n (pc := 107) (r := .inl (some q)) dX9_clearColumn_107 rfl ?_
    refine g_getf (pc := 108) (v := vI (L : Int)) flX9_46 dX9_clearColumn_108 hq rfl ?_
    refine g_icmp_gtF (pc := 111) (tgt := 169) dX9_clearColumn_111 (by decide) (by omega) (by omega) (by omega) ?_
    refine g_lload (pc := 114) (x := tm) dX9_clearColumn_114 rfl ?_
    refine g_lconst0 (pc := 116) dX9_clearColumn_116 ?_
    refine g_lif_eqF (pc := 117) (tgt := 169) dX9_clearColumn_117 dX9_clearColumn_118 (by decide) (by omega) (by omega) (by omega) ?_
    refine g_aload_n (pc := 121) (r := .inl (some q)) dX9_clearColumn_121 rfl ?_
    refine g_getf (pc := 122) (v := vR (q + 7)) flX9_32 dX9_clearColumn_122 hq rfl ?_
    refine g_iload (pc := 125) (x := (r : Int)) dX9_clearColumn_125 rfl ?_
    refine g_aaldN (pc := 127) (j := r) dX9_clearColumn_127 tg.1 (by decide) (by omega) (by omega) (by omega) ?_
    rw [tqF_at (b := q + 8) (g := g) (i := r) (by omega)]
    refine g_iload (pc := 128) (x := (k : Int)) dX9_clearColumn_128 rfl ?_
    refine g_aload_n (pc := 130) (r := .inl (some q)) dX9_clearColumn_130 rfl ?_
    refine g_getf (pc := 131) (v := vR (q + 7)) flX9_32 dX9_clearColumn_131 hq rfl ?_
    refine g_iload (pc := 134) (x := (r : Int)) dX9_clearColumn_134 rfl ?_
    refine g_aaldN (pc := 136) (j := r) dX9_clearColumn_136 tg.1 (by decide) (by omega) (by omega) (by omega) ?_
    rw [tqF_at (b := q + 8) (g := g) (i := r) (by omega)]
    refine g_iload (pc := 137) (x := (k : Int)) dX9_clearColumn_137 rfl ?_
    refine g_ialdN (pc := 139) (j := k) dX9_clearColumn_139 (tg.2.1 r (by omega)) (by omega) (by omega) (by omega) ?_
    rw [e0]
    refine g_i2l (pc := 140) dX9_clearColumn_140 (by omega) ?_
    refine g_lload (pc := 141) (x := tm) dX9_clearColumn_141 rfl ?_
    refine g_aload_n (pc := 143) (r := .inl (some q)) dX9_clearColumn_143 rfl ?_
    refine g_getf (pc := 144) (v := vR (q + 7)) flX9_32 dX9_clearColumn_144 hq rfl ?_
    refine g_iload_n (pc := 147) (x := (u : Int)) dX9_clearColumn_147 rfl ?_
    refine g_aaldN (pc := 148) (j := u) dX9_clearColumn_148 tg.1 (by decide) (by omega) (by omega) (by omega) ?_
    rw [tqF_at (b := q + 8) (g := g) (i := u) (by omega)]
    refine g_iload (pc := 149) (x := (k : Int)) dX9_clearColumn_149 rfl ?_
    refine g_ialdN (pc := 151) (j := k) dX9_clearColumn_151 (tg.2.1 u (by omega)) (by omega) (by omega) (by omega) ?_
    rw [e1]
    refine g_i2l (pc := 152) dX9_clearColumn_152 (by omega) ?_
    refine g_lmul (pc := 153) dX9_clearColumn_153 ?_
    refine g_lsub (pc := 154) dX9_clearColumn_154 ?_
    refine g_aload_n (pc := 155) (r := .inl (some q)) dX9_clearColumn_155 rfl ?_
    refine g_getf (pc := 156) (v := vI (p : Int)) flX9_39 dX9_clearColumn_156 hq rfl ?_
    refine g_callS0 (pc := 159) (as := [vJ ((F1 r k) - (tm * (F1 u k))), vI (p : Int)]) (st := [vI (k : Int), vR (q + 8 + g r)]) lsX9_65 dX9_clearColumn_159 (Nat.le_of_ble_eq_true rfl) (by omega) (Nat.zero_le _) (Nat.zero_le _) (c_restOf (d := d) (by omega) (by omega) (by omega)) ?_
    rintro r9 h1 ⟨e9, e8⟩
    subst e9
    subst e8
    refine g_iastN (pc := 162) (j := k) dX9_clearColumn_162 (tg.2.1 r (by omega)) (by omega) (by omega) (by omega) ?_
    have hrow_1 := (tg.2.1 r (by omega)).self (e := eA 0 65 (va_up (F r) k ((F1 r k - tm * F1 u k) % (p : Int))))
    refine g_iinc (pc := 163) (x := (k : Int)) (lo2 := [(0, vR q), (1, vI (u : Int)), (2, vI (c : Int)), (3, vI w), (4, vI (r : Int)), (5, vJ tm), (7, vI ((k : Int) + 1))]) dX9_clearColumn_163 rfl (by decide) rfl ?_
    refine g_goto (pc := 166) (tgt := 105) dX9_clearColumn_166 (by decide) ?_
    have he1 := tg.set (show r < 64 by omega) (va_up (F r) k ((F1 r k - tm * F1 u k) % (p : Int)))
    refine ih (k + 1) _ _ _ (by omega) (by omega) (by omega) he1 (fun j z1 => ?_) (fun j => ?_) (fun a z1 => (va_up_ne _ _ (by omega)).trans (hk a z1))
    · rw [va_up_ne _ _ z1]
      exact f1 j z1
    · rw [va_up_self]
      by_cases ej : j = k
      · rw [ej, va_up_self, if_pos ⟨hck, by omega⟩]
      · rw [va_up_ne _ _ ej, f2 j]
        by_cases cj : c ≤ j ∧ j < k
        · rw [if_pos cj, if_pos ⟨cj.1, by omega⟩]
        · rw [if_neg cj, if_neg (by omega)]

theorem clc_o {N d q ct L p m : Nat} {pg pw nf : Int} {g : Nat → Nat} {u c Ls : Nat} {w : Int} {sx : Nat → Int} {F1 : Nat → Nat → Int} {h0 : MH} (hp : prm p) (hp2 : p ≤ 499) (hm : m + L = ct) (hct : ct ≤ 64) (hu : u < m) (hc : c < L) (hF1 : (∀ r k, r < m → k ≤ L → 0 ≤ F1 r k ∧ F1 r k < p)) (hz : ∀ k, k < c → F1 u k = 0) (hq0 : Hd (0, 0, N) h0 q (told9 q (ct : Int) (L : Int) (p : Int) pg pw nf)) : ∀ (f r : Nat) (xr : Int) (F : Nat → Nat → Int) (h : MH), r + f = m → xr = (r : Int) → TGr N h q g F → (∀ j, j < r → j ≠ u → ∀ k, k ≤ L → F j k = (F1 j k - F1 j c * F1 u k) % (p : Int)) → (∀ j, r ≤ j ∨ j = u → F j = F1 j) → (∀ a, (a < q + 8 ∨ q + 72 ≤ a) → h a = h0 a) → G mX9_clearColumn (d + 3, 0, 0, Ls, sx) 66 [(0, vR q), (1, vI (u : Int)), (2, vI (c : Int)), (3, vI w), (4, vI xr)] [] (0, 0, N) h (Pq mX9_clearColumn 0 0 (fun r9 h2 => r9 = none ∧ (∃ F2, TGr N h2 q g F2 ∧ (∀ k, F2 u k = F1 u k) ∧ ∀ j, j < m → j ≠ u → ∀ k, k ≤ L → F2 j k = (F1 j k - F1 j c * F1 u k) % (p : Int)) ∧ (∀ a, (a < q + 8 ∨ q + 72 ≤ a) → h2 a = h0 a))) := by
  intro f
  induction f with
  | zero =>
    intro r xr F h hf ex tg f1 f2 hk
    have hq := hq0.keep (hk q (by omega))
    refine g_iload (pc := 66) (x := xr) dX9_clearColumn_66 rfl ?_
    refine g_aload_n (pc := 68) (r := .inl (some q)) dX9_clearColumn_68 rfl ?_
    refine g_getf (pc := 69) (v := vI (L : Int)) flX9_46 dX9_clearColumn_69 hq rfl ?_
    refine g_iadd (pc := 72) dX9_clearColumn_72 ?_
    refine g_aload_n (pc := 73) (r := .inl (some q)) dX9_clearColumn_73 rfl ?_
    refine g_getf (pc := 74) (v := vI (ct : Int)) flX9_43 dX9_clearColumn_74 hq rfl ?_
    refine g_icmp_geT (pc := 77) (tgt := 175) dX9_clearColumn_77 (by decide) (by omega) (by omega) (by omega) ?_
    exact r_void (pc := 175) dX9_clearColumn_175 rfl rfl (Nat.le_refl _) ⟨rfl, ⟨F, tg, fun k => by rw [f2 u (Or.inr rfl)], fun j z1 z2 k z3 => f1 j (by omega) z2 k z3⟩, hk⟩
  | succ f ih =>
    intro r xr F h hf ex tg f1 f2 hk
    have hq := hq0.keep (hk q (by omega))
    subst ex
    have p2 := hp.1
    have hbr := hF1 r c (by omega) (by omega)
    have erc : F r c = F1 r c := by rw [f2 r (Or.inl (Nat.le_refl r))]
    refine g_iload (pc := 66) (x := (r : Int)) dX9_clearColumn_66 rfl ?_
    refine g_aload_n (pc := 68) (r := .inl (some q)) dX9_clearColumn_68 rfl ?_
    refine g_getf (pc := 69) (v := vI (L : Int)) flX9_46 dX9_clearColumn_69 hq rfl ?_
    refine g_iadd (pc := 72) dX9_clearColumn_72 ?_
    refine g_aload_n (pc := 73) (r := .inl (some q)) dX9_clearColumn_73 rfl ?_
    refine g_getf (pc := 74) (v := vI (ct : Int)) flX9_43 dX9_clearColumn_74 hq rfl ?_
    refine g_icmp_geF (pc := 77) (tgt := 175) dX9_clearColumn_77 (by decide) (by omega) (by omega) (by omega) ?_
    refine g_iload (pc := 80) (x := (r : Int)) dX9_clearColumn_80 rfl ?_
    refine g_iload_n (pc := 82) (x := (u : Int)) dX9_clearColumn_82 rfl ?_
    refine g_icmp_ne (pc := 83) (tgt := 90) dX9_clearColumn_83 (by decide) (by omega) (by omega) (fun hru => ?_) (fun hru => ?_)
    · refine g_aload_n (pc := 90) (r := .inl (some q)) dX9_clearColumn_90 rfl ?_
      refine g_getf (pc := 91) (v := vR (q + 7)) flX9_32 dX9_clearColumn_91 hq rfl ?_
      refine g_iload (pc := 94) (x := (r : Int)) dX9_clearColumn_94 rfl ?_
      refine g_aaldN (pc := 96) (j := r) dX9_clearColumn_96 tg.1 (by decide) (by omega) (by omega) (by omega) ?_
      rw [tqF_at (b := q + 8) (g := g) (i := r) (by omega)]
      refine g_iload_n (pc := 97) (x := (c : Int)) dX9_clearColumn_97 rfl ?_
      refine g_ialdN (pc := 98) (j := c) dX9_clearColumn_98 (tg.2.1 r (by omega)) (by omega) (by omega) (by omega) ?_
      rw [erc]
      refine g_i2l (pc := 99) dX9_clearColumn_99 (by omega) ?_
      refine g_lstore (pc := 100) (lo2 := [(0, vR q), (1, vI (u : Int)), (2, vI (c : Int)), (3, vI w), (4, vI (r : Int)), (5, vJ (F1 r c))]) dX9_clearColumn_100 (by decide) rfl ?_
      refine g_iload_n (pc := 102) (x := (c : Int)) dX9_clearColumn_102 rfl ?_
      refine g_istore (pc := 103) (lo2 := [(0, vR q), (1, vI (u : Int)), (2, vI (c : Int)), (3, vI w), (4, vI (r : Int)), (5, vJ (F1 r c)), (7, vI (c : Int))]) dX9_clearColumn_103 (by decide) rfl ?_
      by_cases ht : F1 r c = 0
      · refine g_iload (pc := 105) (x := (c : Int)) dX9_clearColumn_105 rfl ?_
        refine g_aload_n (pc := 107) (r := .inl (some q)) dX9_clearColumn_107 rfl ?_
        refine g_getf (pc := 108) (v := vI (L : Int)) flX9_46 dX9_clearColumn_108 hq rfl ?_
        refine g_icmp_gtF (pc := 111) (tgt := 169) dX9_clearColumn_111 (by decide) (by omega) (by omega) (by omega) ?_
        refine g_lload (pc := 114) (x := F1 r c) dX9_clearColumn_114 rfl ?_
        refine g_lconst0 (pc := 116) dX9_clearColumn_116 ?_
        refine g_lif_eqT (pc := 117) (tgt := 169) dX9_clearColumn_117 dX9_clearColumn_118 (by decide) (by omega) (by omega) (by omega) ?_
        refine g_pick [0, 1, 2, 3, 4] (lo2 := [(0, vR q), (1, vI (u : Int)), (2, vI (c : Int)), (3, vI w), (4, vI (r : Int))]) rfl ?_
        refine g_iinc (pc := 169) (x := (r : Int)) (lo2 := [(0, vR q), (1, vI (u : Int)), (2, vI (c : Int)), (3, vI w), (4, vI ((r : Int) + 1))]) dX9_clearColumn_169 rfl (by decide) rfl ?_
        refine g_goto (pc := 172) (tgt := 66) dX9_clearColumn_172 (by decide) ?_
        refine ih (r + 1) _ F h (by omega) (by omega) tg (fun j z1 z2 k z3 => ?_) (fun j z => f2 j (by omega)) hk
        by_cases ej : j = r
        · have hbk := hF1 r k (by omega) z3
          rw [ej, f2 r (Or.inl (Nat.le_refl r)), ht, Int.zero_mul, Int.sub_zero, Int.emod_eq_of_lt hbk.1 hbk.2]
        · exact f1 j (by omega) z2 k z3
      · have hFr : (∀ r k, r < m → k ≤ L → 0 ≤ F r k ∧ F r k < p) := fun j k z1 z2 => by
          by_cases ej : j < r ∧ j ≠ u
          · rw [f1 j ej.1 ej.2 k z2]
            exact ⟨Int.emod_nonneg _ (by omega), Int.emod_lt_of_pos _ (by omega)⟩
          · rw [f2 j (by omega)]
            exact hF1 j k z1 z2
        refine clc_i (F1 := F) (h0 := h0) hp hp2 hm hct hu (show r < m by omega) (by omega) hc hFr (by omega) hq0 (fun F3 h3 tg3 g1 g2 k3 => ?_) (L + 1 - c) c _ F h (by omega) rfl (Nat.le_refl c) tg (fun _ _ => rfl) (fun j => by rw [if_neg (by omega)]) hk
        refine g_iinc (pc := 169) (x := (r : Int)) (lo2 := [(0, vR q), (1, vI (u : Int)), (2, vI (c : Int)), (3, vI w), (4, vI ((r : Int) + 1))]) dX9_clearColumn_169 rfl (by decide) rfl ?_
        refine g_goto (pc := 172) (tgt := 66) dX9_clearColumn_172 (by decide) ?_
        refine ih (r + 1) _ F3 h3 (by omega) (by omega) tg3 (fun j z1 z2 k z3 => ?_) (fun j z => ?_) k3
        · by_cases ej : j = r
          · have hbk := hF1 r k (by omega) z3
            rw [ej, g2 k, f2 r (Or.inl (Nat.le_refl r)), f2 u (Or.inr rfl)]
            by_cases ck : c ≤ k ∧ k < L + 1
            · rw [if_pos ck]
            · rw [if_neg ck, hz k (by omega), Int.mul_zero, Int.sub_zero, Int.emod_eq_of_lt hbk.1 hbk.2]
          · rw [g1 j ej]
            exact f1 j (by omega) z2 k z3
        · rw [g1 j (by omega)]
          exact f2 j (by omega)
    · refine g_lconst0 (pc := 86) dX9_clearColumn_86 ?_
      refine g_goto (pc := 87) (tgt := 100) dX9_clearColumn_87 (by decide) ?_
      refine g_lstore (pc := 100) (lo2 := [(0, vR q), (1, vI (u : Int)), (2, vI (c : Int)), (3, vI w), (4, vI (r : Int)), (5, vJ 0)]) dX9_clearColumn_100 (by decide) rfl ?_
      refine g_iload_n (pc := 102) (x := (c : Int)) dX9_clearColumn_102 rfl ?_
      refine g_istore (pc := 103) (lo2 := [(0, vR q), (1, vI (u : Int)), (2, vI (c : Int)), (3, vI w), (4, vI (r : Int)), (5, vJ 0), (7, vI (c : Int))]) dX9_clearColumn_103 (by decide) rfl ?_
      refine g_iload (pc := 105) (x := (c : Int)) dX9_clearColumn_105 rfl ?_
      refine g_aload_n (pc := 107) (r := .inl (some q)) dX9_clearColumn_107 rfl ?_
      refine g_getf (pc := 108) (v := vI (L : Int)) flX9_46 dX9_clearColumn_108 hq rfl ?_
      refine g_icmp_gtF (pc := 111) (tgt := 169) dX9_clearColumn_111 (by decide) (by omega) (by omega) (by omega) ?_
      refine g_lload (pc := 114) (x := 0) dX9_clearColumn_114 rfl ?_
      refine g_lconst0 (pc := 116) dX9_clearColumn_116 ?_
      refine g_lif_eqT (pc := 117) (tgt := 169) dX9_clearColumn_117 dX9_clearColumn_118 (by decide) (by omega) (by omega) (by omega) ?_
      refine g_pick [0, 1, 2, 3, 4] (lo2 := [(0, vR q), (1, vI (u : Int)), (2, vI (c : Int)), (3, vI w), (4, vI (r : Int))]) rfl ?_
      refine g_iinc (pc := 169) (x := (r : Int)) (lo2 := [(0, vR q), (1, vI (u : Int)), (2, vI (c : Int)), (3, vI w), (4, vI ((r : Int) + 1))]) dX9_clearColumn_169 rfl (by decide) rfl ?_
      refine g_goto (pc := 172) (tgt := 66) dX9_clearColumn_172 (by decide) ?_
      refine ih (r + 1) _ F h (by omega) (by omega) tg (fun j z1 z2 k z3 => f1 j (by omega) z2 k z3) (fun j z => f2 j (by omega)) hk

theorem c_clearColumn {N d q ct L p m : Nat} {pg pw nf : Int} {g : Nat → Nat} {u c : Nat} {F0 : Nat → Nat → Int} {h0 : MH} (hp : prm p) (hp2 : p ≤ 499) (hm : m + L = ct) (hct : ct ≤ 64) (hu : u < m) (hc : c < L) (hF0 : (∀ r k, r < m → k ≤ L → 0 ≤ F0 r k ∧ F0 r k < p)) (hz : ∀ k, k < c → F0 u k = 0) (hne : F0 u c ≠ 0) (hq0 : Hd (0, 0, N) h0 q (told9 q (ct : Int) (L : Int) (p : Int) pg pw nf)) (tg : TGr N h0 q g F0) : Ok mX9_clearColumn (d + 3) 0 0 [vR q, vI (u : Int), vI (c : Int)] N h0 (fun r9 h2 => r9 = none ∧ (∃ F2, TGr N h2 q g F2 ∧ (∀ k, k ≤ L → F2 u k = F0 u k * pin p (F0 u c) % (p : Int)) ∧ ∀ j, j < m → j ≠ u → ∀ k, k ≤ L → F2 j k = (F0 j k - F0 j c * (F0 u k * pin p (F0 u c) % (p : Int))) % (p : Int)) ∧ (∀ a, (a < q + 8 ∨ q + 72 ≤ a) → h2 a = h0 a)) := by
  refine Ok.of pfX9_clearColumn rfl (Nat.le_of_ble_eq_true rfl) (fun Ls sx => ?_)
  show G mX9_clearColumn (d + 3, 0, 0, Ls, sx) 0 [(0, vR q), (1, vI (u : Int)), (2, vI (c : Int))] [] (0, 0, N) h0 _
  have p2 := hp.1
  have hb := hF0 u c hu (by omega)
  obtain ⟨w1, w2⟩ := pin_ex (v := F0 u c) hp (by omega)
  have hcop : Nat.gcd p (F0 u c % (p : Int)).toNat = 1 := by
    rw [Int.emod_eq_of_lt hb.1 hb.2]
    refine prm_cop hp (fun z => ?_)
    have := Nat.le_of_dvd (by omega) z
    omega
  refine g_aload_n (pc := 0) (r := .inl (some q)) dX9_clearColumn_0 rfl ?_
  refine g_getf (pc := 1) (v := vR (q + 7)) flX9_32 dX9_clearColumn_1 hq0 rfl ?_
  refine g_iload_n (pc := 4) (x := (u : Int)) dX9_clearColumn_4 rfl ?_
  refine g_aaldN (pc := 5) (j := u) dX9_clearColumn_5 tg.1 (by decide) (by omega) (by omega) (by omega) ?_
  rw [tqF_at (b := q + 8) (g := g) (i := u) (by omega)]
  refine g_iload_n (pc := 6) (x := (c : Int)) dX9_clearColumn_6 rfl ?_
  refine g_ialdN (pc := 7) (j := c) dX9_clearColumn_7 (tg.2.1 u (by omega)) (by omega) (by omega) (by omega) ?_
  refine g_aload_n (pc := 8) (r := .inl (some q)) dX9_clearColumn_8 rfl ?_
  refine g_getf (pc := 9) (v := vI (p : Int)) flX9_39 dX9_clearColumn_9 hq0 rfl ?_
  refine g_callS0 (pc := 12) (as := [vI ((F0 u) c), vI (p : Int)]) (st := []) lsX9_80 dX9_clearColumn_12 (Nat.le_of_ble_eq_true rfl) (by omega) (Nat.zero_le _) (Nat.zero_le _) (c_inverse (d := d) (m := p) (v := F0 u c) (by omega) (by omega) (by omega)) ?_
  rintro r h1 ⟨e9, w9, e8, v1, -⟩
  subst e9
  subst e8
  obtain ⟨v2, v3, v4⟩ := v1 hcop
  have ew := pin_uniq hp ⟨v2, v3⟩ v4
  subst ew
  refine g_istore_n (pc := 15) (lo2 := [(0, vR q), (1, vI (u : Int)), (2, vI (c : Int)), (3, vI (pin p (F0 u c)))]) dX9_clearColumn_15 (by decide) rfl ?_
  refine g_iload_n (pc := 16) (x := (c : Int)) dX9_clearColumn_16 rfl ?_
  refine g_istore (pc := 17) (lo2 := [(0, vR q), (1, vI (u : Int)), (2, vI (c : Int)), (3, vI (pin p (F0 u c))), (4, vI (c : Int))]) dX9_clearColumn_17 (by decide) rfl ?_
  refine clc_1 (h0 := h1) hp hp2 hm hct hu hc hF0 w1 hq0 (fun F h tg1 f1 f2 hk => ?_) (L + 1 - c) c _ F0 h1 (by omega) rfl (Nat.le_refl c) tg (fun _ _ => rfl) (fun j => by rw [if_neg (by omega)]) (fun _ _ => rfl)
  refine g_iconst (pc := 63) dX9_clearColumn_63 ?_
  refine g_istore (pc := 64) (lo2 := [(0, vR q), (1, vI (u : Int)), (2, vI (c : Int)), (3, vI (pin p (F0 u c))), (4, vI 0)]) dX9_clearColumn_64 (by decide) rfl ?_
  have fu : ∀ k, k ≤ L → F u k = F0 u k * pin p (F0 u c) % (p : Int) := fun k hk => by
    rw [f2 k]
    by_cases ck : c ≤ k ∧ k < L + 1
    · rw [if_pos ck]
    · rw [if_neg ck, hz k (by omega), Int.zero_mul, Int.zero_emod]
  have hF1 : (∀ r k, r < m → k ≤ L → 0 ≤ F r k ∧ F r k < p) := fun j k z1 z2 => by
    by_cases ej : j = u
    · rw [ej, fu k z2]
      exact ⟨Int.emod_nonneg _ (by omega), Int.emod_lt_of_pos _ (by omega)⟩
    · rw [f1 j ej]
      exact hF0 j k z1 z2
  refine Q_mono (clc_o (F1 := F) (h0 := h) hp hp2 hm hct hu hc hF1 (fun k hk => by rw [fu k (by omega), hz k hk, Int.zero_mul, Int.zero_emod]) (hq0.keep (hk q (by omega))) m 0 _ F h (by omega) rfl tg1 (fun j z => absurd z (Nat.not_lt_zero j)) (fun _ _ => rfl) (fun _ _ => rfl)) ?_
  rintro r9 h2 ⟨g0, ⟨F2, g1, g2, g3⟩, g4⟩
  refine ⟨g0, ⟨F2, g1, fun k hk => by rw [g2 k, fu k hk], fun j z1 z2 k z3 => ?_⟩, fun a z => (g4 a z).trans (hk a z)⟩
  rw [g3 j z1 z2 k z3, fu k z3, f1 j z2]
