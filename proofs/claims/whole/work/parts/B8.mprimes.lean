/-! ===== the reference: primesOf, the sums of rounds ===== -/
theorem prodL_mem {y : Nat} : ∀ {l : List Nat}, y ∈ l → y ∣ prodL l
  | a :: l, h => by
    show y ∣ a * prodL l
    rcases List.mem_cons.mp h with e | e
    · rw [e]
      exact Nat.dvd_mul_right _ _
    · exact Nat.dvd_trans (prodL_mem e) (Nat.dvd_mul_left _ _)
theorem prodL_prm {p : Nat} (hp : prm p) : ∀ {l : List Nat}, (∀ y ∈ l, prm y) → p ∣ prodL l → p ∈ l
  | [], _, h => absurd h (prm_not_one hp)
  | a :: l, hl, h => by
    rcases prm_dvd_mul hp (show p ∣ a * prodL l from h) with e | e
    · exact List.mem_cons.mpr (Or.inl (prm_eq hp (hl a List.mem_cons_self) e))
    · exact List.mem_cons_of_mem _ (prodL_prm hp (fun y hy => hl y (List.mem_cons_of_mem _ hy)) e)
theorem FLk_add {L : Nat → Int} {l : List Nat} {y : Nat} (h : FLk L l) : FLk (va_up L l.length (y : Int)) (l ++ [y]) := by
  intro i hi
  rw [List.length_append, List.length_singleton] at hi
  by_cases e : i = l.length
  · rw [e, va_up_self]
    simp [List.getD]
  · rw [va_up_ne _ _ e, h i (by omega)]
    have : i < l.length := by omega
    simp [List.getD, List.getElem?_append_left this, this]
theorem take_mem_le {l : List Nat} (hs : l.Pairwise (fun a b => a ≤ b)) {i : Nat} (hi : i < l.length) (i1 : 1 ≤ i) {y : Nat} (hy : y ∈ l.take i) : y ≤ l.getD (i - 1) 0 := by
  obtain ⟨j, j1, j2⟩ := List.mem_iff_getElem.mp hy
  have j3 : j < i := by rw [List.length_take] at j1; omega
  have e : l.getD (i - 1) 0 = l[i - 1]'(by omega) := by
    have : i - 1 < l.length := by omega
    simp [List.getD, this]
  rw [List.getElem_take] at j2
  rw [e, ← j2]
  by_cases h : j = i - 1
  · subst h
    exact Nat.le_refl _
  · exact List.pairwise_iff_getElem.mp hs j (i - 1) (by omega) (by omega) (by omega)
theorem take_le_mem {l : List Nat} (hs : l.Pairwise (fun a b => a ≤ b)) {i : Nat} (hi : i < l.length) (i1 : 1 ≤ i) : l.getD (i - 1) 0 ≤ l.getD i 0 ∧ l.getD (i - 1) 0 ∈ l.take i := by
  have h1 : i - 1 < l.length := by omega
  have e : l.getD (i - 1) 0 = l[i - 1]'h1 := by simp [List.getD, h1]
  have e2 : l.getD i 0 = l[i]'hi := by simp [List.getD, hi]
  rw [e, e2]
  refine ⟨List.pairwise_iff_getElem.mp hs (i - 1) i h1 hi (by omega), ?_⟩
  rw [List.mem_iff_getElem]
  exact ⟨i - 1, by rw [List.length_take]; omega, List.getElem_take⟩
theorem take_snoc {l : List Nat} {i : Nat} (hi : i < l.length) : l.take (i + 1) = l.take i ++ [l.getD i 0] := by
  rw [List.take_succ_eq_append_getElem hi]
  simp [List.getD, hi]

theorem prs_l {N d x v Ls : Nat} {sx : Nat → Int} {th wd pm mu pr ts : Int} {gl : List Nat} {L : Nat → Int} {h0 : MH} (v1 : 1 ≤ v) (vb : v ≤ 1000000000000) (gp : prodL gl = v) (g1 : ∀ y ∈ gl, prm y) (gs : gl.Pairwise (fun a b => a ≤ b)) (hg : gl.length ≤ 62) (hF : FLk L gl) (hL0 : Hd (0, 0, N) h0 (x + 18) (eA 3 70 L)) : ∀ (f i : Nat) (xi : Int) (us : List Nat) (U : Nat → Int) (h : MH), i + f = gl.length → xi = (i : Int) → FLk U us → us.Nodup → (∀ y, y ∈ us ↔ y ∈ gl.take i) → Hd (0, 0, N) h x (mdl x th wd pm (gl.length : Int) mu (us.length : Int) pr ts) → Hd (0, 0, N) h (x + 22) (eA 3 16 U) → (∀ a, a ≠ x → a ≠ x + 22 → h a = h0 a) → G mX11_primesOf (d + 1, 0, 0, Ls, sx) 17 [(0, vR x), (1, vJ (v : Int)), (3, vI xi)] [] (0, 0, N) h (Pq mX11_primesOf 0 0 (fun r h2 => r = none ∧ ∃ (us : List Nat) (U : Nat → Int), h2 x = mdl x th wd pm (gl.length : Int) mu (us.length : Int) pr ts ∧ h2 (x + 22) = eA 3 16 U ∧ FLk U us ∧ us.Nodup ∧ (∀ y, y ∈ us ↔ prm y ∧ y ∣ v) ∧ ∀ a, a ≠ x → a ≠ x + 22 → h2 a = h0 a)) := by
  intro f
  induction f with
  | zero =>
    intro i xi us U h hf ex u1 u2 u3 hx hU hk
    have hL := hL0.keep (hk _ (by omega) (by omega))
    refine g_iload_n (pc := 17) (x := xi) dX11_primesOf_17 rfl ?_
    refine g_aload_n (pc := 18) (r := .inl (some x)) dX11_primesOf_18 rfl ?_
    refine g_getf (pc := 19) (v := vI (gl.length : Int)) flX11_167 dX11_primesOf_19 hx rfl ?_
    refine g_icmp_geT (pc := 22) (tgt := 81) dX11_primesOf_22 (by decide) (by omega) (by omega) (by omega) ?_
    rw [List.take_of_length_le (by omega)] at u3
    exact r_void (pc := 81) dX11_primesOf_81 rfl rfl (Nat.le_refl _) ⟨rfl, us, U, hx.2, hU.2, u1, u2, fun y => ⟨fun hy => ⟨g1 y ((u3 y).mp hy), gp ▸ prodL_mem ((u3 y).mp hy)⟩, fun hy => (u3 y).mpr (prodL_prm hy.1 g1 (gp ▸ hy.2))⟩, hk⟩
  | succ f ih =>
    intro i xi us U h hf ex u1 u2 u3 hx hU hk
    have hL := hL0.keep (hk _ (by omega) (by omega))
    have hi : i < gl.length := by omega
    have hmem : gl.getD i 0 ∈ gl := by simp [List.getD, hi]
    have hsn := take_snoc hi
    have hLi := hF i hi
    have hus : us.length ≤ 11 := few_11 v1 vb u2 (fun y hy => by
      have := List.mem_of_mem_take ((u3 y).mp hy)
      exact ⟨g1 y this, gp ▸ prodL_mem this⟩)
    have hpb : gl.getD i 0 ≤ v := gp ▸ Nat.le_of_dvd (by rw [gp]; exact v1) (prodL_mem hmem)
    subst ex
    refine g_iload_n (pc := 17) (x := (i : Int)) dX11_primesOf_17 rfl ?_
    refine g_aload_n (pc := 18) (r := .inl (some x)) dX11_primesOf_18 rfl ?_
    refine g_getf (pc := 19) (v := vI (gl.length : Int)) flX11_167 dX11_primesOf_19 hx rfl ?_
    refine g_icmp_geF (pc := 22) (tgt := 81) dX11_primesOf_22 (by decide) (by omega) (by omega) (by omega) ?_
    refine g_iload_n (pc := 25) (x := (i : Int)) dX11_primesOf_25 rfl ?_
    refine g_if_le (pc := 26) (tgt := 50) dX11_primesOf_26 (by decide) (by omega) (fun h0c => ?_) (fun h0c => ?_)
    · have i0 : i = 0 := by omega
      refine g_aload_n (pc := 50) (r := .inl (some x)) dX11_primesOf_50 rfl ?_
      refine g_getf (pc := 51) (v := vR (x + 22)) flX11_76 dX11_primesOf_51 hx rfl ?_
      refine g_aload_n (pc := 54) (r := .inl (some x)) dX11_primesOf_54 rfl ?_
      refine g_getf (pc := 55) (v := vI (us.length : Int)) flX11_230 dX11_primesOf_55 hx rfl ?_
      refine g_aload_n (pc := 58) (r := .inl (some x)) dX11_primesOf_58 rfl ?_
      refine g_getf (pc := 59) (v := vR (x + 18)) flX11_63 dX11_primesOf_59 hx rfl ?_
      refine g_iload_n (pc := 62) (x := (i : Int)) dX11_primesOf_62 rfl ?_
      refine g_laldN (pc := 63) (j := i) dX11_primesOf_63 hL (by omega) (by omega) (by omega) ?_
      rw [hLi]
      refine g_lastN (pc := 64) (j := us.length) dX11_primesOf_64 hU (by omega) (by omega) (by omega) ?_
      have hx_1 := hx.ne (e := eA 3 16 (va_up U us.length ((gl.getD i 0 : Nat) : Int))) (a := x + 22) (by omega)
      have hL_1 := hL.ne (e := eA 3 16 (va_up U us.length ((gl.getD i 0 : Nat) : Int))) (a := x + 22) (by omega)
      have hU_1 := hU.self (e := eA 3 16 (va_up U us.length ((gl.getD i 0 : Nat) : Int)))
      refine g_aload_n (pc := 65) (r := .inl (some x)) dX11_primesOf_65 rfl ?_
      refine g_dup (pc := 66) dX11_primesOf_66 rfl ?_
      refine g_getf (pc := 67) (v := vI (us.length : Int)) flX11_230 dX11_primesOf_67 hx_1 rfl ?_
      refine g_iconst (pc := 70) dX11_primesOf_70 ?_
      refine g_iadd (pc := 71) dX11_primesOf_71 ?_
      refine g_putf (pc := 72) fpX11_230 dX11_primesOf_72 hx_1 (okv_int _) (Nat.le_of_ble_eq_true rfl) ?_
      have hx_2 := hx_1.self (e := mdl x th wd pm (gl.length : Int) mu ((us.length : Int) + 1) pr ts)
      have hL_2 := hL_1.ne (e := mdl x th wd pm (gl.length : Int) mu ((us.length : Int) + 1) pr ts) (a := x) (by omega)
      have hU_2 := hU_1.ne (e := mdl x th wd pm (gl.length : Int) mu ((us.length : Int) + 1) pr ts) (a := x) (by omega)
      refine g_iinc (pc := 75) (x := (i : Int)) (lo2 := [(0, vR x), (1, vJ (v : Int)), (3, vI ((i : Int) + 1))]) dX11_primesOf_75 rfl (by decide) rfl ?_
      refine g_goto (pc := 78) (tgt := 17) dX11_primesOf_78 (by decide) ?_
      refine ih (i + 1) _ (us ++ [gl.getD i 0]) _ _ (by omega) (by omega) (FLk_add u1) (List.nodup_append.mpr ⟨u2, List.nodup_cons.mpr ⟨List.not_mem_nil, List.nodup_nil⟩, fun a ha b hb e => by
        rw [List.mem_singleton] at hb
        exact absurd ((u3 a).mp ha) (by rw [i0, List.take_zero]; exact List.not_mem_nil)⟩) (fun y => ?_) (by rw [List.length_append, List.length_singleton]; exact hx_2) hU_2 (fun a z1 z2 => ?_)
      · rw [hsn, List.mem_append, List.mem_append, u3]
      · rw [va_up_ne _ _ z1, va_up_ne _ _ z2]
        exact hk a z1 z2
    · have hLj := hF (i - 1) (by omega)
      have hpb2 : gl.getD (i - 1) 0 ≤ gl.getD i 0 := (take_le_mem gs hi (by omega)).1
      refine g_aload_n (pc := 29) (r := .inl (some x)) dX11_primesOf_29 rfl ?_
      refine g_getf (pc := 30) (v := vR (x + 18)) flX11_63 dX11_primesOf_30 hx rfl ?_
      refine g_iload_n (pc := 33) (x := (i : Int)) dX11_primesOf_33 rfl ?_
      refine g_laldN (pc := 34) (j := i) dX11_primesOf_34 hL (by omega) (by omega) (by omega) ?_
      rw [hLi]
      refine g_aload_n (pc := 35) (r := .inl (some x)) dX11_primesOf_35 rfl ?_
      refine g_getf (pc := 36) (v := vR (x + 18)) flX11_63 dX11_primesOf_36 hx rfl ?_
      refine g_iload_n (pc := 39) (x := (i : Int)) dX11_primesOf_39 rfl ?_
      refine g_iconst (pc := 40) dX11_primesOf_40 ?_
      refine g_isub (pc := 41) dX11_primesOf_41 ?_
      refine g_laldN (pc := 42) (j := i - 1) dX11_primesOf_42 hL (by omega) (by omega) (by omega) ?_
      rw [hLj]
      refine g_lif_ne (pc := 43) (tgt := 50) dX11_primesOf_43 dX11_primesOf_44 (by decide) (by omega) (by omega) (fun h1c => ?_) (fun h1c => ?_)
      · refine g_aload_n (pc := 50) (r := .inl (some x)) dX11_primesOf_50 rfl ?_
        refine g_getf (pc := 51) (v := vR (x + 22)) flX11_76 dX11_primesOf_51 hx rfl ?_
        refine g_aload_n (pc := 54) (r := .inl (some x)) dX11_primesOf_54 rfl ?_
        refine g_getf (pc := 55) (v := vI (us.length : Int)) flX11_230 dX11_primesOf_55 hx rfl ?_
        refine g_aload_n (pc := 58) (r := .inl (some x)) dX11_primesOf_58 rfl ?_
        refine g_getf (pc := 59) (v := vR (x + 18)) flX11_63 dX11_primesOf_59 hx rfl ?_
        refine g_iload_n (pc := 62) (x := (i : Int)) dX11_primesOf_62 rfl ?_
        refine g_laldN (pc := 63) (j := i) dX11_primesOf_63 hL (by omega) (by omega) (by omega) ?_
        rw [hLi]
        refine g_lastN (pc := 64) (j := us.length) dX11_primesOf_64 hU (by omega) (by omega) (by omega) ?_
        have hx_1 := hx.ne (e := eA 3 16 (va_up U us.length ((gl.getD i 0 : Nat) : Int))) (a := x + 22) (by omega)
        have hL_1 := hL.ne (e := eA 3 16 (va_up U us.length ((gl.getD i 0 : Nat) : Int))) (a := x + 22) (by omega)
        have hU_1 := hU.self (e := eA 3 16 (va_up U us.length ((gl.getD i 0 : Nat) : Int)))
        refine g_aload_n (pc := 65) (r := .inl (some x)) dX11_primesOf_65 rfl ?_
        refine g_dup (pc := 66) dX11_primesOf_66 rfl ?_
        refine g_getf (pc := 67) (v := vI (us.length : Int)) flX11_230 dX11_primesOf_67 hx_1 rfl ?_
        refine g_iconst (pc := 70) dX11_primesOf_70 ?_
        refine g_iadd (pc := 71) dX11_primesOf_71 ?_
        refine g_putf (pc := 72) fpX11_230 dX11_primesOf_72 hx_1 (okv_int _) (Nat.le_of_ble_eq_true rfl) ?_
        have hx_2 := hx_1.self (e := mdl x th wd pm (gl.length : Int) mu ((us.length : Int) + 1) pr ts)
        have hL_2 := hL_1.ne (e := mdl x th wd pm (gl.length : Int) mu ((us.length : Int) + 1) pr ts) (a := x) (by omega)
        have hU_2 := hU_1.ne (e := mdl x th wd pm (gl.length : Int) mu ((us.length : Int) + 1) pr ts) (a := x) (by omega)
        refine g_iinc (pc := 75) (x := (i : Int)) (lo2 := [(0, vR x), (1, vJ (v : Int)), (3, vI ((i : Int) + 1))]) dX11_primesOf_75 rfl (by decide) rfl ?_
        refine g_goto (pc := 78) (tgt := 17) dX11_primesOf_78 (by decide) ?_
        refine ih (i + 1) _ (us ++ [gl.getD i 0]) _ _ (by omega) (by omega) (FLk_add u1) (List.nodup_append.mpr ⟨u2, List.nodup_cons.mpr ⟨List.not_mem_nil, List.nodup_nil⟩, fun a ha b hb e => by
          rw [List.mem_singleton] at hb
          exact (show a ≠ b from fun z => by have h9 := take_mem_le gs hi (by omega) ((u3 a).mp ha); omega) e⟩) (fun y => ?_) (by rw [List.length_append, List.length_singleton]; exact hx_2) hU_2 (fun a z1 z2 => ?_)
        · rw [hsn, List.mem_append, List.mem_append, u3]
        · rw [va_up_ne _ _ z1, va_up_ne _ _ z2]
          exact hk a z1 z2
      · refine g_goto (pc := 47) (tgt := 75) dX11_primesOf_47 (by decide) ?_
        refine g_iinc (pc := 75) (x := (i : Int)) (lo2 := [(0, vR x), (1, vJ (v : Int)), (3, vI ((i : Int) + 1))]) dX11_primesOf_75 rfl (by decide) rfl ?_
        refine g_goto (pc := 78) (tgt := 17) dX11_primesOf_78 (by decide) ?_
        refine ih (i + 1) _ us U h (by omega) (by omega) u1 u2 (fun y => ?_) hx hU hk
        rw [u3, hsn, List.mem_append, List.mem_singleton]
        constructor
        · exact Or.inl
        · rintro (z | z)
          · exact z
          · rw [z, show gl.getD i 0 = gl.getD (i - 1) 0 by omega]
            exact (take_le_mem gs hi (by omega)).2

theorem c_primesOf {N d x v : Nat} {pr ts : Int} {h : MH} (v1 : 1 ≤ v) (vb : v ≤ 1000000000000) (hx : MO N h x pr ts) (h18 : ∃ P, Hd (0, 0, N) h (x + 18) (eA 3 70 P)) (h22 : ∃ P, Hd (0, 0, N) h (x + 22) (eA 3 16 P)) : Ok mX11_primesOf (d + 1) 0 0 [vR x, vJ (v : Int)] N h (fun r h2 => r = none ∧ ∃ (us : List Nat) (U : Nat → Int) (th wd pm fm mu : Int), Hd (0, 0, N) h2 x (mdl x th wd pm fm mu (us.length : Int) pr ts) ∧ Hd (0, 0, N) h2 (x + 22) (eA 3 16 U) ∧ (∃ P, Hd (0, 0, N) h2 (x + 18) (eA 3 70 P)) ∧ FLk U us ∧ us.Nodup ∧ (∀ y, y ∈ us ↔ prm y ∧ y ∣ v) ∧ ∀ a, a ≠ x → a ≠ x + 18 → a ≠ x + 22 → h2 a = h a) := by
  refine Ok.of pfX11_primesOf rfl (Nat.le_of_ble_eq_true rfl) (fun Ls sx => ?_)
  show G mX11_primesOf (d + 1, 0, 0, Ls, sx) 0 [(0, vR x), (1, vJ (v : Int))] [] (0, 0, N) h _
  obtain ⟨th, wd, pm, fm, mu, um, hx⟩ := hx
  obtain ⟨L0, hL⟩ := h18
  obtain ⟨U0, hU⟩ := h22
  refine g_aload_n (pc := 0) (r := .inl (some x)) dX11_primesOf_0 rfl ?_
  refine g_iconst (pc := 1) dX11_primesOf_1 ?_
  refine g_putf (pc := 2) fpX11_167 dX11_primesOf_2 hx (okv_int _) (Nat.le_of_ble_eq_true rfl) ?_
  have hx_1 := hx.self (e := mdl x th wd pm 0 mu um pr ts)
  have hL_1 := hL.ne (e := mdl x th wd pm 0 mu um pr ts) (a := x) (by omega)
  have hU_1 := hU.ne (e := mdl x th wd pm 0 mu um pr ts) (a := x) (by omega)
  refine g_aload_n (pc := 5) (r := .inl (some x)) dX11_primesOf_5 rfl ?_
  refine g_lload_n (pc := 6) (x := (v : Int)) dX11_primesOf_6 rfl ?_
  refine g_callV0 (pc := 7) (as := [vJ (v : Int)]) (b := x) (st := []) lvX11_170 dX11_primesOf_7 hx_1 (Nat.le_of_ble_eq_true rfl) (by omega) (Nat.zero_le _) (Nat.zero_le _) (c_factor (d := d) (fl := []) (fun y hy => absurd hy List.not_mem_nil) v1 vb (by show 1 * v ≤ _; omega) hx_1 hL_1 (fun i hi => absurd hi (Nat.not_lt_zero i))) ?_
  rintro r h1 ⟨rfl, gl, L, gp, ⟨g1, gs⟩, o1, o18, hF, k1⟩
  rw [List.nil_append] at o1 hF
  have hx1 : Hd (0, 0, N) h1 x (mdl x th wd pm (gl.length : Int) mu um pr ts) := ⟨hx.1, o1⟩
  have hg := len_62 (prm_two g1) (by rw [gp]; omega)
  have hL1 : Hd (0, 0, N) h1 (x + 18) (eA 3 70 L) := ⟨hL.1, o18⟩
  have hU1 := hU_1.keep (k1 _ (by omega) (by omega))
  refine g_aload_n (pc := 10) (r := .inl (some x)) dX11_primesOf_10 rfl ?_
  refine g_iconst (pc := 11) dX11_primesOf_11 ?_
  refine g_putf (pc := 12) fpX11_230 dX11_primesOf_12 hx1 (okv_int _) (Nat.le_of_ble_eq_true rfl) ?_
  have hx_2 := hx1.self (e := mdl x th wd pm (gl.length : Int) mu 0 pr ts)
  have hL1_2 := hL1.ne (e := mdl x th wd pm (gl.length : Int) mu 0 pr ts) (a := x) (by omega)
  have hU1_2 := hU1.ne (e := mdl x th wd pm (gl.length : Int) mu 0 pr ts) (a := x) (by omega)
  refine g_iconst (pc := 15) dX11_primesOf_15 ?_
  refine g_istore_n (pc := 16) (lo2 := [(0, vR x), (1, vJ (v : Int)), (3, vI 0)]) dX11_primesOf_16 (by decide) rfl ?_
  refine Q_mono (prs_l (gl := gl) v1 vb gp g1 gs hg hF hL1_2 gl.length 0 _ [] U0 _ (by omega) rfl (fun i hi => absurd hi (Nat.not_lt_zero i)) List.nodup_nil (fun y => by rw [List.take_zero]) hx_2 hU1_2 (fun _ _ _ => rfl)) ?_
  rintro r h2 ⟨e1, us, U, q1, q2, q3, q4, q5, q6⟩
  refine ⟨e1, us, U, th, wd, pm, _, mu, ⟨hx.1, q1⟩, ⟨hU.1, q2⟩, ⟨L, hL.1, (q6 _ (by omega) (by omega)).trans hL1_2.2⟩, q3, q4, q5, fun a z1 z2 z3 => ?_⟩
  rw [q6 a z1 z3, va_up_ne _ _ z1, k1 a z1 z2, va_up_ne _ _ z1]

theorem ishr_of : ∀ x : Nat, x < 2048 → ∀ i : Nat, i < 11 → (Int32.ofInt (x : Int) >>> (Int32.ofInt (i : Int) &&& 31)).toInt = ((x / 2 ^ i : Nat) : Int) := by decide +kernel
theorem rnd_l1 {N d x i l c Ls : Nat} {sx : Nat → Int} {K th wd pm fm mu pr ts : Int} {us : List Nat} {U : Nat → Int} {h : MH} {Q : Option MV → MR → MH → Prop} (hus : us.length ≤ 11) (hc : c < 2048) (hl : l ≤ 1000000000000) (hF : FLk U us) (h2 : ∀ y ∈ us, 2 ≤ y ∧ y ≤ 1000000000000) (hx : Hd (0, 0, N) h x (mdl x th wd pm fm mu (us.length : Int) pr ts)) (hU : Hd (0, 0, N) h (x + 22) (eA 3 16 U)) (hK : G mX11_rounds (d + 4, 0, 0, Ls, sx) 105 [(0, vR x), (1, vI (i : Int)), (2, vJ (l : Int)), (4, vJ K), (6, vI (c : Int)), (7, vJ ((dvd9 (fun j => us.getD j 0) l c us.length : Nat) : Int)), (9, vI ((bits9 c us.length : Nat) : Int))] [] (0, 0, N) h Q) : ∀ (f j : Nat) (xj : Int), j + f = us.length → xj = (j : Int) → G mX11_rounds (d + 4, 0, 0, Ls, sx) 62 [(0, vR x), (1, vI (i : Int)), (2, vJ (l : Int)), (4, vJ K), (6, vI (c : Int)), (7, vJ ((dvd9 (fun j => us.getD j 0) l c j : Nat) : Int)), (9, vI ((bits9 c j : Nat) : Int)), (10, vI xj)] [] (0, 0, N) h Q := by
  intro f
  induction f with
  | zero =>
    intro j xj hf ex
    have ej : j = us.length := by omega
    subst ej
    refine g_iload (pc := 62) (x := xj) dX11_rounds_62 rfl ?_
    refine g_aload_n (pc := 64) (r := .inl (some x)) dX11_rounds_64 rfl ?_
    refine g_getf (pc := 65) (v := vI (us.length : Int)) flX11_230 dX11_rounds_65 hx rfl ?_
    refine g_icmp_geT (pc := 68) (tgt := 105) dX11_rounds_68 (by decide) (by omega) (by omega) (by omega) ?_
    refine g_pick [0, 1, 2, 3, 4, 5, 6] (lo2 := [(0, vR x), (1, vI (i : Int)), (2, vJ (l : Int)), (4, vJ K), (6, vI (c : Int)), (7, vJ ((dvd9 (fun j => us.getD j 0) l c us.length : Nat) : Int)), (9, vI ((bits9 c us.length : Nat) : Int))]) rfl ?_
    exact hK
  | succ f ih =>
    intro j xj hf ex
    have hj : j < us.length := by omega
    have hmem : us.getD j 0 ∈ us := by simp [List.getD, hj]
    obtain ⟨e2, e3⟩ := h2 _ hmem
    have hUj := hF j hj
    have hle := dvd9_le (ps := (fun j => us.getD j 0)) (l := l) (x := c) j
    have hs : dvd9 (fun j => us.getD j 0) l c (j + 1) = if c / 2 ^ j % 2 = 1 then dvd9 (fun j => us.getD j 0) l c j / us.getD j 0 else dvd9 (fun j => us.getD j 0) l c j := rfl
    have hb : bits9 c (j + 1) = bits9 c j + c / 2 ^ j % 2 := rfl
    have hdl : c / 2 ^ j < 2048 := Nat.lt_of_le_of_lt (Nat.div_le_self _ _) hc
    have hbt := Nat.mod_lt (c / 2 ^ j) (show 0 < 2 by omega)
    subst ex
    refine g_iload (pc := 62) (x := (j : Int)) dX11_rounds_62 rfl ?_
    refine g_aload_n (pc := 64) (r := .inl (some x)) dX11_rounds_64 rfl ?_
    refine g_getf (pc := 65) (v := vI (us.length : Int)) flX11_230 dX11_rounds_65 hx rfl ?_
    refine g_icmp_geF (pc := 68) (tgt := 105) dX11_rounds_68 (by decide) (by omega) (by omega) (by omega) ?_
    refine g_iload (pc := 71) (x := (c : Int)) dX11_rounds_71 rfl ?_
    refine g_iload (pc := 73) (x := (j : Int)) dX11_rounds_73 rfl ?_
    refine g_ishr (pc := 75) dX11_rounds_75 ?_
    rw [ishr_of c hc j (by omega)]
    refine g_iconst (pc := 76) dX11_rounds_76 ?_
    refine g_iand (pc := 77) dX11_rounds_77 ?_
    rw [iand1_of _ hdl]
    refine g_if_ne (pc := 78) (tgt := 84) dX11_rounds_78 (by decide) (by omega) (fun hb1 => ?_) (fun hb1 => ?_)
    · rw [if_pos (by omega)] at hs
      refine g_lload (pc := 84) (x := ((dvd9 (fun j => us.getD j 0) l c j : Nat) : Int)) dX11_rounds_84 rfl ?_
      refine g_aload_n (pc := 86) (r := .inl (some x)) dX11_rounds_86 rfl ?_
      refine g_getf (pc := 87) (v := vR (x + 22)) flX11_76 dX11_rounds_87 hx rfl ?_
      refine g_iload (pc := 90) (x := (j : Int)) dX11_rounds_90 rfl ?_
      refine g_laldN (pc := 92) (j := j) dX11_rounds_92 hU (by omega) (by omega) (by omega) ?_
      rw [hUj]
      refine g_ldiv (pc := 93) dX11_rounds_93 (by omega) (by omega) (by omega) ?_
      rw [tdivN (rfl : ((dvd9 (fun j => us.getD j 0) l c j : Nat) : Int) = _) (rfl : ((us.getD j 0 : Nat) : Int) = _), ← hs]
      refine g_lstore (pc := 94) (lo2 := [(0, vR x), (1, vI (i : Int)), (2, vJ (l : Int)), (4, vJ K), (6, vI (c : Int)), (7, vJ ((dvd9 (fun j => us.getD j 0) l c (j + 1) : Nat) : Int)), (9, vI ((bits9 c j : Nat) : Int)), (10, vI (j : Int))]) dX11_rounds_94 (by decide) rfl ?_
      refine g_iinc (pc := 96) (x := ((bits9 c j : Nat) : Int)) (lo2 := [(0, vR x), (1, vI (i : Int)), (2, vJ (l : Int)), (4, vJ K), (6, vI (c : Int)), (7, vJ ((dvd9 (fun j => us.getD j 0) l c (j + 1) : Nat) : Int)), (9, vI (((bits9 c j : Nat) : Int) + 1)), (10, vI (j : Int))]) dX11_rounds_96 rfl (by decide) rfl ?_
      refine g_iinc (pc := 99) (x := (j : Int)) (lo2 := [(0, vR x), (1, vI (i : Int)), (2, vJ (l : Int)), (4, vJ K), (6, vI (c : Int)), (7, vJ ((dvd9 (fun j => us.getD j 0) l c (j + 1) : Nat) : Int)), (9, vI (((bits9 c j : Nat) : Int) + 1)), (10, vI ((j : Int) + 1))]) dX11_rounds_99 rfl (by decide) rfl ?_
      refine g_goto (pc := 102) (tgt := 62) dX11_rounds_102 (by decide) ?_
      rw [show ((bits9 c j : Nat) : Int) + 1 = ((bits9 c (j + 1) : Nat) : Int) by omega]
      exact ih (j + 1) _ (by omega) (by omega)
    · rw [if_neg (by omega)] at hs
      refine g_goto (pc := 81) (tgt := 99) dX11_rounds_81 (by decide) ?_
      refine g_iinc (pc := 99) (x := (j : Int)) (lo2 := [(0, vR x), (1, vI (i : Int)), (2, vJ (l : Int)), (4, vJ K), (6, vI (c : Int)), (7, vJ ((dvd9 (fun j => us.getD j 0) l c j : Nat) : Int)), (9, vI ((bits9 c j : Nat) : Int)), (10, vI ((j : Int) + 1))]) dX11_rounds_99 rfl (by decide) rfl ?_
      refine g_goto (pc := 102) (tgt := 62) dX11_rounds_102 (by decide) ?_
      rw [← hs, show bits9 c j = bits9 c (j + 1) by omega]
      exact ih (j + 1) _ (by omega) (by omega)

theorem rnd_l2 {N d x i n M l Ls : Nat} {sx T Y : Nat → Int} {pr ts : Int} {us : List Nat} {U : Nat → Int} {h0 : MH} (n1 : 1 ≤ n) (hn : n ≤ 4) (hM : 2 ≤ M) (hM2 : M ≤ 500) (hi : i < 6) (hus : us.length ≤ 11) (hl : l ≤ 1000000000000) (hF : FLk U us) (h2 : ∀ y ∈ us, 2 ≤ y ∧ y ≤ 1000000000000) (hr0 : MRw N h0 x i n M T Y) (hU0 : Hd (0, 0, N) h0 (x + 22) (eA 3 16 U)) : ∀ (f c : Nat) (xc K th wd pm fm mu : Int) (h : MH), c + f = 2 ^ us.length → xc = (c : Int) → K = ss (fun x => if bits9 x us.length % 2 = 0 then ((nfM n M (au n T) (dvd9 (fun j => us.getD j 0) l x us.length) : Nat) : Int) else -((nfM n M (au n T) (dvd9 (fun j => us.getD j 0) l x us.length) : Nat) : Int)) 0 c → Hd (0, 0, N) h x (mdl x th wd pm fm mu (us.length : Int) pr ts) → SCR N h x → SC2 N h x → (∀ a, a ≠ x → (a < x + 10 ∨ x + 21 < a) → h a = h0 a) → G mX11_rounds (d + 4, 0, 0, Ls, sx) 42 [(0, vR x), (1, vI (i : Int)), (2, vJ (l : Int)), (4, vJ K), (6, vI xc)] [] (0, 0, N) h (Pq mX11_rounds 0 0 (fun r9 h2 => r9 = some (vJ (ie (fun j => us.getD j 0) l us.length (fun e => ((nfM n M (au n T) e : Nat) : Int)))) ∧ MO N h2 x pr ts ∧ SCR N h2 x ∧ SC2 N h2 x ∧ ∀ a, a ≠ x → (a < x + 10 ∨ x + 21 < a) → h2 a = h0 a)) := by
  intro f
  induction f with
  | zero =>
    intro c xc K th wd pm fm mu h hf ex eK hx hs hs2 hk
    have hU := hU0.keep (hk _ (by omega) (by omega))
    have hpb := pow_11 us.length (by omega)
    have esh := ishl1_of us.length (by omega)
    refine g_iload (pc := 42) (x := xc) dX11_rounds_42 rfl ?_
    refine g_iconst (pc := 44) dX11_rounds_44 ?_
    refine g_aload_n (pc := 45) (r := .inl (some x)) dX11_rounds_45 rfl ?_
    refine g_getf (pc := 46) (v := vI (us.length : Int)) flX11_230 dX11_rounds_46 hx rfl ?_
    refine g_ishl (pc := 49) dX11_rounds_49 ?_
    rw [esh]
    refine g_icmp_geT (pc := 50) (tgt := 141) dX11_rounds_50 (by decide) (by omega) (by omega) (by omega) ?_
    refine g_lload (pc := 141) (x := K) dX11_rounds_141 rfl ?_
    have eK2 : K = (ie (fun j => us.getD j 0) l us.length (fun e => ((nfM n M (au n T) e : Nat) : Int))) := by rw [eK, show c = 2 ^ us.length by omega]; rfl
    rw [eK2]
    exact r_long (pc := 143) dX11_rounds_143 rfl rfl (Nat.le_refl _) ⟨rfl, ⟨_, _, _, _, _, _, hx⟩, hs, hs2, hk⟩
  | succ f ih =>
    intro c xc K th wd pm fm mu h hf ex eK hx hs hs2 hk
    have hU := hU0.keep (hk _ (by omega) (by omega))
    have hpb := pow_11 us.length (by omega)
    have esh := ishl1_of us.length (by omega)
    subst ex
    refine g_iload (pc := 42) (x := (c : Int)) dX11_rounds_42 rfl ?_
    refine g_iconst (pc := 44) dX11_rounds_44 ?_
    refine g_aload_n (pc := 45) (r := .inl (some x)) dX11_rounds_45 rfl ?_
    refine g_getf (pc := 46) (v := vI (us.length : Int)) flX11_230 dX11_rounds_46 hx rfl ?_
    refine g_ishl (pc := 49) dX11_rounds_49 ?_
    rw [esh]
    refine g_icmp_geF (pc := 50) (tgt := 141) dX11_rounds_50 (by decide) (by omega) (by omega) (by omega) ?_
    have hcx : c < 2048 := by omega
    have hle := dvd9_le (ps := (fun j => us.getD j 0)) (l := l) (x := c) us.length
    refine g_lload_n (pc := 53) (x := (l : Int)) dX11_rounds_53 rfl ?_
    refine g_lstore (pc := 54) (lo2 := [(0, vR x), (1, vI (i : Int)), (2, vJ (l : Int)), (4, vJ K), (6, vI (c : Int)), (7, vJ (l : Int))]) dX11_rounds_54 (by decide) rfl ?_
    refine g_iconst (pc := 56) dX11_rounds_56 ?_
    refine g_istore (pc := 57) (lo2 := [(0, vR x), (1, vI (i : Int)), (2, vJ (l : Int)), (4, vJ K), (6, vI (c : Int)), (7, vJ (l : Int)), (9, vI 0)]) dX11_rounds_57 (by decide) rfl ?_
    refine g_iconst (pc := 59) dX11_rounds_59 ?_
    refine g_istore (pc := 60) (lo2 := [(0, vR x), (1, vI (i : Int)), (2, vJ (l : Int)), (4, vJ K), (6, vI (c : Int)), (7, vJ (l : Int)), (9, vI 0), (10, vI 0)]) dX11_rounds_60 (by decide) rfl ?_
    refine rnd_l1 (us := us) hus hcx hl hF h2 hx hU ?_ us.length 0 _ (by omega) rfl
    have hb11 := bits9_le c us.length
    refine g_lload (pc := 105) (x := K) dX11_rounds_105 rfl ?_
    refine g_iload (pc := 107) (x := ((bits9 c us.length : Nat) : Int)) dX11_rounds_107 rfl ?_
    refine g_iconst (pc := 109) dX11_rounds_109 ?_
    refine g_irem (pc := 110) dX11_rounds_110 (by omega) (by omega) (by omega) ?_
    rw [show ((bits9 c us.length : Nat) : Int).tmod 2 = ((bits9 c us.length % 2 : Nat) : Int) from tmodN rfl rfl]
    have hs9 : ss (fun x => if bits9 x us.length % 2 = 0 then ((nfM n M (au n T) (dvd9 (fun j => us.getD j 0) l x us.length) : Nat) : Int) else -((nfM n M (au n T) (dvd9 (fun j => us.getD j 0) l x us.length) : Nat) : Int)) 0 (c + 1) = ss (fun x => if bits9 x us.length % 2 = 0 then ((nfM n M (au n T) (dvd9 (fun j => us.getD j 0) l x us.length) : Nat) : Int) else -((nfM n M (au n T) (dvd9 (fun j => us.getD j 0) l x us.length) : Nat) : Int)) 0 c + (fun x => if bits9 x us.length % 2 = 0 then ((nfM n M (au n T) (dvd9 (fun j => us.getD j 0) l x us.length) : Nat) : Int) else -((nfM n M (au n T) (dvd9 (fun j => us.getD j 0) l x us.length) : Nat) : Int)) (0 + c) := ss_last _ c 0
    rw [Nat.zero_add] at hs9
    dsimp only at hs9
    have hb2 := Nat.mod_lt (bits9 c us.length) (show 0 < 2 by omega)
    have hr := hr0.keep (h2 := h) (fun a z1 z2 => hk a (by omega) (by omega))
    refine g_if_ne (pc := 111) (tgt := 124) dX11_rounds_111 (by decide) (by omega) (fun hc => ?_) (fun hc => ?_)
    · rw [if_neg (show ¬ bits9 c us.length % 2 = 0 by omega)] at hs9
      refine g_aload_n (pc := 124) (r := .inl (some x)) dX11_rounds_124 rfl ?_
      refine g_iload_n (pc := 125) (x := (i : Int)) dX11_rounds_125 rfl ?_
      refine g_lload (pc := 126) (x := ((dvd9 (fun j => us.getD j 0) l c us.length : Nat) : Int)) dX11_rounds_126 rfl ?_
      refine g_callV0 (pc := 128) (as := [vI (i : Int), vJ ((dvd9 (fun j => us.getD j 0) l c us.length : Nat) : Int)]) (b := x) (st := [vJ K]) lvX11_226 dX11_rounds_128 hx (Nat.le_of_ble_eq_true rfl) (by omega) (Nat.zero_le _) (Nat.zero_le _) (c_fixedU (d := d) (t := dvd9 (fun j => us.getD j 0) l c us.length) n1 hn hM hM2 hi (by omega) hx hr hs hs2) ?_
      rintro r h3 ⟨e9, ⟨th3, wd3, pm3, fm3, mu3, hx3⟩, s3, s4, k3⟩
      subst e9
      refine g_lneg (pc := 131) dX11_rounds_131 ?_
      refine g_ladd (pc := 132) dX11_rounds_132 ?_
      refine g_lstore (pc := 133) (lo2 := [(0, vR x), (1, vI (i : Int)), (2, vJ (l : Int)), (4, vJ (K + (-((nfM n M (au n T) (dvd9 (fun j => us.getD j 0) l c us.length) : Nat) : Int)))), (6, vI (c : Int)), (7, vJ ((dvd9 (fun j => us.getD j 0) l c us.length : Nat) : Int)), (9, vI ((bits9 c us.length : Nat) : Int))]) dX11_rounds_133 (by decide) rfl ?_
      refine g_iinc (pc := 135) (x := (c : Int)) (lo2 := [(0, vR x), (1, vI (i : Int)), (2, vJ (l : Int)), (4, vJ (K + (-((nfM n M (au n T) (dvd9 (fun j => us.getD j 0) l c us.length) : Nat) : Int)))), (6, vI ((c : Int) + 1)), (7, vJ ((dvd9 (fun j => us.getD j 0) l c us.length : Nat) : Int)), (9, vI ((bits9 c us.length : Nat) : Int))]) dX11_rounds_135 rfl (by decide) rfl ?_
      refine g_goto (pc := 138) (tgt := 42) dX11_rounds_138 (by decide) ?_
      refine g_pick [0, 1, 2, 3, 4] (lo2 := [(0, vR x), (1, vI (i : Int)), (2, vJ (l : Int)), (4, vJ (K + (-((nfM n M (au n T) (dvd9 (fun j => us.getD j 0) l c us.length) : Nat) : Int)))), (6, vI ((c : Int) + 1))]) rfl ?_
      exact ih (c + 1) _ _ th3 wd3 pm3 fm3 mu3 h3 (by omega) (by omega) (by rw [hs9, eK]) hx3 s3 s4 (fun a z1 z2 => (k3 a z1 z2).trans (hk a z1 z2))
    · rw [if_pos (show bits9 c us.length % 2 = 0 by omega)] at hs9
      refine g_aload_n (pc := 114) (r := .inl (some x)) dX11_rounds_114 rfl ?_
      refine g_iload_n (pc := 115) (x := (i : Int)) dX11_rounds_115 rfl ?_
      refine g_lload (pc := 116) (x := ((dvd9 (fun j => us.getD j 0) l c us.length : Nat) : Int)) dX11_rounds_116 rfl ?_
      refine g_callV0 (pc := 118) (as := [vI (i : Int), vJ ((dvd9 (fun j => us.getD j 0) l c us.length : Nat) : Int)]) (b := x) (st := [vJ K]) lvX11_226 dX11_rounds_118 hx (Nat.le_of_ble_eq_true rfl) (by omega) (Nat.zero_le _) (Nat.zero_le _) (c_fixedU (d := d) (t := dvd9 (fun j => us.getD j 0) l c us.length) n1 hn hM hM2 hi (by omega) hx hr hs hs2) ?_
      rintro r h3 ⟨e9, ⟨th3, wd3, pm3, fm3, mu3, hx3⟩, s3, s4, k3⟩
      subst e9
      refine g_goto (pc := 121) (tgt := 132) dX11_rounds_121 (by decide) ?_
      refine g_ladd (pc := 132) dX11_rounds_132 ?_
      refine g_lstore (pc := 133) (lo2 := [(0, vR x), (1, vI (i : Int)), (2, vJ (l : Int)), (4, vJ (K + ((nfM n M (au n T) (dvd9 (fun j => us.getD j 0) l c us.length) : Nat) : Int))), (6, vI (c : Int)), (7, vJ ((dvd9 (fun j => us.getD j 0) l c us.length : Nat) : Int)), (9, vI ((bits9 c us.length : Nat) : Int))]) dX11_rounds_133 (by decide) rfl ?_
      refine g_iinc (pc := 135) (x := (c : Int)) (lo2 := [(0, vR x), (1, vI (i : Int)), (2, vJ (l : Int)), (4, vJ (K + ((nfM n M (au n T) (dvd9 (fun j => us.getD j 0) l c us.length) : Nat) : Int))), (6, vI ((c : Int) + 1)), (7, vJ ((dvd9 (fun j => us.getD j 0) l c us.length : Nat) : Int)), (9, vI ((bits9 c us.length : Nat) : Int))]) dX11_rounds_135 rfl (by decide) rfl ?_
      refine g_goto (pc := 138) (tgt := 42) dX11_rounds_138 (by decide) ?_
      refine g_pick [0, 1, 2, 3, 4] (lo2 := [(0, vR x), (1, vI (i : Int)), (2, vJ (l : Int)), (4, vJ (K + ((nfM n M (au n T) (dvd9 (fun j => us.getD j 0) l c us.length) : Nat) : Int))), (6, vI ((c : Int) + 1))]) rfl ?_
      exact ih (c + 1) _ _ th3 wd3 pm3 fm3 mu3 h3 (by omega) (by omega) (by rw [hs9, eK]) hx3 s3 s4 (fun a z1 z2 => (k3 a z1 z2).trans (hk a z1 z2))
