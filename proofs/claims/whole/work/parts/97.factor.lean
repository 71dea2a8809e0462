/-! ===== the reference: factor ===== -/
/-- the numbers of the factors' array -/
def FLk (L : Nat → Int) (fl : List Nat) : Prop := ∀ i, i < fl.length → L i = ((fl.getD i 0 : Nat) : Int)
theorem FLk_app {L : Nat → Int} {fl : List Nat} {x : Nat} (h : FLk L fl) : FLk (va_up L fl.length (x : Int)) (fl ++ [x]) := by
  intro i hi
  rw [List.length_append] at hi
  have hi2 : i < fl.length + 1 := hi
  by_cases hc : i = fl.length
  · subst hc
    rw [va_up_self]
    simp [List.getD]
  · rw [va_up_ne _ _ hc, h i (by omega)]
    congr 1
    simp [List.getD, List.getElem?_append_left (show i < fl.length by omega)]
theorem prodL_app (a b : List Nat) : prodL (a ++ b) = prodL a * prodL b := by
  induction a with
  | nil => show prodL b = 1 * prodL b; rw [Nat.one_mul]
  | cons x a ih => show x * prodL (a ++ b) = x * prodL a * prodL b; rw [ih, Nat.mul_assoc]
theorem prodL_one (x : Nat) : prodL [x] = x := Nat.mul_one x
theorem prodL_two : ∀ {l : List Nat}, (∀ x ∈ l, 2 ≤ x) → 2 ^ l.length ≤ prodL l
  | [], _ => Nat.le_refl _
  | x :: l, h => by
    have h1 := prodL_two (l := l) (fun y hy => h y (List.mem_cons_of_mem _ hy))
    have h2 := Nat.mul_le_mul (h x List.mem_cons_self) h1
    rw [List.length_cons, Nat.pow_succ, Nat.mul_comm]
    exact h2
theorem len_62 {l : List Nat} (h : ∀ x ∈ l, 2 ≤ x) (hb : prodL l ≤ 8000000000000000000) : l.length ≤ 62 := by
  have h1 := prodL_two h
  apply Nat.le_of_not_lt
  intro z
  have h2 : 2 ^ 63 ≤ 2 ^ l.length := Nat.pow_le_pow_right (by omega) z
  omega

theorem fac_l1 {κ : KX} {Q : Option MV → MR → MH → Prop} {N x v e B : Nat} {th wd pm mu um pr ts : Int} {h0 : MH} (he : 2 ≤ e) (heb : e ≤ 2000000) (hB : B ≤ 8000000000000000000) : ∀ (l : Nat) (xl : Int) (cur : List Nat) (L : Nat → Int) (h : MH), xl = (l : Int) → 0 < l → l ≤ 1000000000000 → prodL cur * l = B → (∀ y ∈ cur, 2 ≤ y) → Hd (0, 0, N) h x (mdl x th wd pm (cur.length : Int) mu um pr ts) → Hd (0, 0, N) h (x + 18) (eA 3 70 L) → FLk L cur → (∀ a, a ≠ x → a ≠ x + 18 → h a = h0 a) → (∀ (l2 : Nat) (gl : List Nat) (L2 : Nat → Int) (h2 : MH), 0 < l2 → l = prodL gl * l2 → ¬ e ∣ l2 → (∀ y ∈ gl, y = e) → (gl ≠ [] → e ∣ l) → Hd (0, 0, N) h2 x (mdl x th wd pm ((cur ++ gl).length : Int) mu um pr ts) → Hd (0, 0, N) h2 (x + 18) (eA 3 70 L2) → FLk L2 (cur ++ gl) → (∀ a, a ≠ x → a ≠ x + 18 → h2 a = h0 a) → G mX11_factor κ 55 [(0, vR x), (1, vJ (v : Int)), (3, vJ ((l2 : Nat) : Int)), (5, vJ (e : Int))] [] (0, 0, N) h2 Q) → G mX11_factor κ 17 [(0, vR x), (1, vJ (v : Int)), (3, vJ xl), (5, vJ (e : Int))] [] (0, 0, N) h Q := by
  intro l
  induction l using Nat.strongRecOn with
  | ind l ih =>
    intro xl cur L h el l0 lb hp hc hx hL hfl hk hK
    have em := tmodN el (rfl : (e : Int) = (e : Int))
    have ed := tdivN el (rfl : (e : Int) = (e : Int))
    have hml := Nat.mod_lt l (show 0 < e by omega)
    have hlen : cur.length ≤ 62 := len_62 hc (by have := Nat.le_mul_of_pos_right (prodL cur) l0; omega)
    by_cases hd : l % e = 0
    · have hlp : l = e * (l / e) := by have := Nat.div_add_mod l e; omega
      have hlt : l / e < l := Nat.div_lt_self l0 (by omega)
      have hl1 : 0 < l / e := by
        apply Nat.pos_of_ne_zero
        intro z
        rw [z] at hlp
        omega
      have hp2 : prodL (cur ++ [e]) * (l / e) = B := by
        rw [prodL_app, prodL_one, Nat.mul_assoc, ← hlp]
        exact hp
      have hc2 : ∀ y ∈ cur ++ [e], 2 ≤ y := fun y hy => by
        rcases List.mem_append.mp hy with z | z
        · exact hc y z
        · rw [List.mem_singleton] at z
          omega
      have hob : Hd (0, 0, N) h x (mdl x th wd pm (cur.length : Int) mu um pr ts) := hx
      refine g_lload_n (pc := 17) (x := xl) dX11_factor_17 rfl ?_
      refine g_lload (pc := 18) (x := (e : Int)) dX11_factor_18 rfl ?_
      refine g_lrem (pc := 20) dX11_factor_20 (by omega) (by omega) (by omega) ?_
      refine g_lconst0 (pc := 21) dX11_factor_21 ?_
      refine g_lif_neF (pc := 22) (tgt := 55) dX11_factor_22 dX11_factor_23 (by decide) (by omega) (by omega) (by rw [em, hd]; rfl) ?_
      refine g_aload_n (pc := 26) (r := .inl (some x)) dX11_factor_26 rfl ?_
      refine g_getf (pc := 27) (v := vR (x + 18)) flX11_63 dX11_factor_27 hx rfl ?_
      refine g_aload_n (pc := 30) (r := .inl (some x)) dX11_factor_30 rfl ?_
      refine g_getf (pc := 31) (v := vI (cur.length : Int)) flX11_167 dX11_factor_31 hx rfl ?_
      refine g_lload (pc := 34) (x := (e : Int)) dX11_factor_34 rfl ?_
      refine g_lastN (pc := 36) (j := cur.length) dX11_factor_36 hL (by omega) (by omega) (by omega) ?_
      have hx_1 := hx.ne (e := eA 3 70 (va_up L cur.length (e : Int))) (a := x + 18) (by omega)
      have hL_1 := hL.self (e := eA 3 70 (va_up L cur.length (e : Int)))
      refine g_aload_n (pc := 37) (r := .inl (some x)) dX11_factor_37 rfl ?_
      refine g_dup (pc := 38) dX11_factor_38 rfl ?_
      refine g_getf (pc := 39) (v := vI (cur.length : Int)) flX11_167 dX11_factor_39 hx_1 rfl ?_
      refine g_iconst (pc := 42) dX11_factor_42 ?_
      refine g_iadd (pc := 43) dX11_factor_43 ?_
      refine g_putf (pc := 44) fpX11_167 dX11_factor_44 hx_1 (okv_int _) (Nat.le_of_ble_eq_true rfl) ?_
      have hx_2 := hx_1.self (e := mdl x th wd pm ((cur.length : Int) + 1) mu um pr ts)
      have hL_2 := hL_1.ne (e := mdl x th wd pm ((cur.length : Int) + 1) mu um pr ts) (a := x) (by omega)
      refine g_lload_n (pc := 47) (x := xl) dX11_factor_47 rfl ?_
      refine g_lload (pc := 48) (x := (e : Int)) dX11_factor_48 rfl ?_
      refine g_ldiv (pc := 50) dX11_factor_50 (by omega) (by omega) (by omega) ?_
      refine g_lstore_n (pc := 51) (lo2 := [(0, vR x), (1, vJ (v : Int)), (3, vJ (xl.tdiv (e : Int))), (5, vJ (e : Int))]) dX11_factor_51 (by decide) rfl ?_
      refine g_goto (pc := 52) (tgt := 17) dX11_factor_52 (by decide) ?_
      refine ih (l / e) hlt _ (cur ++ [e]) _ _ ed hl1 (by omega) hp2 hc2 (by rw [List.length_append]; exact hx_2) hL_2 (FLk_app hfl) (fun a a1 a2 => (va_up_ne _ _ a1).trans ((va_up_ne _ _ a2).trans (hk a a1 a2))) (fun l2 gl L2 h2 z0 z1 z2 z3 z4 z5 z6 z7 z8 => hK l2 (e :: gl) L2 h2 z0 ?_ z2 (fun y hy => (List.mem_cons.mp hy).elim id (z3 y)) (fun _ => ⟨_, hlp⟩) (by rw [List.append_assoc] at z5; exact z5) z6 (by rw [List.append_assoc] at z7; exact z7) z8)
      show l = e * prodL gl * l2
      rw [Nat.mul_assoc, ← z1]
      exact hlp
    · refine g_lload_n (pc := 17) (x := xl) dX11_factor_17 rfl ?_
      refine g_lload (pc := 18) (x := (e : Int)) dX11_factor_18 rfl ?_
      refine g_lrem (pc := 20) dX11_factor_20 (by omega) (by omega) (by omega) ?_
      refine g_lconst0 (pc := 21) dX11_factor_21 ?_
      refine g_lif_neT (pc := 22) (tgt := 55) dX11_factor_22 dX11_factor_23 (by decide) (by omega) (by omega) (by rw [em]; omega) ?_
      subst el
      exact hK l [] L h l0 (by show l = 1 * l; rw [Nat.one_mul]) (fun z => hd (Nat.mod_eq_zero_of_dvd z)) (fun y hy => absurd hy List.not_mem_nil) (fun z => absurd rfl z) (by rw [List.append_nil]; exact hx) hL (by rw [List.append_nil]; exact hfl) hk

theorem fac_l2 {κ : KX} {N x v : Nat} {th wd pm mu um pr ts : Int} {fl : List Nat} (hfl2 : ∀ y ∈ fl, 2 ≤ y) (v1 : 1 ≤ v) (vb : v ≤ 1000000000000) (hB : prodL fl * v ≤ 8000000000000000000) {h0 : MH} : ∀ (f e l : Nat) (xe : Int) (gl : List Nat) (L : Nat → Int) (h : MH), e + f = 1000002 → xe = (e : Int) → 2 ≤ e → 0 < l → prodL gl * l = v → ((∀ y ∈ gl, prm y) ∧ gl.Pairwise (fun a b => a ≤ b)) → (∀ y ∈ gl, y ≤ e) → (∀ j, 2 ≤ j → j < e → ¬ j ∣ l) → Hd (0, 0, N) h x (mdl x th wd pm ((fl ++ gl).length : Int) mu um pr ts) → Hd (0, 0, N) h (x + 18) (eA 3 70 L) → FLk L (fl ++ gl) → (∀ a, a ≠ x → a ≠ x + 18 → h a = h0 a) → G mX11_factor κ 7 [(0, vR x), (1, vJ (v : Int)), (3, vJ (l : Int)), (5, vJ xe)] [] (0, 0, N) h (Pq mX11_factor 0 0 (fun r h2 => r = none ∧ ∃ gl L2, prodL gl = v ∧ ((∀ y ∈ gl, prm y) ∧ gl.Pairwise (fun a b => a ≤ b)) ∧ h2 x = mdl x th wd pm ((fl ++ gl).length : Int) mu um pr ts ∧ h2 (x + 18) = eA 3 70 L2 ∧ FLk L2 (fl ++ gl) ∧ ∀ a, a ≠ x → a ≠ x + 18 → h2 a = h0 a)) := by
  intro f
  induction f with
  | zero =>
    intro e l xe gl L h hf ex e2 l0 hv hg hge hmin hx hL hfl hk
    have hlv : l ∣ v := ⟨prodL gl, by rw [← hv, Nat.mul_comm]⟩
    have lv : l ≤ v := Nat.le_of_dvd (by omega) hlv
    have exx : xe * xe = ((e * e : Nat) : Int) := by rw [ex, Int.natCast_mul]
    have hee : e * e ≤ 1000004000004 := by
      have := Nat.mul_le_mul (show e ≤ 1000002 by omega) (show e ≤ 1000002 by omega)
      omega
    have hc : ∀ y ∈ fl ++ gl, 2 ≤ y := fun y hy => (List.mem_append.mp hy).elim (hfl2 y) (fun z => (hg.1 y z).1)
    have hp : prodL (fl ++ gl) * l = prodL fl * v := by rw [prodL_app, Nat.mul_assoc, hv]
    have hlen : (fl ++ gl).length ≤ 62 := len_62 hc (by have := Nat.le_mul_of_pos_right (prodL (fl ++ gl)) l0; omega)
    have e5 : e = 1000002 := by omega
    have hsq : l < e * e := by rw [e5]; omega
    refine g_lload (pc := 7) (x := xe) dX11_factor_7 rfl ?_
    refine g_lload (pc := 9) (x := xe) dX11_factor_9 rfl ?_
    refine g_lmul (pc := 11) dX11_factor_11 ?_
    refine g_lload_n (pc := 12) (x := (l : Int)) dX11_factor_12 rfl ?_
    refine g_lif_gtT (pc := 13) (tgt := 64) dX11_factor_13 dX11_factor_14 (by decide) (by omega) (by omega) (by omega) ?_
    refine g_lload_n (pc := 64) (x := (l : Int)) dX11_factor_64 rfl ?_
    refine g_lconst1 (pc := 65) dX11_factor_65 ?_
    refine g_lif_le (pc := 66) (tgt := 90) dX11_factor_66 dX11_factor_67 (by decide) (by omega) (by omega) (fun h9 => ?_) (fun h9 => ?_)
    · exact r_void (pc := 90) dX11_factor_90 rfl rfl (Nat.le_refl _) ⟨rfl, gl, L, by rw [← hv, show l = 1 by omega, Nat.mul_one], hg, hx.2, hL.2, hfl, hk⟩
    · have hpl : prm l := prm_of_sq (d := e) (by omega) (hsq) hmin
      have hle : e ≤ l := Nat.le_of_not_lt (fun y => hmin l (by omega) y (Nat.dvd_refl l))
      refine g_aload_n (pc := 70) (r := .inl (some x)) dX11_factor_70 rfl ?_
      refine g_getf (pc := 71) (v := vR (x + 18)) flX11_63 dX11_factor_71 hx rfl ?_
      refine g_aload_n (pc := 74) (r := .inl (some x)) dX11_factor_74 rfl ?_
      refine g_getf (pc := 75) (v := vI ((fl ++ gl).length : Int)) flX11_167 dX11_factor_75 hx rfl ?_
      refine g_lload_n (pc := 78) (x := (l : Int)) dX11_factor_78 rfl ?_
      refine g_lastN (pc := 79) (j := (fl ++ gl).length) dX11_factor_79 hL (by omega) (by omega) (by omega) ?_
      have hx_1 := hx.ne (e := eA 3 70 (va_up L ((fl ++ gl).length) (l : Int))) (a := x + 18) (by omega)
      have hL_1 := hL.self (e := eA 3 70 (va_up L ((fl ++ gl).length) (l : Int)))
      refine g_aload_n (pc := 80) (r := .inl (some x)) dX11_factor_80 rfl ?_
      refine g_dup (pc := 81) dX11_factor_81 rfl ?_
      refine g_getf (pc := 82) (v := vI ((fl ++ gl).length : Int)) flX11_167 dX11_factor_82 hx_1 rfl ?_
      refine g_iconst (pc := 85) dX11_factor_85 ?_
      refine g_iadd (pc := 86) dX11_factor_86 ?_
      refine g_putf (pc := 87) fpX11_167 dX11_factor_87 hx_1 (okv_int _) (Nat.le_of_ble_eq_true rfl) ?_
      have hx_2 := hx_1.self (e := mdl x th wd pm (((fl ++ gl).length : Int) + 1) mu um pr ts)
      have hL_2 := hL_1.ne (e := mdl x th wd pm (((fl ++ gl).length : Int) + 1) mu um pr ts) (a := x) (by omega)
      refine r_void (pc := 90) dX11_factor_90 rfl rfl (Nat.le_refl _) ⟨rfl, gl ++ [l], _, by rw [prodL_app, prodL_one, hv], ⟨fun y hy => ?_, ?_⟩, hx_2.2.trans (by rw [show (fl ++ (gl ++ [l])).length = (fl ++ gl).length + 1 by simp [Nat.add_assoc]]; rfl), hL_2.2, by rw [← List.append_assoc]; exact FLk_app hfl, fun a a1 a2 => (va_up_ne _ _ a1).trans ((va_up_ne _ _ a2).trans (hk a a1 a2))⟩
      · rcases List.mem_append.mp hy with q | q
        · exact hg.1 y q
        · rw [List.mem_singleton] at q
          exact q ▸ hpl
      · refine List.pairwise_append.mpr ⟨hg.2, List.pairwise_singleton _ _, fun a ha b hb => ?_⟩
        rw [List.mem_singleton] at hb
        have := hge a ha
        omega
  | succ f ih =>
    intro e l xe gl L h hf ex e2 l0 hv hg hge hmin hx hL hfl hk
    have hlv : l ∣ v := ⟨prodL gl, by rw [← hv, Nat.mul_comm]⟩
    have lv : l ≤ v := Nat.le_of_dvd (by omega) hlv
    have exx : xe * xe = ((e * e : Nat) : Int) := by rw [ex, Int.natCast_mul]
    have hee : e * e ≤ 1000004000004 := by
      have := Nat.mul_le_mul (show e ≤ 1000002 by omega) (show e ≤ 1000002 by omega)
      omega
    have hc : ∀ y ∈ fl ++ gl, 2 ≤ y := fun y hy => (List.mem_append.mp hy).elim (hfl2 y) (fun z => (hg.1 y z).1)
    have hp : prodL (fl ++ gl) * l = prodL fl * v := by rw [prodL_app, Nat.mul_assoc, hv]
    have hlen : (fl ++ gl).length ≤ 62 := len_62 hc (by have := Nat.le_mul_of_pos_right (prodL (fl ++ gl)) l0; omega)
    refine g_lload (pc := 7) (x := xe) dX11_factor_7 rfl ?_
    refine g_lload (pc := 9) (x := xe) dX11_factor_9 rfl ?_
    refine g_lmul (pc := 11) dX11_factor_11 ?_
    refine g_lload_n (pc := 12) (x := (l : Int)) dX11_factor_12 rfl ?_
    refine g_lif_gt (pc := 13) (tgt := 64) dX11_factor_13 dX11_factor_14 (by decide) (by omega) (by omega) (fun h8 => ?_) (fun h8 => ?_)
    · have hsq : l < e * e := by omega
      refine g_lload_n (pc := 64) (x := (l : Int)) dX11_factor_64 rfl ?_
      refine g_lconst1 (pc := 65) dX11_factor_65 ?_
      refine g_lif_le (pc := 66) (tgt := 90) dX11_factor_66 dX11_factor_67 (by decide) (by omega) (by omega) (fun h9 => ?_) (fun h9 => ?_)
      · exact r_void (pc := 90) dX11_factor_90 rfl rfl (Nat.le_refl _) ⟨rfl, gl, L, by rw [← hv, show l = 1 by omega, Nat.mul_one], hg, hx.2, hL.2, hfl, hk⟩
      · have hpl : prm l := prm_of_sq (d := e) (by omega) (hsq) hmin
        have hle : e ≤ l := Nat.le_of_not_lt (fun y => hmin l (by omega) y (Nat.dvd_refl l))
        refine g_aload_n (pc := 70) (r := .inl (some x)) dX11_factor_70 rfl ?_
        refine g_getf (pc := 71) (v := vR (x + 18)) flX11_63 dX11_factor_71 hx rfl ?_
        refine g_aload_n (pc := 74) (r := .inl (some x)) dX11_factor_74 rfl ?_
        refine g_getf (pc := 75) (v := vI ((fl ++ gl).length : Int)) flX11_167 dX11_factor_75 hx rfl ?_
        refine g_lload_n (pc := 78) (x := (l : Int)) dX11_factor_78 rfl ?_
        refine g_lastN (pc := 79) (j := (fl ++ gl).length) dX11_factor_79 hL (by omega) (by omega) (by omega) ?_
        have hx_1 := hx.ne (e := eA 3 70 (va_up L ((fl ++ gl).length) (l : Int))) (a := x + 18) (by omega)
        have hL_1 := hL.self (e := eA 3 70 (va_up L ((fl ++ gl).length) (l : Int)))
        refine g_aload_n (pc := 80) (r := .inl (some x)) dX11_factor_80 rfl ?_
        refine g_dup (pc := 81) dX11_factor_81 rfl ?_
        refine g_getf (pc := 82) (v := vI ((fl ++ gl).length : Int)) flX11_167 dX11_factor_82 hx_1 rfl ?_
        refine g_iconst (pc := 85) dX11_factor_85 ?_
        refine g_iadd (pc := 86) dX11_factor_86 ?_
        refine g_putf (pc := 87) fpX11_167 dX11_factor_87 hx_1 (okv_int _) (Nat.le_of_ble_eq_true rfl) ?_
        have hx_2 := hx_1.self (e := mdl x th wd pm (((fl ++ gl).length : Int) + 1) mu um pr ts)
        have hL_2 := hL_1.ne (e := mdl x th wd pm (((fl ++ gl).length : Int) + 1) mu um pr ts) (a := x) (by omega)
        refine r_void (pc := 90) dX11_factor_90 rfl rfl (Nat.le_refl _) ⟨rfl, gl ++ [l], _, by rw [prodL_app, prodL_one, hv], ⟨fun y hy => ?_, ?_⟩, hx_2.2.trans (by rw [show (fl ++ (gl ++ [l])).length = (fl ++ gl).length + 1 by simp [Nat.add_assoc]]; rfl), hL_2.2, by rw [← List.append_assoc]; exact FLk_app hfl, fun a a1 a2 => (va_up_ne _ _ a1).trans ((va_up_ne _ _ a2).trans (hk a a1 a2))⟩
        · rcases List.mem_append.mp hy with q | q
          · exact hg.1 y q
          · rw [List.mem_singleton] at q
            exact q ▸ hpl
        · refine List.pairwise_append.mpr ⟨hg.2, List.pairwise_singleton _ _, fun a ha b hb => ?_⟩
          rw [List.mem_singleton] at hb
          have := hge a ha
          omega
    · subst ex
      refine fac_l1 (h0 := h0) e2 (by omega) hB l _ (fl ++ gl) L h rfl l0 (by omega) hp hc hx hL hfl hk (fun l2 gl2 L2 h2 z0 z1 z2 z3 z4 z5 z6 z7 z8 => ?_)
      have hpe : gl2 ≠ [] → prm e := fun y => prm_of_min e2 (z4 y) hmin
      rw [List.append_assoc] at z5 z7
      refine g_lload (pc := 55) (x := (e : Int)) dX11_factor_55 rfl ?_
      refine g_lconst1 (pc := 57) dX11_factor_57 ?_
      refine g_ladd (pc := 58) dX11_factor_58 ?_
      refine g_lstore (pc := 59) (lo2 := [(0, vR x), (1, vJ (v : Int)), (3, vJ ((l2 : Nat) : Int)), (5, vJ ((e : Int) + 1))]) dX11_factor_59 (by decide) rfl ?_
      refine g_goto (pc := 61) (tgt := 7) dX11_factor_61 (by decide) ?_
      refine ih (e + 1) l2 _ (gl ++ gl2) L2 h2 (by omega) (by omega) (by omega) z0 (by rw [prodL_app, Nat.mul_assoc, ← z1, hv]) ⟨fun y hy => ?_, ?_⟩ (fun y hy => ?_) (fun j j2 j3 hj => ?_) z5 z6 z7 z8
      · rcases List.mem_append.mp hy with q | q
        · exact hg.1 y q
        · rw [z3 y q]
          exact hpe (List.ne_nil_of_mem q)
      · refine List.pairwise_append.mpr ⟨hg.2, ?_, fun a ha b hb => by rw [z3 b hb]; exact hge a ha⟩
        exact List.pairwise_iff_forall_sublist.mpr (fun {a b} hs => by
          have ha := z3 a (hs.subset (by simp))
          have hb := z3 b (hs.subset (by simp))
          omega)
      · rcases List.mem_append.mp hy with q | q
        · have := hge y q
          omega
        · have := z3 y q
          omega
      · by_cases hje : j = e
        · exact z2 (hje ▸ hj)
        · exact hmin j j2 (by omega) (Nat.dvd_trans hj ⟨prodL gl2, by rw [z1, Nat.mul_comm]⟩)

theorem c_factor {d : Nat} {N x v : Nat} {th wd pm mu um pr ts : Int} {fl : List Nat} (hfl2 : ∀ y ∈ fl, 2 ≤ y) (v1 : 1 ≤ v) (vb : v ≤ 1000000000000) (hB : prodL fl * v ≤ 8000000000000000000) {L : Nat → Int} {h : MH} (hx : Hd (0, 0, N) h x (mdl x th wd pm (fl.length : Int) mu um pr ts)) (hL : Hd (0, 0, N) h (x + 18) (eA 3 70 L)) (hfl : FLk L fl) : Ok mX11_factor d 0 0 [vR x, vJ (v : Int)] N h (fun r h2 => r = none ∧ ∃ gl L2, prodL gl = v ∧ ((∀ y ∈ gl, prm y) ∧ gl.Pairwise (fun a b => a ≤ b)) ∧ h2 x = mdl x th wd pm ((fl ++ gl).length : Int) mu um pr ts ∧ h2 (x + 18) = eA 3 70 L2 ∧ FLk L2 (fl ++ gl) ∧ ∀ a, a ≠ x → a ≠ x + 18 → h2 a = h a) := by
  refine Ok.of pfX11_factor rfl (Nat.le_of_ble_eq_true rfl) (fun Ls sx => ?_)
  show G mX11_factor (d, 0, 0, Ls, sx) 0 [(0, vR x), (1, vJ (v : Int))] [] (0, 0, N) h _
  refine g_lload_n (pc := 0) (x := (v : Int)) dX11_factor_0 rfl ?_
  refine g_lstore_n (pc := 1) (lo2 := [(0, vR x), (1, vJ (v : Int)), (3, vJ (v : Int))]) dX11_factor_1 (by decide) rfl ?_
  refine g_ldc2 (pc := 2) (n := 2) dX11_factor_2 kcX11_127 ?_
  refine g_lstore (pc := 5) (lo2 := [(0, vR x), (1, vJ (v : Int)), (3, vJ (v : Int)), (5, vJ 2)]) dX11_factor_5 (by decide) rfl ?_
  exact fac_l2 hfl2 v1 vb hB 1000000 2 v _ [] L h (by omega) rfl (by omega) (by omega) (by show 1 * v = v; rw [Nat.one_mul]) ⟨fun y hy => absurd hy List.not_mem_nil, List.Pairwise.nil⟩ (fun y hy => absurd hy List.not_mem_nil) (fun j j2 j3 => by omega) (by rw [List.append_nil]; exact hx) hL (by rw [List.append_nil]; exact hfl) (fun _ _ _ => rfl)
