/-! ===== the reference: roundOf ===== -/
/-- the reference's spare arrays -/
def SCR (N : Nat) (h : MH) (x : Nat) : Prop := Sc N h (x + 10) 25 ∧ Sc N h (x + 11) 25 ∧ Sc N h (x + 12) 25 ∧ Sc N h (x + 13) 4 ∧ Sc N h (x + 14) 4 ∧ (∃ P, Hd (0, 0, N) h (x + 15) (eA 0 5 P)) ∧ (∃ P, Hd (0, 0, N) h (x + 16) (eA 0 5 P)) ∧ (∃ P, Hd (0, 0, N) h (x + 17) (eA 0 5 P)) ∧ ∃ P, Hd (0, 0, N) h (x + 18) (eA 3 70 P)
theorem SCR.keep {N : Nat} {h h2 : MH} {x : Nat} (s : SCR N h x) (k : ∀ a, x + 10 ≤ a → a ≤ x + 18 → h2 a = h a) : SCR N h2 x := by
  obtain ⟨a1, a2, a3, a4, a5, ⟨p6, a6⟩, ⟨p7, a7⟩, ⟨p8, a8⟩, p9, a9⟩ := s
  exact ⟨a1.keep (k _ (by omega) (by omega)), a2.keep (k _ (by omega) (by omega)), a3.keep (k _ (by omega) (by omega)), a4.keep (k _ (by omega) (by omega)), a5.keep (k _ (by omega) (by omega)), ⟨p6, a6.keep (k _ (by omega) (by omega))⟩, ⟨p7, a7.keep (k _ (by omega) (by omega))⟩, ⟨p8, a8.keep (k _ (by omega) (by omega))⟩, p9, a9.keep (k _ (by omega) (by omega))⟩
/-- the reference's object, with whatever numbers of its own -/
def MO (N : Nat) (h : MH) (x : Nat) (pr ts : Int) : Prop := ∃ th wd pm fm mu um : Int, Hd (0, 0, N) h x (mdl x th wd pm fm mu um pr ts)
/-- the reference's arrays of mill i hold the table T and the row Y -/
def MRw (N : Nat) (h : MH) (x i n M : Nat) (T Y : Nat → Int) : Prop := ∃ Ms Sz Tb Mo Pl : Nat → Int, Hd (0, 0, N) h (x + 3) (eA 0 6 Ms) ∧ Hd (0, 0, N) h (x + 4) (eA 0 6 Sz) ∧ Hd (0, 0, N) h (x + 5) (eA 0 96 Tb) ∧ Hd (0, 0, N) h (x + 6) (eA 0 24 Mo) ∧ Hd (0, 0, N) h (x + 7) (eA 0 24 Pl) ∧ rng Tb ∧ rng Mo ∧ rng Pl ∧ Ms i = (M : Int) ∧ Sz i = (n : Int) ∧ (∀ r c, r < n → c < n → Tb (16 * i + 4 * r + c) = T (5 * r + c)) ∧ (∀ r, r < n → Mo (4 * i + r) = T (5 * r + 4)) ∧ ∀ r, r < n → Pl (4 * i + r) = Y r
theorem MRw.keep {N : Nat} {h h2 : MH} {x i n M : Nat} {T Y : Nat → Int} (s : MRw N h x i n M T Y) (k : ∀ a, x + 3 ≤ a → a ≤ x + 7 → h2 a = h a) : MRw N h2 x i n M T Y := by
  obtain ⟨Ms, Sz, Tb, Mo, Pl, a1, a2, a3, a4, a5, a6⟩ := s
  exact ⟨Ms, Sz, Tb, Mo, Pl, a1.keep (k _ (by omega) (by omega)), a2.keep (k _ (by omega) (by omega)), a3.keep (k _ (by omega) (by omega)), a4.keep (k _ (by omega) (by omega)), a5.keep (k _ (by omega) (by omega)), a6⟩
/-- the row modulo q, after t turns -/
abbrev yq (n q : Nat) (T Y : Nat → Int) : Nat → Nat → Int := rowS n q (au n T) (fun j => Y j % (q : Int))
theorem yq_back {n q i t W : Nat} {T Y Tb Mo Z : Nat → Int} (hn : n ≤ 4) (hq : 2 ≤ q) (h1 : ∀ r c, r < n → c < n → Tb (16 * i + 4 * r + c) = T (5 * r + c)) (h2 : ∀ r, r < n → Mo (4 * i + r) = T (5 * r + 4)) {m : Nat} (hZ : ∀ r, r < n → Z r = yq n q T Y m r) (hW : isPer (yq n q T Y) m W) : (∀ a, a < n → goF n q (mp (n + 1) q (baF n q i Tb Mo) t) Z a = Z a) ↔ W ∣ t := by
  rw [← hW.2, row_eq]
  constructor
  · intro z r hr
    have := z r hr
    rw [ba_au hn h1 h2, goF_congr hZ, rowS_add hn hq (aff_au hn) hr, hZ r hr, Nat.add_comm] at this
    exact this
  · intro z r hr
    rw [ba_au hn h1 h2, goF_congr hZ, rowS_add hn hq (aff_au hn) hr, hZ r hr, Nat.add_comm]
    exact z r hr

theorem okN4 {p n : Nat} (hp : prm p) : okN p n (Nf p 4) := by
  have hp2 := hp.1
  unfold okN
  by_cases h5 : 5 ≤ p
  · left
    refine ⟨h5, ?_⟩
    unfold Nf
    rw [if_neg (by omega)]
    exact Nat.dvd_refl p
  · right
    have hc : p = 2 ∨ p = 3 ∨ p = 4 := by omega
    rcases hc with rfl | rfl | rfl
    · right
      simp [Nf]
    · left
      simp [Nf]
    · exact absurd (by decide) (hp.2 2 (by omega) (by omega))
/-- the rounds of a row modulo the parts -/
theorem Pf_ex {n M : Nat} {T Y : Nat → Int} (n1 : 1 ≤ n) (hn : n ≤ 4) (h2 : 2 ≤ M) (h5 : M ≤ 500) : ∃ Pf : Nat → Nat, (∀ i, i < (fcs M).length → isPer (yq n ((pe M i).1 ^ (pe M i).2) T Y) 64 (Pf i)) ∧ ∀ k, k ≤ (fcs M).length → 1 ≤ lcmI Pf k ∧ lcmI Pf k ≤ 8000000000000000000 := by
  obtain ⟨a1, a2, a3, a4, a5⟩ := fcs_ok h2 h5
  obtain ⟨Wf, hWf, hW1⟩ := Wf_ex (T := T) n1 hn h2 h5
  have hex : ∀ i, ∃ P, (i < (fcs M).length → isPer (yq n ((pe M i).1 ^ (pe M i).2) T Y) 64 P ∧ P ∣ Wf i) := by
    intro i
    by_cases hi : i < (fcs M).length
    · obtain ⟨b1, b2, b3, b4⟩ := a2 _ (pe_mem hi)
      have hq2 : 2 ≤ (pe M i).1 ^ (pe M i).2 := by
        have := Nat.pow_le_pow_right (show 0 < (pe M i).1 by have := b1.1; omega) b3
        rw [Nat.pow_one] at this
        have := b1.1
        omega
      have hd : detm (yq n ((pe M i).1 ^ (pe M i).2) T Y) := rowS_det hn hq2 (aff_au hn)
      have h9 := detm_add mp_det (((hWf i hi).2 _).mpr (Nat.dvd_refl _)) 32
      have h8 : yq n ((pe M i).1 ^ (pe M i).2) T Y (64 + Wf i) = yq n ((pe M i).1 ^ (pe M i).2) T Y 64 := by
        refine rowS_of_mp ?_
        rw [show 64 + Wf i = 32 + Wf i + 32 by omega]
        exact h9
      obtain ⟨P, hP⟩ := per_ex hd (hWf i hi).1 h8
      exact ⟨P, fun _ => ⟨hP, (hP.2 _).mp h8⟩⟩
    · exact ⟨0, fun z => absurd z hi⟩
  refine ⟨fun i => Classical.choose (hex i), fun i hi => (Classical.choose_spec (hex i) hi).1, fun k hk => ?_⟩
  obtain ⟨-, l1, l8⟩ := Wf_lcm n1 hn h2 h5 hWf hW1 k
  have hd : lcmI (fun i => Classical.choose (hex i)) k ∣ lcmI Wf k := (lcmI_dvd k).mpr (fun j hj => Nat.dvd_trans (Classical.choose_spec (hex j) (by omega)).2 ((lcmI_dvd k).mp (Nat.dvd_refl _) j hj))
  have := Nat.le_of_dvd l1 hd
  refine ⟨Nat.pos_of_ne_zero (fun z => ?_), by omega⟩
  rw [z] at hd
  have := Nat.eq_zero_of_zero_dvd hd
  omega

theorem mro_l1 {N d x i k n q W Ls : Nat} {th pm mu um pr ts rd : Int} {T Y Z Sz Tb Mo L sx : Nat → Int} {fl : List Nat} {h0 : MH} {Q : Option MV → MR → MH → Prop} (hn : n ≤ 4) (hi : i < 6) (hq : 2 ≤ q) (hq2 : q ≤ 500) (rT : rng Tb) (rM : rng Mo) (hz : Sz i = (n : Int)) (h1 : ∀ r c, r < n → c < n → Tb (16 * i + 4 * r + c) = T (5 * r + c)) (h2 : ∀ r, r < n → Mo (4 * i + r) = T (5 * r + 4)) (rZ : rng Z) (hZ : ∀ r, r < n → Z r = yq n q T Y 64 r) (hW : isPer (yq n q T Y) 64 W) (hfl : FLk L fl) (hlen : fl.length ≤ 62) (hpr : ∀ y ∈ fl, prm y) (hZ0 : Hd (0, 0, N) h0 (x + 4) (eA 0 6 Sz)) (hTb0 : Hd (0, 0, N) h0 (x + 5) (eA 0 96 Tb)) (hMo0 : Hd (0, 0, N) h0 (x + 6) (eA 0 24 Mo)) (hL0 : Hd (0, 0, N) h0 (x + 18) (eA 3 70 L)) (hS0 : Hd (0, 0, N) h0 (x + 13) (eA 0 4 Z)) (hK : ∀ (wd : Int) (h2 : MH), Hd (0, 0, N) h2 x (mdl x th wd pm (fl.length : Int) mu um pr ts) → Sc N h2 (x + 10) 25 → Sc N h2 (x + 11) 25 → Sc N h2 (x + 12) 25 → Sc N h2 (x + 14) 4 → (∀ a, a ≠ x → a ≠ x + 10 → a ≠ x + 11 → a ≠ x + 12 → a ≠ x + 14 → h2 a = h0 a) → G mX11_roundOf (d + 3, 0, 0, Ls, sx) 102 [(0, vR x), (1, vI (i : Int)), (2, vJ rd), (4, vI (k : Int)), (5, vI (q : Int)), (6, vJ (W : Int))] [] (0, 0, N) h2 Q) : ∀ (f j r9 : Nat) (xj wd : Int) (h : MH), j + f = fl.length → xj = (j : Int) → 1 ≤ r9 → r9 ≤ 8000000000000000000 → W ∣ r9 → r9 ∣ W * prodL (fl.drop j) → prodL (fl.drop j) ∣ r9 → Hd (0, 0, N) h x (mdl x th wd pm (fl.length : Int) mu um pr ts) → Sc N h (x + 10) 25 → Sc N h (x + 11) 25 → Sc N h (x + 12) 25 → Sc N h (x + 14) 4 → (∀ a, a ≠ x → a ≠ x + 10 → a ≠ x + 11 → a ≠ x + 12 → a ≠ x + 14 → h a = h0 a) → G mX11_roundOf (d + 3, 0, 0, Ls, sx) 55 [(0, vR x), (1, vI (i : Int)), (2, vJ rd), (4, vI (k : Int)), (5, vI (q : Int)), (6, vJ (r9 : Int)), (8, vI xj)] [] (0, 0, N) h Q := by
  intro f
  induction f with
  | zero =>
    intro j r9 xj wd h hf ex r1 rb w1 w2 w3 hx s10 s11 s12 s14 hk
    have hL := hL0.keep (hk (x + 18) (by omega) (by omega) (by omega) (by omega) (by omega))
    have hnil : prodL (fl.drop j) = 1 := by rw [List.drop_eq_nil_iff.mpr (by omega)]; rfl
    rw [hnil, Nat.mul_one] at w2
    have eW : r9 = W := Nat.dvd_antisymm w2 w1
    refine g_iload (pc := 55) (x := xj) dX11_roundOf_55 rfl ?_
    refine g_aload_n (pc := 57) (r := .inl (some x)) dX11_roundOf_57 rfl ?_
    refine g_getf (pc := 58) (v := vI (fl.length : Int)) flX11_167 dX11_roundOf_58 hx rfl ?_
    refine g_icmp_geT (pc := 61) (tgt := 102) dX11_roundOf_61 (by decide) (by omega) (by omega) (by omega) ?_
    refine g_pick [0, 1, 2, 3, 4, 5] (lo2 := [(0, vR x), (1, vI (i : Int)), (2, vJ rd), (4, vI (k : Int)), (5, vI (q : Int)), (6, vJ (r9 : Int))]) rfl ?_
    rw [eW]
    exact hK wd h hx s10 s11 s12 s14 hk
  | succ f ih =>
    intro j r9 xj wd h hf ex r1 rb w1 w2 w3 hx s10 s11 s12 s14 hk
    have hL := hL0.keep (hk (x + 18) (by omega) (by omega) (by omega) (by omega) (by omega))
    have hj : j < fl.length := by omega
    have hLj := hfl j hj
    have hmem : fl.getD j 0 ∈ fl := by simp [List.getD, hj]
    have hpf := hpr _ hmem
    have hdr := prodL_drop hj
    obtain ⟨f9, ef⟩ : ∃ f9, f9 = fl.getD j 0 := ⟨_, rfl⟩
    rw [← ef] at hLj hpf hdr
    obtain ⟨st1, st2, st3⟩ := fl_step hpf hdr w1 w2 w3 r1
    have ed := tdivN (rfl : (r9 : Int) = (r9 : Int)) (rfl : (f9 : Int) = (f9 : Int))
    have f2 := hpf.1
    have hf9 : f9 ≤ r9 := Nat.le_of_dvd r1 st3
    have hdl : r9 / f9 ≤ r9 := Nat.div_le_self _ _
    have hTb := hTb0.keep (hk (x + 5) (by omega) (by omega) (by omega) (by omega) (by omega))
    have hMo := hMo0.keep (hk (x + 6) (by omega) (by omega) (by omega) (by omega) (by omega))
    have hSz := hZ0.keep (hk (x + 4) (by omega) (by omega) (by omega) (by omega) (by omega))
    have hS := hS0.keep (hk (x + 13) (by omega) (by omega) (by omega) (by omega) (by omega))
    refine g_iload (pc := 55) (x := xj) dX11_roundOf_55 rfl ?_
    refine g_aload_n (pc := 57) (r := .inl (some x)) dX11_roundOf_57 rfl ?_
    refine g_getf (pc := 58) (v := vI (fl.length : Int)) flX11_167 dX11_roundOf_58 hx rfl ?_
    refine g_icmp_geF (pc := 61) (tgt := 102) dX11_roundOf_61 (by decide) (by omega) (by omega) (by omega) ?_
    refine g_aload_n (pc := 64) (r := .inl (some x)) dX11_roundOf_64 rfl ?_
    refine g_iload_n (pc := 65) (x := (i : Int)) dX11_roundOf_65 rfl ?_
    refine g_lload (pc := 66) (x := (r9 : Int)) dX11_roundOf_66 rfl ?_
    refine g_aload_n (pc := 68) (r := .inl (some x)) dX11_roundOf_68 rfl ?_
    refine g_getf (pc := 69) (v := vR (x + 18)) flX11_63 dX11_roundOf_69 hx rfl ?_
    refine g_iload (pc := 72) (x := xj) dX11_roundOf_72 rfl ?_
    refine g_laldN (pc := 74) (j := j) dX11_roundOf_74 hL (by omega) (by omega) (by omega) ?_
    rw [hLj]
    refine g_ldiv (pc := 75) dX11_roundOf_75 (by omega) (by omega) (by omega) ?_
    refine g_iload (pc := 76) (x := (q : Int)) dX11_roundOf_76 rfl ?_
    rw [ed]
    refine g_callV0 (pc := 78) (as := [vI (i : Int), vJ ((r9 / f9 : Nat) : Int), vI (q : Int)]) (b := x) (st := []) lvX11_195 dX11_roundOf_78 hx (Nat.le_of_ble_eq_true rfl) (by omega) (Nat.zero_le _) (Nat.zero_le _) (c_comesBack (d := d) (Y := Z) (t := r9 / f9) hn hi hq hq2 rT rM hz (by omega) hx hSz hTb hMo s10 s11 s12 hS rZ s14) ?_
    rintro r h3 ⟨k3, o3, t10, t11, t12, t14, hres⟩
    have hx3 : Hd (0, 0, N) h3 x (mdl x th ((n + 1 : Nat) : Int) pm (fl.length : Int) mu um pr ts) := ⟨hx.1, o3⟩
    have hk3 : ∀ a, a ≠ x → a ≠ x + 10 → a ≠ x + 11 → a ≠ x + 12 → a ≠ x + 14 → h3 a = h0 a := fun a a1 a2 a3 a4 a5 => (k3 a a1 a2 a3 a4 a5).trans (hk a a1 a2 a3 a4 a5)
    have hL3 := hL0.keep (hk3 (x + 18) (by omega) (by omega) (by omega) (by omega) (by omega))
    have hiff := yq_back (t := r9 / f9) hn hq h1 h2 hZ hW
    rcases hres with ⟨rfl, hyes⟩ | ⟨rfl, hno⟩
    · refine g_if_eqF (pc := 81) (tgt := 96) dX11_roundOf_81 (by decide) (by omega) (by omega) ?_
      obtain ⟨u1, u2, u3⟩ := st1 (hiff.mp hyes)
      refine g_lload (pc := 84) (x := (r9 : Int)) dX11_roundOf_84 rfl ?_
      refine g_aload_n (pc := 86) (r := .inl (some x)) dX11_roundOf_86 rfl ?_
      refine g_getf (pc := 87) (v := vR (x + 18)) flX11_63 dX11_roundOf_87 hx3 rfl ?_
      refine g_iload (pc := 90) (x := xj) dX11_roundOf_90 rfl ?_
      refine g_laldN (pc := 92) (j := j) dX11_roundOf_92 hL3 (by omega) (by omega) (by omega) ?_
      rw [hLj]
      refine g_ldiv (pc := 93) dX11_roundOf_93 (by omega) (by omega) (by omega) ?_
      refine g_lstore (pc := 94) (lo2 := [(0, vR x), (1, vI (i : Int)), (2, vJ rd), (4, vI (k : Int)), (5, vI (q : Int)), (6, vJ ((r9 : Int).tdiv (f9 : Int))), (8, vI xj)]) dX11_roundOf_94 (by decide) rfl ?_
      refine g_iinc (pc := 96) (x := xj) (lo2 := [(0, vR x), (1, vI (i : Int)), (2, vJ rd), (4, vI (k : Int)), (5, vI (q : Int)), (6, vJ ((r9 : Int).tdiv (f9 : Int))), (8, vI (xj + 1))]) dX11_roundOf_96 rfl (by decide) rfl ?_
      refine g_goto (pc := 99) (tgt := 55) dX11_roundOf_99 (by decide) ?_
      rw [ed]
      exact ih (j + 1) (r9 / f9) _ _ h3 (by omega) (by omega) u3 (by omega) (hiff.mp hyes) u1 u2 hx3 t10 t11 t12 t14 hk3
    · refine g_if_eqT (pc := 81) (tgt := 96) dX11_roundOf_81 (by decide) (by omega) (by omega) ?_
      obtain ⟨u1, u2⟩ := st2 (fun y => hno (hiff.mpr y))
      refine g_iinc (pc := 96) (x := xj) (lo2 := [(0, vR x), (1, vI (i : Int)), (2, vJ rd), (4, vI (k : Int)), (5, vI (q : Int)), (6, vJ (r9 : Int)), (8, vI (xj + 1))]) dX11_roundOf_96 rfl (by decide) rfl ?_
      refine g_goto (pc := 99) (tgt := 55) dX11_roundOf_99 (by decide) ?_
      exact ih (j + 1) r9 _ _ h3 (by omega) (by omega) r1 rb w1 u1 u2 hx3 t10 t11 t12 t14 hk3

theorem mro_l2 {N d x i n M Ls : Nat} {th um pr ts : Int} {T Y Sz Tb Mo Pl P2 S2 O2 sx : Nat → Int} {Wf : Nat → Nat} {h0 : MH} (n1 : 1 ≤ n) (hn : n ≤ 4) (hM : 2 ≤ M) (hM2 : M ≤ 500) (hi : i < 6) (rT : rng Tb) (rM : rng Mo) (rP : rng Pl) (hz : Sz i = (n : Int)) (h1 : ∀ r c, r < n → c < n → Tb (16 * i + 4 * r + c) = T (5 * r + c)) (h2 : ∀ r, r < n → Mo (4 * i + r) = T (5 * r + 4)) (h3 : ∀ r, r < n → Pl (4 * i + r) = Y r) (hW : ∀ k, k < (fcs M).length → isPer (yq n ((pe M k).1 ^ (pe M k).2) T Y) 64 (Wf k)) (hlc : ∀ k, k ≤ (fcs M).length → 1 ≤ lcmI Wf k ∧ lcmI Wf k ≤ 8000000000000000000) (hfac : ∀ j, j < (fcs M).length → P2 j = ((pe M j).1 : Int) ∧ S2 j = (((pe M j).1 ^ (pe M j).2 : Nat) : Int) ∧ O2 j = ((pe M j).2 : Int)) (hZ0 : Hd (0, 0, N) h0 (x + 4) (eA 0 6 Sz)) (hTb0 : Hd (0, 0, N) h0 (x + 5) (eA 0 96 Tb)) (hMo0 : Hd (0, 0, N) h0 (x + 6) (eA 0 24 Mo)) (hPl0 : Hd (0, 0, N) h0 (x + 7) (eA 0 24 Pl)) : ∀ (f k rd : Nat) (xk wd fm mu : Int) (h : MH), k + f = (fcs M).length → xk = (k : Int) → rd = lcmI Wf k → Hd (0, 0, N) h x (mdl x th wd ((fcs M).length : Int) fm mu um pr ts) → Sc N h (x + 10) 25 → Sc N h (x + 11) 25 → Sc N h (x + 12) 25 → Sc N h (x + 13) 4 → Sc N h (x + 14) 4 → Hd (0, 0, N) h (x + 15) (eA 0 5 P2) → Hd (0, 0, N) h (x + 16) (eA 0 5 S2) → Hd (0, 0, N) h (x + 17) (eA 0 5 O2) → (∃ L, Hd (0, 0, N) h (x + 18) (eA 3 70 L)) → (∀ a, a ≠ x → (a < x + 10 ∨ x + 18 < a) → h a = h0 a) → G mX11_roundOf (d + 3, 0, 0, Ls, sx) 15 [(0, vR x), (1, vI (i : Int)), (2, vJ (rd : Int)), (4, vI xk)] [] (0, 0, N) h (Pq mX11_roundOf 0 0 (fun r h2 => r = some (vJ ((lcmI Wf (fcs M).length : Nat) : Int)) ∧ MO N h2 x pr ts ∧ SCR N h2 x ∧ ∀ a, a ≠ x → (a < x + 10 ∨ x + 18 < a) → h2 a = h0 a)) := by
  intro f
  induction f with
  | zero =>
    intro k rd xk wd fm mu h hf ex er hx s10 s11 s12 s13 s14 hP2 hS2 hO2 hLx hk
    obtain ⟨L0, hL⟩ := hLx
    have hlen := (fcs_ok hM hM2).1
    have ek : k = (fcs M).length := by omega
    refine g_iload (pc := 15) (x := xk) dX11_roundOf_15 rfl ?_
    refine g_aload_n (pc := 17) (r := .inl (some x)) dX11_roundOf_17 rfl ?_
    refine g_getf (pc := 18) (v := vI ((fcs M).length : Int)) flX11_158 dX11_roundOf_18 hx rfl ?_
    refine g_icmp_geT (pc := 21) (tgt := 115) dX11_roundOf_21 (by decide) (by omega) (by omega) (by omega) ?_
    refine g_lload_n (pc := 115) (x := (rd : Int)) dX11_roundOf_115 rfl ?_
    rw [er, ek]
    exact r_long (pc := 116) dX11_roundOf_116 rfl rfl (Nat.le_refl _) ⟨rfl, ⟨th, wd, _, fm, mu, um, hx⟩, ⟨s10, s11, s12, s13, s14, ⟨_, hP2⟩, ⟨_, hS2⟩, ⟨_, hO2⟩, ⟨_, hL⟩⟩, hk⟩
  | succ f ih =>
    intro k rd xk wd fm mu h hf ex er hx s10 s11 s12 s13 s14 hP2 hS2 hO2 hLx hk
    obtain ⟨L0, hL⟩ := hLx
    have hlen := (fcs_ok hM hM2).1
    have hkl : k < (fcs M).length := by omega
    obtain ⟨b1, b2, b3, b4⟩ := (fcs_ok hM hM2).2.1 _ (pe_mem hkl)
    obtain ⟨f1, f2, f3⟩ := hfac k hkl
    obtain ⟨c1, c2⟩ := hlc k (by omega)
    obtain ⟨c3, c4⟩ := hlc (k + 1) (by omega)
    have hWk := hW k hkl
    have hqb : (pe M k).1 ^ (pe M k).2 ≤ 500 := Nat.le_trans (Nat.le_of_dvd (by omega) b4) hM2
    have hq2 : 2 ≤ (pe M k).1 ^ (pe M k).2 := by
      have := Nat.pow_le_pow_right (show 0 < (pe M k).1 by have := b1.1; omega) b3
      rw [Nat.pow_one] at this
      have := b1.1
      omega
    obtain ⟨q, eq⟩ : ∃ q, q = (pe M k).1 ^ (pe M k).2 := ⟨_, rfl⟩
    rw [← eq] at hWk hqb hq2 f2
    have hWE : Wf k ∣ Lf (pe M k).1 4 * Nf (pe M k).1 4 * (pe M k).1 ^ ((pe M k).2 - 1) := by
      have e9 : (pe M k).2 - 1 + 1 = (pe M k).2 := by omega
      have h9 := per_mp (k := (pe M k).2 - 1) b1 hn (by rw [e9, ← eq]; exact hqb) (okN4 b1) (fun i i1 i2 => Nat.dvd_trans (Lf_ok (by have := b1.1; omega) hn i i1 i2) Lf_dvd4) (aff_au (S := T) hn) (show 32 ≤ 64 by omega)
      rw [e9, ← eq] at h9
      exact (hWk.2 _).mp (rowS_of_mp h9)
    have hEb : Lf (pe M k).1 4 * Nf (pe M k).1 4 * (pe M k).1 ^ ((pe M k).2 - 1) ≤ 8000000000000000000 := E_bd b1.1 (by omega) (by omega) (by rw [show (pe M k).2 - 1 + 1 = (pe M k).2 by omega, ← eq]; exact hqb)
    have hE1 : 1 ≤ Lf (pe M k).1 4 * Nf (pe M k).1 4 * (pe M k).1 ^ ((pe M k).2 - 1) := E_pos b1.1 (by omega) (by omega)
    have hWb := Nat.le_of_dvd hE1 hWE
    subst ex
    refine g_iload (pc := 15) (x := (k : Int)) dX11_roundOf_15 rfl ?_
    refine g_aload_n (pc := 17) (r := .inl (some x)) dX11_roundOf_17 rfl ?_
    refine g_getf (pc := 18) (v := vI ((fcs M).length : Int)) flX11_158 dX11_roundOf_18 hx rfl ?_
    refine g_icmp_geF (pc := 21) (tgt := 115) dX11_roundOf_21 (by decide) (by omega) (by omega) (by omega) ?_
    refine g_aload_n (pc := 24) (r := .inl (some x)) dX11_roundOf_24 rfl ?_
    refine g_getf (pc := 25) (v := vR (x + 16)) flX11_57 dX11_roundOf_25 hx rfl ?_
    refine g_iload (pc := 28) (x := (k : Int)) dX11_roundOf_28 rfl ?_
    refine g_ialdN (pc := 30) (j := k) dX11_roundOf_30 hS2 (by omega) (by omega) (by omega) ?_
    rw [f2]
    refine g_istore (pc := 31) (lo2 := [(0, vR x), (1, vI (i : Int)), (2, vJ (rd : Int)), (4, vI (k : Int)), (5, vI (q : Int))]) dX11_roundOf_31 (by decide) rfl ?_
    refine g_aload_n (pc := 33) (r := .inl (some x)) dX11_roundOf_33 rfl ?_
    refine g_iload (pc := 34) (x := (k : Int)) dX11_roundOf_34 rfl ?_
    refine g_callV0 (pc := 36) (as := [vI (k : Int)]) (b := x) (st := []) lvX11_189 dX11_roundOf_36 hx (Nat.le_of_ble_eq_true rfl) (by omega) (Nat.zero_le _) (Nat.zero_le _) (c_makesMultiple (d := d + 1) (p := (pe M k).1) (o := (pe M k).2) (by omega) b1 b2 b3 (by rw [← eq]; exact hqb) f1 f3 hx hP2 hO2 hL) ?_
    rintro r g1 ⟨rfl, fl, L, p1, p2, p3, p4, p5, p6, p7⟩
    have hx1 : Hd (0, 0, N) g1 x (mdl x th wd ((fcs M).length : Int) (fl.length : Int) ((Lf (pe M k).1 4 * Nf (pe M k).1 4 * (pe M k).1 ^ ((pe M k).2 - 1) : Nat) : Int) um pr ts) := ⟨hx.1, p5⟩
    have k1 : ∀ a, a ≠ x → (a < x + 10 ∨ x + 18 < a) → g1 a = h0 a := fun a a1 a2 => (p7 a a1 (by omega)).trans (hk a a1 a2)
    obtain ⟨E, hE⟩ : ∃ E, E = Lf (pe M k).1 4 * Nf (pe M k).1 4 * (pe M k).1 ^ ((pe M k).2 - 1) := ⟨_, rfl⟩
    rw [← hE] at hx1 p2 hWE hEb hE1 hWb
    refine g_aload_n (pc := 39) (r := .inl (some x)) dX11_roundOf_39 rfl ?_
    refine g_iload_n (pc := 40) (x := (i : Int)) dX11_roundOf_40 rfl ?_
    refine g_iload (pc := 41) (x := (q : Int)) dX11_roundOf_41 rfl ?_
    refine g_callV0 (pc := 43) (as := [vI (i : Int), vI (q : Int)]) (b := x) (st := []) lvX11_192 dX11_roundOf_43 hx1 (Nat.le_of_ble_eq_true rfl) (by omega) (Nat.zero_le _) (Nat.zero_le _) (c_settles (d := d + 0) (n := n) (q := q) hn hi hq2 hqb rT rM hz rP hx1 (hZ0.keep (k1 _ (by omega) (by omega))) (hTb0.keep (k1 _ (by omega) (by omega))) (hMo0.keep (k1 _ (by omega) (by omega))) (s10.keep (p7 _ (by omega) (by omega))) (s11.keep (p7 _ (by omega) (by omega))) (s12.keep (p7 _ (by omega) (by omega))) (hPl0.keep (k1 _ (by omega) (by omega))) (s13.keep (p7 _ (by omega) (by omega))) (s14.keep (p7 _ (by omega) (by omega)))) ?_
    rintro r g2 ⟨rfl, q1, q2, t10, t11, t12, t14, Z, hZ, rZ, eZ⟩
    have hx2 : Hd (0, 0, N) g2 x (mdl x th ((n + 1 : Nat) : Int) ((fcs M).length : Int) (fl.length : Int) (E : Int) um pr ts) := ⟨hx.1, q2⟩
    have eZ2 : ∀ r, r < n → Z r = yq n q T Y 64 r := fun r hr => by
      rw [eZ r hr, ba_au hn h1 h2]
      show _ = rowS n q (au n T) _ 64 r
      rw [rowS_at hr]
      exact goF_congr (fun j hj => by rw [h3 j hj])
    have k2 : ∀ a, a ≠ x → (a < x + 10 ∨ x + 18 < a) → g2 a = h0 a := fun a a1 a2 => (q1 a a1 (by omega) (by omega) (by omega) (by omega) (by omega)).trans (k1 a a1 a2)
    have hL2 : Hd (0, 0, N) g2 (x + 18) (eA 3 70 L) := ⟨hL.1, (q1 _ (by omega) (by omega) (by omega) (by omega) (by omega) (by omega)).trans p6⟩
    refine g_aload_n (pc := 46) (r := .inl (some x)) dX11_roundOf_46 rfl ?_
    refine g_getf (pc := 47) (v := vJ (E : Int)) flX11_176 dX11_roundOf_47 hx2 rfl ?_
    refine g_lstore (pc := 50) (lo2 := [(0, vR x), (1, vI (i : Int)), (2, vJ (rd : Int)), (4, vI (k : Int)), (5, vI (q : Int)), (6, vJ (E : Int))]) dX11_roundOf_50 (by decide) rfl ?_
    refine g_iconst (pc := 52) dX11_roundOf_52 ?_
    refine g_istore (pc := 53) (lo2 := [(0, vR x), (1, vI (i : Int)), (2, vJ (rd : Int)), (4, vI (k : Int)), (5, vI (q : Int)), (6, vJ (E : Int)), (8, vI 0)]) dX11_roundOf_53 (by decide) rfl ?_
    refine mro_l1 (h0 := g2) (W := Wf k) (T := T) (Y := Y) (L := L) (fl := fl) hn hi hq2 hqb rT rM hz h1 h2 rZ eZ2 hWk p4 p3 p1 (hZ0.keep (k2 _ (by omega) (by omega))) (hTb0.keep (k2 _ (by omega) (by omega))) (hMo0.keep (k2 _ (by omega) (by omega))) hL2 hZ (fun wd3 g3 x3 u10 u11 u12 u14 k3 => ?_) fl.length 0 E _ _ g2 (by omega) rfl hE1 hEb hWE (by rw [List.drop_zero, p2]; exact Nat.dvd_mul_left _ _) (by rw [List.drop_zero, p2]; exact Nat.dvd_refl _) hx2 t10 t11 t12 t14 (fun _ _ _ _ _ _ => rfl)
    refine g_lload_n (pc := 102) (x := (rd : Int)) dX11_roundOf_102 rfl ?_
    refine g_lload (pc := 103) (x := ((Wf k : Nat) : Int)) dX11_roundOf_103 rfl ?_
    refine g_callS0 (pc := 105) (as := [vJ (rd : Int), vJ ((Wf k : Nat) : Int)]) (st := []) lsX11_199 dX11_roundOf_105 (Nat.le_of_ble_eq_true rfl) (by omega) (Nat.zero_le _) (Nat.zero_le _) (c_together (d := d + 1) (x := rd) (y := Wf k) (by omega) (by omega) (by omega)) ?_
    rintro r g4 ⟨e9, e8⟩
    subst e9
    subst e8
    rw [lcm_div_mul rd (Wf k) (by omega)]
    refine g_lstore_n (pc := 108) (lo2 := [(0, vR x), (1, vI (i : Int)), (2, vJ ((Nat.lcm rd (Wf k) : Nat) : Int)), (4, vI (k : Int)), (5, vI (q : Int)), (6, vJ ((Wf k : Nat) : Int))]) dX11_roundOf_108 (by decide) rfl ?_
    refine g_iinc (pc := 109) (x := (k : Int)) (lo2 := [(0, vR x), (1, vI (i : Int)), (2, vJ ((Nat.lcm rd (Wf k) : Nat) : Int)), (4, vI ((k : Int) + 1)), (5, vI (q : Int)), (6, vJ ((Wf k : Nat) : Int))]) dX11_roundOf_109 rfl (by decide) rfl ?_
    refine g_goto (pc := 112) (tgt := 15) dX11_roundOf_112 (by decide) ?_
    refine g_pick [0, 1, 2, 3] (lo2 := [(0, vR x), (1, vI (i : Int)), (2, vJ ((Nat.lcm rd (Wf k) : Nat) : Int)), (4, vI ((k : Int) + 1))]) rfl ?_
    exact ih (k + 1) (Nat.lcm rd (Wf k)) _ _ _ _ _ (by omega) (by omega) (by rw [er]; rfl) x3 u10 u11 u12 ⟨Z, hZ.keep (k3 _ (by omega) (by omega) (by omega) (by omega) (by omega)), rZ⟩ u14 (hP2.keep (((k3 (x + 15) (by omega) (by omega) (by omega) (by omega) (by omega)).trans (q1 (x + 15) (by omega) (by omega) (by omega) (by omega) (by omega) (by omega))).trans (p7 _ (by omega) (by omega)))) (hS2.keep (((k3 (x + 16) (by omega) (by omega) (by omega) (by omega) (by omega)).trans (q1 (x + 16) (by omega) (by omega) (by omega) (by omega) (by omega) (by omega))).trans (p7 _ (by omega) (by omega)))) (hO2.keep (((k3 (x + 17) (by omega) (by omega) (by omega) (by omega) (by omega)).trans (q1 (x + 17) (by omega) (by omega) (by omega) (by omega) (by omega) (by omega))).trans (p7 _ (by omega) (by omega)))) ⟨L, hL2.keep (k3 _ (by omega) (by omega) (by omega) (by omega) (by omega))⟩ (fun a a1 a2 => (k3 a a1 (by omega) (by omega) (by omega) (by omega)).trans (k2 a a1 a2))

theorem c_mroundOf {N d x i n M P : Nat} {pr ts : Int} {T Y : Nat → Int} {h : MH} (n1 : 1 ≤ n) (hn : n ≤ 4) (hM : 2 ≤ M) (hM2 : M ≤ 500) (hi : i < 6) (hP : isPer (rowS n M (au n T) Y) 32 P) (hx : MO N h x pr ts) (hr : MRw N h x i n M T Y) (hs : SCR N h x) : Ok mX11_roundOf (d + 3) 0 0 [vR x, vI (i : Int)] N h (fun r h2 => r = some (vJ (P : Int)) ∧ MO N h2 x pr ts ∧ SCR N h2 x ∧ ∀ a, a ≠ x → (a < x + 10 ∨ x + 18 < a) → h2 a = h a) := by
  refine Ok.of pfX11_roundOf rfl (Nat.le_of_ble_eq_true rfl) (fun Ls sx => ?_)
  show G mX11_roundOf (d + 3, 0, 0, Ls, sx) 0 [(0, vR x), (1, vI (i : Int))] [] (0, 0, N) h _
  obtain ⟨Pf, hPf, hlc⟩ := Pf_ex (T := T) (Y := Y) n1 hn hM hM2
  have eP : P = lcmI Pf (fcs M).length := by
    have hd : detm (rowS n M (au n T) Y) := rowS_det hn hM (aff_au hn)
    exact per_uniq ((per_shift hd hP.1 ((hP.2 P).mpr (Nat.dvd_refl P)) (show 32 ≤ 64 by omega)).mpr hP) (per_rows hM hM2 hPf)
  obtain ⟨th, wd, pm, fm, mu, um, hx⟩ := hx
  obtain ⟨Ms, Sz, Tb, Mo, Pl, m3, m4, m5, m6, m7, rT, rM, rP, hm, hz, h1, h2, h3⟩ := hr
  obtain ⟨s10, s11, s12, s13, s14, ⟨p15, s15⟩, ⟨p16, s16⟩, ⟨p17, s17⟩, p18, s18⟩ := hs
  refine g_aload_n (pc := 0) (r := .inl (some x)) dX11_roundOf_0 rfl ?_
  refine g_aload_n (pc := 1) (r := .inl (some x)) dX11_roundOf_1 rfl ?_
  refine g_getf (pc := 2) (v := vR (x + 3)) flX11_17 dX11_roundOf_2 hx rfl ?_
  refine g_iload_n (pc := 5) (x := (i : Int)) dX11_roundOf_5 rfl ?_
  refine g_ialdN (pc := 6) (j := i) dX11_roundOf_6 m3 (by omega) (by omega) (by omega) ?_
  rw [hm]
  refine g_callV0 (pc := 7) (as := [vI (M : Int)]) (b := x) (st := []) lvX11_164 dX11_roundOf_7 hx (Nat.le_of_ble_eq_true rfl) (by omega) (Nat.zero_le _) (Nat.zero_le _) (c_parts (d := d + 2) hM hM2 hx s15 s16 s17) ?_
  rintro r g1 ⟨rfl, o1, ⟨P2, S2, O2, e1, e2, e3, hfac⟩, k1⟩
  refine g_lconst1 (pc := 10) dX11_roundOf_10 ?_
  refine g_lstore_n (pc := 11) (lo2 := [(0, vR x), (1, vI (i : Int)), (2, vJ 1)]) dX11_roundOf_11 (by decide) rfl ?_
  refine g_iconst (pc := 12) dX11_roundOf_12 ?_
  refine g_istore (pc := 13) (lo2 := [(0, vR x), (1, vI (i : Int)), (2, vJ 1), (4, vI 0)]) dX11_roundOf_13 (by decide) rfl ?_
  rw [eP]
  refine Q_mono (mro_l2 (h0 := g1) (Y := Y) (T := T) (Wf := Pf) n1 hn hM hM2 hi rT rM rP hz h1 h2 h3 hPf hlc hfac (m4.keep (k1 _ (by omega) (by omega) (by omega) (by omega))) (m5.keep (k1 _ (by omega) (by omega) (by omega) (by omega))) (m6.keep (k1 _ (by omega) (by omega) (by omega) (by omega))) (m7.keep (k1 _ (by omega) (by omega) (by omega) (by omega))) (fcs M).length 0 1 _ _ _ _ g1 (by omega) rfl rfl ⟨hx.1, o1⟩ (s10.keep (k1 _ (by omega) (by omega) (by omega) (by omega))) (s11.keep (k1 _ (by omega) (by omega) (by omega) (by omega))) (s12.keep (k1 _ (by omega) (by omega) (by omega) (by omega))) (s13.keep (k1 _ (by omega) (by omega) (by omega) (by omega))) (s14.keep (k1 _ (by omega) (by omega) (by omega) (by omega))) ⟨s15.1, e1⟩ ⟨s16.1, e2⟩ ⟨s17.1, e3⟩ ⟨_, s18.keep (k1 _ (by omega) (by omega) (by omega) (by omega))⟩ (fun _ _ _ => rfl)) ?_
  rintro r g2 ⟨f1, f2, f3, f4⟩
  exact ⟨f1, f2, f3, fun a a1 a2 => (f4 a a1 a2).trans (k1 a a1 (by omega) (by omega) (by omega))⟩
