/-! ===== the law: its start ===== -/
theorem rng_0 : rng (fun _ => 0) := fun _ => ⟨Int.le_refl 0, (by decide : (0 : Int) < 500)⟩
theorem NM.cm0 {N : Nat} {h : MH} {b : Nat} (hb : b + 93 ≤ N) (m : NM h b) : CM0 N h b ∧ ∃ kd M n : Int, Hd (0, 0, N) h b (mlO b 0 kd M n) := by
  obtain ⟨a0, a1, a2, a3, a4, a5, a6, a7, a8, a9, a10, a11, a12, a13, a14, a15, a16, a17, a18, a19, a20, a21, a22, a23, a24⟩ := m
  have lt : ∀ {k : Nat}, k < 93 → b + k < N := fun z => by omega
  refine ⟨⟨⟨_, ⟨lt (by decide), a1⟩, rng_0⟩, ⟨_, _, lt (by decide), a2⟩, ⟨_, lt (by decide), a3⟩, ⟨_, lt (by decide), a4⟩, ⟨_, lt (by decide), a5⟩, ⟨_, lt (by decide), a6⟩, ⟨lt (by decide), a7⟩, fun j hj => ⟨_, _, _, (show b + 8 + j < N by omega), a8 j hj⟩, ⟨1, 1, 1, fun _ _ => 0, ⟨lt (by decide), a9⟩, ⟨lt (k := 13) (by decide), a10⟩, fun i hi => ⟨(show b + 12 + 2 + i < N by omega), a11 i hi⟩, fun i hi => rng_0⟩, ⟨_, ⟨lt (by decide), a12⟩, rng_0⟩, ⟨_, ⟨lt (by decide), a13⟩, rng_0⟩, ⟨_, lt (by decide), a14⟩, ?_, ?_, ⟨_, ⟨lt (by decide), a22⟩, rng_0⟩, ⟨_, ⟨lt (by decide), a23⟩, rng_0⟩, ⟨_, ⟨lt (by decide), a24⟩, rng_0⟩, ?_⟩, 0, 0, 0, (show b < N by omega), a0⟩
  · exact ⟨[], fun _ => False, [], _, ⟨lt (by decide), a15⟩, ⟨lt (k := 81) (by decide), a16⟩, fun i hi => absurd hi (Nat.not_lt_zero i), List.nodup_nil, fun x hx => hx, fun x => ⟨fun z => absurd z List.not_mem_nil, fun z => z.elim⟩⟩
  · exact ⟨[], fun _ => False, [], _, ⟨lt (by decide), a17⟩, ⟨lt (k := 83) (by decide), a18⟩, fun i hi => absurd hi (Nat.not_lt_zero i), List.nodup_nil, fun x hx => hx, fun x => ⟨fun z => absurd z List.not_mem_nil, fun z => z.elim⟩⟩
  · exact ⟨⟨_, _, _, _, lt (by decide), a19⟩, fun i => i, fun i hi => hi, fun i j _ _ e => e, ⟨lt (by decide), a20⟩, fun i hi => ⟨_, (show b + 86 + i < N by omega), a21 i hi⟩⟩
theorem prm_2 : prm 2 := ⟨by decide, fun j j1 j2 => by omega⟩
theorem new_ref {h : MH} (hx : h 633 = mdl 633 0 0 0 0 0 0 2 0) (f : ∀ j, j < 29 → h (633 + 1 + j) = mAr j) : RMs 663 h 633 (fun _ => none) ((2 : Nat) : Int) ((0 : Nat) : Int) ∧ RT 663 h 633 0 (fun _ => 0) := by
  have q : ∀ k e, k < 29 → mAr k = e → Hd (0, 0, 663) h (633 + (k + 1)) e := fun k e hk he => ⟨(show 633 + (k + 1) < 663 by omega), by rw [show 633 + (k + 1) = 633 + 1 + k by omega]; exact (f k hk).trans he⟩
  refine ⟨RMs.of (Th := fun _ => 0) (Kd := fun _ => 0) (Ms := fun _ => 0) (Sz := fun _ => 0) (Tb := fun _ => 0) (Mo := fun _ => 0) (Pl := fun _ => 0) (Pi := fun _ => 0) ⟨_, _, _, _, _, _, (show (633 : Nat) < 663 by decide), hx⟩ ⟨⟨_, q 8 _ (by decide) rfl⟩, ⟨⟨_, q 9 _ (by decide) rfl, rng_0⟩, ⟨_, q 10 _ (by decide) rfl, rng_0⟩, ⟨_, q 11 _ (by decide) rfl, rng_0⟩, ⟨_, q 12 _ (by decide) rfl, rng_0⟩, ⟨_, q 13 _ (by decide) rfl, rng_0⟩, ⟨_, q 14 _ (by decide) rfl⟩, ⟨_, q 15 _ (by decide) rfl⟩, ⟨_, q 16 _ (by decide) rfl⟩, ⟨_, q 17 _ (by decide) rfl⟩⟩, ⟨⟨_, q 18 _ (by decide) rfl⟩, ⟨_, q 19 _ (by decide) rfl⟩, ⟨_, q 20 _ (by decide) rfl⟩⟩, ⟨_, q 21 _ (by decide) rfl⟩, ⟨_, q 22 _ (by decide) rfl⟩, ⟨_, q 23 _ (by decide) rfl⟩, ⟨_, q 24 _ (by decide) rfl⟩⟩ ⟨q 0 _ (by decide) rfl, q 1 _ (by decide) rfl, q 2 _ (by decide) rfl, q 3 _ (by decide) rfl, q 4 _ (by decide) rfl, q 5 _ (by decide) rfl, q 6 _ (by decide) rfl, q 7 _ (by decide) rfl, ⟨rng_0, rng_0, rng_0⟩, fun i hi => ⟨fun _ => rfl, fun s e => (nomatch e)⟩⟩, ⟨⟨_, q 25 _ (by decide) rfl, fun n hn => absurd hn (Nat.not_lt_zero n)⟩, ⟨_, q 26 _ (by decide) rfl⟩, ⟨_, q 27 _ (by decide) rfl⟩, ⟨_, q 28 _ (by decide) rfl⟩⟩⟩

theorem law_all {Ls : Nat} {sx : Nat → Int} {h : MH} (hsx : ∀ n, i32 (sx n)) (hL : Ls ≤ 2560) : G mL_law (11, 600000, 7302250, Ls, sx) 0 [(0, vS true)] [] (0, 0, 0) h (fun r ρ (_ : MH) => r = some (vI 1) ∧ ρ = (663, 83939, 663)) := by
  refine g_new (pc := 0) nwL_7 dL_law_0 (Nat.le_of_ble_eq_true rfl) (Nat.le_of_ble_eq_true rfl) ?_
  show G mL_law (11, 600000, 7302250, Ls, sx) 3 [(0, vS true)] [vR 0] (1, 3, 1) (va_up h 0 (eO 10 [vN, vN, vN])) _
  refine g_dup (pc := 3) dL_law_3 rfl ?_
  refine g_callI (pc := 4) (as := []) (b := 0) (st := [vR 0]) (mc := 632) (ms := 42297) liL_9 dL_law_4 (Nat.le_of_ble_eq_true rfl) (Nat.le_of_ble_eq_true rfl) (Nat.le_of_ble_eq_true rfl) (Nat.le_of_ble_eq_true rfl) (c_newRoundMill (d := 6) (N := 1) (q := 0) rfl ⟨Nat.lt_succ_self 0, va_up_self _ _ _⟩) ?_
  rintro r1 h1 ⟨rfl, o0, o1, o2, o3, o4, ⟨S2, o5, e5⟩, ⟨P2, o6, e6⟩, o7, o8, o9, o10, o11, o12, -⟩
  show G mL_law (11, 600000, 7302250, Ls, sx) 7 [(0, vS true)] [vR 0] (633, 42300, 633) h1 _
  refine g_astore_n (pc := 7) (r := .inl (some 0)) (lo2 := [(0, vS true), (1, vR 0)]) dL_law_7 (by decide) rfl ?_
  refine g_new (pc := 8) nwL_10 dL_law_8 (Nat.le_of_ble_eq_true rfl) (Nat.le_of_ble_eq_true rfl) ?_
  show G mL_law (11, 600000, 7302250, Ls, sx) 11 [(0, vS true), (1, vR 0)] [vR 633] (634, 42337, 634) (va_up h1 633 (eO 11 [vI 0, vN, vN, vN, vN, vN, vN, vN, vN, vN, vN, vN, vN, vI 0, vN, vN, vN, vN, vN, vI 0, vN, vI 0, vJ 0, vN, vN, vN, vN, vI 0, vN, vN, vN, vI 0, vN, vI 0, vN, vN, vN])) _
  refine g_dup (pc := 11) dL_law_11 rfl ?_
  refine g_callI (pc := 12) (as := []) (b := 633) (st := [vR 633]) (mc := 29) (ms := 41602) liL_12 dL_law_12 (Nat.le_of_ble_eq_true rfl) (Nat.le_of_ble_eq_true rfl) (Nat.le_of_ble_eq_true rfl) (Nat.le_of_ble_eq_true rfl) (c_newModel (d := 9) (q := 633) ⟨Nat.lt_succ_self 633, va_up_self _ _ _⟩) ?_
  rintro r2 h2 ⟨rfl, m0, mf, mk⟩
  show G mL_law (11, 600000, 7302250, Ls, sx) 15 [(0, vS true), (1, vR 0)] [vR 633] (663, 83939, 663) h2 _
  refine g_astore_n (pc := 15) (r := .inl (some 633)) (lo2 := [(0, vS true), (1, vR 0), (2, vR 633)]) dL_law_15 (by decide) rfl ?_
  refine g_iconst (pc := 16) dL_law_16 ?_
  refine g_istore_n (pc := 17) (lo2 := [(0, vS true), (1, vR 0), (2, vR 633), (3, vI 0)]) dL_law_17 (by decide) rfl ?_
  have kk : ∀ a, a < 633 → h2 a = h1 a := fun a z => (mk a z).trans (va_up_ne _ _ (by omega))
  have at9 : ∀ {a : Nat} {e : ME}, a < 633 → h1 a = e → Hd (0, 0, 663) h2 a e := fun z e => ⟨(show _ < 663 by omega), (kk _ z).trans e⟩
  obtain ⟨rs, rt⟩ := new_ref m0 mf
  refine law_loop hsx hL Ls 0 0 h2 (by omega) (by omega) rfl ⟨fun _ => none, 2, 0, fun _ => 0, ⟨at9 (by decide) o0, at9 (by decide) o1, ⟨_, at9 (a := 74) (by decide) o11⟩, fun i hi => ⟨fun _ => ?_, fun s e => (nomatch e)⟩⟩, ⟨⟨prm_2, by decide, by decide, fun n hn => absurd hn (Nat.not_lt_zero n)⟩, 0, 1, 1, 0, _, _, _, _, _, _, _, _, fun i => i, fun _ _ => 0, bm_zero prm_2, ⟨fun j => ?_, fun j => ?_, by decide⟩, at9 (a := 2) (by decide) o2, at9 (a := 3) (by decide) o3, at9 (a := 4) (by decide) o4, fun n hn => absurd hn (Nat.not_lt_zero n), at9 (a := 5) (by decide) o5, fun j hj => e5 j hj, at9 (a := 6) (by decide) o6, fun j hj => e6 j hj, at9 (a := 7) (by decide) o7, at9 (a := 8) (by decide) o8, ⟨at9 (a := 9) (by decide) o9, fun i hi => at9 (a := 2 + 8 + i) (by omega) (o10 i hi), fun i hi => hi, fun i j _ _ e => e⟩, Or.inl rfl⟩, rs, rt⟩
  · exact NM.cm0 (by omega) ((o12 i hi).keep (fun a z1 z2 => kk a (by omega)))
  · split <;> omega
  · split <;> omega
