/-! ===== the states ===== -/
abbrev MSt : Type := Nat × Nat × Nat × (Nat → Int) × (Nat → Int) × (Nat → Nat → Int)
def okS (kd M n : Nat) (T Y : Nat → Int) (P : Nat → Nat → Int) : Prop := kd ≤ 3 ∧ 2 ≤ M ∧ M ≤ 500 ∧ 1 ≤ n ∧ n ≤ 4 ∧ (kd = 1 → n = 1) ∧ (kd = 3 → n = 2 ∧ M ≤ 64) ∧ (∀ r c, r < n → (c < n ∨ c = 4) → 0 ≤ T (5 * r + c) ∧ T (5 * r + c) < M) ∧ (∀ r, r < n → 0 ≤ Y r ∧ Y r < M) ∧ ∀ x y, 0 ≤ P x y ∧ P x y ≤ 255
abbrev mlO (b : Nat) (th kd M n : Int) : ME := eO 1 [vI th, vI kd, vI M, vI n, vR (b + 1), vR (b + 12), vR (b + 79), vR (b + 2), vR (b + 5), vR (b + 7)]
/-- a LINE for k neighbours -/
def lnOk (t : Int) (M k : Nat) (L : Nat → Int) : Prop := (∀ i, k ≤ i → i < 4 → L i = 0) ∧ (M : Int) ∣ L 0 + t * L 1 + t * t * L 2 + t * t * t * L 3 ∧ (0 < L 0 ∨ (L 0 = 0 ∧ (0 < L 1 ∨ (L 1 = 0 ∧ (0 < L 2 ∨ (L 2 = 0 ∧ 0 < L 3))))))
def sq4 (L : Nat → Int) : Int := L 0 * L 0 + L 1 * L 1 + L 2 * L 2 + L 3 * L 3
def lexlt (A B : Nat → Int) : Prop := A 0 < B 0 ∨ (A 0 = B 0 ∧ (A 1 < B 1 ∨ (A 1 = B 1 ∧ (A 2 < B 2 ∨ (A 2 = B 2 ∧ A 3 < B 3)))))
def isShort (t : Int) (M k : Nat) (sq : Int) (L : Nat → Int) : Prop := lnOk t M k L ∧ sq = sq4 L ∧ ∀ L2, lnOk t M k L2 → sq < sq4 L2 ∨ (sq = sq4 L2 ∧ ¬ lexlt L2 L)
def NT (N : Nat) (h : MH) (b M : Nat) (t : Int) : Prop := ∃ (sq ff : Int) (L : Nat → Int), Hd (0, 0, N) h (b + 2) (eO 2 [vR (b + 3), vI sq, vR (b + 4), vI ff]) ∧ Hd (0, 0, N) h (b + 3) (eA 0 4 L) ∧ (∃ f, Hd (0, 0, N) h (b + 4) (eA 0 4 f)) ∧ (ff = 0 ∨ ∃ k : Nat, 2 ≤ k ∧ k ≤ 4 ∧ ff = (k : Int) ∧ isShort t M k sq L)
theorem NT.keep {N : Nat} {h h2 : MH} {b M : Nat} {t : Int} (s : NT N h b M t) (k : ∀ a, b + 2 ≤ a → a < b + 5 → h2 a = h a) : NT N h2 b M t := by
  obtain ⟨sq, ff, L, a1, a2, ⟨f, a3⟩, a4⟩ := s
  exact ⟨sq, ff, L, a1.keep (k _ (by omega) (by omega)), a2.keep (k _ (by omega) (by omega)), ⟨f, a3.keep (k _ (by omega) (by omega))⟩, a4⟩
def PIC (N : Nat) (h : MH) (b kd M : Nat) (P : Nat → Nat → Int) : Prop := ∃ (pm : Int) (f : Nat → Int), Hd (0, 0, N) h (b + 5) (eO 5 [vR (b + 6), vI pm]) ∧ Hd (0, 0, N) h (b + 6) (eA 0 4096 f) ∧ (kd = 3 → pm = (M : Int) ∧ ∀ x y, x < M → y < M → f (x * M + y) = P x y)
theorem PIC.keep {N : Nat} {h h2 : MH} {b kd M : Nat} {P : Nat → Nat → Int} (s : PIC N h b kd M P) (k5 : h2 (b + 5) = h (b + 5)) (k6 : h2 (b + 6) = h (b + 6)) : PIC N h2 b kd M P := by
  obtain ⟨pm, f, a1, a2, a3⟩ := s
  exact ⟨pm, f, a1.keep k5, a2.keep k6, a3⟩
/-- a place where a mill can stand -/
def CM0 (N : Nat) (h : MH) (b : Nat) : Prop := Sc N h (b + 1) 4 ∧ (∃ sq ff : Int, Hd (0, 0, N) h (b + 2) (eO 2 [vR (b + 3), vI sq, vR (b + 4), vI ff])) ∧ (∃ f, Hd (0, 0, N) h (b + 3) (eA 0 4 f)) ∧ (∃ f, Hd (0, 0, N) h (b + 4) (eA 0 4 f)) ∧ (∃ pm : Int, Hd (0, 0, N) h (b + 5) (eO 5 [vR (b + 6), vI pm])) ∧ (∃ f, Hd (0, 0, N) h (b + 6) (eA 0 4096 f)) ∧ Hd (0, 0, N) h (b + 7) (eQ 5 4 (rwF (b + 8) 4)) ∧ (∀ j, j < 4 → ∃ x y z : Int, Hd (0, 0, N) h (b + 8 + j) (eO 4 [vI x, vI y, vI z])) ∧ (∃ kn M n F, PW N h (b + 12) kn M n F) ∧ Sc N h (b + 77) 20 ∧ Sc N h (b + 78) 4 ∧ (∃ wh : Int, Hd (0, 0, N) h (b + 79) (eO 8 [vR (b + 12), vR (b + 7), vR (b + 80), vR (b + 82), vR (b + 84), vR (b + 90), vR (b + 91), vR (b + 92), vJ wh])) ∧ PA N h (b + 80) ∧ PA N h (b + 82) ∧ Sc N h (b + 90) 20 ∧ Sc N h (b + 91) 4 ∧ Sc N h (b + 92) 4 ∧ EQ N h b
/-- a mill that is there -/
def CM (N : Nat) (h : MH) (b : Nat) (s : MSt) : Prop := okS s.1 s.2.1 s.2.2.1 s.2.2.2.1 s.2.2.2.2.1 s.2.2.2.2.2 ∧ Hd (0, 0, N) h b (mlO b 1 (s.1 : Int) (s.2.1 : Int) (s.2.2.1 : Int)) ∧ (Hd (0, 0, N) h (b + 1) (eA 0 4 s.2.2.2.2.1) ∧ rng s.2.2.2.2.1) ∧ PC N h b s.2.1 ∧ PT N h (b + 12) s.2.1 s.2.2.1 s.2.2.2.1 ∧ RD N h b s.2.1 s.2.2.1 s.2.2.2.1 ∧ NT N h b s.2.1 (s.2.2.2.1 0) ∧ PIC N h b s.1 s.2.1 s.2.2.2.2.2
def CMo (N : Nat) (h : MH) (b : Nat) (o : Option MSt) : Prop := (o = none → CM0 N h b ∧ ∃ kd M n : Int, Hd (0, 0, N) h b (mlO b 0 kd M n)) ∧ ∀ s, o = some s → CM N h b s
/-- the mills of the class -/
def CMs (N : Nat) (h : MH) (σ : Nat → Option MSt) : Prop := Hd (0, 0, N) h 0 (eO 10 [vR 1, vR 2, vR 74]) ∧ Hd (0, 0, N) h 1 (eQ 4 6 (mlF 75 6)) ∧ (∃ f, Hd (0, 0, N) h 74 (eA 0 4096 f)) ∧ ∀ i, i < 6 → CMo N h (75 + 93 * i) (σ i)
theorem RD.zero {N : Nat} {h : MH} {b M n : Nat} {T : Nat → Int} (s : RD N h b M n T) : (∃ wh : Int, Hd (0, 0, N) h (b + 79) (eO 8 [vR (b + 12), vR (b + 7), vR (b + 80), vR (b + 82), vR (b + 84), vR (b + 90), vR (b + 91), vR (b + 92), vJ wh])) ∧ PA N h (b + 80) ∧ PA N h (b + 82) ∧ Sc N h (b + 90) 20 ∧ Sc N h (b + 91) 4 ∧ Sc N h (b + 92) 4 ∧ EQ N h b := by
  obtain ⟨wh, a1, a2, a3⟩ := s
  refine ⟨⟨wh, a1⟩, ?_, a3⟩
  rcases a2 with z | ⟨W, -, -, z⟩
  · exact z.2
  · exact ⟨_, _, z⟩
theorem CM.zero {N : Nat} {h : MH} {b : Nat} {s : MSt} (c : CM N h b s) : CM0 N h b := by
  obtain ⟨-, -, ⟨c3, c3r⟩, c4, ⟨kn, F, ⟨p1, -, -, ⟨f1, q1, r1⟩, f2, q2, r2⟩, -⟩, c6, ⟨sq, ff, L, n1, n2, n3, -⟩, pm, f, d1, d2, -⟩ := c
  have z := c6.zero
  exact ⟨⟨_, c3, c3r⟩, ⟨sq, ff, n1⟩, ⟨L, n2⟩, n3, ⟨pm, d1⟩, ⟨f, d2⟩, c4.1, fun j hj => ⟨_, _, _, c4.2 j hj⟩, ⟨kn, _, _, F, p1⟩, ⟨f1, q1, r1⟩, ⟨f2, q2, r2⟩, z⟩
theorem CM0.keep {N : Nat} {h h2 : MH} {b : Nat} (c : CM0 N h b) (k : ∀ a, b + 1 ≤ a → a < b + 93 → h2 a = h a) : CM0 N h2 b := by
  obtain ⟨c1, ⟨sq, ff, c2⟩, ⟨f3, c3⟩, ⟨f4, c4⟩, ⟨pm, c5⟩, ⟨f6, c6⟩, c7, c8, ⟨kn, M, n, F, c9⟩, c10, c11, ⟨wh, c12⟩, c13, c14, c15, c16, c17, c18⟩ := c
  exact ⟨c1.keep (k _ (by omega) (by omega)), ⟨sq, ff, c2.keep (k _ (by omega) (by omega))⟩, ⟨f3, c3.keep (k _ (by omega) (by omega))⟩, ⟨f4, c4.keep (k _ (by omega) (by omega))⟩, ⟨pm, c5.keep (k _ (by omega) (by omega))⟩, ⟨f6, c6.keep (k _ (by omega) (by omega))⟩, c7.keep (k _ (by omega) (by omega)), fun j hj => (c8 j hj).elim fun x z => z.elim fun y z => z.elim fun w z => ⟨x, y, w, z.keep (k _ (by omega) (by omega))⟩, ⟨kn, M, n, F, PW_keep c9 (fun a z1 z2 => k a (by omega) (by omega))⟩, c10.keep (k _ (by omega) (by omega)), c11.keep (k _ (by omega) (by omega)), ⟨wh, c12.keep (k _ (by omega) (by omega))⟩, c13.keep (k _ (by omega) (by omega)) (k _ (by omega) (by omega)), c14.keep (k _ (by omega) (by omega)) (k _ (by omega) (by omega)), c15.keep (k _ (by omega) (by omega)), c16.keep (k _ (by omega) (by omega)), c17.keep (k _ (by omega) (by omega)), c18.keep (fun a z1 z2 => k a (by omega) (by omega))⟩
theorem CM.keep {N : Nat} {h h2 : MH} {b : Nat} {s : MSt} (c : CM N h b s) (k : ∀ a, b ≤ a → a < b + 93 → h2 a = h a) : CM N h2 b s := by
  obtain ⟨c1, c2, ⟨c3, c3r⟩, c4, c5, c6, c7, c8⟩ := c
  exact ⟨c1, c2.keep (k _ (by omega) (by omega)), ⟨c3.keep (k _ (by omega) (by omega)), c3r⟩, c4.keep (fun a z1 z2 => k a (by omega) (by omega)), c5.keep (fun a z1 z2 => k a (by omega) (by omega)), c6.keep (fun a z1 z2 => k a (by omega) (by omega)), c7.keep (fun a z1 z2 => k a (by omega) (by omega)), c8.keep (k _ (by omega) (by omega)) (k _ (by omega) (by omega))⟩
theorem CMo.keep {N : Nat} {h h2 : MH} {b : Nat} {o : Option MSt} (c : CMo N h b o) (k : ∀ a, b ≤ a → a < b + 93 → h2 a = h a) : CMo N h2 b o := by
  obtain ⟨c1, c2⟩ := c
  refine ⟨fun e => ?_, fun s e => (c2 s e).keep k⟩
  obtain ⟨z, kd, M, n, y⟩ := c1 e
  exact ⟨z.keep (fun a z1 z2 => k a (by omega) z2), kd, M, n, y.keep (k _ (by omega) (by omega))⟩
/-- one mill changes -/
theorem CMs.upd {N : Nat} {h h2 : MH} {σ : Nat → Option MSt} {i : Nat} {o : Option MSt} (c : CMs N h σ) (hi : i < 6) (k : ∀ a, a < 75 + 93 * i ∨ 75 + 93 * i + 93 ≤ a → a ≠ 74 → h2 a = h a) (k74 : ∃ f, Hd (0, 0, N) h2 74 (eA 0 4096 f)) (ho : CMo N h2 (75 + 93 * i) o) : CMs N h2 (va_up σ i o) := by
  obtain ⟨c1, c2, c3, c4⟩ := c
  refine ⟨c1.keep (k _ (by omega) (by omega)), c2.keep (k _ (by omega) (by omega)), k74, fun j hj => ?_⟩
  by_cases e : j = i
  · rw [e, va_up_self]
    exact ho
  · rw [va_up_ne _ _ e]
    exact (c4 j hj).keep (fun a z1 z2 => k a (by omega) (by omega))
theorem CMo.some {N : Nat} {h : MH} {b : Nat} {s : MSt} (c : CM N h b s) : CMo N h b (some s) := ⟨fun e => (nomatch e), fun s2 e => by cases e; exact c⟩
theorem CMs.at {N : Nat} {h : MH} {σ : Nat → Option MSt} {i : Nat} {s : MSt} (c : CMs N h σ) (hi : i < 6) (e : σ i = some s) : CM N h (75 + 93 * i) s := (c.2.2.2 i hi).2 s e
theorem va_up_id {α : Type} {f : Nat → α} {i : Nat} {x : α} (e : f i = x) : va_up f i x = f := by
  funext j
  by_cases hj : j = i
  · rw [hj, va_up_self, e]
  · rw [va_up_ne _ _ hj]
/-- one mill's hidden cells change -/
theorem CMs.same {N : Nat} {h h2 : MH} {σ : Nat → Option MSt} {i : Nat} {s : MSt} (c : CMs N h σ) (hi : i < 6) (e : σ i = some s) (k : ∀ a, a < 75 + 93 * i ∨ 75 + 93 * i + 93 ≤ a → h2 a = h a) (ho : CM N h2 (75 + 93 * i) s) : CMs N h2 σ := by
  have z := c.upd hi (fun a z1 _ => k a z1) (by obtain ⟨f, hf⟩ := c.2.2.1; exact ⟨f, hf.keep (k _ (by omega))⟩) (CMo.some ho)
  rw [va_up_id e] at z
  exact z
theorem CMs.set {N : Nat} {h h2 : MH} {σ : Nat → Option MSt} {i : Nat} {s : MSt} (c : CMs N h σ) (hi : i < 6) (k : ∀ a, a < 75 + 93 * i ∨ 75 + 93 * i + 93 ≤ a → h2 a = h a) (ho : CM N h2 (75 + 93 * i) s) : CMs N h2 (va_up σ i (some s)) := c.upd hi (fun a z1 _ => k a z1) (by obtain ⟨f, hf⟩ := c.2.2.1; exact ⟨f, hf.keep (k _ (by omega))⟩) (CMo.some ho)
/-- the mill that an int names -/
def gt (σ : Nat → Option MSt) (m : Int) : Option MSt := if 0 ≤ m ∧ m < 6 then σ m.toNat else none
theorem gt_some {σ : Nat → Option MSt} {m : Int} {s : MSt} (e : gt σ m = some s) : ∃ i : Nat, i < 6 ∧ m = (i : Int) ∧ σ i = some s := by
  unfold gt at e
  split at e
  · exact ⟨m.toNat, by omega, by omega, e⟩
  · cases e
theorem gt_at {σ : Nat → Option MSt} {i : Nat} (hi : i < 6) : gt σ (i : Int) = σ i := by
  unfold gt
  rw [if_pos ⟨by omega, by omega⟩, Int.toNat_natCast]
/-! the reference -/
def sb (v : Int) : Int := (Int32.ofInt v).toInt8.toInt32.toInt
def MI9 (i : Nat) (o : Option MSt) (Th Kd Ms Sz Tb Mo Pl Pi : Nat → Int) : Prop := (o = none → Th i = 0) ∧ ∀ s : MSt, o = some s → okS s.1 s.2.1 s.2.2.1 s.2.2.2.1 s.2.2.2.2.1 s.2.2.2.2.2 ∧ Th i = 1 ∧ Kd i = (s.1 : Int) ∧ Ms i = (s.2.1 : Int) ∧ Sz i = (s.2.2.1 : Int) ∧ (∀ r c, r < s.2.2.1 → c < s.2.2.1 → Tb (16 * i + 4 * r + c) = s.2.2.2.1 (5 * r + c)) ∧ (∀ r, r < s.2.2.1 → Mo (4 * i + r) = s.2.2.2.1 (5 * r + 4)) ∧ (∀ r, r < s.2.2.1 → Pl (4 * i + r) = s.2.2.2.2.1 r) ∧ (s.1 = 3 → ∀ x y, x < s.2.1 → y < s.2.1 → Pi (4096 * i + 64 * y + x) = sb (s.2.2.2.2.2 x y))
/-- what the reference needs besides -/
def SC3 (N : Nat) (h : MH) (x : Nat) : Prop := (∃ P, Hd (0, 0, N) h (x + 9) (eA 1 4096 P)) ∧ SCR N h x ∧ SC2 N h x ∧ (∃ P, Hd (0, 0, N) h (x + 22) (eA 3 16 P)) ∧ (∃ P, Hd (0, 0, N) h (x + 23) (eA 0 4 P)) ∧ (∃ P, Hd (0, 0, N) h (x + 24) (eA 0 4096 P)) ∧ ∃ P, Hd (0, 0, N) h (x + 25) (eA 2 4096 P)
def RMs (N : Nat) (h : MH) (x : Nat) (σ : Nat → Option MSt) (pr ts : Int) : Prop := MO N h x pr ts ∧ SC3 N h x ∧ ∃ Th Kd Ms Sz Tb Mo Pl Pi : Nat → Int, Hd (0, 0, N) h (x + 1) (eA 2 6 Th) ∧ Hd (0, 0, N) h (x + 2) (eA 0 6 Kd) ∧ Hd (0, 0, N) h (x + 3) (eA 0 6 Ms) ∧ Hd (0, 0, N) h (x + 4) (eA 0 6 Sz) ∧ Hd (0, 0, N) h (x + 5) (eA 0 96 Tb) ∧ Hd (0, 0, N) h (x + 6) (eA 0 24 Mo) ∧ Hd (0, 0, N) h (x + 7) (eA 0 24 Pl) ∧ Hd (0, 0, N) h (x + 8) (eA 1 24576 Pi) ∧ (rng Tb ∧ rng Mo ∧ rng Pl) ∧ ∀ i, i < 6 → MI9 i (σ i) Th Kd Ms Sz Tb Mo Pl Pi
theorem SC3.keep {N : Nat} {h h2 : MH} {x : Nat} (s : SC3 N h x) (k : ∀ a, x + 9 ≤ a → a ≤ x + 25 → h2 a = h a) : SC3 N h2 x := by
  obtain ⟨⟨p9, a9⟩, s1, s2, ⟨p22, a22⟩, ⟨p23, a23⟩, ⟨p24, a24⟩, p25, a25⟩ := s
  exact ⟨⟨p9, a9.keep (k _ (by omega) (by omega))⟩, s1.keep (fun a z1 z2 => k a (by omega) (by omega)), s2.keep (fun a z1 z2 => k a (by omega) (by omega)), ⟨p22, a22.keep (k _ (by omega) (by omega))⟩, ⟨p23, a23.keep (k _ (by omega) (by omega))⟩, ⟨p24, a24.keep (k _ (by omega) (by omega))⟩, p25, a25.keep (k _ (by omega) (by omega))⟩
/-- a call that changes scratch alone -/
theorem RMs.same {N : Nat} {h h2 : MH} {x : Nat} {σ : Nat → Option MSt} {pr ts : Int} (s : RMs N h x σ pr ts) (hx : MO N h2 x pr ts) (h3 : SC3 N h2 x) (k : ∀ a, x + 1 ≤ a → a ≤ x + 8 → h2 a = h a) : RMs N h2 x σ pr ts := by
  obtain ⟨-, -, Th, Kd, Ms, Sz, Tb, Mo, Pl, Pi, a1, a2, a3, a4, a5, a6, a7, a8, a9⟩ := s
  exact ⟨hx, h3, Th, Kd, Ms, Sz, Tb, Mo, Pl, Pi, a1.keep (k _ (by omega) (by omega)), a2.keep (k _ (by omega) (by omega)), a3.keep (k _ (by omega) (by omega)), a4.keep (k _ (by omega) (by omega)), a5.keep (k _ (by omega) (by omega)), a6.keep (k _ (by omega) (by omega)), a7.keep (k _ (by omega) (by omega)), a8.keep (k _ (by omega) (by omega)), a9⟩
theorem RMs.row {N : Nat} {h : MH} {x i : Nat} {σ : Nat → Option MSt} {pr ts : Int} {kd M n : Nat} {T Y : Nat → Int} {P : Nat → Nat → Int} (s : RMs N h x σ pr ts) (hi : i < 6) (e : σ i = some (kd, M, n, T, Y, P)) : MRw N h x i n M T Y := by
  obtain ⟨-, -, Th, Kd, Ms, Sz, Tb, Mo, Pl, Pi, a1, a2, a3, a4, a5, a6, a7, a8, ⟨b1, b2, b3⟩, a9⟩ := s
  obtain ⟨c1, c2, c3, c4, c5, c6, c7, c8, c9⟩ := (a9 i hi).2 _ e
  exact ⟨Ms, Sz, Tb, Mo, Pl, a3, a4, a5, a6, a7, b1, b2, b3, c4, c5, c6, c7, c8⟩
