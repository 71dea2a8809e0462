/-! ===== making a grid ===== -/
theorem gr_outer (c : ClassId) (N h0 : Nat) : ∀ i : Nat, Jvm.Free.Multi.outerC c N h0 i = arrV c N (fun j => va_rf (if j < i then some (h0 + 1 + j) else none))
  | 0 => by
    show ({ cls := c, slots := Array.replicate N .null, vm := .none } : Cell) = _
    rw [arrV_new]
    refine congrArg (arrV c N) (funext fun j => ?_)
    simp [va_rf]
  | i + 1 => by
    show (Jvm.Free.Multi.outerC c N h0 i).setSlot i (.ref (h0 + 1 + i)) = _
    rw [gr_outer c N h0 i, arrV_store]
    refine congrArg (arrV c N) (funext fun j => ?_)
    by_cases e : j = i
    · subst e
      simp [updV, va_rf]
    · by_cases h : j < i
      · simp [updV, e, h, Nat.lt_succ_of_lt h]
      · simp [updV, e, h, show ¬ j < i + 1 by omega]
/-- the cells behind 'new int[n][k]' -/
def gridH (h : MH) (N n k : Nat) : MH := fun j => if j = N then eQ 6 n (rwF (N + 1) n) else if N < j ∧ j ≤ N + n then eA 0 k (fun _ => 0) else h j
section MN3
variable {μ : MI} {κ : KX} {pc : Nat} {lo : List (Nat × MV)} {st : List MV} {ρ : MR} {h : MH} {Q : Option MV → MR → MH → Prop}
theorem g_grid {ix n k : Nat} {x y : Int} (ex : x = (n : Int)) (ey : y = (k : Int)) (hn : n ≤ 65536) (hk9 : k ≤ 65536) (ha : Cond.classLink μ.1 ix "[[I" ∈ tbg) (hi : Cond.arrayClass .int ∈ tbg) (hd : decode μ.2.2.1 pc = .ok (.multianewarray ix 2, 4)) (hc : ρ.1 + (1 + n) ≤ κ.2.1) (hs : ρ.2.1 + (n + n * k) ≤ κ.2.2.1)
    (hk : G μ κ (pc + 4) lo (vR ρ.2.2 :: st) (ρ.1 + 1 + n, ρ.2.1 + n + n * k, ρ.2.2 + 1 + n) (gridH h ρ.2.2 n k) Q) : G μ κ pc lo (vI y :: vI x :: st) ρ h Q := by
  subst ex
  subst ey
  intro p l e R s m args below meth c D tc g Zf F E ls H locs hl hW hS
  have hts := F.2.2.2.2.1
  have hK := F.2.2.2.2.2.2.2.2.1
  obtain ⟨r1, r2, r3, r4⟩ := F.2.2.2.2.2.2.2.2.2.1
  obtain ⟨-, -, -, -, hx5, -, -, -, -, o3⟩ := F.2.2.2.2.2.2.2.2.2.2
  have nn : ∀ z : Nat, z ≤ 65536 → ¬ Int32.ofInt (z : Int) < 0 ∧ (Int32.ofInt (z : Int)).toNatClampNeg = z := fun z hz => by
    refine ⟨?_, ?_⟩
    · rw [show (0 : Int32) = Int32.ofInt 0 from rfl, i32_lt ⟨by omega, by omega⟩ ⟨by decide, by decide⟩]
      omega
    · rw [i32_clamp (by omega) (by omega), Int.toNat_natCast]
  obtain ⟨n1, n2⟩ := nn n hn
  obtain ⟨k1, k2⟩ := nn k hk9
  intro T hT Xs
  obtain ⟨vm₁, cA, comp, -, fA, fC, hO, -, X', step⟩ := Xs.multianewarray2F F.1 F.2.2.2.1 (ty := .int) (hts _ ha) o3 (hts _ hi) (g := F0 m pc ls (.int (Int32.ofInt (k : Int)) :: .int (Int32.ofInt (n : Int)) :: st.map (rv g))) rfl (by rw [F.2.1]; exact hd) rfl n1 k1 (by rw [n2]; omega) (by rw [k2]; show k * 4 ≤ _; omega) (by rw [k2]; omega) rfl rfl (by rw [n2, r3]; exact hc) (by rw [n2, k2, r4]; exact hs)
  rw [n2, k2] at X' step
  have z1 : cA = tc 6 := Option.some.inj (fA.symm.trans (hK.2 6 _ rfl).2)
  have z2 : comp = tc 0 := Option.some.inj (fC.symm.trans (hK.2 0 _ rfl).2)
  subst z1
  subst z2
  obtain ⟨f1, f2, -, -⟩ := Jvm.Free.Multi.fill_facts (T.setVm vm₁) (tc 6) (tc 0) n k (defaultValue .int) n
  have f3 := fun (a : Nat) (z : a < (T.setVm vm₁).heap.size) => Jvm.Free.Multi.fill_old (T.setVm vm₁) (tc 6) (tc 0) n k (defaultValue .int) z n
  have f4 := Jvm.Free.Multi.fill_inner (T.setVm vm₁) (tc 6) (tc 0) n k (defaultValue .int) n
  have hTh : (T.setVm vm₁).heap = H := hT
  rw [hTh] at f1 f2 f3 f4
  rw [gr_outer] at f2
  generalize hF : Jvm.Free.Multi.fill (T.setVm vm₁) (tc 6) (tc 0) n k (defaultValue .int) n = U at X' step f1 f2 f3 f4
  have hz := hW.1
  have hW2 : Wd D tc g (ρ.2.2 + 1 + n) (gridH h ρ.2.2 n k) U.heap := by
    refine ⟨by omega, fun j q hq => ?_⟩
    obtain ⟨hj, rfl⟩ := mws_at hq
    by_cases j1 : j < ρ.2.2
    · have e1 : gridH h ρ.2.2 n k j = h j := by
        unfold gridH
        rw [if_neg (by omega), if_neg (by omega)]
      rw [e1]
      exact (hW.2 j _ (mws_get j1)).kept (f3 _ (by show g.1 + j < _; omega))
    · by_cases j2 : j = ρ.2.2
      · subst j2
        have e1 : gridH h ρ.2.2 n k ρ.2.2 = eQ 6 n (rwF (ρ.2.2 + 1) n) := if_pos rfl
        rw [e1]
        show U.heap[g.1 + ρ.2.2]? = some (arrV (tc 6) n (fun j => va_rf ((rwF (ρ.2.2 + 1) n j).map (fun a => g.1 + a))))
        rw [hz] at f2
        rw [f2]
        congr 2
        funext j
        unfold rwF
        split
        · exact congrArg Value.ref (show g.1 + ρ.2.2 + 1 + j = g.1 + (ρ.2.2 + 1 + j) by omega)
        · rfl
      · have e1 : gridH h ρ.2.2 n k j = eA 0 k (fun _ => 0) := by
          unfold gridH
          rw [if_neg j2, if_pos (by omega)]
        rw [e1]
        have := f4 (j - ρ.2.2 - 1) (by omega)
        rw [hz, show g.1 + ρ.2.2 + 1 + (j - ρ.2.2 - 1) = g.1 + j by omega] at this
        show U.heap[g.1 + j]? = some (arrV (tc 0) k (fun j => Value.int (Int32.ofInt 0)))
        rw [this]
        exact congrArg some (arrV_new (tc 0) k (defaultValue .int))
  have h9 := hS.2
  have hS2 : Vs g s (ρ.1 + 1 + n, ρ.2.1 + n + n * k, ρ.2.2 + 1 + n) U.heap locs := by
    refine ⟨⟨by have := hS.1.1; omega, fun q z3 z4 => ?_, hS.1.2.2⟩, by dsimp only; omega⟩
    rw [f3 q (by have := hS.1.1; omega)]
    exact hS.1.2.1 q z3 z4
  obtain ⟨t, a1, b1⟩ := hk p l e R s m args below meth c D tc g Zf F E ls U.heap locs hl hW2 hS2 U rfl X'
  refine ⟨t, step t ?_, b1⟩
  have e9 : T.heap.size = g.1 + ρ.2.2 := by rw [hT]; exact hz
  rw [e9]
  exact a1
end MN3
