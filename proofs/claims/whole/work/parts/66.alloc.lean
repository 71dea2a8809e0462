/-! ===== making cells ===== -/
theorem mws_push {tc : Nat → ClassId} {g : GB} {N : Nat} {h : MH} {e : ME} : mws tc g (N + 1) (va_up h N e) = mws tc g N h ++ [(g.1 + N, rE tc g e)] := by
  unfold mws
  rw [List.range_succ, List.map_append]
  congr 1
  · apply List.map_congr_left
    intro j hj
    rw [va_up_ne _ _ (by have := List.mem_range.mp hj; omega)]
  · show [(g.1 + N, rE tc g (va_up h N e N))] = _
    rw [va_up_self]
theorem new_at {D : va_G} {tc : Nat → ClassId} {g : GB} {N q : Nat} {h : MH} {e : va_E} {H1 : Heap} (hP : va_P D mcl (mws tc g N h ++ [(q, e)]) H1) (hD : va_D (fun q => g.1 ≤ q) (mws tc g N h ++ [(q, e)])) (hz : H1.size ≤ g.1 + N + 1) : q = g.1 + N ∧ H1.size = g.1 + N + 1 := by
  have hl : (mws tc g N h).length = N := by unfold mws; simp
  have hi : (mws tc g N h ++ [(q, e)])[N]? = some (q, e) := by
    rw [List.getElem?_append_right (by omega), hl, Nat.sub_self]
    rfl
  have h1 : q < H1.size := (hP N _ hi).lt
  have h2 : g.1 ≤ q := hD.2 N _ hi
  have h3 : q = g.1 + N := by
    apply Classical.byContradiction
    intro z
    have hj : q - g.1 < N := by omega
    have hj2 : (mws tc g N h ++ [(q, e)])[q - g.1]? = some (g.1 + (q - g.1), rE tc g (h (q - g.1))) := by
      rw [List.getElem?_append_left (by omega), mws_get hj]
    have := hD.1 _ _ _ _ hj2 hi (by show g.1 + (q - g.1) = q; omega)
    omega
  exact ⟨h3, by omega⟩
def NW (own : String) (ix ci nf : Nat) (dfl : List MV) : Prop := ∃ (C : String) (T : u_T) (ty : Nat → FieldType), mcl[ci]? = some (C, T, nf) ∧ (∀ w ∈ u_ws C T nf, w ∈ tbg) ∧ (∀ k, k < nf → parseFieldDescriptor (T k).2.2.1 = some (ty k)) ∧ Cond.classLink own ix C ∈ tbg ∧ Cond.instantiable C nf ∈ tbg ∧ Cond.initialized C ∈ tbg ∧ ∀ (g : GB) (j : Nat), j < nf → defaultValue (ty j) = vp_V (dfl.map (rv g)) j
section MN
variable {μ : MI} {κ : KX} {pc : Nat} {lo : List (Nat × MV)} {st : List MV} {ρ : MR} {h : MH} {Q : Option MV → MR → MH → Prop}
theorem g_new {ci ix nf : Nat} {dfl : List MV} (hf : NW μ.1 ix ci nf dfl) (hd : decode μ.2.2.1 pc = .ok (.new ix, 3)) (hc : ρ.1 + 1 ≤ κ.2.1) (hs : ρ.2.1 + nf ≤ κ.2.2.1) (hk : G μ κ (pc + 3) lo (vR ρ.2.2 :: st) (ρ.1 + 1, ρ.2.1 + nf, ρ.2.2 + 1) (va_up h ρ.2.2 (eO ci dfl)) Q) : G μ κ pc lo st ρ h Q := by
  intro p l e R s m args below meth c D tc g Zf F E ls H locs hl hW hS
  obtain ⟨C, T, ty, f1, f2, f3, f4, f5, f6, f7⟩ := hf
  have hts := F.2.2.2.2.1
  obtain ⟨r1, r2, r3, r4⟩ := F.2.2.2.2.2.2.2.2.2.1
  have hx5 := F.2.2.2.2.2.2.2.2.2.2.2.2.2.2.1
  refine va_new (ci := ci) (fs := dfl.map (rv g)) (C := C) (T := T) (N := nf) F.1 F.2.1 hts f2 ty f3 F.2.2.2.1 (hts _ f4) (hts _ f5) (hts _ f6) F.2.2.2.2.2.2.2.2.1 hW.2 mws_D hS.1 (fun q z => Nat.le_trans hx5 z) f1 (f7 g) (by rw [r3]; exact hc) (by rw [r4]; exact hs) hd (fun q H1 hP1 hD1 hS1 => ?_)
  refine W_size (fun hz => ?_)
  have h9 := hS.2
  obtain ⟨e1, e2⟩ := new_at hP1 hD1 (by omega)
  subst e1
  have hP2 : va_P D mcl (mws tc g (ρ.2.2 + 1) (va_up h ρ.2.2 (eO ci dfl))) H1 := by
    rw [mws_push]
    exact hP1
  exact hk p l e R s m args below meth c D tc g Zf F E ls H1 locs hl ⟨by rw [e2]; rfl, hP2⟩ ⟨hS1, by dsimp only; omega⟩
theorem g_newI {n : Nat} {x : Int} (ex : x = (n : Int)) (hn : n ≤ 65536) (ha : Cond.arrayClass .int ∈ tbg) (hd : decode μ.2.2.1 pc = .ok (.newarray .int, 2)) (hc : ρ.1 + 1 ≤ κ.2.1) (hs : ρ.2.1 + n ≤ κ.2.2.1) (hk : G μ κ (pc + 2) lo (vR ρ.2.2 :: st) (ρ.1 + 1, ρ.2.1 + n, ρ.2.2 + 1) (va_up h ρ.2.2 (eA 0 n (fun _ => 0))) Q) : G μ κ pc lo (vI x :: st) ρ h Q := by
  subst ex
  intro p l e R s m args below meth c D tc g Zf F E ls H locs hl hW hS
  have hts := F.2.2.2.2.1
  have hK := F.2.2.2.2.2.2.2.2.1
  obtain ⟨r1, r2, r3, r4⟩ := F.2.2.2.2.2.2.2.2.2.1
  have hx5 := F.2.2.2.2.2.2.2.2.2.2.2.2.2.2.1
  refine va_newa (a0 := (n, .inl (fun _ => Int32.ofInt 0))) (N' := n) F.1 F.2.1 (atype := .int) (hts _ ha) (ty := .int) rfl hK hW.2 mws_D hS.1 (fun q z => Nat.le_trans hx5 z) (fun cA => rfl) ?_ ?_ ?_ (by rw [r3]; exact hc) (by rw [r4]; exact hs) hd (fun q cA H1 hK1 hP1 hD1 hS1 => ?_)
  · rw [show (0 : Int32) = Int32.ofInt 0 from rfl, i32_lt ⟨by omega, by omega⟩ ⟨by decide, by decide⟩]
    omega
  · rw [i32_clamp (by omega) (by omega), Int.toNat_natCast]
  · show n * 4 ≤ _
    omega
  · have ecA : cA = tc 0 := by
      have z1 := (hK1.2 7 _ rfl).2
      have z2 := (hK.2 0 _ rfl).2
      exact Option.some.inj (z1.symm.trans z2)
    subst ecA
    refine W_size (fun hz => ?_)
    have h9 := hS.2
    obtain ⟨e1, e2⟩ := new_at hP1 hD1 (by omega)
    subst e1
    have hP2 : va_P D mcl (mws tc g (ρ.2.2 + 1) (va_up h ρ.2.2 (eA 0 n (fun _ => 0)))) H1 := by
      rw [mws_push]
      exact hP1
    exact hk p l e R s m args below meth c D tc g Zf F E ls H1 locs hl ⟨by rw [e2]; rfl, hP2⟩ ⟨hS1, by dsimp only; omega⟩
theorem g_newB {n : Nat} {x : Int} (ex : x = (n : Int)) (hn : n ≤ 65536) (ha : Cond.arrayClass .byte ∈ tbg) (hd : decode μ.2.2.1 pc = .ok (.newarray .byte, 2)) (hc : ρ.1 + 1 ≤ κ.2.1) (hs : ρ.2.1 + n ≤ κ.2.2.1) (hk : G μ κ (pc + 2) lo (vR ρ.2.2 :: st) (ρ.1 + 1, ρ.2.1 + n, ρ.2.2 + 1) (va_up h ρ.2.2 (eA 1 n (fun _ => 0))) Q) : G μ κ pc lo (vI x :: st) ρ h Q := by
  subst ex
  intro p l e R s m args below meth c D tc g Zf F E ls H locs hl hW hS
  have hts := F.2.2.2.2.1
  have hK := F.2.2.2.2.2.2.2.2.1
  obtain ⟨r1, r2, r3, r4⟩ := F.2.2.2.2.2.2.2.2.2.1
  have hx5 := F.2.2.2.2.2.2.2.2.2.2.2.2.2.2.1
  refine va_newa (a0 := (n, .inl (fun _ => Int32.ofInt 0))) (N' := n) F.1 F.2.1 (atype := .byte) (hts _ ha) (ty := .byte) rfl hK hW.2 mws_D hS.1 (fun q z => Nat.le_trans hx5 z) (fun cA => rfl) ?_ ?_ ?_ (by rw [r3]; exact hc) (by rw [r4]; exact hs) hd (fun q cA H1 hK1 hP1 hD1 hS1 => ?_)
  · rw [show (0 : Int32) = Int32.ofInt 0 from rfl, i32_lt ⟨by omega, by omega⟩ ⟨by decide, by decide⟩]
    omega
  · rw [i32_clamp (by omega) (by omega), Int.toNat_natCast]
  · show n * 1 ≤ _
    omega
  · have ecA : cA = tc 1 := by
      have z1 := (hK1.2 7 _ rfl).2
      have z2 := (hK.2 1 _ rfl).2
      exact Option.some.inj (z1.symm.trans z2)
    subst ecA
    refine W_size (fun hz => ?_)
    have h9 := hS.2
    obtain ⟨e1, e2⟩ := new_at hP1 hD1 (by omega)
    subst e1
    have hP2 : va_P D mcl (mws tc g (ρ.2.2 + 1) (va_up h ρ.2.2 (eA 1 n (fun _ => 0)))) H1 := by
      rw [mws_push]
      exact hP1
    exact hk p l e R s m args below meth c D tc g Zf F E ls H1 locs hl ⟨by rw [e2]; rfl, hP2⟩ ⟨hS1, by dsimp only; omega⟩
theorem g_newZ {n : Nat} {x : Int} (ex : x = (n : Int)) (hn : n ≤ 65536) (ha : Cond.arrayClass .boolean ∈ tbg) (hd : decode μ.2.2.1 pc = .ok (.newarray .boolean, 2)) (hc : ρ.1 + 1 ≤ κ.2.1) (hs : ρ.2.1 + n ≤ κ.2.2.1) (hk : G μ κ (pc + 2) lo (vR ρ.2.2 :: st) (ρ.1 + 1, ρ.2.1 + n, ρ.2.2 + 1) (va_up h ρ.2.2 (eA 2 n (fun _ => 0))) Q) : G μ κ pc lo (vI x :: st) ρ h Q := by
  subst ex
  intro p l e R s m args below meth c D tc g Zf F E ls H locs hl hW hS
  have hts := F.2.2.2.2.1
  have hK := F.2.2.2.2.2.2.2.2.1
  obtain ⟨r1, r2, r3, r4⟩ := F.2.2.2.2.2.2.2.2.2.1
  have hx5 := F.2.2.2.2.2.2.2.2.2.2.2.2.2.2.1
  refine va_newa (a0 := (n, .inl (fun _ => Int32.ofInt 0))) (N' := n) F.1 F.2.1 (atype := .boolean) (hts _ ha) (ty := .boolean) rfl hK hW.2 mws_D hS.1 (fun q z => Nat.le_trans hx5 z) (fun cA => rfl) ?_ ?_ ?_ (by rw [r3]; exact hc) (by rw [r4]; exact hs) hd (fun q cA H1 hK1 hP1 hD1 hS1 => ?_)
  · rw [show (0 : Int32) = Int32.ofInt 0 from rfl, i32_lt ⟨by omega, by omega⟩ ⟨by decide, by decide⟩]
    omega
  · rw [i32_clamp (by omega) (by omega), Int.toNat_natCast]
  · show n * 1 ≤ _
    omega
  · have ecA : cA = tc 2 := by
      have z1 := (hK1.2 7 _ rfl).2
      have z2 := (hK.2 2 _ rfl).2
      exact Option.some.inj (z1.symm.trans z2)
    subst ecA
    refine W_size (fun hz => ?_)
    have h9 := hS.2
    obtain ⟨e1, e2⟩ := new_at hP1 hD1 (by omega)
    subst e1
    have hP2 : va_P D mcl (mws tc g (ρ.2.2 + 1) (va_up h ρ.2.2 (eA 2 n (fun _ => 0)))) H1 := by
      rw [mws_push]
      exact hP1
    exact hk p l e R s m args below meth c D tc g Zf F E ls H1 locs hl ⟨by rw [e2]; rfl, hP2⟩ ⟨hS1, by dsimp only; omega⟩
theorem g_newJ {n : Nat} {x : Int} (ex : x = (n : Int)) (hn : n ≤ 65536) (ha : Cond.arrayClass .long ∈ tbg) (hd : decode μ.2.2.1 pc = .ok (.newarray .long, 2)) (hc : ρ.1 + 1 ≤ κ.2.1) (hs : ρ.2.1 + n ≤ κ.2.2.1) (hk : G μ κ (pc + 2) lo (vR ρ.2.2 :: st) (ρ.1 + 1, ρ.2.1 + n, ρ.2.2 + 1) (va_up h ρ.2.2 (eA 3 n (fun _ => 0))) Q) : G μ κ pc lo (vI x :: st) ρ h Q := by
  subst ex
  intro p l e R s m args below meth c D tc g Zf F E ls H locs hl hW hS
  have hts := F.2.2.2.2.1
  have hK := F.2.2.2.2.2.2.2.2.1
  obtain ⟨r1, r2, r3, r4⟩ := F.2.2.2.2.2.2.2.2.2.1
  have hx5 := F.2.2.2.2.2.2.2.2.2.2.2.2.2.2.1
  refine va_newa (a0 := (n, .inr (.inl (fun _ => Int64.ofInt 0)))) (N' := n) F.1 F.2.1 (atype := .long) (hts _ ha) (ty := .long) rfl hK hW.2 mws_D hS.1 (fun q z => Nat.le_trans hx5 z) (fun cA => rfl) ?_ ?_ ?_ (by rw [r3]; exact hc) (by rw [r4]; exact hs) hd (fun q cA H1 hK1 hP1 hD1 hS1 => ?_)
  · rw [show (0 : Int32) = Int32.ofInt 0 from rfl, i32_lt ⟨by omega, by omega⟩ ⟨by decide, by decide⟩]
    omega
  · rw [i32_clamp (by omega) (by omega), Int.toNat_natCast]
  · show n * 8 ≤ _
    omega
  · have ecA : cA = tc 3 := by
      have z1 := (hK1.2 7 _ rfl).2
      have z2 := (hK.2 3 _ rfl).2
      exact Option.some.inj (z1.symm.trans z2)
    subst ecA
    refine W_size (fun hz => ?_)
    have h9 := hS.2
    obtain ⟨e1, e2⟩ := new_at hP1 hD1 (by omega)
    subst e1
    have hP2 : va_P D mcl (mws tc g (ρ.2.2 + 1) (va_up h ρ.2.2 (eA 3 n (fun _ => 0)))) H1 := by
      rw [mws_push]
      exact hP1
    exact hk p l e R s m args below meth c D tc g Zf F E ls H1 locs hl ⟨by rw [e2]; rfl, hP2⟩ ⟨hS1, by dsimp only; omega⟩
end MN
