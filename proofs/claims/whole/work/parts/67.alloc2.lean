/-! ===== making rows of references ===== -/
section MN2
variable {μ : MI} {κ : KX} {pc : Nat} {lo : List (Nat × MV)} {st : List MV} {ρ : MR} {h : MH} {Q : Option MV → MR → MH → Prop}
theorem g_newq {kq ix n : Nat} {C : String} {x : Int} (ex : x = (n : Int)) (hn : n ≤ 65536) (hq : (kq = 4 ∧ C = "RoundMill$Mill") ∨ (kq = 5 ∧ C = "RoundMill$Part")) (ha : Cond.classLink μ.1 ix C ∈ tbg) (hd : decode μ.2.2.1 pc = .ok (.anewarray ix, 3)) (hc : ρ.1 + 1 ≤ κ.2.1) (hs : ρ.2.1 + n ≤ κ.2.2.1) (hk : G μ κ (pc + 3) lo (vR ρ.2.2 :: st) (ρ.1 + 1, ρ.2.1 + n, ρ.2.2 + 1) (va_up h ρ.2.2 (eQ kq n (fun _ => none))) Q) : G μ κ pc lo (vI x :: st) ρ h Q := by
  subst ex
  intro p l e R s m args below meth c D tc g Zf F E ls H locs hl hW hS
  have hts := F.2.2.2.2.1
  have hK := F.2.2.2.2.2.2.2.2.1
  obtain ⟨r1, r2, r3, r4⟩ := F.2.2.2.2.2.2.2.2.2.1
  obtain ⟨-, -, -, -, hx5, -, -, o1, o2, -⟩ := F.2.2.2.2.2.2.2.2.2.2
  have hAO : va_AO C s := by
    rcases hq with ⟨-, rfl⟩ | ⟨-, rfl⟩
    · exact o1
    · exact o2
  refine va_newq (N' := n) F.1 F.2.1 F.2.2.2.1 (hts _ ha) hAO hK hW.2 mws_D hS.1 (fun q z => Nat.le_trans hx5 z) ?_ ?_ (by omega) (by rw [r3]; exact hc) (by rw [r4]; exact hs) hd (fun q cA H1 hK1 hP1 hD1 hS1 => ?_)
  · rw [show (0 : Int32) = Int32.ofInt 0 from rfl, i32_lt ⟨by omega, by omega⟩ ⟨by decide, by decide⟩]
    omega
  · rw [i32_clamp (by omega) (by omega), Int.toNat_natCast]
  · have ecA : cA = tc kq := by
      obtain ⟨k1, c1, z1, z2, z3, z4⟩ := (hK1.2 7 _ rfl).2
      rcases hq with ⟨rfl, rfl⟩ | ⟨rfl, rfl⟩
      · obtain ⟨k2, c2, y1, y2, y3, y4⟩ := (hK.2 4 _ rfl).2
        exact Option.some.inj (z4.symm.trans y4)
      · obtain ⟨k2, c2, y1, y2, y3, y4⟩ := (hK.2 5 _ rfl).2
        exact Option.some.inj (z4.symm.trans y4)
    subst ecA
    refine W_size (fun hz => ?_)
    have h9 := hS.2
    obtain ⟨e1, e2⟩ := new_at hP1 hD1 (by omega)
    subst e1
    have hP2 : va_P D mcl (mws tc g (ρ.2.2 + 1) (va_up h ρ.2.2 (eQ kq n (fun _ => none)))) H1 := by
      rw [mws_push]
      exact hP1
    exact hk p l e R s m args below meth c D tc g Zf F E ls H1 locs hl ⟨by rw [e2]; rfl, hP2⟩ ⟨hS1, by dsimp only; omega⟩
end MN2
