/-! ===== Object.<init>; what new needs of the tables ===== -/
theorem oiI : Cond.instanceMethod Lib.objectInit ∈ tbg := tb1 24 rfl rfl
theorem oiC : Cond.code Lib.objectInit ⟨#[0xb1]⟩ 1 none ∈ tbg := tb1 25 rfl rfl
theorem oiX10_1 : Cond.methodLink RX10 1 Lib.objectInit ∈ tbg := tb1 23 rfl rfl
theorem oiX9_3 : Cond.methodLink RX9 3 Lib.objectInit ∈ tbg := tb1 33 rfl rfl
theorem oiX1_3 : Cond.methodLink RX1 3 Lib.objectInit ∈ tbg := tb1 91 rfl rfl
theorem oiX2_3 : Cond.methodLink RX2 3 Lib.objectInit ∈ tbg := tb1 97 rfl rfl
theorem oiX5_3 : Cond.methodLink RX5 3 Lib.objectInit ∈ tbg := tb1 118 rfl rfl
theorem oiX4_1 : Cond.methodLink RX4 1 Lib.objectInit ∈ tbg := tb1 133 rfl rfl
theorem oiX6_5 : Cond.methodLink RX6 5 Lib.objectInit ∈ tbg := tb1 155 rfl rfl
theorem oiX8_3 : Cond.methodLink RX8 3 Lib.objectInit ∈ tbg := tb1 182 rfl rfl
theorem oiX7_3 : Cond.methodLink RX7 3 Lib.objectInit ∈ tbg := tb1 188 rfl rfl
theorem oiX0_3 : Cond.methodLink RX0 3 Lib.objectInit ∈ tbg := tb1 203 rfl rfl
theorem oiX11_1 : Cond.methodLink RX11 1 Lib.objectInit ∈ tbg := tb4 84 rfl rfl
section MO
variable {μ : MI} {κ : KX} {pc : Nat} {lo : List (Nat × MV)} {st : List MV} {ρ : MR} {h : MH} {Q : Option MV → MR → MH → Prop}
theorem g_oinit {ix a : Nat} (hL : Cond.methodLink μ.1 ix Lib.objectInit ∈ tbg) (hd : decode μ.2.2.1 pc = .ok (.invokespecial ix, 3)) (hR : 1 ≤ κ.1) (hst : (st.map mcat).sum ≤ 8) (hk : G μ κ (pc + 3) lo st ρ h Q) : G μ κ pc lo (vR a :: st) ρ h Q := by
  intro p l e R s m args below meth c D tc g Zf F E ls H locs hl hW hS
  have hts := F.2.2.2.2.1
  obtain ⟨r1, r2, r3, r4⟩ := F.2.2.2.2.2.2.2.2.2.1
  refine W.objInit F.1 F.2.1 F.2.2.2.1 (hts _ hL) (hts _ oiI) (hts _ oiC) rfl (hl.1.trans F.2.2.1.symm) (a := g.1 + a) (rest := st.map (rv g)) rfl hd (by omega) ?_ (W.eq rfl (hk p l e R s m args below meth c D tc g Zf F E ls H locs hl hW hS))
  have := lv_room (m := m) (pc := pc) (ls := ls) (rest := (vR a :: st).map (rv g)) (st := st.map (rv g)) (by rw [mcat_sum]; exact hst)
  omega
end MO
theorem nwX1_15 : NW RX1 15 2 4 [vN, vI 0, vN, vI 0] := by
  refine ⟨RX2, TX2, tyX2, rfl, inX2, tyX2_ok, tb1 92 rfl rfl, tb1 93 rfl rfl, tb1 5 rfl rfl, fun g j hj => ?_⟩
  match j, hj with
  | 0, _ => exact rfl
  | 1, _ => exact rfl
  | 2, _ => exact rfl
  | 3, _ => exact rfl
theorem nwX1_22 : NW RX1 22 5 2 [vN, vI 0] := by
  refine ⟨RX5, TX5, tyX5, rfl, inX5, tyX5_ok, tb1 113 rfl rfl, tb1 114 rfl rfl, tb1 6 rfl rfl, fun g j hj => ?_⟩
  match j, hj with
  | 0, _ => exact rfl
  | 1, _ => exact rfl
theorem nwX1_29 : NW RX1 29 4 3 [vI 0, vI 0, vI 0] := by
  refine ⟨RX4, TX4, tyX4, rfl, inX4, tyX4_ok, tb1 127 rfl rfl, tb1 129 rfl rfl, tb1 7 rfl rfl, fun g j hj => ?_⟩
  match j, hj with
  | 0, _ => exact rfl
  | 1, _ => exact rfl
  | 2, _ => exact rfl
theorem nwX1_36 : NW RX1 36 6 6 [vN, vN, vN, vI 0, vI 0, vI 0] := by
  refine ⟨RX6, TX6, tyX6, rfl, inX6, tyX6_ok, tb1 150 rfl rfl, tb1 151 rfl rfl, tb1 8 rfl rfl, fun g j hj => ?_⟩
  match j, hj with
  | 0, _ => exact rfl
  | 1, _ => exact rfl
  | 2, _ => exact rfl
  | 3, _ => exact rfl
  | 4, _ => exact rfl
  | 5, _ => exact rfl
theorem nwX1_43 : NW RX1 43 8 9 [vN, vN, vN, vN, vN, vN, vN, vN, vJ 0] := by
  refine ⟨RX8, TX8, tyX8, rfl, inX8, tyX8_ok, tb1 177 rfl rfl, tb1 178 rfl rfl, tb1 9 rfl rfl, fun g j hj => ?_⟩
  match j, hj with
  | 0, _ => exact rfl
  | 1, _ => exact rfl
  | 2, _ => exact rfl
  | 3, _ => exact rfl
  | 4, _ => exact rfl
  | 5, _ => exact rfl
  | 6, _ => exact rfl
  | 7, _ => exact rfl
  | 8, _ => exact rfl
theorem nwX8_9 : NW RX8 9 7 2 [vN, vI 0] := by
  refine ⟨RX7, TX7, tyX7, rfl, inX7, tyX7_ok, tb1 183 rfl rfl, tb1 184 rfl rfl, tb1 10 rfl rfl, fun g j hj => ?_⟩
  match j, hj with
  | 0, _ => exact rfl
  | 1, _ => exact rfl
theorem nwX8_21 : NW RX8 21 0 5 [vN, vI 0, vI 0, vI 0, vI 0] := by
  refine ⟨RX0, TX0, tyX0, rfl, inX0, tyX0_ok, tb1 198 rfl rfl, tb1 199 rfl rfl, tb1 11 rfl rfl, fun g j hj => ?_⟩
  match j, hj with
  | 0, _ => exact rfl
  | 1, _ => exact rfl
  | 2, _ => exact rfl
  | 3, _ => exact rfl
  | 4, _ => exact rfl
theorem nwX10_15 : NW RX10 15 9 13 [vI 0, vI 0, vN, vN, vN, vN, vN, vN, vN, vI 0, vI 0, vI 0, vI 0] := by
  refine ⟨RX9, TX9, tyX9, rfl, inX9, tyX9_ok, tb1 28 rfl rfl, tb1 29 rfl rfl, tb1 2 rfl rfl, fun g j hj => ?_⟩
  match j, hj with
  | 0, _ => exact rfl
  | 1, _ => exact rfl
  | 2, _ => exact rfl
  | 3, _ => exact rfl
  | 4, _ => exact rfl
  | 5, _ => exact rfl
  | 6, _ => exact rfl
  | 7, _ => exact rfl
  | 8, _ => exact rfl
  | 9, _ => exact rfl
  | 10, _ => exact rfl
  | 11, _ => exact rfl
  | 12, _ => exact rfl
theorem nwX10_9 : NW RX10 9 1 10 [vI 0, vI 0, vI 0, vI 0, vN, vN, vN, vN, vN, vN] := by
  refine ⟨RX1, TX1, tyX1, rfl, inX1, tyX1_ok, tb1 26 rfl rfl, tb1 87 rfl rfl, tb1 4 rfl rfl, fun g j hj => ?_⟩
  match j, hj with
  | 0, _ => exact rfl
  | 1, _ => exact rfl
  | 2, _ => exact rfl
  | 3, _ => exact rfl
  | 4, _ => exact rfl
  | 5, _ => exact rfl
  | 6, _ => exact rfl
  | 7, _ => exact rfl
  | 8, _ => exact rfl
  | 9, _ => exact rfl
theorem nwL_7 : NW RL 7 10 3 [vN, vN, vN] := by
  refine ⟨RX10, TX10, tyX10, rfl, inX10, tyX10_ok, tb1 18 rfl rfl, tb1 19 rfl rfl, tb1 1 rfl rfl, fun g j hj => ?_⟩
  match j, hj with
  | 0, _ => exact rfl
  | 1, _ => exact rfl
  | 2, _ => exact rfl
theorem nwL_10 : NW RL 10 11 37 [vI 0, vN, vN, vN, vN, vN, vN, vN, vN, vN, vN, vN, vN, vI 0, vN, vN, vN, vN, vN, vI 0, vN, vI 0, vJ 0, vN, vN, vN, vN, vI 0, vN, vN, vN, vI 0, vN, vI 0, vN, vN, vN] := by
  refine ⟨RX11, TX11, tyX11, rfl, inX11, tyX11_ok, tb4 79 rfl rfl, tb4 80 rfl rfl, tb1 12 rfl rfl, fun g j hj => ?_⟩
  match j, hj with
  | 0, _ => exact rfl
  | 1, _ => exact rfl
  | 2, _ => exact rfl
  | 3, _ => exact rfl
  | 4, _ => exact rfl
  | 5, _ => exact rfl
  | 6, _ => exact rfl
  | 7, _ => exact rfl
  | 8, _ => exact rfl
  | 9, _ => exact rfl
  | 10, _ => exact rfl
  | 11, _ => exact rfl
  | 12, _ => exact rfl
  | 13, _ => exact rfl
  | 14, _ => exact rfl
  | 15, _ => exact rfl
  | 16, _ => exact rfl
  | 17, _ => exact rfl
  | 18, _ => exact rfl
  | 19, _ => exact rfl
  | 20, _ => exact rfl
  | 21, _ => exact rfl
  | 22, _ => exact rfl
  | 23, _ => exact rfl
  | 24, _ => exact rfl
  | 25, _ => exact rfl
  | 26, _ => exact rfl
  | 27, _ => exact rfl
  | 28, _ => exact rfl
  | 29, _ => exact rfl
  | 30, _ => exact rfl
  | 31, _ => exact rfl
  | 32, _ => exact rfl
  | 33, _ => exact rfl
  | 34, _ => exact rfl
  | 35, _ => exact rfl
  | 36, _ => exact rfl
  | j + 37, hj => exact absurd hj (by omega)
theorem ac_int : Cond.arrayClass .int ∈ tbg := tb1 86 rfl rfl
theorem ac_byte : Cond.arrayClass .byte ∈ tbg := tb4 202 rfl rfl
theorem ac_boolean : Cond.arrayClass .boolean ∈ tbg := tb4 201 rfl rfl
theorem ac_long : Cond.arrayClass .long ∈ tbg := tb4 203 rfl rfl
theorem kaX0_9 : Cond.classLink RX0 9 "[[I" ∈ tbg := tb1 204 rfl rfl
theorem kaX1_29 : Cond.classLink RX1 29 "RoundMill$Part" ∈ tbg := tb1 127 rfl rfl
theorem kaX6_11 : Cond.classLink RX6 11 "[[I" ∈ tbg := tb1 156 rfl rfl
theorem kaX9_30 : Cond.classLink RX9 30 "[[I" ∈ tbg := tb1 34 rfl rfl
theorem kaX10_9 : Cond.classLink RX10 9 "RoundMill$Mill" ∈ tbg := tb1 26 rfl rfl
