/-! ===== rows of the small machine that touch no cell ===== -/
section MB
variable {μ : MI} {κ : KX} {pc : Nat} {lo : List (Nat × MV)} {st : List MV} {ρ : MR} {h : MH} {Q : Option MV → MR → MH → Prop}
theorem g_iconst {n : Int} (hd : decode μ.2.2.1 pc = .ok (.iconst n, 1)) (hk : G μ κ (pc + 1) lo (vI n :: st) ρ h Q) : G μ κ pc lo (st) ρ h Q := by
  intro p l e R s m args below meth c D tc g Zf F E ls H locs hl hW hS
  exact lv_iconst F.1 F.2.1 hd rfl (W.eq rfl (hk p l e R s m args below meth c D tc g Zf F E ls H locs hl hW hS))
theorem g_bipush {n : Int} (hd : decode μ.2.2.1 pc = .ok (.bipush n, 2)) (hn : (Int8.ofInt n).toInt32 = Int32.ofInt n := by decide +kernel) (hk : G μ κ (pc + 2) lo (vI n :: st) ρ h Q) : G μ κ pc lo (st) ρ h Q := by
  intro p l e R s m args below meth c D tc g Zf F E ls H locs hl hW hS
  exact lv_bipush F.1 F.2.1 hd hn (W.eq rfl (hk p l e R s m args below meth c D tc g Zf F E ls H locs hl hW hS))
theorem g_sipush {n : Int} (hd : decode μ.2.2.1 pc = .ok (.sipush n, 3)) (hn : (Int16.ofInt n).toInt32 = Int32.ofInt n := by decide +kernel) (hk : G μ κ (pc + 3) lo (vI n :: st) ρ h Q) : G μ κ pc lo (st) ρ h Q := by
  intro p l e R s m args below meth c D tc g Zf F E ls H locs hl hW hS
  exact lv_sipush F.1 F.2.1 hd hn (W.eq rfl (hk p l e R s m args below meth c D tc g Zf F E ls H locs hl hW hS))
theorem g_lconst0  (hd : decode μ.2.2.1 pc = .ok (.lconst 0, 1)) (hk : G μ κ (pc + 1) lo (vJ 0 :: st) ρ h Q) : G μ κ pc lo (st) ρ h Q := by
  intro p l e R s m args below meth c D tc g Zf F E ls H locs hl hW hS
  exact lv_lconst F.1 F.2.1 hd rfl (W.eq rfl (hk p l e R s m args below meth c D tc g Zf F E ls H locs hl hW hS))
theorem g_lconst1  (hd : decode μ.2.2.1 pc = .ok (.lconst 1, 1)) (hk : G μ κ (pc + 1) lo (vJ 1 :: st) ρ h Q) : G μ κ pc lo (st) ρ h Q := by
  intro p l e R s m args below meth c D tc g Zf F E ls H locs hl hW hS
  exact lv_lconst F.1 F.2.1 hd rfl (W.eq rfl (hk p l e R s m args below meth c D tc g Zf F E ls H locs hl hW hS))
theorem g_null  (hd : decode μ.2.2.1 pc = .ok (.aconst_null, 1)) (hk : G μ κ (pc + 1) lo (vN :: st) ρ h Q) : G μ κ pc lo (st) ρ h Q := by
  intro p l e R s m args below meth c D tc g Zf F E ls H locs hl hW hS
  exact lv_null F.1 F.2.1 hd (W.eq rfl (hk p l e R s m args below meth c D tc g Zf F E ls H locs hl hW hS))
theorem g_ldc {ix : Nat} {n : Int} (hd : decode μ.2.2.1 pc = .ok (.ldc ix, 2)) (hc : Cond.constant μ.1 ix (Int32.ofInt n) ∈ tbg) (hk : G μ κ (pc + 2) lo (vI n :: st) ρ h Q) : G μ κ pc lo (st) ρ h Q := by
  intro p l e R s m args below meth c D tc g Zf F E ls H locs hl hW hS
  exact lv_ldc F.1 F.2.1 F.2.2.2.1 (F.2.2.2.2.1 _ hc) hd (W.eq rfl (hk p l e R s m args below meth c D tc g Zf F E ls H locs hl hW hS))
theorem g_ldcw {ix : Nat} {n : Int} (hd : decode μ.2.2.1 pc = .ok (.ldc_w ix, 3)) (hc : Cond.constant μ.1 ix (Int32.ofInt n) ∈ tbg) (hk : G μ κ (pc + 3) lo (vI n :: st) ρ h Q) : G μ κ pc lo (st) ρ h Q := by
  intro p l e R s m args below meth c D tc g Zf F E ls H locs hl hW hS
  exact lv_ldcw F.1 F.2.1 F.2.2.2.1 (F.2.2.2.2.1 _ hc) hd (W.eq rfl (hk p l e R s m args below meth c D tc g Zf F E ls H locs hl hW hS))
theorem g_ldc2 {ix : Nat} {n : Int} (hd : decode μ.2.2.1 pc = .ok (.ldc2_w ix, 3)) (hc : Cond.constantLong μ.1 ix (Int64.ofInt n) ∈ tbg) (hk : G μ κ (pc + 3) lo (vJ n :: st) ρ h Q) : G μ κ pc lo (st) ρ h Q := by
  intro p l e R s m args below meth c D tc g Zf F E ls H locs hl hW hS
  exact lv_ldc2 F.1 F.2.1 F.2.2.2.1 (F.2.2.2.2.1 _ hc) hd (W.eq rfl (hk p l e R s m args below meth c D tc g Zf F E ls H locs hl hW hS))
theorem g_iload_n {k : Fin 4} {x : Int} (hd : decode μ.2.2.1 pc = .ok (.iload_n k, 1)) (hv : look lo k = some (vI x)) (hk : G μ κ (pc + 1) lo (vI x :: st) ρ h Q) : G μ κ pc lo (st) ρ h Q := by
  intro p l e R s m args below meth c D tc g Zf F E ls H locs hl hW hS
  exact lv_iload_n F.1 F.2.1 hd rfl (look_ls hl hv) (W.eq rfl (hk p l e R s m args below meth c D tc g Zf F E ls H locs hl hW hS))
theorem g_iload {i : Nat} {x : Int} (hd : decode μ.2.2.1 pc = .ok (.iload i, 2)) (hv : look lo i = some (vI x)) (hk : G μ κ (pc + 2) lo (vI x :: st) ρ h Q) : G μ κ pc lo (st) ρ h Q := by
  intro p l e R s m args below meth c D tc g Zf F E ls H locs hl hW hS
  exact lv_iload F.1 F.2.1 hd (look_ls hl hv) (W.eq rfl (hk p l e R s m args below meth c D tc g Zf F E ls H locs hl hW hS))
theorem g_lload_n {k : Fin 4} {x : Int} (hd : decode μ.2.2.1 pc = .ok (.lload_n k, 1)) (hv : look lo k = some (vJ x)) (hk : G μ κ (pc + 1) lo (vJ x :: st) ρ h Q) : G μ κ pc lo (st) ρ h Q := by
  intro p l e R s m args below meth c D tc g Zf F E ls H locs hl hW hS
  exact lv_lload_n F.1 F.2.1 hd rfl (look_ls hl hv) (W.eq rfl (hk p l e R s m args below meth c D tc g Zf F E ls H locs hl hW hS))
theorem g_lload {i : Nat} {x : Int} (hd : decode μ.2.2.1 pc = .ok (.lload i, 2)) (hv : look lo i = some (vJ x)) (hk : G μ κ (pc + 2) lo (vJ x :: st) ρ h Q) : G μ κ pc lo (st) ρ h Q := by
  intro p l e R s m args below meth c D tc g Zf F E ls H locs hl hW hS
  exact lv_lload F.1 F.2.1 hd (look_ls hl hv) (W.eq rfl (hk p l e R s m args below meth c D tc g Zf F E ls H locs hl hW hS))
theorem g_aload_n {k : Fin 4} {r : Option Nat ⊕ Bool} (hd : decode μ.2.2.1 pc = .ok (.aload_n k, 1)) (hv : look lo k = some (.inr (.inr r))) (hk : G μ κ (pc + 1) lo (.inr (.inr r) :: st) ρ h Q) : G μ κ pc lo (st) ρ h Q := by
  intro p l e R s m args below meth c D tc g Zf F E ls H locs hl hW hS
  have hv2 := look_ls hl hv
  have K := hk p l e R s m args below meth c D tc g Zf F E ls H locs hl hW hS
  rcases r with (_ | a) | (_ | _)
  · exact lv_aload_nN F.1 F.2.1 hd rfl hv2 (W.eq rfl K)
  · exact lv_aload_n F.1 F.2.1 hd rfl hv2 (W.eq rfl K)
  · exact lv_aload_n F.1 F.2.1 hd rfl hv2 (W.eq rfl K)
  · exact lv_aload_n F.1 F.2.1 hd rfl hv2 (W.eq rfl K)
theorem g_aload {i : Nat} {r : Option Nat ⊕ Bool} (hd : decode μ.2.2.1 pc = .ok (.aload i, 2)) (hv : look lo i = some (.inr (.inr r))) (hk : G μ κ (pc + 2) lo (.inr (.inr r) :: st) ρ h Q) : G μ κ pc lo (st) ρ h Q := by
  intro p l e R s m args below meth c D tc g Zf F E ls H locs hl hW hS
  have hv2 := look_ls hl hv
  have K := hk p l e R s m args below meth c D tc g Zf F E ls H locs hl hW hS
  rcases r with (_ | a) | (_ | _)
  · exact lv_aloadN F.1 F.2.1 hd hv2 (W.eq rfl K)
  · exact lv_aload F.1 F.2.1 hd hv2 (W.eq rfl K)
  · exact lv_aload F.1 F.2.1 hd hv2 (W.eq rfl K)
  · exact lv_aload F.1 F.2.1 hd hv2 (W.eq rfl K)
theorem g_istore_n {k : Fin 4} {x : Int} {lo2 : List (Nat × MV)} (hd : decode μ.2.2.1 pc = .ok (.istore_n k, 1)) (hn : (k : Nat) < μ.2.2.2.1) (e2 : sto1 lo k (vI x) = lo2) (hk : G μ κ (pc + 1) lo2 st ρ h Q) : G μ κ pc lo (vI x :: st) ρ h Q := by
  subst e2
  intro p l e R s m args below meth c D tc g Zf F E ls H locs hl hW hS
  exact lv_istore_n F.1 F.2.1 hd rfl hl hn rfl (fun ls' hl' => W.eq rfl (hk p l e R s m args below meth c D tc g Zf F E ls' H locs (sto1_ok (v := vI x) hl') hW hS))
theorem g_istore {i : Nat} {x : Int} {lo2 : List (Nat × MV)} (hd : decode μ.2.2.1 pc = .ok (.istore i, 2)) (hn : (i : Nat) < μ.2.2.2.1) (e2 : sto1 lo i (vI x) = lo2) (hk : G μ κ (pc + 2) lo2 st ρ h Q) : G μ κ pc lo (vI x :: st) ρ h Q := by
  subst e2
  intro p l e R s m args below meth c D tc g Zf F E ls H locs hl hW hS
  exact lv_istore F.1 F.2.1 hd hl hn rfl (fun ls' hl' => W.eq rfl (hk p l e R s m args below meth c D tc g Zf F E ls' H locs (sto1_ok (v := vI x) hl') hW hS))
theorem g_lstore_n {k : Fin 4} {x : Int} {lo2 : List (Nat × MV)} (hd : decode μ.2.2.1 pc = .ok (.lstore_n k, 1)) (hn : (k : Nat) + 1 < μ.2.2.2.1) (e2 : sto2 lo k (vJ x) = lo2) (hk : G μ κ (pc + 1) lo2 st ρ h Q) : G μ κ pc lo (vJ x :: st) ρ h Q := by
  subst e2
  intro p l e R s m args below meth c D tc g Zf F E ls H locs hl hW hS
  exact lv_lstore_n F.1 F.2.1 hd rfl hl hn rfl (fun ls' hl' => W.eq rfl (hk p l e R s m args below meth c D tc g Zf F E ls' H locs (sto2_ok (v := vJ x) hl') hW hS))
theorem g_lstore {i : Nat} {x : Int} {lo2 : List (Nat × MV)} (hd : decode μ.2.2.1 pc = .ok (.lstore i, 2)) (hn : (i : Nat) + 1 < μ.2.2.2.1) (e2 : sto2 lo i (vJ x) = lo2) (hk : G μ κ (pc + 2) lo2 st ρ h Q) : G μ κ pc lo (vJ x :: st) ρ h Q := by
  subst e2
  intro p l e R s m args below meth c D tc g Zf F E ls H locs hl hW hS
  exact lv_lstore F.1 F.2.1 hd hl hn rfl (fun ls' hl' => W.eq rfl (hk p l e R s m args below meth c D tc g Zf F E ls' H locs (sto2_ok (v := vJ x) hl') hW hS))
theorem g_astore_n {k : Fin 4} {r : Option Nat ⊕ Bool} {lo2 : List (Nat × MV)} (hd : decode μ.2.2.1 pc = .ok (.astore_n k, 1)) (hn : (k : Nat) < μ.2.2.2.1) (e2 : sto1 lo k (.inr (.inr r)) = lo2) (hk : G μ κ (pc + 1) lo2 st ρ h Q) : G μ κ pc lo (.inr (.inr r) :: st) ρ h Q := by
  subst e2
  intro p l e R s m args below meth c D tc g Zf F E ls H locs hl hW hS
  rcases r with (_ | a) | (_ | _)
  · exact lv_astore_nN F.1 F.2.1 hd rfl hl hn rfl (fun ls' hl' => W.eq rfl (hk p l e R s m args below meth c D tc g Zf F E ls' H locs (sto1_ok (v := vN) hl') hW hS))
  · exact lv_astore_n F.1 F.2.1 hd rfl hl hn rfl (fun ls' hl' => W.eq rfl (hk p l e R s m args below meth c D tc g Zf F E ls' H locs (sto1_ok (v := vR a) hl') hW hS))
  · exact lv_astore_n F.1 F.2.1 hd rfl hl hn rfl (fun ls' hl' => W.eq rfl (hk p l e R s m args below meth c D tc g Zf F E ls' H locs (sto1_ok (v := vS false) hl') hW hS))
  · exact lv_astore_n F.1 F.2.1 hd rfl hl hn rfl (fun ls' hl' => W.eq rfl (hk p l e R s m args below meth c D tc g Zf F E ls' H locs (sto1_ok (v := vS true) hl') hW hS))
theorem g_astore {i : Nat} {r : Option Nat ⊕ Bool} {lo2 : List (Nat × MV)} (hd : decode μ.2.2.1 pc = .ok (.astore i, 2)) (hn : (i : Nat) < μ.2.2.2.1) (e2 : sto1 lo i (.inr (.inr r)) = lo2) (hk : G μ κ (pc + 2) lo2 st ρ h Q) : G μ κ pc lo (.inr (.inr r) :: st) ρ h Q := by
  subst e2
  intro p l e R s m args below meth c D tc g Zf F E ls H locs hl hW hS
  rcases r with (_ | a) | (_ | _)
  · exact lv_astoreN F.1 F.2.1 hd hl hn rfl (fun ls' hl' => W.eq rfl (hk p l e R s m args below meth c D tc g Zf F E ls' H locs (sto1_ok (v := vN) hl') hW hS))
  · exact lv_astore F.1 F.2.1 hd hl hn rfl (fun ls' hl' => W.eq rfl (hk p l e R s m args below meth c D tc g Zf F E ls' H locs (sto1_ok (v := vR a) hl') hW hS))
  · exact lv_astore F.1 F.2.1 hd hl hn rfl (fun ls' hl' => W.eq rfl (hk p l e R s m args below meth c D tc g Zf F E ls' H locs (sto1_ok (v := vS false) hl') hW hS))
  · exact lv_astore F.1 F.2.1 hd hl hn rfl (fun ls' hl' => W.eq rfl (hk p l e R s m args below meth c D tc g Zf F E ls' H locs (sto1_ok (v := vS true) hl') hW hS))
theorem g_iinc {i : Nat} {n x : Int} {lo2 : List (Nat × MV)} (hd : decode μ.2.2.1 pc = .ok (.iinc i n, 3)) (hv : look lo i = some (vI x)) (hn : i < μ.2.2.2.1) (e2 : sto1 lo i (vI (x + n)) = lo2) (hk : G μ κ (pc + 3) lo2 st ρ h Q) : G μ κ pc lo st ρ h Q := by
  subst e2
  intro p l e R s m args below meth c D tc g Zf F E ls H locs hl hW hS
  obtain ⟨k, hk2⟩ := List.getElem?_of_mem (List.mem_map.mpr ⟨(i, vI x), look_mem hv, rfl⟩ : (i, rv g (vI x)) ∈ lo.map (fun q => (q.1, rv g q.2)))
  exact lv_iinc F.1 F.2.1 hd hl hk2 (Int32.ofInt_add x n).symm hn rfl (fun ls' hl' => W.eq rfl (hk p l e R s m args below meth c D tc g Zf F E ls' H locs (sto1_ok (v := vI (x + n)) hl') hW hS))
theorem g_iadd {x y : Int} (hd : decode μ.2.2.1 pc = .ok (.iadd, 1)) (hk : G μ κ (pc + 1) lo (vI (x + y) :: st) ρ h Q) : G μ κ pc lo (vI y :: vI x :: st) ρ h Q := by
  intro p l e R s m args below meth c D tc g Zf F E ls H locs hl hW hS
  have K := hk p l e R s m args below meth c D tc g Zf F E ls H locs hl hW hS
  exact lv_iadd F.1 F.2.1 hd (W.eq (by simp only [List.map_cons, rv, Int32.ofInt_add]) K)
theorem g_isub {x y : Int} (hd : decode μ.2.2.1 pc = .ok (.isub, 1)) (hk : G μ κ (pc + 1) lo (vI (x - y) :: st) ρ h Q) : G μ κ pc lo (vI y :: vI x :: st) ρ h Q := by
  intro p l e R s m args below meth c D tc g Zf F E ls H locs hl hW hS
  have K := hk p l e R s m args below meth c D tc g Zf F E ls H locs hl hW hS
  exact lv_isub F.1 F.2.1 hd (W.eq (by simp only [List.map_cons, rv, Int32.ofInt_sub]) K)
theorem g_imul {x y : Int} (hd : decode μ.2.2.1 pc = .ok (.imul, 1)) (hk : G μ κ (pc + 1) lo (vI (x * y) :: st) ρ h Q) : G μ κ pc lo (vI y :: vI x :: st) ρ h Q := by
  intro p l e R s m args below meth c D tc g Zf F E ls H locs hl hW hS
  have K := hk p l e R s m args below meth c D tc g Zf F E ls H locs hl hW hS
  exact lv_imul F.1 F.2.1 hd (W.eq (by simp only [List.map_cons, rv, Int32.ofInt_mul]) K)
theorem g_ineg {x : Int} (hd : decode μ.2.2.1 pc = .ok (.ineg, 1)) (hk : G μ κ (pc + 1) lo (vI (-x) :: st) ρ h Q) : G μ κ pc lo (vI x :: st) ρ h Q := by
  intro p l e R s m args below meth c D tc g Zf F E ls H locs hl hW hS
  have K := hk p l e R s m args below meth c D tc g Zf F E ls H locs hl hW hS
  exact lv_ineg F.1 F.2.1 hd (W.eq (by simp only [List.map_cons, rv, Int32.ofInt_neg]) K)
theorem g_idiv {x y : Int} (hd : decode μ.2.2.1 pc = .ok (.idiv, 1)) (hx : i32 x) (hy : i32 y) (h0 : y ≠ 0) (hk : G μ κ (pc + 1) lo (vI (x.tdiv y) :: st) ρ h Q) : G μ κ pc lo (vI y :: vI x :: st) ρ h Q := by
  intro p l e R s m args below meth c D tc g Zf F E ls H locs hl hW hS
  have K := hk p l e R s m args below meth c D tc g Zf F E ls H locs hl hW hS
  exact lv_idiv F.1 F.2.1 hd (fun q => h0 ((i32_eq hy (by decide)).mp q)) (W.eq (by simp only [List.map_cons, rv, Int32.ofInt_tdiv hx.1 hx.2 hy.1 hy.2]) K)
theorem g_irem {x y : Int} (hd : decode μ.2.2.1 pc = .ok (.irem, 1)) (hx : i32 x) (hy : i32 y) (h0 : y ≠ 0) (hk : G μ κ (pc + 1) lo (vI (x.tmod y) :: st) ρ h Q) : G μ κ pc lo (vI y :: vI x :: st) ρ h Q := by
  intro p l e R s m args below meth c D tc g Zf F E ls H locs hl hW hS
  have K := hk p l e R s m args below meth c D tc g Zf F E ls H locs hl hW hS
  exact lv_irem F.1 F.2.1 hd (fun q => h0 ((i32_eq hy (by decide)).mp q)) (W.eq (by simp only [List.map_cons, rv, i32_rem hx hy]) K)
theorem g_iand {x y : Int} (hd : decode μ.2.2.1 pc = .ok (.iand, 1)) (hk : G μ κ (pc + 1) lo (vI (Int32.ofInt x &&& Int32.ofInt y).toInt :: st) ρ h Q) : G μ κ pc lo (vI y :: vI x :: st) ρ h Q := by
  intro p l e R s m args below meth c D tc g Zf F E ls H locs hl hW hS
  have K := hk p l e R s m args below meth c D tc g Zf F E ls H locs hl hW hS
  exact lv_iand F.1 F.2.1 hd (W.eq (by simp only [List.map_cons, rv, Int32.ofInt_toInt]) K)
theorem g_ior {x y : Int} (hd : decode μ.2.2.1 pc = .ok (.ior, 1)) (hk : G μ κ (pc + 1) lo (vI (Int32.ofInt x ||| Int32.ofInt y).toInt :: st) ρ h Q) : G μ κ pc lo (vI y :: vI x :: st) ρ h Q := by
  intro p l e R s m args below meth c D tc g Zf F E ls H locs hl hW hS
  have K := hk p l e R s m args below meth c D tc g Zf F E ls H locs hl hW hS
  exact lv_ior F.1 F.2.1 hd (W.eq (by simp only [List.map_cons, rv, Int32.ofInt_toInt]) K)
theorem g_ixor {x y : Int} (hd : decode μ.2.2.1 pc = .ok (.ixor, 1)) (hk : G μ κ (pc + 1) lo (vI (Int32.ofInt x ^^^ Int32.ofInt y).toInt :: st) ρ h Q) : G μ κ pc lo (vI y :: vI x :: st) ρ h Q := by
  intro p l e R s m args below meth c D tc g Zf F E ls H locs hl hW hS
  have K := hk p l e R s m args below meth c D tc g Zf F E ls H locs hl hW hS
  exact lv_ixor F.1 F.2.1 hd (W.eq (by simp only [List.map_cons, rv, Int32.ofInt_toInt]) K)
theorem g_ladd {x y : Int} (hd : decode μ.2.2.1 pc = .ok (.ladd, 1)) (hk : G μ κ (pc + 1) lo (vJ (x + y) :: st) ρ h Q) : G μ κ pc lo (vJ y :: vJ x :: st) ρ h Q := by
  intro p l e R s m args below meth c D tc g Zf F E ls H locs hl hW hS
  have K := hk p l e R s m args below meth c D tc g Zf F E ls H locs hl hW hS
  exact lv_ladd F.1 F.2.1 hd (W.eq (by simp only [List.map_cons, rv, Int64.ofInt_add]) K)
theorem g_lsub {x y : Int} (hd : decode μ.2.2.1 pc = .ok (.lsub, 1)) (hk : G μ κ (pc + 1) lo (vJ (x - y) :: st) ρ h Q) : G μ κ pc lo (vJ y :: vJ x :: st) ρ h Q := by
  intro p l e R s m args below meth c D tc g Zf F E ls H locs hl hW hS
  have K := hk p l e R s m args below meth c D tc g Zf F E ls H locs hl hW hS
  exact lv_lsub F.1 F.2.1 hd (W.eq (by simp only [List.map_cons, rv, Int64.ofInt_sub]) K)
theorem g_lmul {x y : Int} (hd : decode μ.2.2.1 pc = .ok (.lmul, 1)) (hk : G μ κ (pc + 1) lo (vJ (x * y) :: st) ρ h Q) : G μ κ pc lo (vJ y :: vJ x :: st) ρ h Q := by
  intro p l e R s m args below meth c D tc g Zf F E ls H locs hl hW hS
  have K := hk p l e R s m args below meth c D tc g Zf F E ls H locs hl hW hS
  exact lv_lmul F.1 F.2.1 hd (W.eq (by simp only [List.map_cons, rv, Int64.ofInt_mul]) K)
theorem g_lneg {x : Int} (hd : decode μ.2.2.1 pc = .ok (.lneg, 1)) (hk : G μ κ (pc + 1) lo (vJ (-x) :: st) ρ h Q) : G μ κ pc lo (vJ x :: st) ρ h Q := by
  intro p l e R s m args below meth c D tc g Zf F E ls H locs hl hW hS
  have K := hk p l e R s m args below meth c D tc g Zf F E ls H locs hl hW hS
  exact lv_lneg F.1 F.2.1 hd (W.eq (by simp only [List.map_cons, rv, Int64.ofInt_neg]) K)
theorem g_ldiv {x y : Int} (hd : decode μ.2.2.1 pc = .ok (.ldiv, 1)) (hx : i64 x) (hy : i64 y) (h0 : y ≠ 0) (hk : G μ κ (pc + 1) lo (vJ (x.tdiv y) :: st) ρ h Q) : G μ κ pc lo (vJ y :: vJ x :: st) ρ h Q := by
  intro p l e R s m args below meth c D tc g Zf F E ls H locs hl hW hS
  have K := hk p l e R s m args below meth c D tc g Zf F E ls H locs hl hW hS
  exact lv_ldiv F.1 F.2.1 hd (fun q => h0 ((i64_eq hy (by decide)).mp q)) (W.eq (by simp only [List.map_cons, rv, Int64.ofInt_tdiv hx.1 hx.2 hy.1 hy.2]) K)
theorem g_lrem {x y : Int} (hd : decode μ.2.2.1 pc = .ok (.lrem, 1)) (hx : i64 x) (hy : i64 y) (h0 : y ≠ 0) (hk : G μ κ (pc + 1) lo (vJ (x.tmod y) :: st) ρ h Q) : G μ κ pc lo (vJ y :: vJ x :: st) ρ h Q := by
  intro p l e R s m args below meth c D tc g Zf F E ls H locs hl hW hS
  have K := hk p l e R s m args below meth c D tc g Zf F E ls H locs hl hW hS
  exact lv_lrem F.1 F.2.1 hd (fun q => h0 ((i64_eq hy (by decide)).mp q)) (W.eq (by simp only [List.map_cons, rv, i64_rem hx hy]) K)
theorem g_land {x y : Int} (hd : decode μ.2.2.1 pc = .ok (.land, 1)) (hk : G μ κ (pc + 1) lo (vJ (Int64.ofInt x &&& Int64.ofInt y).toInt :: st) ρ h Q) : G μ κ pc lo (vJ y :: vJ x :: st) ρ h Q := by
  intro p l e R s m args below meth c D tc g Zf F E ls H locs hl hW hS
  have K := hk p l e R s m args below meth c D tc g Zf F E ls H locs hl hW hS
  exact lv_land F.1 F.2.1 hd (W.eq (by simp only [List.map_cons, rv, Int64.ofInt_toInt]) K)
theorem g_lor {x y : Int} (hd : decode μ.2.2.1 pc = .ok (.lor, 1)) (hk : G μ κ (pc + 1) lo (vJ (Int64.ofInt x ||| Int64.ofInt y).toInt :: st) ρ h Q) : G μ κ pc lo (vJ y :: vJ x :: st) ρ h Q := by
  intro p l e R s m args below meth c D tc g Zf F E ls H locs hl hW hS
  have K := hk p l e R s m args below meth c D tc g Zf F E ls H locs hl hW hS
  exact lv_lor F.1 F.2.1 hd (W.eq (by simp only [List.map_cons, rv, Int64.ofInt_toInt]) K)
theorem g_lxor {x y : Int} (hd : decode μ.2.2.1 pc = .ok (.lxor, 1)) (hk : G μ κ (pc + 1) lo (vJ (Int64.ofInt x ^^^ Int64.ofInt y).toInt :: st) ρ h Q) : G μ κ pc lo (vJ y :: vJ x :: st) ρ h Q := by
  intro p l e R s m args below meth c D tc g Zf F E ls H locs hl hW hS
  have K := hk p l e R s m args below meth c D tc g Zf F E ls H locs hl hW hS
  exact lv_lxor F.1 F.2.1 hd (W.eq (by simp only [List.map_cons, rv, Int64.ofInt_toInt]) K)
theorem g_ishl {x y : Int} (hd : decode μ.2.2.1 pc = .ok (.ishl, 1)) (hk : G μ κ (pc + 1) lo (vI (Int32.ofInt x <<< (Int32.ofInt y &&& 31)).toInt :: st) ρ h Q) : G μ κ pc lo (vI y :: vI x :: st) ρ h Q := by
  intro p l e R s m args below meth c D tc g Zf F E ls H locs hl hW hS
  have K := hk p l e R s m args below meth c D tc g Zf F E ls H locs hl hW hS
  exact lv_ishl F.1 F.2.1 hd (W.eq (by simp only [List.map_cons, rv, Int32.ofInt_toInt]) K)
theorem g_ishr {x y : Int} (hd : decode μ.2.2.1 pc = .ok (.ishr, 1)) (hk : G μ κ (pc + 1) lo (vI (Int32.ofInt x >>> (Int32.ofInt y &&& 31)).toInt :: st) ρ h Q) : G μ κ pc lo (vI y :: vI x :: st) ρ h Q := by
  intro p l e R s m args below meth c D tc g Zf F E ls H locs hl hW hS
  have K := hk p l e R s m args below meth c D tc g Zf F E ls H locs hl hW hS
  exact lv_ishr F.1 F.2.1 hd (W.eq (by simp only [List.map_cons, rv, Int32.ofInt_toInt]) K)
theorem g_iushr {x y : Int} (hd : decode μ.2.2.1 pc = .ok (.iushr, 1)) (hk : G μ κ (pc + 1) lo (vI ((Int32.ofInt x).toUInt32 >>> ((Int32.ofInt y).toUInt32 &&& Int32.toUInt32 31)).toInt32.toInt :: st) ρ h Q) : G μ κ pc lo (vI y :: vI x :: st) ρ h Q := by
  intro p l e R s m args below meth c D tc g Zf F E ls H locs hl hW hS
  have K := hk p l e R s m args below meth c D tc g Zf F E ls H locs hl hW hS
  exact lv_iushr F.1 F.2.1 hd rfl (W.eq (by simp only [List.map_cons, rv, Int32.ofInt_toInt]) K)
theorem g_lushr {x y : Int} (hd : decode μ.2.2.1 pc = .ok (.lushr, 1)) (hk : G μ κ (pc + 1) lo (vJ ((Int64.ofInt x).toUInt64 >>> ((Int32.ofInt y).toInt64.toUInt64 &&& Int64.toUInt64 63)).toInt64.toInt :: st) ρ h Q) : G μ κ pc lo (vI y :: vJ x :: st) ρ h Q := by
  intro p l e R s m args below meth c D tc g Zf F E ls H locs hl hW hS
  have K := hk p l e R s m args below meth c D tc g Zf F E ls H locs hl hW hS
  exact lv_lushr F.1 F.2.1 hd rfl (W.eq (by simp only [List.map_cons, rv, Int64.ofInt_toInt]) K)
theorem g_lshl {x y : Int} (hd : decode μ.2.2.1 pc = .ok (.lshl, 1)) (hk : G μ κ (pc + 1) lo (vJ (Int64.ofInt x <<< ((Int32.ofInt y).toInt64 &&& 63)).toInt :: st) ρ h Q) : G μ κ pc lo (vI y :: vJ x :: st) ρ h Q := by
  intro p l e R s m args below meth c D tc g Zf F E ls H locs hl hW hS
  have K := hk p l e R s m args below meth c D tc g Zf F E ls H locs hl hW hS
  exact lv_lshl F.1 F.2.1 hd rfl (W.eq (by simp only [List.map_cons, rv, Int64.ofInt_toInt]) K)
theorem g_i2l {x : Int} (hd : decode μ.2.2.1 pc = .ok (.i2l, 1)) (hx : i32 x) (hk : G μ κ (pc + 1) lo (vJ x :: st) ρ h Q) : G μ κ pc lo (vI x :: st) ρ h Q := by
  intro p l e R s m args below meth c D tc g Zf F E ls H locs hl hW hS
  have K := hk p l e R s m args below meth c D tc g Zf F E ls H locs hl hW hS
  exact lv_i2l F.1 F.2.1 hd (Int32.toInt64_ofInt hx.1 hx.2) (W.eq rfl K)
theorem g_l2i {x : Int} (hd : decode μ.2.2.1 pc = .ok (.l2i, 1)) (hk : G μ κ (pc + 1) lo (vI x :: st) ρ h Q) : G μ κ pc lo (vJ x :: st) ρ h Q := by
  intro p l e R s m args below meth c D tc g Zf F E ls H locs hl hW hS
  have K := hk p l e R s m args below meth c D tc g Zf F E ls H locs hl hW hS
  exact lv_l2i F.1 F.2.1 hd Int64.toInt32_ofInt (W.eq rfl K)
theorem g_i2b {x : Int} (hd : decode μ.2.2.1 pc = .ok (.i2b, 1)) (hk : G μ κ (pc + 1) lo (vI (Int32.ofInt x).toInt8.toInt32.toInt :: st) ρ h Q) : G μ κ pc lo (vI x :: st) ρ h Q := by
  intro p l e R s m args below meth c D tc g Zf F E ls H locs hl hW hS
  have K := hk p l e R s m args below meth c D tc g Zf F E ls H locs hl hW hS
  exact lv_i2b F.1 F.2.1 hd rfl (W.eq (by simp only [List.map_cons, rv, Int32.ofInt_toInt]) K)
theorem g_dup {v : MV} (hd : decode μ.2.2.1 pc = .ok (.dup, 1)) (hc : mcat v = 1) (hk : G μ κ (pc + 1) lo (v :: v :: st) ρ h Q) : G μ κ pc lo (v :: st) ρ h Q := by
  intro p l e R s m args below meth c D tc g Zf F E ls H locs hl hW hS
  have K := hk p l e R s m args below meth c D tc g Zf F E ls H locs hl hW hS
  exact lv_dup F.1 F.2.1 hd ((rv_cat g v).trans hc) (W.eq rfl K)
theorem g_pop {v : MV} (hd : decode μ.2.2.1 pc = .ok (.pop, 1)) (hc : mcat v = 1) (hk : G μ κ (pc + 1) lo st ρ h Q) : G μ κ pc lo (v :: st) ρ h Q := by
  intro p l e R s m args below meth c D tc g Zf F E ls H locs hl hW hS
  have K := hk p l e R s m args below meth c D tc g Zf F E ls H locs hl hW hS
  exact lv_pop F.1 F.2.1 hd ((rv_cat g v).trans hc) (W.eq rfl K)
theorem g_dup2 {v w : MV} (hd : decode μ.2.2.1 pc = .ok (.dup2, 1)) (hc : mcat v = 1) (hc2 : mcat w = 1) (hk : G μ κ (pc + 1) lo (v :: w :: v :: w :: st) ρ h Q) : G μ κ pc lo (v :: w :: st) ρ h Q := by
  intro p l e R s m args below meth c D tc g Zf F E ls H locs hl hW hS
  have K := hk p l e R s m args below meth c D tc g Zf F E ls H locs hl hW hS
  exact lv_dup2_11 F.1 F.2.1 hd ((rv_cat g v).trans hc) ((rv_cat g w).trans hc2) (W.eq rfl K)
theorem g_goto {off : Int} {tgt : Nat} (hd : decode μ.2.2.1 pc = .ok (.goto off, 3)) (ht : (pc : Int) + off = (tgt : Int)) (hk : G μ κ tgt lo st ρ h Q) : G μ κ pc lo st ρ h Q := by
  intro p l e R s m args below meth c D tc g Zf F E ls H locs hl hW hS
  exact lv_goto F.1 F.2.1 hd ht (hk p l e R s m args below meth c D tc g Zf F E ls H locs hl hW hS)
theorem g_icmp_eq {x y : Int} {off : Int} {tgt : Nat} (hd : decode μ.2.2.1 pc = .ok (.if_icmp .eq off, 3)) (ht : (pc : Int) + off = (tgt : Int)) (hx : i32 x) (hy : i32 y) (kt : x = y → G μ κ tgt lo st ρ h Q) (kf : ¬ (x = y) → G μ κ (pc + 3) lo st ρ h Q) : G μ κ pc lo (vI y :: vI x :: st) ρ h Q := by
  intro p l e R s m args below meth c D tc g Zf F E ls H locs hl hW hS
  have eq := i32_eq hx hy
  exact lv_icmp_eq F.1 F.2.1 hd ht (fun q => kt (eq.mp q) p l e R s m args below meth c D tc g Zf F E ls H locs hl hW hS) (fun q => kf (fun r => q (eq.mpr r)) p l e R s m args below meth c D tc g Zf F E ls H locs hl hW hS)
theorem g_icmp_eqT {x y : Int} {off : Int} {tgt : Nat} (hd : decode μ.2.2.1 pc = .ok (.if_icmp .eq off, 3)) (ht : (pc : Int) + off = (tgt : Int)) (hx : i32 x) (hy : i32 y) (hc : x = y) (kt : G μ κ tgt lo st ρ h Q) : G μ κ pc lo (vI y :: vI x :: st) ρ h Q := g_icmp_eq hd ht hx hy (fun _ => kt) (fun q => absurd hc q)
theorem g_icmp_eqF {x y : Int} {off : Int} {tgt : Nat} (hd : decode μ.2.2.1 pc = .ok (.if_icmp .eq off, 3)) (ht : (pc : Int) + off = (tgt : Int)) (hx : i32 x) (hy : i32 y) (hc : ¬ (x = y)) (kf : G μ κ (pc + 3) lo st ρ h Q) : G μ κ pc lo (vI y :: vI x :: st) ρ h Q := g_icmp_eq hd ht hx hy (fun q => absurd q hc) (fun _ => kf)
theorem g_if_eq {x : Int} {off : Int} {tgt : Nat} (hd : decode μ.2.2.1 pc = .ok (.ifCond .eq off, 3)) (ht : (pc : Int) + off = (tgt : Int)) (hx : i32 x) (kt : x = 0 → G μ κ tgt lo st ρ h Q) (kf : ¬ (x = 0) → G μ κ (pc + 3) lo st ρ h Q) : G μ κ pc lo (vI x :: st) ρ h Q := by
  intro p l e R s m args below meth c D tc g Zf F E ls H locs hl hW hS
  have eq := i32_eq hx (by decide : i32 0)
  exact lv_if_eq F.1 F.2.1 hd ht (fun q => kt (eq.mp q) p l e R s m args below meth c D tc g Zf F E ls H locs hl hW hS) (fun q => kf (fun r => q (eq.mpr r)) p l e R s m args below meth c D tc g Zf F E ls H locs hl hW hS)
theorem g_if_eqT {x : Int} {off : Int} {tgt : Nat} (hd : decode μ.2.2.1 pc = .ok (.ifCond .eq off, 3)) (ht : (pc : Int) + off = (tgt : Int)) (hx : i32 x) (hc : x = 0) (kt : G μ κ tgt lo st ρ h Q) : G μ κ pc lo (vI x :: st) ρ h Q := g_if_eq hd ht hx (fun _ => kt) (fun q => absurd hc q)
theorem g_if_eqF {x : Int} {off : Int} {tgt : Nat} (hd : decode μ.2.2.1 pc = .ok (.ifCond .eq off, 3)) (ht : (pc : Int) + off = (tgt : Int)) (hx : i32 x) (hc : ¬ (x = 0)) (kf : G μ κ (pc + 3) lo st ρ h Q) : G μ κ pc lo (vI x :: st) ρ h Q := g_if_eq hd ht hx (fun q => absurd q hc) (fun _ => kf)
theorem g_icmp_ne {x y : Int} {off : Int} {tgt : Nat} (hd : decode μ.2.2.1 pc = .ok (.if_icmp .ne off, 3)) (ht : (pc : Int) + off = (tgt : Int)) (hx : i32 x) (hy : i32 y) (kt : ¬ x = y → G μ κ tgt lo st ρ h Q) (kf : x = y → G μ κ (pc + 3) lo st ρ h Q) : G μ κ pc lo (vI y :: vI x :: st) ρ h Q := by
  intro p l e R s m args below meth c D tc g Zf F E ls H locs hl hW hS
  have eq := i32_eq hx hy
  exact lv_icmp_ne F.1 F.2.1 hd ht (fun q => kt (fun r => q (eq.mpr r)) p l e R s m args below meth c D tc g Zf F E ls H locs hl hW hS) (fun q => kf (eq.mp q) p l e R s m args below meth c D tc g Zf F E ls H locs hl hW hS)
theorem g_icmp_neT {x y : Int} {off : Int} {tgt : Nat} (hd : decode μ.2.2.1 pc = .ok (.if_icmp .ne off, 3)) (ht : (pc : Int) + off = (tgt : Int)) (hx : i32 x) (hy : i32 y) (hc : ¬ x = y) (kt : G μ κ tgt lo st ρ h Q) : G μ κ pc lo (vI y :: vI x :: st) ρ h Q := g_icmp_ne hd ht hx hy (fun _ => kt) (fun q => absurd q hc)
theorem g_icmp_neF {x y : Int} {off : Int} {tgt : Nat} (hd : decode μ.2.2.1 pc = .ok (.if_icmp .ne off, 3)) (ht : (pc : Int) + off = (tgt : Int)) (hx : i32 x) (hy : i32 y) (hc : x = y) (kf : G μ κ (pc + 3) lo st ρ h Q) : G μ κ pc lo (vI y :: vI x :: st) ρ h Q := g_icmp_ne hd ht hx hy (fun q => absurd hc q) (fun _ => kf)
theorem g_if_ne {x : Int} {off : Int} {tgt : Nat} (hd : decode μ.2.2.1 pc = .ok (.ifCond .ne off, 3)) (ht : (pc : Int) + off = (tgt : Int)) (hx : i32 x) (kt : ¬ x = 0 → G μ κ tgt lo st ρ h Q) (kf : x = 0 → G μ κ (pc + 3) lo st ρ h Q) : G μ κ pc lo (vI x :: st) ρ h Q := by
  intro p l e R s m args below meth c D tc g Zf F E ls H locs hl hW hS
  have eq := i32_eq hx (by decide : i32 0)
  exact lv_if_ne F.1 F.2.1 hd ht (fun q => kt (fun r => q (eq.mpr r)) p l e R s m args below meth c D tc g Zf F E ls H locs hl hW hS) (fun q => kf (eq.mp q) p l e R s m args below meth c D tc g Zf F E ls H locs hl hW hS)
theorem g_if_neT {x : Int} {off : Int} {tgt : Nat} (hd : decode μ.2.2.1 pc = .ok (.ifCond .ne off, 3)) (ht : (pc : Int) + off = (tgt : Int)) (hx : i32 x) (hc : ¬ x = 0) (kt : G μ κ tgt lo st ρ h Q) : G μ κ pc lo (vI x :: st) ρ h Q := g_if_ne hd ht hx (fun _ => kt) (fun q => absurd q hc)
theorem g_if_neF {x : Int} {off : Int} {tgt : Nat} (hd : decode μ.2.2.1 pc = .ok (.ifCond .ne off, 3)) (ht : (pc : Int) + off = (tgt : Int)) (hx : i32 x) (hc : x = 0) (kf : G μ κ (pc + 3) lo st ρ h Q) : G μ κ pc lo (vI x :: st) ρ h Q := g_if_ne hd ht hx (fun q => absurd hc q) (fun _ => kf)
theorem g_icmp_lt {x y : Int} {off : Int} {tgt : Nat} (hd : decode μ.2.2.1 pc = .ok (.if_icmp .lt off, 3)) (ht : (pc : Int) + off = (tgt : Int)) (hx : i32 x) (hy : i32 y) (kt : x < y → G μ κ tgt lo st ρ h Q) (kf : ¬ (x < y) → G μ κ (pc + 3) lo st ρ h Q) : G μ κ pc lo (vI y :: vI x :: st) ρ h Q := by
  intro p l e R s m args below meth c D tc g Zf F E ls H locs hl hW hS
  have eq := i32_lt hx hy
  exact lv_icmp_lt F.1 F.2.1 hd ht (fun q => kt (eq.mp q) p l e R s m args below meth c D tc g Zf F E ls H locs hl hW hS) (fun q => kf (fun r => q (eq.mpr r)) p l e R s m args below meth c D tc g Zf F E ls H locs hl hW hS)
theorem g_icmp_ltT {x y : Int} {off : Int} {tgt : Nat} (hd : decode μ.2.2.1 pc = .ok (.if_icmp .lt off, 3)) (ht : (pc : Int) + off = (tgt : Int)) (hx : i32 x) (hy : i32 y) (hc : x < y) (kt : G μ κ tgt lo st ρ h Q) : G μ κ pc lo (vI y :: vI x :: st) ρ h Q := g_icmp_lt hd ht hx hy (fun _ => kt) (fun q => absurd hc q)
theorem g_icmp_ltF {x y : Int} {off : Int} {tgt : Nat} (hd : decode μ.2.2.1 pc = .ok (.if_icmp .lt off, 3)) (ht : (pc : Int) + off = (tgt : Int)) (hx : i32 x) (hy : i32 y) (hc : ¬ (x < y)) (kf : G μ κ (pc + 3) lo st ρ h Q) : G μ κ pc lo (vI y :: vI x :: st) ρ h Q := g_icmp_lt hd ht hx hy (fun q => absurd q hc) (fun _ => kf)
theorem g_if_lt {x : Int} {off : Int} {tgt : Nat} (hd : decode μ.2.2.1 pc = .ok (.ifCond .lt off, 3)) (ht : (pc : Int) + off = (tgt : Int)) (hx : i32 x) (kt : x < 0 → G μ κ tgt lo st ρ h Q) (kf : ¬ (x < 0) → G μ κ (pc + 3) lo st ρ h Q) : G μ κ pc lo (vI x :: st) ρ h Q := by
  intro p l e R s m args below meth c D tc g Zf F E ls H locs hl hW hS
  have eq := i32_lt hx (by decide : i32 0)
  exact lv_if_lt F.1 F.2.1 hd ht (fun q => kt (eq.mp q) p l e R s m args below meth c D tc g Zf F E ls H locs hl hW hS) (fun q => kf (fun r => q (eq.mpr r)) p l e R s m args below meth c D tc g Zf F E ls H locs hl hW hS)
theorem g_if_ltT {x : Int} {off : Int} {tgt : Nat} (hd : decode μ.2.2.1 pc = .ok (.ifCond .lt off, 3)) (ht : (pc : Int) + off = (tgt : Int)) (hx : i32 x) (hc : x < 0) (kt : G μ κ tgt lo st ρ h Q) : G μ κ pc lo (vI x :: st) ρ h Q := g_if_lt hd ht hx (fun _ => kt) (fun q => absurd hc q)
theorem g_if_ltF {x : Int} {off : Int} {tgt : Nat} (hd : decode μ.2.2.1 pc = .ok (.ifCond .lt off, 3)) (ht : (pc : Int) + off = (tgt : Int)) (hx : i32 x) (hc : ¬ (x < 0)) (kf : G μ κ (pc + 3) lo st ρ h Q) : G μ κ pc lo (vI x :: st) ρ h Q := g_if_lt hd ht hx (fun q => absurd q hc) (fun _ => kf)
theorem g_icmp_ge {x y : Int} {off : Int} {tgt : Nat} (hd : decode μ.2.2.1 pc = .ok (.if_icmp .ge off, 3)) (ht : (pc : Int) + off = (tgt : Int)) (hx : i32 x) (hy : i32 y) (kt : y ≤ x → G μ κ tgt lo st ρ h Q) (kf : ¬ (y ≤ x) → G μ κ (pc + 3) lo st ρ h Q) : G μ κ pc lo (vI y :: vI x :: st) ρ h Q := by
  intro p l e R s m args below meth c D tc g Zf F E ls H locs hl hW hS
  have eq := i32_le hy hx
  exact lv_icmp_ge F.1 F.2.1 hd ht (fun q => kt (eq.mp q) p l e R s m args below meth c D tc g Zf F E ls H locs hl hW hS) (fun q => kf (fun r => q (eq.mpr r)) p l e R s m args below meth c D tc g Zf F E ls H locs hl hW hS)
theorem g_icmp_geT {x y : Int} {off : Int} {tgt : Nat} (hd : decode μ.2.2.1 pc = .ok (.if_icmp .ge off, 3)) (ht : (pc : Int) + off = (tgt : Int)) (hx : i32 x) (hy : i32 y) (hc : y ≤ x) (kt : G μ κ tgt lo st ρ h Q) : G μ κ pc lo (vI y :: vI x :: st) ρ h Q := g_icmp_ge hd ht hx hy (fun _ => kt) (fun q => absurd hc q)
theorem g_icmp_geF {x y : Int} {off : Int} {tgt : Nat} (hd : decode μ.2.2.1 pc = .ok (.if_icmp .ge off, 3)) (ht : (pc : Int) + off = (tgt : Int)) (hx : i32 x) (hy : i32 y) (hc : ¬ (y ≤ x)) (kf : G μ κ (pc + 3) lo st ρ h Q) : G μ κ pc lo (vI y :: vI x :: st) ρ h Q := g_icmp_ge hd ht hx hy (fun q => absurd q hc) (fun _ => kf)
theorem g_if_ge {x : Int} {off : Int} {tgt : Nat} (hd : decode μ.2.2.1 pc = .ok (.ifCond .ge off, 3)) (ht : (pc : Int) + off = (tgt : Int)) (hx : i32 x) (kt : 0 ≤ x → G μ κ tgt lo st ρ h Q) (kf : ¬ (0 ≤ x) → G μ κ (pc + 3) lo st ρ h Q) : G μ κ pc lo (vI x :: st) ρ h Q := by
  intro p l e R s m args below meth c D tc g Zf F E ls H locs hl hW hS
  have eq := i32_le (by decide : i32 0) hx
  exact lv_if_ge F.1 F.2.1 hd ht (fun q => kt (eq.mp q) p l e R s m args below meth c D tc g Zf F E ls H locs hl hW hS) (fun q => kf (fun r => q (eq.mpr r)) p l e R s m args below meth c D tc g Zf F E ls H locs hl hW hS)
theorem g_if_geT {x : Int} {off : Int} {tgt : Nat} (hd : decode μ.2.2.1 pc = .ok (.ifCond .ge off, 3)) (ht : (pc : Int) + off = (tgt : Int)) (hx : i32 x) (hc : 0 ≤ x) (kt : G μ κ tgt lo st ρ h Q) : G μ κ pc lo (vI x :: st) ρ h Q := g_if_ge hd ht hx (fun _ => kt) (fun q => absurd hc q)
theorem g_if_geF {x : Int} {off : Int} {tgt : Nat} (hd : decode μ.2.2.1 pc = .ok (.ifCond .ge off, 3)) (ht : (pc : Int) + off = (tgt : Int)) (hx : i32 x) (hc : ¬ (0 ≤ x)) (kf : G μ κ (pc + 3) lo st ρ h Q) : G μ κ pc lo (vI x :: st) ρ h Q := g_if_ge hd ht hx (fun q => absurd q hc) (fun _ => kf)
theorem g_icmp_gt {x y : Int} {off : Int} {tgt : Nat} (hd : decode μ.2.2.1 pc = .ok (.if_icmp .gt off, 3)) (ht : (pc : Int) + off = (tgt : Int)) (hx : i32 x) (hy : i32 y) (kt : y < x → G μ κ tgt lo st ρ h Q) (kf : ¬ (y < x) → G μ κ (pc + 3) lo st ρ h Q) : G μ κ pc lo (vI y :: vI x :: st) ρ h Q := by
  intro p l e R s m args below meth c D tc g Zf F E ls H locs hl hW hS
  have eq := i32_lt hy hx
  exact lv_icmp_gt F.1 F.2.1 hd ht (fun q => kt (eq.mp q) p l e R s m args below meth c D tc g Zf F E ls H locs hl hW hS) (fun q => kf (fun r => q (eq.mpr r)) p l e R s m args below meth c D tc g Zf F E ls H locs hl hW hS)
theorem g_icmp_gtT {x y : Int} {off : Int} {tgt : Nat} (hd : decode μ.2.2.1 pc = .ok (.if_icmp .gt off, 3)) (ht : (pc : Int) + off = (tgt : Int)) (hx : i32 x) (hy : i32 y) (hc : y < x) (kt : G μ κ tgt lo st ρ h Q) : G μ κ pc lo (vI y :: vI x :: st) ρ h Q := g_icmp_gt hd ht hx hy (fun _ => kt) (fun q => absurd hc q)
theorem g_icmp_gtF {x y : Int} {off : Int} {tgt : Nat} (hd : decode μ.2.2.1 pc = .ok (.if_icmp .gt off, 3)) (ht : (pc : Int) + off = (tgt : Int)) (hx : i32 x) (hy : i32 y) (hc : ¬ (y < x)) (kf : G μ κ (pc + 3) lo st ρ h Q) : G μ κ pc lo (vI y :: vI x :: st) ρ h Q := g_icmp_gt hd ht hx hy (fun q => absurd q hc) (fun _ => kf)
theorem g_if_gt {x : Int} {off : Int} {tgt : Nat} (hd : decode μ.2.2.1 pc = .ok (.ifCond .gt off, 3)) (ht : (pc : Int) + off = (tgt : Int)) (hx : i32 x) (kt : 0 < x → G μ κ tgt lo st ρ h Q) (kf : ¬ (0 < x) → G μ κ (pc + 3) lo st ρ h Q) : G μ κ pc lo (vI x :: st) ρ h Q := by
  intro p l e R s m args below meth c D tc g Zf F E ls H locs hl hW hS
  have eq := i32_lt (by decide : i32 0) hx
  exact lv_if_gt F.1 F.2.1 hd ht (fun q => kt (eq.mp q) p l e R s m args below meth c D tc g Zf F E ls H locs hl hW hS) (fun q => kf (fun r => q (eq.mpr r)) p l e R s m args below meth c D tc g Zf F E ls H locs hl hW hS)
theorem g_if_gtT {x : Int} {off : Int} {tgt : Nat} (hd : decode μ.2.2.1 pc = .ok (.ifCond .gt off, 3)) (ht : (pc : Int) + off = (tgt : Int)) (hx : i32 x) (hc : 0 < x) (kt : G μ κ tgt lo st ρ h Q) : G μ κ pc lo (vI x :: st) ρ h Q := g_if_gt hd ht hx (fun _ => kt) (fun q => absurd hc q)
theorem g_if_gtF {x : Int} {off : Int} {tgt : Nat} (hd : decode μ.2.2.1 pc = .ok (.ifCond .gt off, 3)) (ht : (pc : Int) + off = (tgt : Int)) (hx : i32 x) (hc : ¬ (0 < x)) (kf : G μ κ (pc + 3) lo st ρ h Q) : G μ κ pc lo (vI x :: st) ρ h Q := g_if_gt hd ht hx (fun q => absurd q hc) (fun _ => kf)
theorem g_icmp_le {x y : Int} {off : Int} {tgt : Nat} (hd : decode μ.2.2.1 pc = .ok (.if_icmp .le off, 3)) (ht : (pc : Int) + off = (tgt : Int)) (hx : i32 x) (hy : i32 y) (kt : x ≤ y → G μ κ tgt lo st ρ h Q) (kf : ¬ (x ≤ y) → G μ κ (pc + 3) lo st ρ h Q) : G μ κ pc lo (vI y :: vI x :: st) ρ h Q := by
  intro p l e R s m args below meth c D tc g Zf F E ls H locs hl hW hS
  have eq := i32_le hx hy
  exact lv_icmp_le F.1 F.2.1 hd ht (fun q => kt (eq.mp q) p l e R s m args below meth c D tc g Zf F E ls H locs hl hW hS) (fun q => kf (fun r => q (eq.mpr r)) p l e R s m args below meth c D tc g Zf F E ls H locs hl hW hS)
theorem g_icmp_leT {x y : Int} {off : Int} {tgt : Nat} (hd : decode μ.2.2.1 pc = .ok (.if_icmp .le off, 3)) (ht : (pc : Int) + off = (tgt : Int)) (hx : i32 x) (hy : i32 y) (hc : x ≤ y) (kt : G μ κ tgt lo st ρ h Q) : G μ κ pc lo (vI y :: vI x :: st) ρ h Q := g_icmp_le hd ht hx hy (fun _ => kt) (fun q => absurd hc q)
theorem g_icmp_leF {x y : Int} {off : Int} {tgt : Nat} (hd : decode μ.2.2.1 pc = .ok (.if_icmp .le off, 3)) (ht : (pc : Int) + off = (tgt : Int)) (hx : i32 x) (hy : i32 y) (hc : ¬ (x ≤ y)) (kf : G μ κ (pc + 3) lo st ρ h Q) : G μ κ pc lo (vI y :: vI x :: st) ρ h Q := g_icmp_le hd ht hx hy (fun q => absurd q hc) (fun _ => kf)
theorem g_if_le {x : Int} {off : Int} {tgt : Nat} (hd : decode μ.2.2.1 pc = .ok (.ifCond .le off, 3)) (ht : (pc : Int) + off = (tgt : Int)) (hx : i32 x) (kt : x ≤ 0 → G μ κ tgt lo st ρ h Q) (kf : ¬ (x ≤ 0) → G μ κ (pc + 3) lo st ρ h Q) : G μ κ pc lo (vI x :: st) ρ h Q := by
  intro p l e R s m args below meth c D tc g Zf F E ls H locs hl hW hS
  have eq := i32_le hx (by decide : i32 0)
  exact lv_if_le F.1 F.2.1 hd ht (fun q => kt (eq.mp q) p l e R s m args below meth c D tc g Zf F E ls H locs hl hW hS) (fun q => kf (fun r => q (eq.mpr r)) p l e R s m args below meth c D tc g Zf F E ls H locs hl hW hS)
theorem g_if_leT {x : Int} {off : Int} {tgt : Nat} (hd : decode μ.2.2.1 pc = .ok (.ifCond .le off, 3)) (ht : (pc : Int) + off = (tgt : Int)) (hx : i32 x) (hc : x ≤ 0) (kt : G μ κ tgt lo st ρ h Q) : G μ κ pc lo (vI x :: st) ρ h Q := g_if_le hd ht hx (fun _ => kt) (fun q => absurd hc q)
theorem g_if_leF {x : Int} {off : Int} {tgt : Nat} (hd : decode μ.2.2.1 pc = .ok (.ifCond .le off, 3)) (ht : (pc : Int) + off = (tgt : Int)) (hx : i32 x) (hc : ¬ (x ≤ 0)) (kf : G μ κ (pc + 3) lo st ρ h Q) : G μ κ pc lo (vI x :: st) ρ h Q := g_if_le hd ht hx (fun q => absurd q hc) (fun _ => kf)
def cmpv (x y : Int) : Int := if y < x then 1 else if x = y then 0 else -1
theorem cmpv_32 (x y : Int) : i32 (cmpv x y) := by
  unfold cmpv
  split <;> (try split) <;> decide
theorem cmpv_eq (x y : Int) : cmpv x y = 0 ↔ x = y := by
  unfold cmpv
  split <;> (try split) <;> omega
theorem cmpv_lt (x y : Int) : cmpv x y < 0 ↔ x < y := by
  unfold cmpv
  split <;> (try split) <;> omega
theorem cmpv_ge (x y : Int) : 0 ≤ cmpv x y ↔ y ≤ x := by
  unfold cmpv
  split <;> (try split) <;> omega
theorem cmpv_gt (x y : Int) : 0 < cmpv x y ↔ y < x := by
  unfold cmpv
  split <;> (try split) <;> omega
theorem cmpv_le (x y : Int) : cmpv x y ≤ 0 ↔ x ≤ y := by
  unfold cmpv
  split <;> (try split) <;> omega
theorem g_lcmp {x y : Int} (hd : decode μ.2.2.1 pc = .ok (.lcmp, 1)) (hx : i64 x) (hy : i64 y) (hk : G μ κ (pc + 1) lo (vI (cmpv x y) :: st) ρ h Q) : G μ κ pc lo (vJ y :: vJ x :: st) ρ h Q := by
  intro p l e R s m args below meth c D tc g Zf F E ls H locs hl hW hS
  have K := hk p l e R s m args below meth c D tc g Zf F E ls H locs hl hW hS
  have e9 : lg_cmp (Int64.ofInt x) (Int64.ofInt y) = Int32.ofInt (cmpv x y) := by
    unfold lg_cmp cmpv
    simp only [gt_iff_lt, i64_lt hy hx, i64_eq hx hy]
    split
    · rfl
    · split <;> rfl
  exact W.lcmp F.1 F.2.1 hd (W.eq (by simp only [List.map_cons, rv, e9]) K)
theorem g_lif_eq {x y : Int} {off : Int} {tgt : Nat} (hd : decode μ.2.2.1 pc = .ok (.lcmp, 1)) (hd2 : decode μ.2.2.1 (pc + 1) = .ok (.ifCond .eq off, 3)) (ht : ((pc + 1 : Nat) : Int) + off = (tgt : Int)) (hx : i64 x) (hy : i64 y) (kt : x = y → G μ κ tgt lo st ρ h Q) (kf : ¬ (x = y) → G μ κ (pc + 1 + 3) lo st ρ h Q) : G μ κ pc lo (vJ y :: vJ x :: st) ρ h Q := g_lcmp hd hx hy (g_if_eq hd2 ht (cmpv_32 x y) (fun q => kt ((cmpv_eq x y).mp q)) (fun q => kf (fun r => q ((cmpv_eq x y).mpr r))))
theorem g_lif_eqT {x y : Int} {off : Int} {tgt : Nat} (hd : decode μ.2.2.1 pc = .ok (.lcmp, 1)) (hd2 : decode μ.2.2.1 (pc + 1) = .ok (.ifCond .eq off, 3)) (ht : ((pc + 1 : Nat) : Int) + off = (tgt : Int)) (hx : i64 x) (hy : i64 y) (hc : x = y) (kt : G μ κ tgt lo st ρ h Q) : G μ κ pc lo (vJ y :: vJ x :: st) ρ h Q := g_lif_eq hd hd2 ht hx hy (fun _ => kt) (fun q => absurd hc q)
theorem g_lif_eqF {x y : Int} {off : Int} {tgt : Nat} (hd : decode μ.2.2.1 pc = .ok (.lcmp, 1)) (hd2 : decode μ.2.2.1 (pc + 1) = .ok (.ifCond .eq off, 3)) (ht : ((pc + 1 : Nat) : Int) + off = (tgt : Int)) (hx : i64 x) (hy : i64 y) (hc : ¬ (x = y)) (kf : G μ κ (pc + 1 + 3) lo st ρ h Q) : G μ κ pc lo (vJ y :: vJ x :: st) ρ h Q := g_lif_eq hd hd2 ht hx hy (fun q => absurd q hc) (fun _ => kf)
theorem g_lif_ne {x y : Int} {off : Int} {tgt : Nat} (hd : decode μ.2.2.1 pc = .ok (.lcmp, 1)) (hd2 : decode μ.2.2.1 (pc + 1) = .ok (.ifCond .ne off, 3)) (ht : ((pc + 1 : Nat) : Int) + off = (tgt : Int)) (hx : i64 x) (hy : i64 y) (kt : ¬ x = y → G μ κ tgt lo st ρ h Q) (kf : x = y → G μ κ (pc + 1 + 3) lo st ρ h Q) : G μ κ pc lo (vJ y :: vJ x :: st) ρ h Q := g_lcmp hd hx hy (g_if_ne hd2 ht (cmpv_32 x y) (fun q => kt (fun r => q ((cmpv_eq x y).mpr r))) (fun q => kf ((cmpv_eq x y).mp q)))
theorem g_lif_neT {x y : Int} {off : Int} {tgt : Nat} (hd : decode μ.2.2.1 pc = .ok (.lcmp, 1)) (hd2 : decode μ.2.2.1 (pc + 1) = .ok (.ifCond .ne off, 3)) (ht : ((pc + 1 : Nat) : Int) + off = (tgt : Int)) (hx : i64 x) (hy : i64 y) (hc : ¬ x = y) (kt : G μ κ tgt lo st ρ h Q) : G μ κ pc lo (vJ y :: vJ x :: st) ρ h Q := g_lif_ne hd hd2 ht hx hy (fun _ => kt) (fun q => absurd q hc)
theorem g_lif_neF {x y : Int} {off : Int} {tgt : Nat} (hd : decode μ.2.2.1 pc = .ok (.lcmp, 1)) (hd2 : decode μ.2.2.1 (pc + 1) = .ok (.ifCond .ne off, 3)) (ht : ((pc + 1 : Nat) : Int) + off = (tgt : Int)) (hx : i64 x) (hy : i64 y) (hc : x = y) (kf : G μ κ (pc + 1 + 3) lo st ρ h Q) : G μ κ pc lo (vJ y :: vJ x :: st) ρ h Q := g_lif_ne hd hd2 ht hx hy (fun q => absurd hc q) (fun _ => kf)
theorem g_lif_lt {x y : Int} {off : Int} {tgt : Nat} (hd : decode μ.2.2.1 pc = .ok (.lcmp, 1)) (hd2 : decode μ.2.2.1 (pc + 1) = .ok (.ifCond .lt off, 3)) (ht : ((pc + 1 : Nat) : Int) + off = (tgt : Int)) (hx : i64 x) (hy : i64 y) (kt : x < y → G μ κ tgt lo st ρ h Q) (kf : ¬ (x < y) → G μ κ (pc + 1 + 3) lo st ρ h Q) : G μ κ pc lo (vJ y :: vJ x :: st) ρ h Q := g_lcmp hd hx hy (g_if_lt hd2 ht (cmpv_32 x y) (fun q => kt ((cmpv_lt x y).mp q)) (fun q => kf (fun r => q ((cmpv_lt x y).mpr r))))
theorem g_lif_ltT {x y : Int} {off : Int} {tgt : Nat} (hd : decode μ.2.2.1 pc = .ok (.lcmp, 1)) (hd2 : decode μ.2.2.1 (pc + 1) = .ok (.ifCond .lt off, 3)) (ht : ((pc + 1 : Nat) : Int) + off = (tgt : Int)) (hx : i64 x) (hy : i64 y) (hc : x < y) (kt : G μ κ tgt lo st ρ h Q) : G μ κ pc lo (vJ y :: vJ x :: st) ρ h Q := g_lif_lt hd hd2 ht hx hy (fun _ => kt) (fun q => absurd hc q)
theorem g_lif_ltF {x y : Int} {off : Int} {tgt : Nat} (hd : decode μ.2.2.1 pc = .ok (.lcmp, 1)) (hd2 : decode μ.2.2.1 (pc + 1) = .ok (.ifCond .lt off, 3)) (ht : ((pc + 1 : Nat) : Int) + off = (tgt : Int)) (hx : i64 x) (hy : i64 y) (hc : ¬ (x < y)) (kf : G μ κ (pc + 1 + 3) lo st ρ h Q) : G μ κ pc lo (vJ y :: vJ x :: st) ρ h Q := g_lif_lt hd hd2 ht hx hy (fun q => absurd q hc) (fun _ => kf)
theorem g_lif_ge {x y : Int} {off : Int} {tgt : Nat} (hd : decode μ.2.2.1 pc = .ok (.lcmp, 1)) (hd2 : decode μ.2.2.1 (pc + 1) = .ok (.ifCond .ge off, 3)) (ht : ((pc + 1 : Nat) : Int) + off = (tgt : Int)) (hx : i64 x) (hy : i64 y) (kt : y ≤ x → G μ κ tgt lo st ρ h Q) (kf : ¬ (y ≤ x) → G μ κ (pc + 1 + 3) lo st ρ h Q) : G μ κ pc lo (vJ y :: vJ x :: st) ρ h Q := g_lcmp hd hx hy (g_if_ge hd2 ht (cmpv_32 x y) (fun q => kt ((cmpv_ge x y).mp q)) (fun q => kf (fun r => q ((cmpv_ge x y).mpr r))))
theorem g_lif_geT {x y : Int} {off : Int} {tgt : Nat} (hd : decode μ.2.2.1 pc = .ok (.lcmp, 1)) (hd2 : decode μ.2.2.1 (pc + 1) = .ok (.ifCond .ge off, 3)) (ht : ((pc + 1 : Nat) : Int) + off = (tgt : Int)) (hx : i64 x) (hy : i64 y) (hc : y ≤ x) (kt : G μ κ tgt lo st ρ h Q) : G μ κ pc lo (vJ y :: vJ x :: st) ρ h Q := g_lif_ge hd hd2 ht hx hy (fun _ => kt) (fun q => absurd hc q)
theorem g_lif_geF {x y : Int} {off : Int} {tgt : Nat} (hd : decode μ.2.2.1 pc = .ok (.lcmp, 1)) (hd2 : decode μ.2.2.1 (pc + 1) = .ok (.ifCond .ge off, 3)) (ht : ((pc + 1 : Nat) : Int) + off = (tgt : Int)) (hx : i64 x) (hy : i64 y) (hc : ¬ (y ≤ x)) (kf : G μ κ (pc + 1 + 3) lo st ρ h Q) : G μ κ pc lo (vJ y :: vJ x :: st) ρ h Q := g_lif_ge hd hd2 ht hx hy (fun q => absurd q hc) (fun _ => kf)
theorem g_lif_gt {x y : Int} {off : Int} {tgt : Nat} (hd : decode μ.2.2.1 pc = .ok (.lcmp, 1)) (hd2 : decode μ.2.2.1 (pc + 1) = .ok (.ifCond .gt off, 3)) (ht : ((pc + 1 : Nat) : Int) + off = (tgt : Int)) (hx : i64 x) (hy : i64 y) (kt : y < x → G μ κ tgt lo st ρ h Q) (kf : ¬ (y < x) → G μ κ (pc + 1 + 3) lo st ρ h Q) : G μ κ pc lo (vJ y :: vJ x :: st) ρ h Q := g_lcmp hd hx hy (g_if_gt hd2 ht (cmpv_32 x y) (fun q => kt ((cmpv_gt x y).mp q)) (fun q => kf (fun r => q ((cmpv_gt x y).mpr r))))
theorem g_lif_gtT {x y : Int} {off : Int} {tgt : Nat} (hd : decode μ.2.2.1 pc = .ok (.lcmp, 1)) (hd2 : decode μ.2.2.1 (pc + 1) = .ok (.ifCond .gt off, 3)) (ht : ((pc + 1 : Nat) : Int) + off = (tgt : Int)) (hx : i64 x) (hy : i64 y) (hc : y < x) (kt : G μ κ tgt lo st ρ h Q) : G μ κ pc lo (vJ y :: vJ x :: st) ρ h Q := g_lif_gt hd hd2 ht hx hy (fun _ => kt) (fun q => absurd hc q)
theorem g_lif_gtF {x y : Int} {off : Int} {tgt : Nat} (hd : decode μ.2.2.1 pc = .ok (.lcmp, 1)) (hd2 : decode μ.2.2.1 (pc + 1) = .ok (.ifCond .gt off, 3)) (ht : ((pc + 1 : Nat) : Int) + off = (tgt : Int)) (hx : i64 x) (hy : i64 y) (hc : ¬ (y < x)) (kf : G μ κ (pc + 1 + 3) lo st ρ h Q) : G μ κ pc lo (vJ y :: vJ x :: st) ρ h Q := g_lif_gt hd hd2 ht hx hy (fun q => absurd q hc) (fun _ => kf)
theorem g_lif_le {x y : Int} {off : Int} {tgt : Nat} (hd : decode μ.2.2.1 pc = .ok (.lcmp, 1)) (hd2 : decode μ.2.2.1 (pc + 1) = .ok (.ifCond .le off, 3)) (ht : ((pc + 1 : Nat) : Int) + off = (tgt : Int)) (hx : i64 x) (hy : i64 y) (kt : x ≤ y → G μ κ tgt lo st ρ h Q) (kf : ¬ (x ≤ y) → G μ κ (pc + 1 + 3) lo st ρ h Q) : G μ κ pc lo (vJ y :: vJ x :: st) ρ h Q := g_lcmp hd hx hy (g_if_le hd2 ht (cmpv_32 x y) (fun q => kt ((cmpv_le x y).mp q)) (fun q => kf (fun r => q ((cmpv_le x y).mpr r))))
theorem g_lif_leT {x y : Int} {off : Int} {tgt : Nat} (hd : decode μ.2.2.1 pc = .ok (.lcmp, 1)) (hd2 : decode μ.2.2.1 (pc + 1) = .ok (.ifCond .le off, 3)) (ht : ((pc + 1 : Nat) : Int) + off = (tgt : Int)) (hx : i64 x) (hy : i64 y) (hc : x ≤ y) (kt : G μ κ tgt lo st ρ h Q) : G μ κ pc lo (vJ y :: vJ x :: st) ρ h Q := g_lif_le hd hd2 ht hx hy (fun _ => kt) (fun q => absurd hc q)
theorem g_lif_leF {x y : Int} {off : Int} {tgt : Nat} (hd : decode μ.2.2.1 pc = .ok (.lcmp, 1)) (hd2 : decode μ.2.2.1 (pc + 1) = .ok (.ifCond .le off, 3)) (ht : ((pc + 1 : Nat) : Int) + off = (tgt : Int)) (hx : i64 x) (hy : i64 y) (hc : ¬ (x ≤ y)) (kf : G μ κ (pc + 1 + 3) lo st ρ h Q) : G μ κ pc lo (vJ y :: vJ x :: st) ρ h Q := g_lif_le hd hd2 ht hx hy (fun q => absurd q hc) (fun _ => kf)
theorem g_ifnullN {off : Int} {tgt : Nat} (hd : decode μ.2.2.1 pc = .ok (.ifnull off, 3)) (ht : (pc : Int) + off = (tgt : Int)) (hk : G μ κ tgt lo st ρ h Q) : G μ κ pc lo (vN :: st) ρ h Q := by
  intro p l e R s m args below meth c D tc g Zf F E ls H locs hl hW hS
  exact lv_ifnullN F.1 F.2.1 hd ht (hk p l e R s m args below meth c D tc g Zf F E ls H locs hl hW hS)
theorem g_ifnullR {a : Nat} {off : Int} (hd : decode μ.2.2.1 pc = .ok (.ifnull off, 3)) (hk : G μ κ (pc + 3) lo st ρ h Q) : G μ κ pc lo (vR a :: st) ρ h Q := by
  intro p l e R s m args below meth c D tc g Zf F E ls H locs hl hW hS
  exact lv_ifnull F.1 F.2.1 hd (hk p l e R s m args below meth c D tc g Zf F E ls H locs hl hW hS)
theorem g_ifnonnullN {off : Int} (hd : decode μ.2.2.1 pc = .ok (.ifnonnull off, 3)) (hk : G μ κ (pc + 3) lo st ρ h Q) : G μ κ pc lo (vN :: st) ρ h Q := by
  intro p l e R s m args below meth c D tc g Zf F E ls H locs hl hW hS
  exact lv_ifnonnullN F.1 F.2.1 hd (hk p l e R s m args below meth c D tc g Zf F E ls H locs hl hW hS)
theorem g_ifnonnullR {a : Nat} {off : Int} {tgt : Nat} (hd : decode μ.2.2.1 pc = .ok (.ifnonnull off, 3)) (ht : (pc : Int) + off = (tgt : Int)) (hk : G μ κ tgt lo st ρ h Q) : G μ κ pc lo (vR a :: st) ρ h Q := by
  intro p l e R s m args below meth c D tc g Zf F E ls H locs hl hW hS
  exact lv_ifnonnull F.1 F.2.1 hd ht (hk p l e R s m args below meth c D tc g Zf F E ls H locs hl hW hS)
theorem g_tabIn {dflt lo9 hi9 : Int} {offs : Array Int} {len tgt : Nat} {x off : Int} (hd : decode μ.2.2.1 pc = .ok (.tableswitch dflt lo9 hi9 offs, len)) (hx : i32 x) (h1 : ¬ x < lo9) (h2 : ¬ hi9 < x) (ho : offs[(x - lo9).toNat]? = some off) (ht : (pc : Int) + off = (tgt : Int)) (hk : G μ κ tgt lo st ρ h Q) : G μ κ pc lo (vI x :: st) ρ h Q := by
  intro p l e R s m args below meth c D tc g Zf F E ls H locs hl hW hS
  exact lv_tableIn F.1 F.2.1 hd (by rw [i32_toInt hx]; exact h1) (by rw [i32_toInt hx]; exact h2) (by rw [i32_toInt hx]; exact ho) ht (hk p l e R s m args below meth c D tc g Zf F E ls H locs hl hW hS)
theorem g_tabOut {dflt lo9 hi9 : Int} {offs : Array Int} {len tgt : Nat} {x : Int} (hd : decode μ.2.2.1 pc = .ok (.tableswitch dflt lo9 hi9 offs, len)) (hx : i32 x) (h1 : x < lo9 ∨ hi9 < x) (ht : (pc : Int) + dflt = (tgt : Int)) (hk : G μ κ tgt lo st ρ h Q) : G μ κ pc lo (vI x :: st) ρ h Q := by
  intro p l e R s m args below meth c D tc g Zf F E ls H locs hl hW hS
  exact lv_tableOut F.1 F.2.1 hd (by rw [i32_toInt hx]; exact h1) ht (hk p l e R s m args below meth c D tc g Zf F E ls H locs hl hW hS)
/-- a value by another name -/
theorem g_top {v w : MV} (e : v = w) (hk : G μ κ pc lo (w :: st) ρ h Q) : G μ κ pc lo (v :: st) ρ h Q := by
  subst e
  exact hk
/-- the number on the stack, by another name that the machine can't tell from it -/
theorem g_mono {Q2 : Option MV → MR → MH → Prop} (hk : G μ κ pc lo st ρ h Q2) (hq : ∀ r ρ2 h2, Q2 r ρ2 h2 → Q r ρ2 h2) : G μ κ pc lo st ρ h Q := by
  intro p l e R s m args below meth c D tc g Zf F E
  exact hk p l e R s m args below meth c D tc g Zf F (fun r ρ h pc ls H locs q => E r ρ h pc ls H locs (hq _ _ _ q))
theorem g_iret {x : Int} (hd : decode μ.2.2.1 pc = .ok (.ireturn, 1)) (hq : Q (some (vI x)) ρ h) : G μ κ pc lo [vI x] ρ h Q := by
  intro p l e R s m args below meth c D tc g Zf F E ls H locs hl hW hS
  exact E (some (vI x)) ρ h pc ls H locs hq hd hW hS
theorem g_lret {x : Int} (hd : decode μ.2.2.1 pc = .ok (.lreturn, 1)) (hq : Q (some (vJ x)) ρ h) : G μ κ pc lo [vJ x] ρ h Q := by
  intro p l e R s m args below meth c D tc g Zf F E ls H locs hl hW hS
  exact E (some (vJ x)) ρ h pc ls H locs hq hd hW hS
theorem g_aret {r : Option Nat ⊕ Bool} (hd : decode μ.2.2.1 pc = .ok (.areturn, 1)) (hq : Q (some (.inr (.inr r))) ρ h) : G μ κ pc lo [.inr (.inr r)] ρ h Q := by
  intro p l e R s m args below meth c D tc g Zf F E ls H locs hl hW hS
  exact E (some (.inr (.inr r))) ρ h pc ls H locs hq hd hW hS
theorem g_vret (hd : decode μ.2.2.1 pc = .ok (.return_, 1)) (hq : Q none ρ h) : G μ κ pc lo [] ρ h Q := by
  intro p l e R s m args below meth c D tc g Zf F E ls H locs hl hW hS
  exact E none ρ h pc ls H locs hq hd hW hS
end MB
