/-- the tables' words that stay true when classes are warmed -/
def tbg : List Cond := lw_tbl.filter goodWord
/-! ===== THE SMALL MACHINE: values are whole numbers, cells are numbered from the law's start on ===== -/
abbrev MV : Type := Int ⊕ (Int ⊕ (Option Nat ⊕ Bool))
abbrev vI (k : Int) : MV := .inl k
abbrev vJ (k : Int) : MV := .inr (.inl k)
abbrev vO (o : Option Nat) : MV := .inr (.inr (.inl o))
abbrev vR (a : Nat) : MV := .inr (.inr (.inl (some a)))
abbrev vN : MV := .inr (.inr (.inl none))
abbrev vS (b : Bool) : MV := .inr (.inr (.inr b))
abbrev GB : Type := Nat × Nat × Nat
def rv (g : GB) : MV → Value
  | .inl k => .int (Int32.ofInt k)
  | .inr (.inl k) => .long (Int64.ofInt k)
  | .inr (.inr (.inl none)) => .null
  | .inr (.inr (.inl (some a))) => .ref (g.1 + a)
  | .inr (.inr (.inr false)) => .ref g.2.1
  | .inr (.inr (.inr true)) => .ref g.2.2
def mcat : MV → Nat
  | .inr (.inl _) => 2
  | _ => 1
theorem rv_cat (g : GB) (v : MV) : (rv g v).category = mcat v := by
  rcases v with k | k | (_ | a) | (_ | _) <;> rfl
/-- a cell: an array of whole numbers (kind 0 int, 1 byte, 2 boolean, 3 long), of references (4 Mill, 5 Part, 6 int[]), an object -/
abbrev ME : Type := (Nat × Nat × (Nat → Int)) ⊕ ((Nat × Nat × (Nat → Option Nat)) ⊕ (Nat × List MV))
abbrev eA (k n : Nat) (f : Nat → Int) : ME := .inl (k, n, f)
abbrev eQ (k n : Nat) (f : Nat → Option Nat) : ME := .inr (.inl (k, n, f))
abbrev eO (ci : Nat) (fs : List MV) : ME := .inr (.inr (ci, fs))
abbrev MH : Type := Nat → ME
def rE (tc : Nat → ClassId) (g : GB) : ME → va_E
  | .inl (k, n, f) => if k = 3 then .inl (tc 3, n, .inr (.inl (fun j => Int64.ofInt (f j)))) else .inl (tc k, n, .inl (fun j => Int32.ofInt (f j)))
  | .inr (.inl (k, n, f)) => .inl (tc k, n, .inr (.inr (.inr (.inr (fun j => (f j).map (fun a => g.1 + a))))))
  | .inr (.inr (ci, fs)) => .inr (ci, fs.map (rv g))
def mtys (tc : Nat → ClassId) : List (ClassId × FieldType) := [(tc 0, .int), (tc 1, .byte), (tc 2, .boolean), (tc 3, .long), (tc 4, .object "RoundMill$Mill"), (tc 5, .object "RoundMill$Part"), (tc 6, .array .int)]
def mcl : List vw_C := [(RX0, TX0, 5), (RX1, TX1, 10), (RX2, TX2, 4), (RX4, TX4, 3), (RX4, TX4, 3), (RX5, TX5, 2), (RX6, TX6, 6), (RX7, TX7, 2), (RX8, TX8, 9), (RX9, TX9, 13), (RX10, TX10, 3), (RX11, TX11, 37)]
def mws (tc : Nat → ClassId) (g : GB) (N : Nat) (h : MH) : va_W := (List.range N).map (fun j => (g.1 + j, rE tc g (h j)))
theorem mws_get {tc : Nat → ClassId} {g : GB} {N j : Nat} {h : MH} (hj : j < N) : (mws tc g N h)[j]? = some (g.1 + j, rE tc g (h j)) := by
  unfold mws
  rw [List.getElem?_map, List.getElem?_range hj]
  rfl
theorem mws_at {tc : Nat → ClassId} {g : GB} {N k : Nat} {h : MH} {q : Nat × va_E} (hk : (mws tc g N h)[k]? = some q) : k < N ∧ q = (g.1 + k, rE tc g (h k)) := by
  have hl := (List.getElem?_eq_some_iff.mp hk).1
  have hN : k < N := by
    unfold mws at hl
    simpa using hl
  rw [mws_get hN] at hk
  exact ⟨hN, (Option.some.inj hk).symm⟩
theorem mws_set {tc : Nat → ClassId} {g : GB} {N j : Nat} {h : MH} {e : ME} (hj : j < N) : (mws tc g N h).set j (g.1 + j, rE tc g e) = mws tc g N (va_up h j e) := by
  apply List.ext_getElem?
  intro k
  by_cases hk : k < N
  · rw [mws_get hk]
    by_cases hkj : k = j
    · subst hkj
      rw [List.getElem?_set_self (by unfold mws; simpa using hk), va_up_self]
    · rw [List.getElem?_set_ne (Ne.symm hkj), mws_get hk, va_up_ne _ _ hkj]
  · rw [List.getElem?_eq_none (by unfold mws; simp; omega), List.getElem?_eq_none (by unfold mws; simp; omega)]
theorem mws_D {tc : Nat → ClassId} {g : GB} {N : Nat} {h : MH} : va_D (fun q => g.1 ≤ q) (mws tc g N h) := by
  refine ⟨fun i j p q hi hj hpq => ?_, fun k q hk => ?_⟩
  · obtain ⟨-, rfl⟩ := mws_at hi
    obtain ⟨-, rfl⟩ := mws_at hj
    dsimp only at hpq
    omega
  · obtain ⟨-, rfl⟩ := mws_at hk
    exact Nat.le_add_right _ _
/-- the heap holds the cells -/
def Wd (D : va_G) (tc : Nat → ClassId) (g : GB) (N : Nat) (h : MH) (H : Heap) : Prop := H.size = g.1 + N ∧ va_P D mcl (mws tc g N h) H
def reachV (j : Nat) : Value := if j = 2 then .int 24 else if j = 3 then .int 8 else if j = 4 then .int 5 else .int 0
/-! ===== arrays of arrays: the word 'arrayOver' in a state whose classes are alike ===== -/
def AOx (t : FieldType) (U : State) : Prop := (Cond.arrayOver t).before #[] U = true
theorem AOx_obj {C : String} {u U : State} (hvm : u.vm.Alike U.vm) (h : AOx (.object C) u) : AOx (.object C) U := va_AO.moved hvm h
theorem AOx_arr {u U : State} (hvm : u.vm.Alike U.vm) (h : AOx (.array .int) u) : AOx (.array .int) U := by
  unfold AOx Cond.before Cond.holds at h ⊢
  simp only [Cond.value, beq_iff_eq] at h ⊢
  cases hc : u.vm.findClass (FieldType.array FieldType.int).toString with
  | none => simp [hc] at h
  | some comp =>
    have f1 : U.vm.findClass (FieldType.array FieldType.int).toString = some comp := by rw [hvm.findClass]; exact hc
    simp only [hc, Option.bind_some, Option.bind_eq_some_iff, Option.map_eq_some_iff] at h
    obtain ⟨c, hi, k, hk, hb⟩ := h
    obtain ⟨k', hk', he⟩ := hvm.2.2 _ _ hk
    have hi' : (U.vm.classes.findIdx? fun (x : Class) => match x.kind with | .array component _ => component == comp | _ => false) = some c := by
      have z1 := va_idx_bare U.vm comp
      have z2 := va_idx_bare u.vm comp
      have z3 : U.vm.bare = u.vm.bare := by first | exact hvm.bare_eq | exact hvm.bare_eq.symm
      rw [z3] at z1
      exact (z1.symm.trans z2).trans hi
    rw [f1, Option.bind_some, Option.bind_eq_some_iff]
    refine ⟨c, hi', ?_⟩
    rw [Option.map_eq_some_iff]
    refine ⟨k', hk', ?_⟩
    rw [he, hvm.findClass]
    exact hb
/-- what never changes: the array REACH, the script, the class of arrays of rows -/
def Sx (tc : Nat → ClassId) (g : GB) (Ls : Nat) (sx : Nat → Int) (s : State) : Prop :=
  va_Z "RoundMill$Net" "REACH" "[I" (.ref g.2.1) (fun q => g.1 ≤ q) s s.heap ∧ va_T .int g.2.1 5 reachV (fun q => g.1 ≤ q) s s.heap ∧ va_X g.2.2 Ls (fun j => Int32.ofInt (sx j)) s s.heap ∧ g.2.2 < g.1 ∧ g.1 ≤ s.heap.size ∧ (∃ kA : Class, s.vm.classes[tc 6]? = some kA ∧ kA.kind = .array (tc 0) (.array .int)) ∧ (∃ kB : Class, s.vm.classes[tc 0]? = some kB) ∧ AOx (.object "RoundMill$Mill") s ∧ AOx (.object "RoundMill$Part") s ∧ AOx (.array .int) s
/-- a method: its class, name, code, locals, answer's type -/
abbrev MI : Type := String × MethodName × ByteArray × Nat × Option FieldType
/-- a run's numbers: frames, cells, slots; the script -/
abbrev KX : Type := Nat × Nat × Nat × Nat × (Nat → Int)
def Fx (μ : MI) (κ : KX) (D : va_G) (tc : Nat → ClassId) (g : GB) (p : Program) (R : Room) (s : State) (m : MethodId) (args : Array Value) (meth : Method) (c : Code) : Prop :=
  p.tables.exec = Jvm.exec ∧ c.code = μ.2.2.1 ∧ c.maxLocals = μ.2.2.2.1 ∧ s.vm.findClass μ.1 = some m.cls ∧ (∀ w ∈ tbg, w.before args s = true) ∧ meth.locks = false ∧ meth.sig.returnType = μ.2.2.2.2 ∧ meth.name = μ.2.1.name ∧ va_K D mcl (mtys tc) s ∧ (κ.1 ≤ R.frames ∧ 40 * κ.1 ≤ R.locals ∧ R.cells = κ.2.1 ∧ R.slots = κ.2.2.1) ∧ Sx tc g κ.2.2.2.1 κ.2.2.2.2 s
/-- cells and slots that the method has made; cells of the whole run -/
abbrev MR : Type := Nat × Nat × Nat
/-- nothing below the first cell changes; the cells that were made are counted -/
def Vs (g : GB) (s : State) (ρ : MR) (H : Heap) (locs : List Loc) : Prop := va_S (fun q => g.1 ≤ q) s.heap H locs ∧ s.heap.size + ρ.1 = g.1 + ρ.2.2
def retAt (b : ByteArray) (pc : Nat) : Option MV → Prop
  | none => decode b pc = .ok (.return_, 1)
  | some (.inl _) => decode b pc = .ok (.ireturn, 1)
  | some (.inr (.inl _)) => decode b pc = .ok (.lreturn, 1)
  | some (.inr (.inr _)) => decode b pc = .ok (.areturn, 1)
/-- from here the method comes to its end, with Q -/
def G (μ : MI) (κ : KX) (pc : Nat) (lo : List (Nat × MV)) (st : List MV) (ρ : MR) (h : MH) (Q : Option MV → MR → MH → Prop) : Prop :=
  ∀ (p : Program) (l : Launch) (e : Env) (R : Room) (s : State) (m : MethodId) (args : Array Value) (below : List Frame) (meth : Method) (c : Code) (D : va_G) (tc : Nat → ClassId) (g : GB) (Zf : State → Prop),
    Fx μ κ D tc g p R s m args meth c →
    (∀ (r : Option MV) (ρ : MR) (h : MH) (pc : Nat) (ls : Array Slot) (H : Heap) (locs : List Loc), Q r ρ h → retAt μ.2.2.1 pc r → Wd D tc g ρ.2.2 h H → Vs g s ρ H locs → W p l e R s m args below meth c H locs ρ.1 ρ.2.1 Zf (F0 m pc ls (r.toList.map (rv g)))) →
    ∀ (ls : Array Slot) (H : Heap) (locs : List Loc), lv_has ls μ.2.2.2.1 (lo.map (fun q => (q.1, rv g q.2))) → Wd D tc g ρ.2.2 h H → Vs g s ρ H locs → W p l e R s m args below meth c H locs ρ.1 ρ.2.1 Zf (F0 m pc ls (st.map (rv g)))
/-- a local's value -/
def look : List (Nat × MV) → Nat → Option MV
  | [], _ => none
  | q :: l, i => if q.1 = i then some q.2 else look l i
theorem look_mem : ∀ {l : List (Nat × MV)} {i : Nat} {v : MV}, look l i = some v → (i, v) ∈ l
  | [], _, _, h => by cases h
  | q :: l, i, v, h => by
    unfold look at h
    split at h
    · rename_i e
      cases h
      subst e
      exact List.mem_cons_self
    · exact List.mem_cons_of_mem _ (look_mem h)
theorem look_ls {ls : Array Slot} {nL : Nat} {lo : List (Nat × MV)} {g : GB} {i : Nat} {v : MV} (hl : lv_has ls nL (lo.map (fun q => (q.1, rv g q.2)))) (hv : look lo i = some v) : ls[i]? = some (.val (rv g v)) :=
  hl.2.2 (i, rv g v) (List.mem_map.mpr ⟨(i, v), look_mem hv, rfl⟩)
/-- a store: what it covers goes, the rest stays in the order of the places -/
def ins (l : List (Nat × MV)) (i : Nat) (v : MV) : List (Nat × MV) := match l with
  | [] => [(i, v)]
  | q :: l => if i < q.1 then (i, v) :: q :: l else q :: ins l i v
theorem ins_mem : ∀ {l : List (Nat × MV)} {i : Nat} {v : MV} {q : Nat × MV}, q ∈ ins l i v → q = (i, v) ∨ q ∈ l
  | [], i, v, q, h => by
    simp [ins] at h
    exact Or.inl h
  | a :: l, i, v, q, h => by
    unfold ins at h
    split at h
    · rcases List.mem_cons.mp h with h | h
      · exact Or.inl h
      · exact Or.inr h
    · rcases List.mem_cons.mp h with h | h
      · exact Or.inr (h ▸ List.mem_cons_self)
      · rcases ins_mem h with h | h
        · exact Or.inl h
        · exact Or.inr (List.mem_cons_of_mem _ h)
def keep1 (i : Nat) (q : Nat × MV) : Bool := !(q.1 == i) && !(q.1 + 1 == i && mcat q.2 == 2)
def keep2 (i : Nat) (q : Nat × MV) : Bool := !(q.1 == i) && (!(q.1 == i + 1) && !(q.1 + 1 == i && mcat q.2 == 2))
def sto1 (lo : List (Nat × MV)) (i : Nat) (v : MV) : List (Nat × MV) := ins (lo.filter (keep1 i)) i v
def sto2 (lo : List (Nat × MV)) (i : Nat) (v : MV) : List (Nat × MV) := ins (lo.filter (keep2 i)) i v
theorem sto1_ok {ls : Array Slot} {nL i : Nat} {g : GB} {lo : List (Nat × MV)} {v : MV} (h : lv_has ls nL ((i, rv g v) :: (lo.map (fun q => (q.1, rv g q.2))).filter (fun q => !(q.1 == i) && !(q.1 + 1 == i && q.2.category == 2)))) : lv_has ls nL ((sto1 lo i v).map (fun q => (q.1, rv g q.2))) := by
  refine ⟨h.1, h.2.1, fun q hq => ?_⟩
  obtain ⟨a, ha, rfl⟩ := List.mem_map.mp hq
  rcases ins_mem ha with rfl | ha
  · exact h.2.2 _ List.mem_cons_self
  · obtain ⟨h1, h2⟩ := List.mem_filter.mp ha
    refine h.2.2 _ (List.mem_cons_of_mem _ (List.mem_filter.mpr ⟨List.mem_map.mpr ⟨a, h1, rfl⟩, ?_⟩))
    rw [rv_cat]
    exact h2
theorem sto2_ok {ls : Array Slot} {nL i : Nat} {g : GB} {lo : List (Nat × MV)} {v : MV} (h : lv_has ls nL ((i, rv g v) :: (lo.map (fun q => (q.1, rv g q.2))).filter (fun q => !(q.1 == i) && (!(q.1 == i + 1) && !(q.1 + 1 == i && q.2.category == 2))))) : lv_has ls nL ((sto2 lo i v).map (fun q => (q.1, rv g q.2))) := by
  refine ⟨h.1, h.2.1, fun q hq => ?_⟩
  obtain ⟨a, ha, rfl⟩ := List.mem_map.mp hq
  rcases ins_mem ha with rfl | ha
  · exact h.2.2 _ List.mem_cons_self
  · obtain ⟨h1, h2⟩ := List.mem_filter.mp ha
    refine h.2.2 _ (List.mem_cons_of_mem _ (List.mem_filter.mpr ⟨List.mem_map.mpr ⟨a, h1, rfl⟩, ?_⟩))
    rw [rv_cat]
    exact h2
/-- whole numbers in the machine's ranges -/
abbrev i32 (x : Int) : Prop := -2147483648 ≤ x ∧ x ≤ 2147483647
abbrev i64 (x : Int) : Prop := -9223372036854775808 ≤ x ∧ x ≤ 9223372036854775807
theorem i32_toInt {x : Int} (h : i32 x) : (Int32.ofInt x).toInt = x := Int32.toInt_ofInt_of_le (by have := h.1; omega) (by have := h.2; omega)
theorem i64_toInt {x : Int} (h : i64 x) : (Int64.ofInt x).toInt = x := Int64.toInt_ofInt_of_le (by have := h.1; omega) (by have := h.2; omega)
theorem i32_lt {x y : Int} (hx : i32 x) (hy : i32 y) : Int32.ofInt x < Int32.ofInt y ↔ x < y := by
  rw [Int32.lt_iff_toInt_lt, i32_toInt hx, i32_toInt hy]
theorem i32_le {x y : Int} (hx : i32 x) (hy : i32 y) : Int32.ofInt x ≤ Int32.ofInt y ↔ x ≤ y := by
  rw [Int32.le_iff_toInt_le, i32_toInt hx, i32_toInt hy]
theorem i32_eq {x y : Int} (hx : i32 x) (hy : i32 y) : Int32.ofInt x = Int32.ofInt y ↔ x = y := by
  rw [← Int32.toInt_inj, i32_toInt hx, i32_toInt hy]
theorem i64_lt {x y : Int} (hx : i64 x) (hy : i64 y) : Int64.ofInt x < Int64.ofInt y ↔ x < y := by
  rw [Int64.lt_iff_toInt_lt, i64_toInt hx, i64_toInt hy]
theorem i64_le {x y : Int} (hx : i64 x) (hy : i64 y) : Int64.ofInt x ≤ Int64.ofInt y ↔ x ≤ y := by
  rw [Int64.le_iff_toInt_le, i64_toInt hx, i64_toInt hy]
theorem i64_eq {x y : Int} (hx : i64 x) (hy : i64 y) : Int64.ofInt x = Int64.ofInt y ↔ x = y := by
  rw [← Int64.toInt_inj, i64_toInt hx, i64_toInt hy]
theorem i32_rem {x y : Int} (hx : i32 x) (hy : i32 y) : Int32.ofInt x - Int32.ofInt x / Int32.ofInt y * Int32.ofInt y = Int32.ofInt (x.tmod y) := by
  rw [← Int32.ofInt_tdiv hx.1 hx.2 hy.1 hy.2, ← Int32.ofInt_mul, ← Int32.ofInt_sub]
  congr 1
  have := Int.mul_tdiv_add_tmod x y
  rw [Int.mul_comm] at this
  omega
theorem i64_rem {x y : Int} (hx : i64 x) (hy : i64 y) : Int64.ofInt x - Int64.ofInt x / Int64.ofInt y * Int64.ofInt y = Int64.ofInt (x.tmod y) := by
  rw [← Int64.ofInt_tdiv hx.1 hx.2 hy.1 hy.2, ← Int64.ofInt_mul, ← Int64.ofInt_sub]
  congr 1
  have := Int.mul_tdiv_add_tmod x y
  rw [Int.mul_comm] at this
  omega
theorem i32_clamp {x : Int} (h0 : 0 ≤ x) (h : x ≤ 2147483647) : (Int32.ofInt x).toNatClampNeg = x.toNat := by
  rw [Int32.toNatClampNeg_ofInt_of_le (by omega) (by omega)]
theorem i32_in {x : Int} {n : Nat} (h0 : 0 ≤ x) (h : x < n) (hn : x ≤ 2147483647) : vp_in (Int32.ofInt x) n := by
  rw [vp_in_iff, i32_toInt ⟨by omega, hn⟩]
  exact ⟨h0, h⟩
