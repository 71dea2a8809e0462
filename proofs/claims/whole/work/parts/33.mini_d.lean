/-! ===== rows of the small machine: arrays ===== -/
theorem asg_self (vm : Vm) (c : ClassId) : vm.assignable c c = true := by
  show vm.assignableAux (255 + 1) c c = true
  generalize 255 = n
  unfold Vm.assignableAux
  rw [beq_self_eq_true, Bool.true_or]
section MD
variable {μ : MI} {κ : KX} {pc : Nat} {lo : List (Nat × MV)} {st : List MV} {ρ : MR} {h : MH} {Q : Option MV → MR → MH → Prop}
theorem g_iald {a n : Nat} {f : Nat → Int} {i : Int} (hd : decode μ.2.2.1 pc = .ok (.iaload, 1)) (hc : Hd ρ h a (eA 0 n f)) (h0 : 0 ≤ i) (h1 : i < n) (hn : n ≤ 2147483647) (hk : G μ κ (pc + 1) lo (vI (f i.toNat) :: st) ρ h Q) : G μ κ pc lo (vI i :: vR a :: st) ρ h Q := by
  intro p l e R s m args below meth c D tc g Zf F E ls H locs hl hW hS
  have ha := hW.2 a _ (mws_get hc.1)
  rw [hc.2] at ha
  have ha : H[g.1 + a]? = some (arrV (tc 0) n (fun j => Value.int (Int32.ofInt (f j)))) := ha
  have hlt : (Int32.ofInt i).toNatClampNeg < n := by rw [i32_clamp h0 (by omega)]; omega
  exact W.iald (v := Value.int (Int32.ofInt (f i.toNat))) F.1 F.2.1 ha ((F.2.2.2.2.2.2.2.2.1.2 0 _ rfl).1 n _) (fun q => by cases q) (by rw [arrV_size]; exact i32_in h0 h1 (by omega)) (by rw [arrV_read _ _ hlt, i32_clamp h0 (by omega)]) rfl rfl hd (W.eq rfl (hk p l e R s m args below meth c D tc g Zf F E ls H locs hl hW hS))
theorem g_bald {a n : Nat} {f : Nat → Int} {i : Int} (hd : decode μ.2.2.1 pc = .ok (.baload, 1)) (hc : Hd ρ h a (eA 1 n f)) (h0 : 0 ≤ i) (h1 : i < n) (hn : n ≤ 2147483647) (hk : G μ κ (pc + 1) lo (vI (f i.toNat) :: st) ρ h Q) : G μ κ pc lo (vI i :: vR a :: st) ρ h Q := by
  intro p l e R s m args below meth c D tc g Zf F E ls H locs hl hW hS
  have ha := hW.2 a _ (mws_get hc.1)
  rw [hc.2] at ha
  have ha : H[g.1 + a]? = some (arrV (tc 1) n (fun j => Value.int (Int32.ofInt (f j)))) := ha
  have hlt : (Int32.ofInt i).toNatClampNeg < n := by rw [i32_clamp h0 (by omega)]; omega
  exact W.bald (v := Value.int (Int32.ofInt (f i.toNat))) F.1 F.2.1 ha ((F.2.2.2.2.2.2.2.2.1.2 1 _ rfl).1 n _) (fun q => by cases q) (by rw [arrV_size]; exact i32_in h0 h1 (by omega)) (by rw [arrV_read _ _ hlt, i32_clamp h0 (by omega)]) rfl rfl hd (W.eq rfl (hk p l e R s m args below meth c D tc g Zf F E ls H locs hl hW hS))
theorem g_zald {a n : Nat} {f : Nat → Int} {i : Int} (hd : decode μ.2.2.1 pc = .ok (.baload, 1)) (hc : Hd ρ h a (eA 2 n f)) (h0 : 0 ≤ i) (h1 : i < n) (hn : n ≤ 2147483647) (hk : G μ κ (pc + 1) lo (vI (f i.toNat) :: st) ρ h Q) : G μ κ pc lo (vI i :: vR a :: st) ρ h Q := by
  intro p l e R s m args below meth c D tc g Zf F E ls H locs hl hW hS
  have ha := hW.2 a _ (mws_get hc.1)
  rw [hc.2] at ha
  have ha : H[g.1 + a]? = some (arrV (tc 2) n (fun j => Value.int (Int32.ofInt (f j)))) := ha
  have hlt : (Int32.ofInt i).toNatClampNeg < n := by rw [i32_clamp h0 (by omega)]; omega
  exact W.zald (v := Value.int (Int32.ofInt (f i.toNat))) F.1 F.2.1 ha ((F.2.2.2.2.2.2.2.2.1.2 2 _ rfl).1 n _) (fun q => by cases q) (by rw [arrV_size]; exact i32_in h0 h1 (by omega)) (by rw [arrV_read _ _ hlt, i32_clamp h0 (by omega)]) rfl rfl hd (W.eq rfl (hk p l e R s m args below meth c D tc g Zf F E ls H locs hl hW hS))
theorem g_lald {a n : Nat} {f : Nat → Int} {i : Int} (hd : decode μ.2.2.1 pc = .ok (.laload, 1)) (hc : Hd ρ h a (eA 3 n f)) (h0 : 0 ≤ i) (h1 : i < n) (hn : n ≤ 2147483647) (hk : G μ κ (pc + 1) lo (vJ (f i.toNat) :: st) ρ h Q) : G μ κ pc lo (vI i :: vR a :: st) ρ h Q := by
  intro p l e R s m args below meth c D tc g Zf F E ls H locs hl hW hS
  have ha := hW.2 a _ (mws_get hc.1)
  rw [hc.2] at ha
  have ha : H[g.1 + a]? = some (arrV (tc 3) n (fun j => Value.long (Int64.ofInt (f j)))) := ha
  have hlt : (Int32.ofInt i).toNatClampNeg < n := by rw [i32_clamp h0 (by omega)]; omega
  exact W.lald (v := Value.long (Int64.ofInt (f i.toNat))) F.1 F.2.1 ha ((F.2.2.2.2.2.2.2.2.1.2 3 _ rfl).1 n _) (fun q => by cases q) (by rw [arrV_size]; exact i32_in h0 h1 (by omega)) (by rw [arrV_read _ _ hlt, i32_clamp h0 (by omega)]) rfl rfl hd (W.eq rfl (hk p l e R s m args below meth c D tc g Zf F E ls H locs hl hW hS))
theorem updV_of {α : Type} (w : α → Value) (f : Nat → α) (k : Nat) (x : α) : updV (fun j => w (f j)) k (w x) = fun j => w (va_up f k x j) := by
  funext j
  unfold updV va_up
  split <;> rfl
theorem g_iast {a n : Nat} {f : Nat → Int} {i x : Int} (hd : decode μ.2.2.1 pc = .ok (.iastore, 1)) (hc : Hd ρ h a (eA 0 n f)) (h0 : 0 ≤ i) (h1 : i < n) (hn : n ≤ 2147483647) (hk : G μ κ (pc + 1) lo st ρ (va_up h a (eA 0 n (va_up f i.toNat x))) Q) : G μ κ pc lo (vI x :: vI i :: vR a :: st) ρ h Q := by
  intro p l e R s m args below meth c D tc g Zf F E ls H locs hl hW hS
  have ha := hW.2 a _ (mws_get hc.1)
  rw [hc.2] at ha
  have ha : H[g.1 + a]? = some (arrV (tc 0) n (fun j => Value.int (Int32.ofInt (f j)))) := ha
  have hlt : (Int32.ofInt i).toNatClampNeg < n := by rw [i32_clamp h0 (by omega)]; omega
  refine W.iast F.1 F.2.1 ha ((F.2.2.2.2.2.2.2.2.1.2 0 _ rfl).1 n _) (fun q => by cases q) (by rw [arrV_size]; exact i32_in h0 h1 (by omega)) rfl rfl hd (fun H1 e1 e2 e3 => ?_)
  refine hk p l e R s m args below meth c D tc g Zf F E ls H1 _ hl (Wd_set hW hc.1 e2 e3 ?_) ⟨hS.1.put e2 e3 (Nat.le_add_right _ _), hS.2⟩
  show H1[g.1 + a]? = some (arrV (tc 0) n (fun j => Value.int (Int32.ofInt (va_up f i.toNat x j))))
  rw [e1, arrV_store, i32_clamp h0 (by omega)]
  exact congrArg (fun z => some (arrV (tc 0) n z)) (updV_of (fun y => Value.int (Int32.ofInt y)) f i.toNat x)
theorem g_zast {a n : Nat} {f : Nat → Int} {i x : Int} (hd : decode μ.2.2.1 pc = .ok (.bastore, 1)) (hc : Hd ρ h a (eA 2 n f)) (h0 : 0 ≤ i) (h1 : i < n) (hn : n ≤ 2147483647) (hx : x = 0 ∨ x = 1) (hk : G μ κ (pc + 1) lo st ρ (va_up h a (eA 2 n (va_up f i.toNat x))) Q) : G μ κ pc lo (vI x :: vI i :: vR a :: st) ρ h Q := by
  intro p l e R s m args below meth c D tc g Zf F E ls H locs hl hW hS
  have ha := hW.2 a _ (mws_get hc.1)
  rw [hc.2] at ha
  have ha : H[g.1 + a]? = some (arrV (tc 2) n (fun j => Value.int (Int32.ofInt (f j)))) := ha
  have hlt : (Int32.ofInt i).toNatClampNeg < n := by rw [i32_clamp h0 (by omega)]; omega
  refine W.zast F.1 F.2.1 ha ((F.2.2.2.2.2.2.2.2.1.2 2 _ rfl).1 n _) (fun q => by cases q) (by rw [arrV_size]; exact i32_in h0 h1 (by omega)) rfl rfl hd (fun H1 e1 e2 e3 => ?_)
  refine hk p l e R s m args below meth c D tc g Zf F E ls H1 _ hl (Wd_set hW hc.1 e2 e3 ?_) ⟨hS.1.put e2 e3 (Nat.le_add_right _ _), hS.2⟩
  show H1[g.1 + a]? = some (arrV (tc 2) n (fun j => Value.int (Int32.ofInt (va_up f i.toNat x j))))
  rw [e1, arrV_store, i32_clamp h0 (by omega), show narrow .boolean (.int (Int32.ofInt x)) = Value.int (Int32.ofInt x) from (okv_bool hx g).1]
  exact congrArg (fun z => some (arrV (tc 2) n z)) (updV_of (fun y => Value.int (Int32.ofInt y)) f i.toNat x)
theorem g_last {a n : Nat} {f : Nat → Int} {i x : Int} (hd : decode μ.2.2.1 pc = .ok (.lastore, 1)) (hc : Hd ρ h a (eA 3 n f)) (h0 : 0 ≤ i) (h1 : i < n) (hn : n ≤ 2147483647) (hk : G μ κ (pc + 1) lo st ρ (va_up h a (eA 3 n (va_up f i.toNat x))) Q) : G μ κ pc lo (vJ x :: vI i :: vR a :: st) ρ h Q := by
  intro p l e R s m args below meth c D tc g Zf F E ls H locs hl hW hS
  have ha := hW.2 a _ (mws_get hc.1)
  rw [hc.2] at ha
  have ha : H[g.1 + a]? = some (arrV (tc 3) n (fun j => Value.long (Int64.ofInt (f j)))) := ha
  have hlt : (Int32.ofInt i).toNatClampNeg < n := by rw [i32_clamp h0 (by omega)]; omega
  refine W.last F.1 F.2.1 ha ((F.2.2.2.2.2.2.2.2.1.2 3 _ rfl).1 n _) (fun q => by cases q) (by rw [arrV_size]; exact i32_in h0 h1 (by omega)) rfl rfl hd (fun H1 e1 e2 e3 => ?_)
  refine hk p l e R s m args below meth c D tc g Zf F E ls H1 _ hl (Wd_set hW hc.1 e2 e3 ?_) ⟨hS.1.put e2 e3 (Nat.le_add_right _ _), hS.2⟩
  show H1[g.1 + a]? = some (arrV (tc 3) n (fun j => Value.long (Int64.ofInt (va_up f i.toNat x j))))
  rw [e1, arrV_store, i32_clamp h0 (by omega)]
  exact congrArg (fun z => some (arrV (tc 3) n z)) (updV_of (fun y => Value.long (Int64.ofInt y)) f i.toNat x)
theorem g_bast {a n : Nat} {f : Nat → Int} {i x : Int} (hd : decode μ.2.2.1 pc = .ok (.bastore, 1)) (hc : Hd ρ h a (eA 1 n f)) (h0 : 0 ≤ i) (h1 : i < n) (hn : n ≤ 2147483647) (hk : G μ κ (pc + 1) lo st ρ (va_up h a (eA 1 n (va_up f i.toNat (Int32.ofInt x).toInt8.toInt32.toInt))) Q) : G μ κ pc lo (vI x :: vI i :: vR a :: st) ρ h Q := by
  intro p l e R s m args below meth c D tc g Zf F E ls H locs hl hW hS
  have ha := hW.2 a _ (mws_get hc.1)
  rw [hc.2] at ha
  have ha : H[g.1 + a]? = some (arrV (tc 1) n (fun j => Value.int (Int32.ofInt (f j)))) := ha
  have hlt : (Int32.ofInt i).toNatClampNeg < n := by rw [i32_clamp h0 (by omega)]; omega
  refine W.bast F.1 F.2.1 ha ((F.2.2.2.2.2.2.2.2.1.2 1 _ rfl).1 n _) (fun q => by cases q) (by rw [arrV_size]; exact i32_in h0 h1 (by omega)) rfl rfl hd (fun H1 e1 e2 e3 => ?_)
  refine hk p l e R s m args below meth c D tc g Zf F E ls H1 _ hl (Wd_set hW hc.1 e2 e3 ?_) ⟨hS.1.put e2 e3 (Nat.le_add_right _ _), hS.2⟩
  show H1[g.1 + a]? = some (arrV (tc 1) n (fun j => Value.int (Int32.ofInt (va_up f i.toNat (Int32.ofInt x).toInt8.toInt32.toInt j))))
  rw [e1, arrV_store, i32_clamp h0 (by omega), show narrow .byte (.int (Int32.ofInt x)) = Value.int (Int32.ofInt (Int32.ofInt x).toInt8.toInt32.toInt) from by rw [Int32.ofInt_toInt]; rfl]
  exact congrArg (fun z => some (arrV (tc 1) n z)) (updV_of (fun y => Value.int (Int32.ofInt y)) f i.toNat (Int32.ofInt x).toInt8.toInt32.toInt)
theorem rf_map (g : GB) (o : Option Nat) : va_rf (o.map (fun a => g.1 + a)) = rv g (vO o) := by
  cases o <;> rfl
theorem g_aald {a n kq : Nat} {f : Nat → Option Nat} {i : Int} (hd : decode μ.2.2.1 pc = .ok (.aaload, 1)) (hc : Hd ρ h a (eQ kq n f)) (hq : kq = 4 ∨ kq = 5 ∨ kq = 6) (h0 : 0 ≤ i) (h1 : i < n) (hn : n ≤ 2147483647) (hk : G μ κ (pc + 1) lo (vO (f i.toNat) :: st) ρ h Q) : G μ κ pc lo (vI i :: vR a :: st) ρ h Q := by
  intro p l e R s m args below meth c D tc g Zf F E ls H locs hl hW hS
  have ha := hW.2 a _ (mws_get hc.1)
  rw [hc.2] at ha
  have ha : H[g.1 + a]? = some (arrV (tc kq) n (fun j => va_rf ((f j).map (fun a => g.1 + a)))) := ha
  have hlt : (Int32.ofInt i).toNatClampNeg < n := by rw [i32_clamp h0 (by omega)]; omega
  have K := hk p l e R s m args below meth c D tc g Zf F E ls H locs hl hW hS
  have K : W p l e R s m args below meth c H locs ρ.1 ρ.2.1 Zf (F0 m (pc + 1) ls (va_rf ((f i.toNat).map (fun a => g.1 + a)) :: st.map (rv g))) := by rw [rf_map]; exact K
  have hK := F.2.2.2.2.2.2.2.2.1
  have hAr : ∃ ty : FieldType, ty.isReference = true ∧ s.isArrayOf (arrV (tc kq) n (fun j => va_rf ((f j).map (fun a => g.1 + a)))) ty := by
    rcases hq with rfl | rfl | rfl
    · exact ⟨_, rfl, (hK.2 4 _ rfl).1 n _⟩
    · exact ⟨_, rfl, (hK.2 5 _ rfl).1 n _⟩
    · exact ⟨_, rfl, (hK.2 6 _ rfl).1 n _⟩
  obtain ⟨ty, hty, hof⟩ := hAr
  exact W.aald (v := va_rf ((f i.toNat).map (fun a => g.1 + a))) F.1 F.2.1 ha hof hty (fun q => by cases q) (by rw [arrV_size]; exact i32_in h0 h1 (by omega)) (by rw [arrV_read _ _ hlt, i32_clamp h0 (by omega)]) rfl rfl hd K
/-- what may be stored into an array of references -/
def okq (ρ : MR) (h : MH) (kq b : Nat) : Prop := (kq = 4 ∧ ∃ fs, Hd ρ h b (eO 1 fs)) ∨ (kq = 5 ∧ ∃ fs, Hd ρ h b (eO 4 fs)) ∨ (kq = 6 ∧ ∃ n f, Hd ρ h b (eA 0 n f))
theorem g_aast {a b n kq : Nat} {f : Nat → Option Nat} {i : Int} (hd : decode μ.2.2.1 pc = .ok (.aastore, 1)) (hc : Hd ρ h a (eQ kq n f)) (hq : okq ρ h kq b) (h0 : 0 ≤ i) (h1 : i < n) (hn : n ≤ 2147483647) (hk : G μ κ (pc + 1) lo st ρ (va_up h a (eQ kq n (va_up f i.toNat (some b)))) Q) : G μ κ pc lo (vR b :: vI i :: vR a :: st) ρ h Q := by
  intro p l e R s m args below meth c D tc g Zf F E ls H locs hl hW hS
  have ha := hW.2 a _ (mws_get hc.1)
  rw [hc.2] at ha
  have ha : H[g.1 + a]? = some (arrV (tc kq) n (fun j => va_rf ((f j).map (fun a => g.1 + a)))) := ha
  have hlt : (Int32.ofInt i).toNatClampNeg < n := by rw [i32_clamp h0 (by omega)]; omega
  have hni : ¬ Int32.ofInt i < 0 := fun q => (i32_in h0 h1 (by omega)) (Or.inl q)
  have hK := F.2.2.2.2.2.2.2.2.1
  have key : ∃ (k kv kcomp : Class) (comp : ClassId) (t : FieldType) (cv : Cell), s.vm.classes[tc kq]? = some k ∧ k.kind = .array comp t ∧ t.isReference = true ∧ s.vm.classes[comp]? = some kcomp ∧ H[g.1 + b]? = some cv ∧ (∀ q, cv.vm ≠ .statics q) ∧ s.vm.classes[cv.cls]? = some kv ∧ s.vm.assignable cv.cls comp = true := by
    have obj : ∀ (ci : Nat) (fs : List MV) (r : vw_C) (t0 : Nat), mcl[ci]? = some r → (mtys tc)[t0]? = some (tc kq, .object r.1) → Hd ρ h b (eO ci fs) → ∃ (k kv kcomp : Class) (comp : ClassId) (t : FieldType) (cv : Cell), s.vm.classes[tc kq]? = some k ∧ k.kind = .array comp t ∧ t.isReference = true ∧ s.vm.classes[comp]? = some kcomp ∧ H[g.1 + b]? = some cv ∧ (∀ q, cv.vm ≠ .statics q) ∧ s.vm.classes[cv.cls]? = some kv ∧ s.vm.assignable cv.cls comp = true := by
      intro ci fs r t0 hr ht hb
      have hbb := hW.2 b _ (mws_get hb.1)
      rw [hb.2] at hbb
      obtain ⟨r', hr', cellV, g1, g2, g3, -⟩ := hbb
      have hr2 : r' = r := Option.some.inj (hr'.symm.trans hr)
      subst hr2
      have hcls := (hK.1 ci r' hr).2
      obtain ⟨kA, comp, k1, k2, k3, -⟩ := (hK.2 t0 _ ht).2
      have hcomp : comp = D.1 ci := Option.some.inj (k3.symm.trans hcls.1)
      obtain ⟨hf1, kC, hkC, hkd⟩ := hcls
      refine ⟨kA, kC, kC, comp, _, cellV, k1, k2, rfl, (by rw [hcomp]; exact hkC), g1, (fun q => (by rw [g3]; intro z; cases z)), (by rw [g2]; exact hkC), ?_⟩
      rw [g2, hcomp]
      exact va_assign (C := r'.1) ⟨hf1, kC, hkC, hkd⟩
    rcases hq with ⟨rfl, fs, hb⟩ | ⟨rfl, fs, hb⟩ | ⟨rfl, n2, f2, hb⟩
    · exact obj 1 fs _ 4 rfl rfl hb
    · exact obj 4 fs _ 5 rfl rfl hb
    · have hbb := hW.2 b _ (mws_get hb.1)
      rw [hb.2] at hbb
      have hbb : H[g.1 + b]? = some (arrV (tc 0) n2 (fun j => Value.int (Int32.ofInt (f2 j)))) := hbb
      obtain ⟨-, -, -, -, -, ⟨kA, k1, k2⟩, ⟨kB, k3⟩, -⟩ := F.2.2.2.2.2.2.2.2.2.2
      refine ⟨kA, kB, kB, tc 0, _, _, k1, k2, rfl, k3, hbb, (fun q z => (by cases z)), k3, ?_⟩
      exact asg_self s.vm (tc 0)
  obtain ⟨k, kv, kcomp, comp, t, cv, k1, k2, k3, k4, k5, k6, k7, k8⟩ := key
  refine W.aast F.1 F.2.1 ha (fun q z => by cases z) (fun q => by cases q) k1 k2 k3 k4 ⟨hni, by rw [arrV_size]; exact hlt⟩ k5 k6 k7 k8 rfl rfl hd (fun H1 e1 e2 e3 => ?_)
  refine hk p l e R s m args below meth c D tc g Zf F E ls H1 _ hl (Wd_set hW hc.1 e2 e3 ?_) ⟨hS.1.put e2 e3 (Nat.le_add_right _ _), hS.2⟩
  show H1[g.1 + a]? = some (arrV (tc kq) n (fun j => va_rf ((va_up f i.toNat (some b) j).map (fun a => g.1 + a))))
  rw [e1, arrV_store, i32_clamp h0 (by omega)]
  exact congrArg (fun z => some (arrV (tc kq) n z)) (updV_of (fun y : Option Nat => va_rf (y.map (fun a => g.1 + a))) f i.toNat (some b))
theorem g_alen {a k n : Nat} {f : Nat → Int} (hd : decode μ.2.2.1 pc = .ok (.arraylength, 1)) (hc : Hd ρ h a (eA k n f)) (hq : k < 4) (hk : G μ κ (pc + 1) lo (vI n :: st) ρ h Q) : G μ κ pc lo (vR a :: st) ρ h Q := by
  intro p l e R s m args below meth c D tc g Zf F E ls H locs hl hW hS
  have K := hk p l e R s m args below meth c D tc g Zf F E ls H locs hl hW hS
  have hK := F.2.2.2.2.2.2.2.2.1
  have ha : (mws tc g ρ.2.2 h)[a]? = some (g.1 + a, rE tc g (eA k n f)) := by rw [mws_get hc.1, hc.2]
  have hv : Int32.ofNat n = Int32.ofInt n := Int32.ofInt_eq_ofNat.symm
  have hk4 : k = 0 ∨ k = 1 ∨ k = 2 ∨ k = 3 := by omega
  rcases hk4 with rfl | rfl | rfl | rfl
  · exact va_alen F.1 F.2.1 hK hW.2 a 0 ha rfl hv hd K
  · exact va_alen F.1 F.2.1 hK hW.2 a 1 ha rfl hv hd K
  · exact va_alen F.1 F.2.1 hK hW.2 a 2 ha rfl hv hd K
  · exact va_alen F.1 F.2.1 hK hW.2 a 3 ha rfl hv hd K
theorem g_qlen {a kq n : Nat} {f : Nat → Option Nat} (hd : decode μ.2.2.1 pc = .ok (.arraylength, 1)) (hc : Hd ρ h a (eQ kq n f)) (hq : kq = 4 ∨ kq = 5 ∨ kq = 6) (hk : G μ κ (pc + 1) lo (vI n :: st) ρ h Q) : G μ κ pc lo (vR a :: st) ρ h Q := by
  intro p l e R s m args below meth c D tc g Zf F E ls H locs hl hW hS
  have K := hk p l e R s m args below meth c D tc g Zf F E ls H locs hl hW hS
  have hK := F.2.2.2.2.2.2.2.2.1
  have ha : (mws tc g ρ.2.2 h)[a]? = some (g.1 + a, rE tc g (eQ kq n f)) := by rw [mws_get hc.1, hc.2]
  have hv : Int32.ofNat n = Int32.ofInt n := Int32.ofInt_eq_ofNat.symm
  rcases hq with rfl | rfl | rfl
  · exact va_alen F.1 F.2.1 hK hW.2 a 4 ha rfl hv hd K
  · exact va_alen F.1 F.2.1 hK hW.2 a 5 ha rfl hv hd K
  · exact va_alen F.1 F.2.1 hK hW.2 a 6 ha rfl hv hd K
def reachZ (i : Int) : Int := if i = 2 then 24 else if i = 3 then 8 else if i = 4 then 5 else 0
theorem g_reach {ix : Nat} (hd : decode μ.2.2.1 pc = .ok (.getstatic ix, 3)) (hf : Cond.fieldLink μ.1 ix "RoundMill$Net" "REACH" "[I" ∈ tbg) (hk : G μ κ (pc + 3) lo (vS false :: st) ρ h Q) : G μ κ pc lo st ρ h Q := by
  intro p l e R s m args below meth c D tc g Zf F E ls H locs hl hW hS
  exact va_gets F.1 F.2.1 F.2.2.2.2.2.2.2.2.2.2.1 hS.1 F.2.2.2.1 (F.2.2.2.2.1 _ hf) (fun _ q => q) hd (hk p l e R s m args below meth c D tc g Zf F E ls H locs hl hW hS)
theorem g_rlen (hd : decode μ.2.2.1 pc = .ok (.arraylength, 1)) (hk : G μ κ (pc + 1) lo (vI 5 :: st) ρ h Q) : G μ κ pc lo (vS false :: st) ρ h Q := by
  intro p l e R s m args below meth c D tc g Zf F E ls H locs hl hW hS
  exact va_tlen F.1 F.2.1 F.2.2.2.2.2.2.2.2.2.2.2.1 hS.1 rfl hd (hk p l e R s m args below meth c D tc g Zf F E ls H locs hl hW hS)
theorem g_rald {i : Int} (hd : decode μ.2.2.1 pc = .ok (.iaload, 1)) (h0 : 0 ≤ i) (h1 : i < 5) (hk : G μ κ (pc + 1) lo (vI (reachZ i) :: st) ρ h Q) : G μ κ pc lo (vI i :: vS false :: st) ρ h Q := by
  intro p l e R s m args below meth c D tc g Zf F E ls H locs hl hW hS
  refine va_ti F.1 F.2.1 F.2.2.2.2.2.2.2.2.2.2.2.1 hS.1 (i32_in h0 (by omega) (by omega)) (v := .int (Int32.ofInt (reachZ i))) ?_ hd (hk p l e R s m args below meth c D tc g Zf F E ls H locs hl hW hS)
  rw [i32_clamp h0 (by omega)]
  have : i = 0 ∨ i = 1 ∨ i = 2 ∨ i = 3 ∨ i = 4 := by omega
  rcases this with rfl | rfl | rfl | rfl | rfl <;> rfl
theorem g_slen (hd : decode μ.2.2.1 pc = .ok (.arraylength, 1)) (hk : G μ κ (pc + 1) lo (vI κ.2.2.2.1 :: st) ρ h Q) : G μ κ pc lo (vS true :: st) ρ h Q := by
  intro p l e R s m args below meth c D tc g Zf F E ls H locs hl hW hS
  obtain ⟨-, -, x1, x2, x3, -⟩ := F.2.2.2.2.2.2.2.2.2.2
  refine va_slen F.1 F.2.1 x1 (by omega) (by omega) hS.1 hd (W.eq ?_ (hk p l e R s m args below meth c D tc g Zf F E ls H locs hl hW hS))
  rw [← Int32.ofInt_eq_ofNat]
  rfl
theorem g_sald {i : Int} (hd : decode μ.2.2.1 pc = .ok (.iaload, 1)) (h0 : 0 ≤ i) (h1 : i < κ.2.2.2.1) (hn : κ.2.2.2.1 ≤ 2147483647) (hk : G μ κ (pc + 1) lo (vI (κ.2.2.2.2 i.toNat) :: st) ρ h Q) : G μ κ pc lo (vI i :: vS true :: st) ρ h Q := by
  intro p l e R s m args below meth c D tc g Zf F E ls H locs hl hW hS
  obtain ⟨-, -, x1, x2, x3, -⟩ := F.2.2.2.2.2.2.2.2.2.2
  refine va_sld F.1 F.2.1 x1 (by omega) (by omega) hS.1 (i32_in h0 h1 (by omega)) hd (W.eq ?_ (hk p l e R s m args below meth c D tc g Zf F E ls H locs hl hW hS))
  rw [i32_clamp h0 (by omega)]
  rfl
end MD
