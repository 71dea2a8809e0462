/-! ===== rows of the small machine that touch cells ===== -/
/-- cell a is there, and holds e -/
def Hd (ρ : MR) (h : MH) (a : Nat) (e : ME) : Prop := a < ρ.2.2 ∧ h a = e
theorem Hd.ne {ρ : MR} {h : MH} {a b : Nat} {e e2 : ME} (hb : Hd ρ h b e2) (n : b ≠ a) : Hd ρ (va_up h a e) b e2 := ⟨hb.1, (va_up_ne h e n).trans hb.2⟩
theorem Hd.self {ρ : MR} {h : MH} {a : Nat} {e e2 : ME} (ha : Hd ρ h a e2) : Hd ρ (va_up h a e) a e := ⟨ha.1, va_up_self h a e⟩
def FL (own : String) (ix ci k : Nat) : Prop := ∃ (C : String) (T : u_T) (N : Nat), mcl[ci]? = some (C, T, N) ∧ (∀ w ∈ u_ws C T N, w ∈ tbg) ∧ k < N ∧ Cond.fieldLink own ix (T k).1 (T k).2.1 (T k).2.2.1 ∈ tbg
/-- a field that may be written; fin: only in its constructor -/
def FP (own : String) (ix ci k : Nat) (ty : FieldType) (fin : Bool) : Prop := ∃ (C : String) (T : u_T) (N : Nat) (ty0 : Nat → FieldType), mcl[ci]? = some (C, T, N) ∧ (∀ w ∈ u_ws C T N, w ∈ tbg) ∧ k < N ∧ Cond.fieldLink own ix (T k).1 (T k).2.1 (T k).2.2.1 ∈ tbg ∧ (∀ k, k < N → parseFieldDescriptor (T k).2.2.1 = some (ty0 k)) ∧ (∀ a, a < N → ∀ b, b < N → a ≠ b → (T a).2.1 ≠ (T b).2.1) ∧ (T k).2.2.2 = fin ∧ parseFieldDescriptor (T k).2.2.1 = some ty ∧ (fin = true → (T k).1 = own)
def okv (ty : FieldType) (v : MV) : Prop := ∀ g : GB, narrow ty (rv g v) = rv g v ∧ fits ty (rv g v) = true
theorem okv_int (x : Int) : okv .int (vI x) := fun _ => ⟨rfl, rfl⟩
theorem okv_long (x : Int) : okv .long (vJ x) := fun _ => ⟨rfl, rfl⟩
theorem okv_bool0 : okv .boolean (vI 0) := fun _ => ⟨rfl, rfl⟩
theorem okv_bool1 : okv .boolean (vI 1) := fun _ => ⟨rfl, rfl⟩
theorem okv_bool {x : Int} (h : x = 0 ∨ x = 1) : okv .boolean (vI x) := by
  rcases h with rfl | rfl
  · exact okv_bool0
  · exact okv_bool1
theorem okv_obj (C : String) (o : Option Nat) : okv (.object C) (vO o) := by
  cases o <;> exact fun _ => ⟨rfl, rfl⟩
theorem okv_arr (t : FieldType) (o : Option Nat) : okv (.array t) (vO o) := by
  cases o <;> exact fun _ => ⟨rfl, rfl⟩
theorem Wd_put {D : va_G} {tc : Nat → ClassId} {g : GB} {N a : Nat} {h : MH} {e : ME} {H1 H : Heap} (hW : Wd D tc g N h H) (ha : a < N) (hz : H1.size = H.size) (hP : va_P D mcl ((mws tc g N h).set a (g.1 + a, rE tc g e)) H1) : Wd D tc g N (va_up h a e) H1 := ⟨hz.trans hW.1, by rw [← mws_set ha]; exact hP⟩
theorem Wd_set {D : va_G} {tc : Nat → ClassId} {g : GB} {N a : Nat} {h : MH} {e : ME} {H1 H : Heap} (hW : Wd D tc g N h H) (ha : a < N) (hz : H1.size = H.size) (oq : ∀ q : Nat, q ≠ g.1 + a → H1[q]? = H[q]?) (he : va_at D mcl (g.1 + a, rE tc g e) H1) : Wd D tc g N (va_up h a e) H1 := Wd_put hW ha hz (hW.2.set mws_D (mws_get ha) he oq)
theorem upd_of (f : Nat → Int) (k : Nat) (x : Int) : upd (fun j => Int32.ofInt (f j)) k (Int32.ofInt x) = fun j => Int32.ofInt (va_up f k x j) := by
  funext j
  unfold upd va_up
  split <;> rfl
theorem updL_of (f : Nat → Int) (k : Nat) (x : Int) : vp_updL (fun j => Int64.ofInt (f j)) k (Int64.ofInt x) = fun j => Int64.ofInt (va_up f k x j) := by
  funext j
  unfold vp_updL va_up
  split <;> rfl
theorem upq_of (z : Nat) (f : Nat → Option Nat) (k : Nat) (x : Option Nat) : va_up (fun j => (f j).map (fun a => z + a)) k (x.map (fun a => z + a)) = fun j => (va_up f k x j).map (fun a => z + a) := by
  funext j
  unfold va_up
  split <;> rfl
section MC
variable {μ : MI} {κ : KX} {pc : Nat} {lo : List (Nat × MV)} {st : List MV} {ρ : MR} {h : MH} {Q : Option MV → MR → MH → Prop}
theorem g_getf {a ci k ix : Nat} {fs : List MV} {v : MV} (hf : FL μ.1 ix ci k) (hd : decode μ.2.2.1 pc = .ok (.getfield ix, 3)) (hc : Hd ρ h a (eO ci fs)) (hv : fs[k]? = some v) (hk : G μ κ (pc + 3) lo (v :: st) ρ h Q) : G μ κ pc lo (vR a :: st) ρ h Q := by
  intro p l e R s m args below meth c D tc g Zf F E ls H locs hl hW hS
  obtain ⟨C, T, N, f1, f2, f3, f4⟩ := hf
  have ha : (mws tc g ρ.2.2 h)[a]? = some (g.1 + a, .inr (ci, fs.map (rv g))) := by rw [mws_get hc.1, hc.2]; rfl
  exact va_get (D := D) (ci := ci) (v := rv g v) (C := C) (T := T) (N := N) F.1 F.2.1 F.2.2.2.2.1 f2 F.2.2.2.1 F.2.2.2.2.2.2.2.2.1 hW.2 a ha f1 k f3 (F.2.2.2.2.1 _ f4) (fun _ q => q) (by rw [List.getElem?_map, hv]; rfl) hd (hk p l e R s m args below meth c D tc g Zf F E ls H locs hl hW hS)
theorem g_putf {a ci k ix : Nat} {fs : List MV} {v : MV} {ty : FieldType} (hf : FP μ.1 ix ci k ty false) (hd : decode μ.2.2.1 pc = .ok (.putfield ix, 3)) (hc : Hd ρ h a (eO ci fs)) (hv : okv ty v) (hl0 : k < fs.length) (hk : G μ κ (pc + 3) lo st ρ (va_up h a (eO ci (fs.set k v))) Q) : G μ κ pc lo (v :: vR a :: st) ρ h Q := by
  intro p l e R s m args below meth c D tc g Zf F E ls H locs hl hW hS
  obtain ⟨C, T, N, ty0, f1, f2, f3, f4, f5, f6, f7, f8, -⟩ := hf
  have ha : (mws tc g ρ.2.2 h)[a]? = some (g.1 + a, .inr (ci, fs.map (rv g))) := by rw [mws_get hc.1, hc.2]; rfl
  have hts := F.2.2.2.2.1
  have hK := F.2.2.2.2.2.2.2.2.1
  have hap := va_apart (own := μ.1) hts f2 ty0 f5 f6 hK f1
  obtain ⟨r, h1, cell, q1, q2, q3, q4⟩ := hW.2 a _ ha
  have hr : r = (C, T, N) := Option.some.inj (h1.symm.trans f1)
  subst hr
  obtain ⟨hSl, hfc, kC, hkC, hkind⟩ := hK.1 ci _ f1
  obtain ⟨cf, kf, fi, fd, hi, hsl⟩ := hSl k f3
  have hlay := hts _ (f2 _ (u_in_lay f3))
  unfold u_lay at hlay
  rw [if_neg (by rw [f7]; decide)] at hlay
  have hst := (u_facts hfc hkC (u_lays hts f2 f3) hi).1
  have h6 := u_store hfc hkC hkind hlay hi f8 (hv g).1 (hv g).2
  refine W.putK F.1 F.2.1 (f := fd) ⟨F.2.2.2.1, hts _ f4, ⟨_, _, _, hi⟩, hst⟩ (by rw [q2]; exact h6) q1 q3 (by rw [hsl]; exact k2_hasslot (q4 k f3)) rfl rfl hd fun H1 e1 e2 e3 => ?_
  rw [hsl] at e1 ⊢
  refine hk p l e R s m args below meth c D tc g Zf F E ls H1 _ hl (Wd_set hW hc.1 e2 e3 ⟨_, f1, ?_⟩) ⟨hS.1.put e2 e3 (Nat.le_add_right _ _), hS.2⟩
  refine t_OB.to (V := updV (vp_V (fs.map (rv g))) k (rv g v)) ⟨_, e1, q2, q3, t_set q4 hap f3 (rv g v)⟩ (fun j _ => ?_)
  show _ = vp_V ((fs.set k v).map (rv g)) j
  rw [List.map_set]
  exact vp_updV_set (by rw [List.length_map]; exact hl0) (rv g v) j
theorem g_putF {a ci k ix : Nat} {fs : List MV} {v : MV} {ty : FieldType} (hf : FP μ.1 ix ci k ty true) (hd : decode μ.2.2.1 pc = .ok (.putfield ix, 3)) (hi0 : μ.2.1.name = "<init>") (hc : Hd ρ h a (eO ci fs)) (hv : okv ty v) (hl0 : k < fs.length) (hk : G μ κ (pc + 3) lo st ρ (va_up h a (eO ci (fs.set k v))) Q) : G μ κ pc lo (v :: vR a :: st) ρ h Q := by
  intro p l e R s m args below meth c D tc g Zf F E ls H locs hl hW hS
  obtain ⟨C, T, N, ty0, f1, f2, f3, f4, f5, f6, f7, f8, f9⟩ := hf
  have ha : (mws tc g ρ.2.2 h)[a]? = some (g.1 + a, .inr (ci, fs.map (rv g))) := by rw [mws_get hc.1, hc.2]; rfl
  have hts := F.2.2.2.2.1
  have hK := F.2.2.2.2.2.2.2.2.1
  have hap := va_apart (own := μ.1) hts f2 ty0 f5 f6 hK f1
  obtain ⟨r, h1, cell, q1, q2, q3, q4⟩ := hW.2 a _ ha
  have hr : r = (C, T, N) := Option.some.inj (h1.symm.trans f1)
  subst hr
  obtain ⟨hSl, hfc, kC, hkC, hkind⟩ := hK.1 ci _ f1
  obtain ⟨cf, kf, fi, fd, hi, hsl⟩ := hSl k f3
  have hlay := hts _ (f2 _ (u_in_lay f3))
  unfold u_lay at hlay
  rw [if_pos f7] at hlay
  have hst := (u_facts hfc hkC (u_lays hts f2 f3) hi).1
  have hcf : m.cls = cf := by
    obtain ⟨_, _, c', _, _, _, -, -, hf', -, -, -, hown2, -⟩ := Cond.laysFinal_spec hlay
    have e1 : c' = cf := by have := hi.symm.trans hf'; simp at this; exact this.1.symm
    rw [f9 rfl] at hown2
    rw [← e1]; exact Option.some.inj (F.2.2.2.1.symm.trans hown2)
  have h6 := u_fits hfc hkC hkind (Or.inr hlay) hi f8 (hv g).1 (hv g).2
  refine W.putFinK F.1 F.2.1 F.2.2.2.1 (hts _ f4) hi hst hcf (F.2.2.2.2.2.2.2.1.trans hi0) (by rw [q2]; exact h6) q1 q3 (by rw [hsl]; exact k2_hasslot (q4 k f3)) rfl rfl hd fun H1 e1 e2 e3 => ?_
  rw [hsl] at e1 ⊢
  refine hk p l e R s m args below meth c D tc g Zf F E ls H1 _ hl (Wd_set hW hc.1 e2 e3 ⟨_, f1, ?_⟩) ⟨hS.1.put e2 e3 (Nat.le_add_right _ _), hS.2⟩
  refine t_OB.to (V := updV (vp_V (fs.map (rv g))) k (rv g v)) ⟨_, e1, q2, q3, t_set q4 hap f3 (rv g v)⟩ (fun j _ => ?_)
  show _ = vp_V ((fs.set k v).map (rv g)) j
  rw [List.map_set]
  exact vp_updV_set (by rw [List.length_map]; exact hl0) (rv g v) j
end MC
