/-! ===== the small machine: contracts and calls ===== -/
def wsOf (μ : MI) : List Cond := Cond.code μ.2.1 μ.2.2.1 μ.2.2.2.1 μ.2.2.2.2 :: tbg
theorem tbl_GoodIn : GoodIn tbg tbg := fun w hw => ⟨hw, good_of_word (List.mem_filter.mp hw).2⟩
def rmk (d mc ms : Nat) : Room := { frames := d, cells := mc, slots := ms, locals := 40 * d }
/-- what a method begins with: its arguments, the cells, what never changes -/
def Pk (as : List MV) (N : Nat) (h : MH) (D : va_G) (tc : Nat → ClassId) (g : GB) (Ls : Nat) (sx : Nat → Int) : Array Value → State → Prop :=
  va_Pc (as.map (rv g)) (fun U => Wd D tc g N h U.heap ∧ va_K D mcl (mtys tc) U ∧ Sx tc g Ls sx U)
def Qk (N : Nat) (Q : Option MV → MH → Prop) (D : va_G) (tc : Nat → ClassId) (g : GB) : Array Value → State → Outcome → State → Prop :=
  fun _ st o t => ∃ (r : Option MV) (h : MH), o = .returned (r.map (rv g)) ∧ Q r h ∧ Wd D tc g N h t.heap ∧ st.heap.size ≤ t.heap.size ∧ ∀ q : Nat, q < g.1 → t.heap[q]? = st.heap[q]?
/-- the contract: from the cells (N, h) and the arguments as, the method ends, with Q; it makes mc cells of ms slots, and d frames are enough -/
def Ok (μ : MI) (d mc ms : Nat) (as : List MV) (N : Nat) (h : MH) (Q : Option MV → MH → Prop) : Prop :=
  ∀ (l : Launch) (D : va_G) (tc : Nat → ClassId) (g : GB) (Ls : Nat) (sx : Nat → Int), Met l μ.2.1 (wsOf μ) (rmk d mc ms) (Pk as N h D tc g Ls sx) (Qk (N + mc) Q D tc g) mc ms (fun q => g.1 ≤ q)
theorem Sx.moved {tc : Nat → ClassId} {g : GB} {Ls : Nat} {sx : Nat → Int} {u U : State} (hvm : u.vm.Alike U.vm) (hq : ∀ q : Nat, q < g.1 → U.heap[q]? = u.heap[q]?) (hz : g.1 ≤ U.heap.size) (h : Sx tc g Ls sx u) : Sx tc g Ls sx U := by
  obtain ⟨h1, h2, h3, h4, h5, ⟨kA, h6, h7⟩, ⟨kB, h8⟩, h9, h10, h11⟩ := h
  refine ⟨?_, ?_, ?_, h4, hz, ?_, ?_, AOx_obj hvm h9, AOx_obj hvm h10, AOx_arr hvm h11⟩
  · exact va_Z.moved hvm (h1.kept (fun q _ hq2 => hq q (Nat.lt_of_not_le hq2)))
  · exact va_T.moved hvm (h2.kept (fun q _ hq2 => hq q (Nat.lt_of_not_le hq2)))
  · exact va_X.moved hvm (h3.kept (hq _ h4))
  · obtain ⟨k', hk', he⟩ := hvm.2.2 _ _ h6
    exact ⟨k', hk', by rw [he]; exact h7⟩
  · obtain ⟨k', hk', he⟩ := hvm.2.2 _ _ h8
    exact ⟨k', hk'⟩
theorem W_size {p : Program} {l : Launch} {e : Env} {R : Room} {s : State} {m : MethodId} {args : Array Value} {below : List Frame} {meth : Method} {c : Code} {H : Heap} {locs : List Loc} {k sl : Nat} {Q : State → Prop} {f : JFrame} (h : H.size ≤ s.heap.size + k → W p l e R s m args below meth c H locs k sl Q f) : W p l e R s m args below meth c H locs k sl Q f := by
  intro T hT X
  have hz := X.same.2.2.1
  have hz : T.heap.size ≤ s.heap.size + k := hz
  rw [hT] at hz
  exact h hz T hT X
/-- the arguments in the locals -/
def lo0 : Nat → List MV → List (Nat × MV)
  | _, [] => []
  | i, v :: vs => (i, v) :: lo0 (if mcat v = 2 then i + 2 else i + 1) vs
def lo0n : List MV → Nat
  | [] => 0
  | v :: vs => (if mcat v = 2 then 2 else 1) + lo0n vs
theorem lo0_eq (g : GB) : ∀ (as : List MV) (i : Nat), lv_args i (as.map (rv g)) = (lo0 i as).map (fun q => (q.1, rv g q.2))
  | [], _ => rfl
  | v :: vs, i => by
    show (i, rv g v) :: lv_args _ (vs.map (rv g)) = (i, rv g v) :: (lo0 _ vs).map _
    rw [rv_cat, lo0_eq g vs]
theorem lo0_len (g : GB) : ∀ (as : List MV), (lg_sl (as.map (rv g))).length = lo0n as
  | [] => rfl
  | v :: vs => by
    have ih := lo0_len g vs
    unfold lg_sl at ih ⊢
    rw [List.map_cons, List.flatMap_cons, List.length_append, ih, rv_cat]
    show _ = (if mcat v = 2 then 2 else 1) + lo0n vs
    split <;> rfl
/-- the answer is of the method's type -/
def retOk (t : Option FieldType) : Option MV → Prop
  | none => t = none
  | some (.inl x) => t = some .int ∨ (t = some .boolean ∧ (x = 0 ∨ x = 1))
  | some (.inr (.inl _)) => t = some .long
  | some (.inr (.inr (.inl _))) => ∃ rt, t = some rt ∧ ((∃ n, rt = .object n) ∨ ∃ u, rt = .array u)
  | some (.inr (.inr (.inr _))) => False
def Pq (μ : MI) (mc ms : Nat) (Q : Option MV → MH → Prop) : Option MV → MR → MH → Prop := fun r ρ h => ρ.1 = mc ∧ ρ.2.1 ≤ ms ∧ retOk μ.2.2.2.2 r ∧ Q r h
/-- a method's contract out of its walk -/
theorem Ok.of {μ : MI} {d mc ms N : Nat} {as : List MV} {h : MH} {Q : Option MV → MH → Prop} (hy : plainFor μ.2.1 = true) (hcls : μ.2.1.cls = μ.1) (hlen : lo0n as ≤ μ.2.2.2.1)
    (hG : ∀ (Ls : Nat) (sx : Nat → Int), G μ (d, mc, ms, Ls, sx) 0 (lo0 0 as) [] (0, 0, N) h (Pq μ mc ms Q)) : Ok μ d mc ms as N h Q := by
  intro l D tc g Ls sx
  refine va_MetF (cc := μ.2.2.1) (maxL := μ.2.2.2.1) (ret := μ.2.2.2.2) hy rfl ?_
  intro p e s m args below meth c s₁ B hml hv
  obtain ⟨rfl, hW, hK, hSx⟩ := hv
  have hts := atoms_spec (ws := wsOf μ) B.pre
  have hown : s.vm.findClass μ.1 = some m.cls := hcls ▸ findClass_of_methodNamed B.named
  have hn : meth.name = μ.2.1.name := (name_of_methodNamed B.named B.method).1
  have hl := lv_entry (as.map (rv g)) (n := μ.2.2.2.1) (by rw [lo0_len]; exact hlen)
  rw [lg_entry_eq]
  generalize (lg_sl (as.map (rv g)) ++ List.replicate (μ.2.2.2.1 - (lg_sl (as.map (rv g))).length) Slot.unset).toArray = ls at hl ⊢
  rw [lo0_eq] at hl
  have hlocks := B.notSynchronized
  refine hG Ls sx p l e _ s m _ below meth c D tc g _ ⟨B.exec, B.bytes, hml, hown, fun w hw => hts w (List.mem_cons_of_mem _ hw), hlocks, B.returns, hn, hK, ⟨Nat.le_refl _, Nat.le_refl _, rfl, rfl⟩, hSx⟩ ?_ ls s.heap [] hl hW ⟨va_S.rf, hW.1⟩
  intro r ρ h2 pc ls2 H locs hq hret hW2 hS2
  obtain ⟨q1, q2, q3, q4⟩ := hq
  refine W.widen (k := mc) (n := ms) (Nat.le_of_eq q1) q2 ?_
  have hN : ρ.2.2 = N + mc := by
    have h1 := hS2.2
    have h2 := hW.1
    omega
  rw [hN] at hW2
  have hfin : ∀ t : State, t.heap = H → Qk (N + mc) Q D tc g (as.map (rv g)).toArray s (.returned (r.map (rv g))) t := fun t ht => ⟨r, h2, rfl, q4, by rw [ht]; exact hW2, by rw [ht]; exact hS2.1.1, fun q hq => by rw [ht]; exact hS2.1.2.1 q (Nat.lt_of_lt_of_le hq hSx.2.2.2.2.1) (Nat.not_le.mpr hq)⟩
  have hfree : ∀ q ∈ locs, (fun q => g.1 ≤ q) q.base := hS2.1.2.2
  rcases r with _ | (x | x | (_ | x) | x)
  · exact W.vret B.exec B.bytes (B.returns.trans q3) (fun t ht _ => hfin t ht) hfree hret
  · rcases q3 with q3 | ⟨q3, q5⟩
    · exact W.iret B.exec B.bytes (B.returns.trans q3) (fun t ht _ => hfin t ht) hfree hret
    · exact W.zret B.exec B.bytes (B.returns.trans q3) ((okv_bool q5 g).1) (fun t ht _ => hfin t ht) hfree hret
  · exact W.lret B.exec B.bytes (B.returns.trans q3) (fun t ht _ => hfin t ht) hfree hret
  · obtain ⟨rt, q3, q5⟩ := q3
    exact W.aret B.exec B.bytes (B.returns.trans q3) q5 (Or.inl rfl) (fun t ht _ => hfin t ht) hfree hret
  · obtain ⟨rt, q3, q5⟩ := q3
    exact W.aret B.exec B.bytes (B.returns.trans q3) q5 (Or.inr ⟨_, rfl⟩) (fun t ht _ => hfin t ht) hfree hret
  · cases q3
