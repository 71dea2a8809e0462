theorem good_tbg {ws : List Cond} (h : ∀ w ∈ ws, w ∈ tbg) : GoodIn tbg ws := fun w hw => ⟨h w hw, good_of_word (List.mem_filter.mp (h w hw)).2⟩
/-- what every call's link says -/
def mlK (own : String) (ix : Nat) (μ' : MI) (n : Nat) : Prop := Cond.methodLink own ix μ'.2.1 ∈ tbg ∧ Cond.initialized μ'.2.1.cls ∈ tbg ∧ Cond.code μ'.2.1 μ'.2.2.1 μ'.2.2.2.1 μ'.2.2.2.2 ∈ tbg ∧ (μ'.2.1.cls ≠ "java/lang/invoke/MethodHandle" ∧ μ'.2.1.cls ≠ "java/lang/invoke/VarHandle" ∧ (parseMethodDescriptor μ'.2.1.desc).map (fun d => d.parameters.length) = some n) ∧ μ'.2.2.2.1 ≤ 21
def mlV (own : String) (ix : Nat) (μ' : MI) (ci n : Nat) : Prop := mlK own ix μ' n ∧ Cond.instanceMethod μ'.2.1 ∈ tbg ∧ Cond.selects μ'.2.1.cls μ'.2.1 μ'.2.1 ∈ tbg ∧ mcl[ci]?.map (fun r => r.1) = some μ'.2.1.cls
def mlS (own : String) (ix : Nat) (μ' : MI) (n : Nat) : Prop := mlK own ix μ' n ∧ Cond.static μ'.2.1 ∈ tbg
def mlI (own : String) (ix : Nat) (μ' : MI) (n : Nat) : Prop := mlK own ix μ' n ∧ Cond.instanceMethod μ'.2.1 ∈ tbg ∧ μ'.2.1.name = "<init>" ∧ μ'.2.2.2.2 = none
theorem Pk_blind {as : List MV} {N : Nat} {h : MH} {D : va_G} {tc : Nat → ClassId} {g : GB} {Ls : Nat} {sx : Nat → Int} : FrameBlind (Pk as N h D tc g Ls sx) := by
  intro a U f mk q
  obtain ⟨q0, q1, q2, q3⟩ := q
  exact ⟨q0, q1, va_K.moved (u := U) (U := U.calling f mk a) (Vm.Alike.refl U.vm) q2, Sx.moved (u := U) (U := U.calling f mk a) (Vm.Alike.refl U.vm) (fun _ _ => rfl) q3.2.2.2.2.1 q3⟩
section ME
variable {μ : MI} {κ : KX} {pc : Nat} {lo : List (Nat × MV)} {st : List MV} {ρ : MR} {h : MH} {Q : Option MV → MR → MH → Prop}
/-- behind a call -/
theorem g_back {p : Program} {l : Launch} {e : Env} {R : Room} {s : State} {m : MethodId} {args : Array Value} {below : List Frame} {meth : Method} {c : Code} {D : va_G} {tc : Nat → ClassId} {g : GB} {Zf : State → Prop} (F : Fx μ κ D tc g p R s m args meth c)
    (E : ∀ (r : Option MV) (ρ : MR) (h : MH) (pc : Nat) (ls : Array Slot) (H : Heap) (locs : List Loc), Q r ρ h → retAt μ.2.2.1 pc r → Wd D tc g ρ.2.2 h H → Vs g s ρ H locs → W p l e R s m args below meth c H locs ρ.1 ρ.2.1 Zf (F0 m pc ls (r.toList.map (rv g))))
    {ls : Array Slot} {H : Heap} {locs : List Loc} (hl : lv_has ls μ.2.2.2.1 (lo.map (fun q => (q.1, rv g q.2)))) (hW : Wd D tc g ρ.2.2 h H) (hS : Vs g s ρ H locs) {mc ms : Nat} {Q' : Option MV → MH → Prop} {st0 : List Value} {a : Array Value}
    (hr : va_Run p l e R s m args below meth c H locs ρ.1 ρ.2.1 mc ms (F0 m pc ls st0) (st.map (rv g)) (Qk (ρ.2.2 + mc) Q' D tc g a) (fun q => g.1 ≤ q))
    (hk : ∀ r h', Q' r h' → G μ κ (pc + 3) lo (r.toList ++ st) (ρ.1 + mc, ρ.2.1 + ms, ρ.2.2 + mc) h' Q) : W p l e R s m args below meth c H locs ρ.1 ρ.2.1 Zf (F0 m pc ls st0) := by
  intro T hT X
  obtain ⟨v, st₀, t, T', L, h0, X', hL, e1, e2, ⟨r, h', hv, hq, hW', hz', hk'⟩, st1⟩ := hr T hT X
  cases hv
  rw [h0] at hz' hk'
  rw [← e1] at hW' hz' hk'
  have hS' : Vs g s (ρ.1 + mc, ρ.2.1 + ms, ρ.2.2 + mc) T'.heap (locs ++ L) := by
    refine ⟨⟨Nat.le_trans hS.1.1 hz', fun q h1 h2 => ?_, fun q hq => ?_⟩, by have := hS.2; dsimp only; omega⟩
    · rw [hk' q (Nat.lt_of_not_le h2)]
      exact hS.1.2.1 q h1 h2
    · rcases List.mem_append.mp hq with h | h
      · exact hS.1.2.2 q h
      · exact hL q h
  obtain ⟨t2, a1, b1⟩ := hk r h' hq p l e R s m args below meth c D tc g Zf F E ls T'.heap (locs ++ L) hl hW' hS' T' rfl X'
  refine ⟨t2, st1 t2 ?_, b1⟩
  rw [List.map_append] at a1
  have e9 : (r.toList.map (rv g)) = (r.map (rv g)).toList := by cases r <;> rfl
  rw [e9] at a1
  exact a1
theorem mcat_sum (g : GB) (st : List MV) : ((st.map (rv g)).map fun v => v.category).sum = (st.map mcat).sum := by
  rw [List.map_map]
  congr 1
  apply List.map_congr_left
  intro v _
  exact rv_cat g v
theorem g_callV {μ' : MI} {d mc ms ix b ci : Nat} {as : List MV} {fs : List MV} {Q' : Option MV → MH → Prop} (hL : mlV μ.1 ix μ' ci as.length) (hd : decode μ.2.2.1 pc = .ok (.invokevirtual ix, 3)) (hb : Hd ρ h b (eO ci fs)) (hst : (st.map mcat).sum ≤ 8) (hR : d + 1 ≤ κ.1) (hc : ρ.1 + mc ≤ κ.2.1) (hs : ρ.2.1 + ms ≤ κ.2.2.1)
    (hM : Ok μ' d mc ms (vR b :: as) ρ.2.2 h Q') (hk : ∀ r h', Q' r h' → G μ κ (pc + 3) lo (r.toList ++ st) (ρ.1 + mc, ρ.2.1 + ms, ρ.2.2 + mc) h' Q) : G μ κ pc lo (as.reverse ++ vR b :: st) ρ h Q := by
  intro p l e R s m args below meth c D tc g Zf F E ls H locs hl hW hS
  obtain ⟨⟨l1, l2, l3, l4, l5⟩, l6, l7, l8⟩ := hL
  have hts := F.2.2.2.2.1
  have hK := F.2.2.2.2.2.2.2.2.1
  obtain ⟨r1, r2, r3, r4⟩ := F.2.2.2.2.2.2.2.2.2.1
  obtain ⟨rc, hrc, hrn⟩ := Option.map_eq_some_iff.mp l8
  have hcell := hW.2 b _ (mws_get hb.1)
  rw [hb.2] at hcell
  obtain ⟨rc', hrc', cell, c1, c2, c3, -⟩ := hcell
  have hrr : rc' = rc := Option.some.inj (hrc'.symm.trans hrc)
  subst hrr
  have hcls := (hK.1 ci rc' hrc).2.1
  rw [hrn] at hcls
  have hgood : GoodIn tbg (wsV μ.1 ix μ'.2.1.cls μ'.2.1 (wsOf μ')) := good_tbg (fun w hw => by
    unfold wsV wsOf at hw
    simp only [List.cons_append, List.nil_append, List.mem_cons] at hw
    rcases hw with rfl | rfl | rfl | rfl | rfl | hw
    · exact l1
    · exact l6
    · exact l7
    · exact l2
    · exact l3
    · exact hw)
  have cw := cwV (R := R) (s := s) (args := args) (own := μ.1) (C := μ'.2.1.cls) (index := ix) (y := μ'.2.1) (bytes := μ'.2.2.1) (maxL := μ'.2.2.2.1) (ret := μ'.2.2.2.2) (rm := rmk d mc ms) (mc := mc) (ms := ms) as.length hts hgood rfl rfl rfl ⟨rfl, l4⟩ ⟨Nat.le_trans hR r1, by show 8 + (μ'.2.2.2.1 + 11) + 40 * d ≤ R.locals; omega⟩
  refine g_back F E hl hW hS (mc := mc) (ms := ms) (Q' := Q') (a := (Value.ref (g.1 + b) :: as.map (rv g)).toArray) ?_ hk
  refine va_runV (As := as.map (rv g)) (rest := st.map (rv g)) ⟨F.1, F.2.1, F.2.2.1, F.2.2.2.1, hts⟩ (hM l D tc g κ.2.2.2.1 κ.2.2.2.2) cw ⟨Pk_blind, ⟨cell, c1, by rw [c3]; rfl, by rw [hcls, c2]⟩, fun U hU hWm => ?_⟩ rfl (by rw [List.length_map]) hl.1 ?_ (lv_room (by rw [mcat_sum]; exact hst)) hd ⟨by rw [r3]; exact hc, by rw [r4]; exact hs⟩
  · refine ⟨rfl, by rw [hU]; exact hW, va_K.moved hWm.alike hK, Sx.moved hWm.alike (fun q hq => ?_) ?_ F.2.2.2.2.2.2.2.2.2.2⟩
    · rw [hU]
      exact hS.1.2.1 q (Nat.lt_of_lt_of_le hq F.2.2.2.2.2.2.2.2.2.2.2.2.2.2.1) (Nat.not_le.mpr hq)
    · rw [hU, hW.1]
      exact Nat.le_add_right _ _
  · show (as.reverse ++ vR b :: st).map (rv g) = _
    rw [List.map_append, List.map_reverse]
    rfl
theorem g_callS {μ' : MI} {d mc ms ix : Nat} {as : List MV} {Q' : Option MV → MH → Prop} (hL : mlS μ.1 ix μ' as.length) (hd : decode μ.2.2.1 pc = .ok (.invokestatic ix, 3)) (hst : (st.map mcat).sum ≤ 8) (hR : d + 1 ≤ κ.1) (hc : ρ.1 + mc ≤ κ.2.1) (hs : ρ.2.1 + ms ≤ κ.2.2.1)
    (hM : Ok μ' d mc ms as ρ.2.2 h Q') (hk : ∀ r h', Q' r h' → G μ κ (pc + 3) lo (r.toList ++ st) (ρ.1 + mc, ρ.2.1 + ms, ρ.2.2 + mc) h' Q) : G μ κ pc lo (as.reverse ++ st) ρ h Q := by
  intro p l e R s m args below meth c D tc g Zf F E ls H locs hl hW hS
  obtain ⟨⟨l1, l2, l3, l4, l5⟩, l6⟩ := hL
  have hts := F.2.2.2.2.1
  have hK := F.2.2.2.2.2.2.2.2.1
  obtain ⟨r1, r2, r3, r4⟩ := F.2.2.2.2.2.2.2.2.2.1
  have hgood : GoodIn tbg (va_wsS μ.1 ix μ'.2.1 (wsOf μ')) := good_tbg (fun w hw => by
    unfold va_wsS wsOf at hw
    simp only [List.cons_append, List.nil_append, List.mem_cons] at hw
    rcases hw with rfl | rfl | rfl | rfl | hw
    · exact l1
    · exact l6
    · exact l2
    · exact l3
    · exact hw)
  have cw := va_cwS (R := R) (s := s) (args := args) (own := μ.1) (index := ix) (y := μ'.2.1) (bytes := μ'.2.2.1) (maxL := μ'.2.2.2.1) (ret := μ'.2.2.2.2) (rm := rmk d mc ms) (mc := mc) (ms := ms) as.length hts hgood rfl rfl rfl l4 ⟨Nat.le_trans hR r1, by show 8 + (μ'.2.2.2.1 + 11) + 40 * d ≤ R.locals; omega⟩
  refine g_back F E hl hW hS (mc := mc) (ms := ms) (Q' := Q') (a := (as.map (rv g)).toArray) ?_ hk
  refine va_runS (As := as.map (rv g)) (rest := st.map (rv g)) ⟨F.1, F.2.1, F.2.2.1, F.2.2.2.1, hts⟩ (hM l D tc g κ.2.2.2.1 κ.2.2.2.2) cw ⟨Pk_blind, fun U hU hWm => ?_⟩ rfl (by rw [List.length_map]) hl.1 ?_ (lv_room (by rw [mcat_sum]; exact hst)) hd ⟨by rw [r3]; exact hc, by rw [r4]; exact hs⟩
  · refine ⟨rfl, by rw [hU]; exact hW, va_K.moved hWm.alike hK, Sx.moved hWm.alike (fun q hq => ?_) ?_ F.2.2.2.2.2.2.2.2.2.2⟩
    · rw [hU]
      exact hS.1.2.1 q (Nat.lt_of_lt_of_le hq F.2.2.2.2.2.2.2.2.2.2.2.2.2.2.1) (Nat.not_le.mpr hq)
    · rw [hU, hW.1]
      exact Nat.le_add_right _ _
  · show (as.reverse ++ st).map (rv g) = _
    rw [List.map_append, List.map_reverse]
theorem g_callI {μ' : MI} {d mc ms ix b : Nat} {as : List MV} {Q' : Option MV → MH → Prop} (hL : mlI μ.1 ix μ' as.length) (hd : decode μ.2.2.1 pc = .ok (.invokespecial ix, 3)) (hst : (st.map mcat).sum ≤ 8) (hR : d + 1 ≤ κ.1) (hc : ρ.1 + mc ≤ κ.2.1) (hs : ρ.2.1 + ms ≤ κ.2.2.1)
    (hM : Ok μ' d mc ms (vR b :: as) ρ.2.2 h Q') (hk : ∀ r h', Q' r h' → G μ κ (pc + 3) lo (r.toList ++ st) (ρ.1 + mc, ρ.2.1 + ms, ρ.2.2 + mc) h' Q) : G μ κ pc lo (as.reverse ++ vR b :: st) ρ h Q := by
  intro p l e R s m args below meth c D tc g Zf F E ls H locs hl hW hS
  obtain ⟨⟨l1, l2, l3, l4, l5⟩, l6, l7, l8⟩ := hL
  have hts := F.2.2.2.2.1
  have hK := F.2.2.2.2.2.2.2.2.1
  obtain ⟨r1, r2, r3, r4⟩ := F.2.2.2.2.2.2.2.2.2.1
  have hgood : GoodIn tbg (wsOf μ') := good_tbg (fun w hw => by
    unfold wsOf at hw
    rcases List.mem_cons.mp hw with rfl | hw
    · exact l3
    · exact hw)
  have hw9 : wsOf μ' = Cond.code μ'.2.1 μ'.2.2.1 μ'.2.2.2.1 none :: tbg := by rw [← l8]; rfl
  have cw := cwI (R := R) (s := s) (args := args) (own := μ.1) (index := ix) (y := μ'.2.1) (bytes := μ'.2.2.1) (maxL := μ'.2.2.2.1) (rm := rmk d mc ms) (mc := mc) (ms := ms) as.length hts hgood hw9 rfl rfl (hts _ l2) (hts _ l1) (hts _ l6) l7 l4 ⟨Nat.le_trans hR r1, by show 8 + (μ'.2.2.2.1 + 11) + 40 * d ≤ R.locals; omega⟩
  refine g_back F E hl hW hS (mc := mc) (ms := ms) (Q' := Q') (a := (Value.ref (g.1 + b) :: as.map (rv g)).toArray) ?_ hk
  refine va_runI (As := as.map (rv g)) (rest := st.map (rv g)) ⟨F.1, F.2.1, F.2.2.1, F.2.2.2.1, hts⟩ (hM l D tc g κ.2.2.2.1 κ.2.2.2.2) cw ⟨Pk_blind, fun U hU hWm => ?_⟩ rfl (by rw [List.length_map]) hl.1 ?_ (lv_room (by rw [mcat_sum]; exact hst)) hd ⟨by rw [r3]; exact hc, by rw [r4]; exact hs⟩
  · refine ⟨rfl, by rw [hU]; exact hW, va_K.moved hWm.alike hK, Sx.moved hWm.alike (fun q hq => ?_) ?_ F.2.2.2.2.2.2.2.2.2.2⟩
    · rw [hU]
      exact hS.1.2.1 q (Nat.lt_of_lt_of_le hq F.2.2.2.2.2.2.2.2.2.2.2.2.2.2.1) (Nat.not_le.mpr hq)
    · rw [hU, hW.1]
      exact Nat.le_add_right _ _
  · show (as.reverse ++ vR b :: st).map (rv g) = _
    rw [List.map_append, List.map_reverse]
    rfl
end ME
