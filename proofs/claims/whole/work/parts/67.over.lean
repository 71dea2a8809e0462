/-! ===== arrays of arrays: the word 'arrayOver' in a state whose classes are alike ===== -/
def AOx (t : FieldType) (U : State) : Prop := (Cond.arrayOver t).before #[] U = true
theorem AOx_obj {C : String} {u U : State} (hvm : u.vm.Alike U.vm) (h : AOx (.object C) u) : AOx (.object C) U := va_AO.moved hvm h
theorem AOx_arr {u U : State} (hvm : u.vm.Alike U.vm) (h : AOx (.array .int) u) : AOx (.array .int) U := by
  unfold AOx Cond.before Cond.holds at h ⊢
  simp only [Cond.value, beq_iff_eq] at h ⊢
  cases hc : u.vm.findClass (FieldType.array FieldType.int).toString with
  | none => simp [hc] at h
  | some comp =>
    have f1 : U.vm.findClass (FieldType.array FieldType.int).toString = some comp := by rw [hvm.findClass]; exact hc
    simp only [hc, Option.bind_some, Option.bind_eq_some_iff, Option.map_eq_some_iff] at h
    obtain ⟨c, hi, k, hk, hb⟩ := h
    obtain ⟨k', hk', he⟩ := hvm.2.2 _ _ hk
    have hi' : (U.vm.classes.findIdx? fun (x : Class) => match x.kind with | .array component _ => component == comp | _ => false) = some c := by
      have z1 := va_idx_bare U.vm comp
      have z2 := va_idx_bare u.vm comp
      have z3 : U.vm.bare = u.vm.bare := by first | exact hvm.bare_eq | exact hvm.bare_eq.symm
      rw [z3] at z1
      exact (z1.symm.trans z2).trans hi
    rw [f1, Option.bind_some, Option.bind_eq_some_iff]
    refine ⟨c, hi', ?_⟩
    rw [Option.map_eq_some_iff]
    refine ⟨k', hk', ?_⟩
    rw [he, hvm.findClass]
    exact hb
