/-! ===== the reference: begins, tell ===== -/
theorem c_begins {N d x : Nat} {th wd pm fm mu um pr ts : Int} {p : Int} {h : MH} (hx : Hd (0, 0, N) h x (mdl x th wd pm fm mu um pr ts)) : Ok mX11_begins d 0 0 [vR x, vI p] N h (fun r h2 => r = none ∧ h2 x = mdl x th wd pm fm mu um p 0 ∧ ∀ b, b ≠ x → h2 b = h b) := by
  refine Ok.of pfX11_begins rfl (Nat.le_of_ble_eq_true rfl) (fun Ls sx => ?_)
  show G mX11_begins (d, 0, 0, Ls, sx) 0 [(0, vR x), (1, vI p)] [] (0, 0, N) h _
  refine g_aload_n (pc := 0) (r := .inl (some x)) dX11_begins_0 rfl ?_
  refine g_iload_n (pc := 1) (x := p) dX11_begins_1 rfl ?_
  refine g_putf (pc := 2) fpX11_267 dX11_begins_2 hx (okv_int _) (Nat.le_of_ble_eq_true rfl) ?_
  have hx_1 := hx.self (e := mdl x th wd pm fm mu um p ts)
  refine g_aload_n (pc := 5) (r := .inl (some x)) dX11_begins_5 rfl ?_
  refine g_iconst (pc := 6) dX11_begins_6 ?_
  refine g_putf (pc := 7) fpX11_270 dX11_begins_7 hx_1 (okv_int _) (Nat.le_of_ble_eq_true rfl) ?_
  have hx_2 := hx_1.self (e := mdl x th wd pm fm mu um p 0)
  exact r_void (pc := 10) dX11_begins_10 rfl rfl (Nat.le_refl _) ⟨rfl, hx_2.2, fun b b1 => (va_up_ne _ _ b1).trans (va_up_ne _ _ b1)⟩

theorem c_mtell {N d x k p : Nat} {th wd pm fm mu um v : Int} {L : Nat → Int} {h : MH} (hv : i32 v) (hp : 0 < p) (hp2 : p ≤ 499) (hk : k ≤ 64) (hx : Hd (0, 0, N) h x (mdl x th wd pm fm mu um ((p : Nat) : Int) ((k : Nat) : Int))) (hL : Hd (0, 0, N) h (x + 26) (eA 0 64 L)) : Ok mX11_tell (d + 1) 0 0 [vR x, vI v] N h (fun r h2 => (k = 64 → r = some (vI (-1)) ∧ h2 x = mdl x 0 wd pm fm mu um ((p : Nat) : Int) ((k : Nat) : Int) ∧ ∀ b, b ≠ x → h2 b = h b) ∧ (k < 64 → r = some (vI ((k + 1 : Nat) : Int)) ∧ h2 x = mdl x 0 wd pm fm mu um ((p : Nat) : Int) ((k + 1 : Nat) : Int) ∧ h2 (x + 26) = eA 0 64 (va_up L k (v % (p : Int))) ∧ ∀ b, b ≠ x → b ≠ x + 26 → h2 b = h b)) := by
  refine Ok.of pfX11_tell rfl (Nat.le_of_ble_eq_true rfl) (fun Ls sx => ?_)
  show G mX11_tell (d + 1, 0, 0, Ls, sx) 0 [(0, vR x), (1, vI v)] [] (0, 0, N) h _
  refine g_aload_n (pc := 0) (r := .inl (some x)) dX11_tell_0 rfl ?_
  refine g_iconst (pc := 1) dX11_tell_1 ?_
  refine g_putf (pc := 2) fpX11_104 dX11_tell_2 hx (okv_int _) (Nat.le_of_ble_eq_true rfl) ?_
  have hx_1 := hx.self (e := mdl x 0 wd pm fm mu um ((p : Nat) : Int) ((k : Nat) : Int))
  have hL_1 := hL.ne (e := mdl x 0 wd pm fm mu um ((p : Nat) : Int) ((k : Nat) : Int)) (a := x) (by omega)
  refine g_aload_n (pc := 5) (r := .inl (some x)) dX11_tell_5 rfl ?_
  refine g_getf (pc := 6) (v := vI ((k : Nat) : Int)) flX11_270 dX11_tell_6 hx_1 rfl ?_
  refine g_bipush (pc := 9) dX11_tell_9 (by decide +kernel) ?_
  refine g_icmp_ne (pc := 11) (tgt := 16) dX11_tell_11 (by decide) (by omega) (by omega) (fun hc => ?_) (fun hc => ?_)
  · refine g_aload_n (pc := 16) (r := .inl (some x)) dX11_tell_16 rfl ?_
    refine g_getf (pc := 17) (v := vR (x + 26)) flX11_88 dX11_tell_17 hx_1 rfl ?_
    refine g_aload_n (pc := 20) (r := .inl (some x)) dX11_tell_20 rfl ?_
    refine g_getf (pc := 21) (v := vI ((k : Nat) : Int)) flX11_270 dX11_tell_21 hx_1 rfl ?_
    refine g_iload_n (pc := 24) (x := v) dX11_tell_24 rfl ?_
    refine g_i2l (pc := 25) dX11_tell_25 (by omega) ?_
    refine g_aload_n (pc := 26) (r := .inl (some x)) dX11_tell_26 rfl ?_
    refine g_getf (pc := 27) (v := vI ((p : Nat) : Int)) flX11_267 dX11_tell_27 hx_1 rfl ?_
    refine g_callS0 (pc := 30) (as := [vJ v, vI ((p : Nat) : Int)]) (st := [vI ((k : Nat) : Int), vR (x + 26)]) lsX11_116 dX11_tell_30 (Nat.le_of_ble_eq_true rfl) (by omega) (Nat.zero_le _) (Nat.zero_le _) (c_mrestOf (d := d) (by omega) (by omega) (by omega)) ?_
    rintro r h2 ⟨e9, rfl⟩
    subst e9
    refine g_iastN (pc := 33) (j := k) dX11_tell_33 hL_1 (by omega) (by omega) (by omega) ?_
    have hx_2 := hx_1.ne (e := eA 0 64 (va_up L k (v % ((p : Nat) : Int)))) (a := x + 26) (by omega)
    have hL_2 := hL_1.self (e := eA 0 64 (va_up L k (v % ((p : Nat) : Int))))
    refine g_aload_n (pc := 34) (r := .inl (some x)) dX11_tell_34 rfl ?_
    refine g_dup (pc := 35) dX11_tell_35 rfl ?_
    refine g_getf (pc := 36) (v := vI ((k : Nat) : Int)) flX11_270 dX11_tell_36 hx_2 rfl ?_
    refine g_iconst (pc := 39) dX11_tell_39 ?_
    refine g_iadd (pc := 40) dX11_tell_40 ?_
    refine g_putf (pc := 41) fpX11_270 dX11_tell_41 hx_2 (okv_int _) (Nat.le_of_ble_eq_true rfl) ?_
    have hx_3 := hx_2.self (e := mdl x 0 wd pm fm mu um ((p : Nat) : Int) (((k : Nat) : Int) + 1))
    have hL_3 := hL_2.ne (e := mdl x 0 wd pm fm mu um ((p : Nat) : Int) (((k : Nat) : Int) + 1)) (a := x) (by omega)
    refine g_aload_n (pc := 44) (r := .inl (some x)) dX11_tell_44 rfl ?_
    refine g_getf (pc := 45) (v := vI (((k : Nat) : Int) + 1)) flX11_270 dX11_tell_45 hx_3 rfl ?_
    exact r_int (pc := 48) dX11_tell_48 rfl rfl (Nat.le_refl _) ⟨fun z => by omega, fun _ => ⟨by rw [Int.natCast_succ], hx_3.2, (va_up_ne _ _ (by omega)).trans (va_up_self _ _ _), fun b b1 b2 => (va_up_ne _ _ b1).trans ((va_up_ne _ _ b2).trans (va_up_ne _ _ b1))⟩⟩
  · refine g_iconst (pc := 14) dX11_tell_14 ?_
    exact r_int (pc := 15) dX11_tell_15 rfl rfl (Nat.le_refl _) ⟨fun _ => ⟨rfl, hx_1.2, fun b b1 => va_up_ne _ _ b1⟩, fun z => by omega⟩
