theorem Hd.keep {ρ : MR} {h h2 : MH} {b : Nat} {e : ME} (hb : Hd ρ h b e) (q : h2 b = h b) : Hd ρ h2 b e := ⟨hb.1, q.trans hb.2⟩
theorem Hd.to {ρ : MR} {h h2 : MH} {b : Nat} {e e2 : ME} (hb : Hd ρ h b e) (q : h2 b = e2) : Hd ρ h2 b e2 := ⟨hb.1, q⟩
