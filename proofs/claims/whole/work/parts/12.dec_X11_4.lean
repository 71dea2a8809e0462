theorem dX11_rule_29 : decode cX11_rule 29 = .ok (.iconst 1, 1) := by decide +kernel
theorem dX11_rule_30 : decode cX11_rule 30 = .ok (.isub, 1) := by decide +kernel
theorem dX11_rule_31 : decode cX11_rule 31 = .ok (.iaload, 1) := by decide +kernel
theorem dX11_rule_32 : decode cX11_rule 32 = .ok (.ireturn, 1) := by decide +kernel
