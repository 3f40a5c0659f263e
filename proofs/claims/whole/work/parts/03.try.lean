theorem tt1 : decode M_X_within.2.1 2 = .ok (.if_icmp .lt 12, 3) := by decide +kernel
