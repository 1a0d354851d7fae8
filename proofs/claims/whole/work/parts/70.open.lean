theorem c_open {N : Nat} {C R : gq_M} (hN : 600 ≤ N) (H : INV C R) : OUT kD (f_X9_open N C) (f_X10_open N R) := sorry
