theorem zz_stop : (0 : Nat) = 1 := by decide
