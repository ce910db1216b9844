theorem zz_tail : (1 : Nat) = 1 := rfl
