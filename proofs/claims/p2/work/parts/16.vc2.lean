theorem zfi0 : ((0 : Fin 4).val) = 0 := rfl
theorem zfi1 : ((1 : Fin 4).val) = 1 := rfl
theorem zfi2 : ((2 : Fin 4).val) = 2 := rfl
theorem zfi3 : ((3 : Fin 4).val) = 3 := rfl
theorem zcast (n : Nat) : ((no_index (OfNat.ofNat n) : Nat) : Int) = OfNat.ofNat n := rfl
