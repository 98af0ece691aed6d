/-! ===== more of the law's rows: its out row, compared ===== -/
section ZLU2
variable (N : Nat) (xs : Nat → Int) (Λ : List zC) (pl : zPo) (cv cw : Nat → Option zCt) (RP : Int → zM → Prop) (nL : Nat)
variable (n pc k : Nat) (ls : zL) (st : List zV) (mem : zM) (J : Nat → zJ) (K : Nat → zL → List zV → zM → Prop)
theorem zl_laload : zlI N xs Λ pl cv cw RP nL (.laload) n pc k ls st mem J K = zwI Λ pl (fun _ => none) (fun _ => none) 4 (fun v m => k ≤ 3000 ∧ RP v m) (fun _ => none) (fun _ _ => False) nL (.laload) n pc ls st mem (J k) (K k) := rfl
theorem zl_i2l : zlI N xs Λ pl cv cw RP nL (.i2l) n pc k ls st mem J K = zwI Λ pl (fun _ => none) (fun _ => none) 4 (fun v m => k ≤ 3000 ∧ RP v m) (fun _ => none) (fun _ _ => False) nL (.i2l) n pc ls st mem (J k) (K k) := rfl
theorem zl_lcmp : zlI N xs Λ pl cv cw RP nL (.lcmp) n pc k ls st mem J K = zwI Λ pl (fun _ => none) (fun _ => none) 4 (fun v m => k ≤ 3000 ∧ RP v m) (fun _ => none) (fun _ _ => False) nL (.lcmp) n pc ls st mem (J k) (K k) := rfl
end ZLU2
theorem zLcmpE (x y : Int) : (zLcmp x y = 0) = (x = y) := by
  apply propext
  unfold zLcmp
  constructor
  · intro h
    by_cases h1 : x < y
    · rw [if_pos h1] at h; omega
    · rw [if_neg h1] at h
      by_cases h2 : x = y
      · exact h2
      · rw [if_neg h2] at h; omega
  · intro h
    rw [if_neg (by omega), if_pos h]
