/-! ===== what the flow of time leaves of the reference's world ===== -/
def zpm (c k : Nat) : Prop := c ≠ 86 ∧ ¬ (c = 81 ∧ (k = 2 ∨ k = 8 ∨ k = 9 ∨ k = 10 ∨ (20 ≤ k ∧ k ≤ 119)))
def zkM (m m' : zM) : Prop := ∀ c k, zpm c k → m' c k = m c k
theorem zkM_rf (m : zM) : zkM m m := fun _ _ _ => rfl
theorem zkM_tr {a b c : zM} (h1 : zkM a b) (h2 : zkM b c) : zkM a c := fun x k h => (h2 x k h).trans (h1 x k h)
theorem zkM_st {m m1 : zM} {a k : Nat} {v : Int} (h : zkM m m1) (hn : ¬ zpm a k) : zkM m (zset m1 a k v) := fun c j hc => by
  rw [zset_e]
  by_cases h1 : c = a
  · by_cases h2 : j = k
    · subst h1; subst h2; exact absurd hc hn
    · rw [if_pos h1, if_neg h2]; exact h c j hc
  · rw [if_neg h1]; exact h c j hc
theorem zkM_at {m m' : zM} (h : zkM m m') {k : Nat} (hk : 11 ≤ k ∧ k ≤ 19 ∨ 120 ≤ k) : m' 81 k = m 81 k := h 81 k (by unfold zpm; omega)
theorem zkM_dr {m m1 m2 : zM} (h : zkM m m1) (hd : ∃ v, m2 = zset m1 81 8 v) : zkM m m2 := by
  obtain ⟨v, rfl⟩ := hd
  exact zkM_st h (by unfold zpm; omega)
theorem zkM_gr {m m1 : zM} {n v : Int} (h : zkM m m1) (h0 : 0 ≤ n) (h1 : n ≤ 99) : zkM m (zset m1 81 (zw (20 + n)).toNat v) := by
  rw [zw_id (by omega) (by omega)]
  exact zkM_st h (by unfold zpm; omega)
