/-! ===== runner and router ===== -/
def zfR (m m' : zM) : Prop := (∀ c k, zpw c k → ¬ (56 ≤ c ∧ c ≤ 58) → m' c k = m c k) ∧ cW m'
theorem zfR_rf {m : zM} (h : cW m) : zfR m m := ⟨fun _ _ _ _ => rfl, h⟩
theorem zfR_a {a b c : zM} (h1 : zfR a b) (h2 : zaW b c) : zfR a c := ⟨fun x k hx hn => (h2.1 x k hx).trans (h1.1 x k hx hn), h2.2⟩
theorem zfR_f {a b c : zM} (h1 : zfR a b) (h2 : zfr 56 58 b c) : zfR a c := by
  refine ⟨fun x k hx hn => (h2 x k (by omega)).trans (h1.1 x k hx hn), ?_⟩
  obtain ⟨p, q, r, s⟩ := h1.2
  exact ⟨by rw [h2 5 8 (by omega)]; exact p, by rw [h2 5 8 (by omega)]; exact q, by rw [h2 22 7 (by omega)]; exact r, by rw [h2 22 7 (by omega)]; exact s⟩
theorem zfR_st {a b : zM} {x k : Nat} {v : Int} (h1 : zfR a b) (h : x = 1 ∨ (56 ≤ x ∧ x ≤ 58)) : zfR a (zset b x k v) := by
  obtain ⟨p, q, r, s⟩ := h1.2
  have e : ∀ c j, c ≠ x → zset b x k v c j = b c j := fun c j hc => by rw [zset_e, if_neg hc]
  refine ⟨fun c j hc hn => ?_, ?_⟩
  · rw [e c j (by unfold zpw at hc; omega)]; exact h1.1 c j hc hn
  · unfold cW
    rw [e 5 8 (by omega), e 22 7 (by omega)]
    exact ⟨p, q, r, s⟩
def cR (m : zM) : Prop := 0 ≤ m 59 6 ∧ m 59 6 ≤ 59 ∧ 1 ≤ m 59 4 ∧ m 59 4 ≤ 60
