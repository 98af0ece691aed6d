/-! ===== what the wrappers of rail, gang and task answer ===== -/
def zfF (lo hi : Nat) (m m' : zM) : Prop := ∀ c k : Nat, ¬ (lo ≤ c ∧ c ≤ hi) → c ≠ 94 → m' c k = m c k
def zPR (a b : Int) (m : zM) (r : Int) (m' : zM) : Prop := (r = 0 ∧ (0 ≤ a ∧ a ≤ 99 ∧ -9 ≤ b ∧ b ≤ 9) ∧ m 5 4 < 16 ∧ zfF 5 11 m m' ∧ m' 5 8 = m 5 8 ∧ m' 5 4 = m 5 4 + 1 ∧ m' 94 0 = m 5 4) ∨ (r = 1 ∧ ¬ (0 ≤ a ∧ a ≤ 99 ∧ -9 ≤ b ∧ b ≤ 9) ∧ m' = m) ∨ (r = 2 ∧ (0 ≤ a ∧ a ≤ 99 ∧ -9 ≤ b ∧ b ≤ 9) ∧ 16 ≤ m 5 4 ∧ m' = m)
theorem zPR_0 {a b : Int} {m m1 : zM} {r : Int} (h : zfr 5 11 m m1 ∧ m1 5 8 = m 5 8 ∧ (0 ≤ a ∧ a ≤ 99 ∧ -9 ≤ b ∧ b ≤ 9) ∧ m 5 4 < 16 ∧ r = m 5 4 ∧ m1 5 4 = m 5 4 + 1) : zPR a b m 0 (zset m1 94 0 r) := by
  obtain ⟨h1, h2, h3, h4, h5, h6⟩ := h
  refine Or.inl ⟨rfl, h3, h4, fun c k hc hd => ?_, ?_, ?_, ?_⟩
  · rw [zset_e, if_neg hd]; exact h1 c k (by omega)
  · rw [zset_e, if_neg (by omega)]; exact h2
  · rw [zset_e, if_neg (by omega)]; exact h6
  · rw [zset_e, if_pos rfl, if_pos rfl]; exact h5
theorem zPR_1 {a b : Int} {m m1 : zM} (h : m1 = m) (h2 : ¬ (0 ≤ a ∧ a ≤ 99 ∧ -9 ≤ b ∧ b ≤ 9)) : zPR a b m 1 m1 := Or.inr (Or.inl ⟨rfl, h2, h⟩)
theorem zPR_2 {a b : Int} {m m1 : zM} (h : m1 = m) (h2 : (0 ≤ a ∧ a ≤ 99 ∧ -9 ≤ b ∧ b ≤ 9) ∧ 16 ≤ m 5 4) : zPR a b m 2 m1 := Or.inr (Or.inr ⟨rfl, h2.1, h2.2, h⟩)
def zPG (a b : Int) (m : zM) (r : Int) (m' : zM) : Prop := (r = 0 ∧ (1 ≤ a ∧ a ≤ 9 ∧ 1 ≤ b ∧ b ≤ 30) ∧ m 12 3 < 4 ∧ zfF 12 15 m m' ∧ m' 12 3 = m 12 3 + 1 ∧ (∀ j : Nat, m' 15 j = if j = (m 12 3).toNat then 0 else m 15 j) ∧ m' 94 0 = m 12 3) ∨ (r = 1 ∧ ¬ (1 ≤ a ∧ a ≤ 9 ∧ 1 ≤ b ∧ b ≤ 30) ∧ m' = m) ∨ (r = 2 ∧ (1 ≤ a ∧ a ≤ 9 ∧ 1 ≤ b ∧ b ≤ 30) ∧ 4 ≤ m 12 3 ∧ m' = m)
theorem zPG_0 {a b : Int} {m m1 : zM} {r : Int} (h : (1 ≤ a ∧ a ≤ 9 ∧ 1 ≤ b ∧ b ≤ 30) ∧ m 12 3 < 4 ∧ r = m 12 3 ∧ m1 = zset (zset (zset (zset m 13 (m 12 3).toNat a) 14 (m 12 3).toNat b) 15 (m 12 3).toNat 0) 12 3 (m 12 3 + 1)) : zPG a b m 0 (zset m1 94 0 r) := by
  obtain ⟨h1, h2, h3, h4⟩ := h
  subst h4
  refine Or.inl ⟨rfl, h1, h2, fun c k hc hd => ?_, ?_, fun j => ?_, ?_⟩
  · rw [zset_e, if_neg hd, zset_e, if_neg (by omega), zset_e, if_neg (by omega), zset_e, if_neg (by omega), zset_e, if_neg (by omega)]
  · rw [zset_e, if_neg (by omega), zset_e, if_pos rfl, if_pos rfl]
  · simp only [zset_e, Nat.reduceEqDiff, reduceIte]
  · rw [zset_e, if_pos rfl, if_pos rfl]; exact h3
theorem zPG_1 {a b : Int} {m m1 : zM} (h : m1 = m) (h2 : ¬ (1 ≤ a ∧ a ≤ 9 ∧ 1 ≤ b ∧ b ≤ 30)) : zPG a b m 1 m1 := Or.inr (Or.inl ⟨rfl, h2, h⟩)
theorem zPG_2 {a b : Int} {m m1 : zM} (h : m1 = m) (h2 : (1 ≤ a ∧ a ≤ 9 ∧ 1 ≤ b ∧ b ≤ 30) ∧ 4 ≤ m 12 3) : zPG a b m 2 m1 := Or.inr (Or.inr ⟨rfl, h2.1, h2.2, h⟩)
def zPT (g k : Int) (m : zM) (r : Int) (m' : zM) : Prop := (r = 0 ∧ (0 ≤ g ∧ g < m 12 3) ∧ (0 ≤ k ∧ k ≤ 3) ∧ zfF 15 15 m m' ∧ (∀ j : Nat, m' 15 j = if j = g.toNat then k else m 15 j) ∧ m' 94 0 = m 15 g.toNat) ∨ (r = 1 ∧ ¬ (0 ≤ g ∧ g < m 12 3) ∧ m' = m) ∨ (r = 2 ∧ (0 ≤ g ∧ g < m 12 3) ∧ ¬ (0 ≤ k ∧ k ≤ 3) ∧ m' = m)
theorem zPT_0 {g k : Int} {m m1 : zM} {r : Int} (h : (0 ≤ g ∧ g < m 12 3) ∧ (0 ≤ k ∧ k ≤ 3) ∧ r = m 15 g.toNat ∧ m1 = zset m 15 g.toNat k) : zPT g k m 0 (zset m1 94 0 r) := by
  obtain ⟨h1, h2, h3, h4⟩ := h
  subst h4
  refine Or.inl ⟨rfl, h1, h2, fun c k hc hd => ?_, fun j => ?_, ?_⟩
  · rw [zset_e, if_neg hd, zset_e, if_neg (by omega)]
  · rw [zset_e, if_neg (by omega), zset_e, if_pos rfl]
  · rw [zset_e, if_pos rfl, if_pos rfl]; exact h3
theorem zPT_1 {g k : Int} {m m1 : zM} (h : m1 = m) (h2 : ¬ (0 ≤ g ∧ g < m 12 3)) : zPT g k m 1 m1 := Or.inr (Or.inl ⟨rfl, h2, h⟩)
theorem zPT_2 {g k : Int} {m m1 : zM} (h : m1 = m) (h2 : (0 ≤ g ∧ g < m 12 3) ∧ ¬ (0 ≤ k ∧ k ≤ 3)) : zPT g k m 2 m1 := Or.inr (Or.inr ⟨rfl, h2.1, h2.2, h⟩)
