/-! ===== what acts of the world leave as it was ===== -/
def zpk (c k : Nat) : Prop := c = 0 ∨ (12 ≤ c ∧ c ≤ 15) ∨ 23 ≤ c ∨ (c = 5 ∧ (k = 4 ∨ k = 8)) ∨ (c = 22 ∧ k = 7)
def zpw (c k : Nat) : Prop := c = 0 ∨ (12 ≤ c ∧ c ≤ 15) ∨ 23 ≤ c ∨ (c = 5 ∧ k = 4)
def zkW (m m' : zM) : Prop := ∀ c k, zpk c k → m' c k = m c k
def zfW (m m' : zM) : Prop := ∀ c k, zpw c k → m' c k = m c k
def cW (m : zM) : Prop := -1 ≤ m 5 8 ∧ m 5 8 ≤ 15 ∧ 1 ≤ m 22 7 ∧ m 22 7 ≤ 4
theorem zkW_rf (m : zM) : zkW m m := fun _ _ _ => rfl
theorem zkW_tr {a b c : zM} (h1 : zkW a b) (h2 : zkW b c) : zkW a c := fun x k h => (h2 x k h).trans (h1 x k h)
theorem zkW_st {m m1 : zM} {a k : Nat} {v : Int} (h : zkW m m1) (hn : ¬ zpk a k) : zkW m (zset m1 a k v) := fun c j hc => by
  rw [zset_e]
  by_cases h1 : c = a
  · by_cases h2 : j = k
    · subst h1; subst h2; exact absurd hc hn
    · rw [if_pos h1, if_neg h2]; exact h c j hc
  · rw [if_neg h1]; exact h c j hc
theorem zkW_fr {lo hi : Int} {m1 m2 : zM} (h : zfr lo hi m1 m2) (hd : (1 ≤ lo ∧ hi ≤ 4) ∨ (6 ≤ lo ∧ hi ≤ 11) ∨ (16 ≤ lo ∧ hi ≤ 21)) : zkW m1 m2 := fun c k hc => h c k (by unfold zpk at hc; omega)
theorem zkW_t5 {m1 m2 : zM} (h : zfr 5 11 m1 m2) (h4 : m2 5 4 = m1 5 4) (h8 : m2 5 8 = m1 5 8) : zkW m1 m2 := fun c k hc => by
  by_cases h5 : c = 5
  · subst h5
    have : k = 4 ∨ k = 8 := by unfold zpk at hc; omega
    rcases this with r | r <;> subst r <;> assumption
  · exact h c k (by unfold zpk at hc; omega)
theorem zfW_k {m m' : zM} (h : zkW m m') : zfW m m' := fun c k hc => h c k (by unfold zpw at hc; unfold zpk; omega)
theorem zfW_tr {a b c : zM} (h1 : zfW a b) (h2 : zfW b c) : zfW a c := fun x k h => (h2 x k h).trans (h1 x k h)
theorem zfW_rf (m : zM) : zfW m m := fun _ _ _ => rfl
theorem zfW_t5 {m1 m2 : zM} (h : zfr 5 11 m1 m2) (h4 : m2 5 4 = m1 5 4) : zfW m1 m2 := fun c k hc => by
  by_cases h5 : c = 5
  · subst h5
    have : k = 4 := by unfold zpw at hc; omega
    subst this; exact h4
  · exact h c k (by unfold zpw at hc; omega)
theorem zfW_st {m m1 : zM} {a k : Nat} {v : Int} (h : zfW m m1) (hn : ¬ zpw a k) : zfW m (zset m1 a k v) := fun c j hc => by
  rw [zset_e]
  by_cases h1 : c = a
  · by_cases h2 : j = k
    · subst h1; subst h2; exact absurd hc hn
    · rw [if_pos h1, if_neg h2]; exact h c j hc
  · rw [if_neg h1]; exact h c j hc
theorem zk_58 {m m' : zM} (h : zkW m m') : m' 5 8 = m 5 8 := h 5 8 (by unfold zpk; omega)
theorem zk_54 {m m' : zM} (h : zkW m m') : m' 5 4 = m 5 4 := h 5 4 (by unfold zpk; omega)
theorem zk_227 {m m' : zM} (h : zkW m m') : m' 22 7 = m 22 7 := h 22 7 (by unfold zpk; omega)
theorem cW_k {m m' : zM} (h : zkW m m') (hc : cW m) : cW m' := by
  unfold cW at *
  rw [zk_58 h, zk_227 h]; exact hc
/-- an act that keeps the front -/
def zaW (m m' : zM) : Prop := zfW m m' ∧ cW m'
theorem zaW_k {m m' : zM} (h : zkW m m') (hc : cW m) : zaW m m' := ⟨zfW_k h, cW_k h hc⟩
theorem zaW_tr {a b c : zM} (h1 : zaW a b) (h2 : zaW b c) : zaW a c := ⟨zfW_tr h1.1 h2.1, h2.2⟩
theorem zaW_rf {m : zM} (hc : cW m) : zaW m m := ⟨zfW_rf m, hc⟩
theorem zaW_chg {m : zM} {k : Nat} {n v : Int} (hc : cW m) (h7 : k = 7 → 1 ≤ n ∧ n ≤ 4) : zaW m (zset (zset m 22 k n) 22 2 v) := by
  refine ⟨zfW_st (zfW_st (zfW_rf m) (by unfold zpw; omega)) (by unfold zpw; omega), ?_⟩
  obtain ⟨h1, h2, h3, h4⟩ := hc
  refine ⟨h1, h2, ?_, ?_⟩
  · show 1 ≤ zset (zset m 22 k n) 22 2 v 22 7
    simp only [zset_e, reduceIte, Nat.reduceEqDiff]
    by_cases hk : 7 = k
    · rw [if_pos hk]; exact (h7 hk.symm).1
    · rw [if_neg hk]; exact h3
  · show zset (zset m 22 k n) 22 2 v 22 7 ≤ 4
    simp only [zset_e, reduceIte, Nat.reduceEqDiff]
    by_cases hk : 7 = k
    · rw [if_pos hk]; exact (h7 hk.symm).2
    · rw [if_neg hk]; exact h4
theorem zaW_front {m m1 : zM} {v : Int} (h : zkW m m1) (hc : cW m) (h1 : -1 ≤ v) (h2 : v ≤ 15) : zaW m (zset m1 5 8 v) := by
  obtain ⟨a, b, c, d⟩ := cW_k h hc
  refine ⟨zfW_st (zfW_k h) (by unfold zpw; omega), ?_, ?_, c, d⟩ <;> simp only [zset_e, reduceIte] <;> assumption
theorem zDiv_t {x y : Int} (hx : zR32 x) (hy : zR32 y) (h1 : 1 < y) : zDiv x y = x.tdiv y := by
  unfold zDiv
  rw [Int32.toInt_div, zi_toInt hx, zi_toInt hy]
  have h2 : (x.tdiv y).natAbs ≤ x.natAbs / 2 := by rw [Int.natAbs_tdiv]; exact Nat.div_le_div_left (by omega) (by omega)
  have := hx.1; have := hx.2
  show Int.bmod _ 4294967296 = _
  simp only [Int.bmod]; omega
theorem zDiv_60 {x : Int} (hx : zR32 x) : -35791395 ≤ zDiv x 60 ∧ zDiv x 60 ≤ 35791395 := by
  rw [zDiv_t hx ⟨by omega, by omega⟩ (by omega)]
  have h2 : (x.tdiv 60).natAbs = x.natAbs / 60 := by rw [Int.natAbs_tdiv]; rfl
  have := hx.1; have := hx.2
  omega
theorem zDiv_1440 {x : Int} (hx : zR32 x) : -1491309 ≤ zDiv x 1440 ∧ zDiv x 1440 ≤ 1491309 := by
  rw [zDiv_t hx ⟨by omega, by omega⟩ (by omega)]
  have h2 : (x.tdiv 1440).natAbs = x.natAbs / 1440 := by rw [Int.natAbs_tdiv]; rfl
  have := hx.1; have := hx.2
  omega
theorem zw_rng (x : Int) : -2147483648 ≤ zw x ∧ zw x ≤ 2147483647 := by unfold zw; omega
theorem zaW_then {a b c : zM} (h1 : zaW a b) (h2 : zkW b c) : zaW a c := ⟨zfW_tr h1.1 (zfW_k h2), cW_k h2 h1.2⟩
theorem zaW_st {a b : zM} {c k : Nat} {v : Int} (h1 : zaW a b) (hn : ¬ zpk c k) : zaW a (zset b c k v) := zaW_then h1 (zkW_st (zkW_rf b) hn)
theorem zaW_rt {m m1 : zM} (h : zfr 5 11 m m1) (h4 : m1 5 4 = m 5 4) (h8 : m1 5 8 = zw (m 5 8 - 1)) (hc : cW m) (h0 : 0 ≤ m 5 8) : zaW m m1 := by
  obtain ⟨a, b, c, d⟩ := hc
  refine ⟨zfW_t5 h h4, ?_, ?_, ?_, ?_⟩
  · rw [h8, zw_id (by omega) (by omega)]; omega
  · rw [h8, zw_id (by omega) (by omega)]; omega
  · rw [h 22 7 (by omega)]; exact c
  · rw [h 22 7 (by omega)]; exact d
