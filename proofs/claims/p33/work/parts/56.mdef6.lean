/-! ===== told texts: their shape ===== -/
/-- a test's steps: how high the values stand before each -/
def zHt (f : Nat → Int) (t a b : Int) (h : Int → Int) : Prop := 0 ≤ a ∧ a ≤ b ∧ b ≤ 199 ∧ h a = 0 ∧ ∀ j : Int, a ≤ j → j < b → 0 ≤ h j ∧ h j ≤ j - a ∧ ((f (1273 + 1061 * t + 2 * j).toNat ≤ 16 ∧ h (j + 1) = h j + 1) ∨ (f (1273 + 1061 * t + 2 * j).toNat = 17 ∧ 1 ≤ h j ∧ h (j + 1) = h j) ∨ (17 < f (1273 + 1061 * t + 2 * j).toNat ∧ 2 ≤ h j ∧ h (j + 1) = h j - 1))
def zCn (f : Nat → Int) (t n : Int) : Prop := 0 ≤ n ∧ ∃ h, zHt f t (n / 200) (n % 200) h
/-- an op at level lev k: what comes behind it -/
def zOp (f : Nat → Int) (t : Int) (lev : Int → Int) (N k : Int) : Prop := 0 ≤ lev k ∧ lev k ≤ 7 ∧
  ((f (613 + 1061 * t + 3 * k).toNat ≤ 6 ∧ lev (k + 1) = lev k) ∨
  ((f (613 + 1061 * t + 3 * k).toNat = 7 ∨ f (613 + 1061 * t + 3 * k).toNat = 8) ∧ lev k ≤ 6 ∧ lev (k + 1) = lev k + 1) ∨
  (f (613 + 1061 * t + 3 * k).toNat = 9 ∧ lev (k + 1) = lev k ∧ k < f (613 + 1061 * t + 3 * k + 2).toNat ∧ f (613 + 1061 * t + 3 * k + 2).toNat ≤ N ∧ lev (f (613 + 1061 * t + 3 * k + 2).toNat) = lev k ∧ zCn f t (f (613 + 1061 * t + 3 * k + 1).toNat)) ∨
  (f (613 + 1061 * t + 3 * k).toNat = 10 ∧ 1 ≤ lev k ∧ lev (k + 1) = lev k ∧ k < f (613 + 1061 * t + 3 * k + 2).toNat ∧ f (613 + 1061 * t + 3 * k + 2).toNat ≤ N ∧ lev (f (613 + 1061 * t + 3 * k + 2).toNat) = lev k - 1 ∧ zCn f t (f (613 + 1061 * t + 3 * k + 1).toNat)) ∨
  (f (613 + 1061 * t + 3 * k).toNat = 11 ∧ 1 ≤ lev k ∧ lev (k + 1) = lev k - 1 ∧ 0 ≤ f (613 + 1061 * t + 3 * k + 1).toNat ∧ f (613 + 1061 * t + 3 * k + 1).toNat < k ∧
    ((f (613 + 1061 * t + 3 * f (613 + 1061 * t + 3 * k + 1).toNat).toNat = 10 ∧ lev (f (613 + 1061 * t + 3 * k + 1).toNat) = lev k) ∨ (f (613 + 1061 * t + 3 * f (613 + 1061 * t + 3 * k + 1).toNat).toNat ≠ 10 ∧ lev (f (613 + 1061 * t + 3 * k + 1).toNat + 1) = lev k))))
def zTk (f : Nat → Int) (t : Int) (lev : Int → Int) : Prop := 0 ≤ f (612 + 1061 * t).toNat ∧ f (612 + 1061 * t).toNat ≤ 200 ∧ lev 0 = 0 ∧ ∀ k : Int, 0 ≤ k → k < f (612 + 1061 * t).toNat → zOp f t lev (f (612 + 1061 * t).toNat) k
def zTz (f : Nat → Int) : Prop := ∀ t : Int, 0 ≤ t → t < f 17 → ∃ lev, zTk f t lev
theorem zHt_k {f g : Nat → Int} {t a b : Int} {h : Int → Int} (hh : zHt f t a b h) (t0 : 0 ≤ t) (e : ∀ j, 612 ≤ j → g j = f j) : zHt g t a b h := by
  obtain ⟨h1, h2, h3, h4, h5⟩ := hh
  refine ⟨h1, h2, h3, h4, fun j q1 q2 => ?_⟩
  rw [e (1273 + 1061 * t + 2 * j).toNat (by omega)]
  exact h5 j q1 q2
theorem zCn_k {f g : Nat → Int} {t n : Int} (h : zCn f t n) (t0 : 0 ≤ t) (e : ∀ j, 612 ≤ j → g j = f j) : zCn g t n := by
  obtain ⟨h1, x, h2⟩ := h
  exact ⟨h1, x, zHt_k h2 t0 e⟩
theorem zOp_k {f g : Nat → Int} {t N k : Int} {lev : Int → Int} (h : zOp f t lev N k) (t0 : 0 ≤ t) (k0 : 0 ≤ k) (e : ∀ j, 612 ≤ j → g j = f j) : zOp g t lev N k := by
  unfold zOp at *
  have e1 := e (613 + 1061 * t + 3 * k).toNat (by omega)
  have e2 := e (613 + 1061 * t + 3 * k + 1).toNat (by omega)
  have e3 := e (613 + 1061 * t + 3 * k + 2).toNat (by omega)
  rw [e1, e2, e3]
  obtain ⟨h1, h2, h3⟩ := h
  refine ⟨h1, h2, ?_⟩
  rcases h3 with h3 | h3 | h3 | h3 | h3
  · exact Or.inl h3
  · exact Or.inr (Or.inl h3)
  · exact Or.inr (Or.inr (Or.inl ⟨h3.1, h3.2.1, h3.2.2.1, h3.2.2.2.1, h3.2.2.2.2.1, zCn_k h3.2.2.2.2.2 t0 e⟩))
  · exact Or.inr (Or.inr (Or.inr (Or.inl ⟨h3.1, h3.2.1, h3.2.2.1, h3.2.2.2.1, h3.2.2.2.2.1, h3.2.2.2.2.2.1, zCn_k h3.2.2.2.2.2.2 t0 e⟩)))
  · refine Or.inr (Or.inr (Or.inr (Or.inr ?_)))
    rw [e (613 + 1061 * t + 3 * f (613 + 1061 * t + 3 * k + 1).toNat).toNat (by omega)]
    exact h3
theorem zTk_k {f g : Nat → Int} {t : Int} {lev : Int → Int} (h : zTk f t lev) (t0 : 0 ≤ t) (e : ∀ j, 612 ≤ j → g j = f j) : zTk g t lev := by
  obtain ⟨h1, h2, h3, h4⟩ := h
  have e1 := e (612 + 1061 * t).toNat (by omega)
  refine ⟨by rw [e1]; exact h1, by rw [e1]; exact h2, h3, fun k q0 q1 => ?_⟩
  rw [e1] at q1 ⊢
  exact zOp_k (h4 k q0 q1) t0 q0 e
theorem zTz_k {f g : Nat → Int} (h : zTz f) (h17 : g 17 = f 17) (e : ∀ j, 612 ≤ j → g j = f j) : zTz g := fun t t0 t1 => by
  rw [h17] at t1
  obtain ⟨lev, h2⟩ := h t t0 t1
  exact ⟨lev, zTk_k h2 t0 e⟩
theorem zTz_P {m m' : zM} (h : zTz (m 81)) (hk : zKp zpP m m') : zTz (m' 81) := zTz_k h (hk 81 17 (by unfold zpP; omega)) (fun j hj => hk 81 j (by unfold zpP; omega))
/-- loops that have acted since their last round -/
def zfL (g : Nat → Int) (d : Int) : Nat → Nat
  | 0 => 0
  | n + 1 => zfL g d n + (if g n = d then 0 else 1)
theorem zfL_le (g : Nat → Int) (d : Int) (n : Nat) : zfL g d n ≤ n := by
  induction n with
  | zero => exact Nat.le_refl 0
  | succ n ih => unfold zfL; split <;> omega
theorem zfL_c {g g' : Nat → Int} {d : Int} {n : Nat} (h : ∀ j, j < n → g' j = g j) : zfL g' d n = zfL g d n := by
  induction n with
  | zero => rfl
  | succ n ih => unfold zfL; rw [ih (fun j hj => h j (by omega)), h n (by omega)]
theorem zfL_push {g g' : Nat → Int} {d t t' : Int} (t0 : 0 ≤ t) (ht : t' = t + 1) (h : ∀ j, j ≠ t.toNat → g' j = g j) (hd : g' t.toNat = d) : zfL g' d t'.toNat = zfL g d t.toNat := by
  have e : t'.toNat = t.toNat + 1 := by omega
  rw [e, show zfL g' d (t.toNat + 1) = zfL g' d t.toNat + (if g' t.toNat = d then 0 else 1) from rfl, hd, if_pos rfl, zfL_c (fun j hj => h j (by omega))]
  rfl
theorem zfL_pop {g g' : Nat → Int} {d t t' : Int} (t0 : 1 ≤ t) (ht : t' = t - 1) (h : ∀ j, j ≠ t'.toNat → g' j = g j) : zfL g' d t'.toNat ≤ zfL g d t.toNat := by
  have e : t.toNat = t'.toNat + 1 := by omega
  rw [e]
  conv => rhs; unfold zfL
  rw [zfL_c (fun j hj => h j (by omega))]
  split <;> omega
theorem zfL_round {g g' : Nat → Int} {d t : Int} (t0 : 1 ≤ t) (hn : ¬ g (t - 1).toNat = d) (h : ∀ j, j ≠ (t - 1).toNat → g' j = g j) (hd : g' (t - 1).toNat = d) : zfL g' d t.toNat + 1 = zfL g d t.toNat := by
  have e : t.toNat = (t - 1).toNat + 1 := by omega
  rw [e]
  unfold zfL
  rw [hd, if_pos rfl, if_neg hn, zfL_c (fun j hj => h j (by omega))]
def zp87 (c _k : Nat) : Prop := c ≠ 87
theorem zMK_87 {m m1 m2 : zM} (h : zMK m m1) (hk : zKp zp87 m1 m2) : zMK m m2 := by
  refine ⟨?_, zKp_tr h.2 (zKp_mono hk (fun c k hc => by unfold zpP at hc; unfold zp87; omega))⟩
  have e : m2 81 = m1 81 := funext (fun j => hk 81 j (by unfold zp87; omega))
  rw [e]; exact h.1
theorem zMK_612 {m m1 : zM} (h : zMK m m1) : ∀ j, 612 ≤ j → m1 81 j = m 81 j := fun j hj => h.2 81 j (by unfold zpP; omega)
