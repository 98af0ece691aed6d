/-! ===== routes of the reference ===== -/
theorem zLAdd_e (x y : Int) : zLAdd x y = zW (x + y) := by rw [zLAdd, Int64.toInt_add, Int64.toInt_ofInt, Int64.toInt_ofInt, show Int64.size = 18446744073709551616 from rfl, show (2 : Nat) ^ 64 = 18446744073709551616 from rfl, ← zW_bmod]; simp only [Int.bmod]; omega
theorem zLMul_e (x y : Int) : zLMul x y = zW (x * y) := by rw [zLMul, ← zW_bmod, Int64.toInt_mul, Int64.toInt_ofInt, Int64.toInt_ofInt, show Int64.size = 18446744073709551616 from rfl, show (2 : Nat) ^ 64 = 18446744073709551616 from rfl, Int.bmod_mul_bmod, Int.mul_bmod_bmod]
/-- what a step from cell c with w costs, by ways below n -/
def zSc (m : zM) (c w n v : Int) : Prop := 0 < w ∧ ∃ d : Int, 0 ≤ d ∧ d < n ∧ 0 ≤ zbes c d ∧ ¬ m 91 (zbes c d).toNat = 0 ∧ v = 10000 * zcost (m 81 (20 + zbes c d).toNat) + 1 + m 90 (61 * zbes c d + (w - 1)).toNat
/-- all that is left from cell c with w: a step, or the tank filled -/
def zCh (m : zM) (T c w v : Int) : Prop := zSc m c w 4 v ∨ (¬ m 92 c.toNat = 0 ∧ w < T ∧ v = 150000 + m 90 (61 * c + T).toNat)
def zRB (m : zM) (T : Int) : Prop := ∀ c w : Int, 0 ≤ c → c ≤ 99 → 0 ≤ w → w ≤ T → 0 ≤ m 90 (61 * c + w).toNat ∧ m 90 (61 * c + w).toNat ≤ 1152921504606846976
def zPh (m : zM) (e T : Int) : Prop := zRB m T ∧ ∀ c w : Int, 0 ≤ c → c ≤ 99 → 0 ≤ w → w ≤ T → ¬ c = e → m 90 (61 * c + w).toNat = 1152921504606846976 ∨ ∃ v, v ≤ m 90 (61 * c + w).toNat ∧ zCh m T c w v
def zVs (m : zM) (e T w c : Int) : Prop := ∀ c' w' : Int, 0 ≤ c' → c' ≤ 99 → 0 ≤ w' → w' ≤ T → (w' < w ∨ (w' = w ∧ c' < c)) → ¬ c' = e → ∀ v, zCh m T c' w' v → m 90 (61 * c' + w').toNat ≤ v
def zFx (m : zM) (e T : Int) : Prop := zPh m e T ∧ zVs m e T (T + 1) 0
theorem zbes_b {c d : Int} (c0 : 0 ≤ c) (c1 : c ≤ 99) : -1 ≤ zbes c d ∧ zbes c d ≤ 99 := by
  unfold zbes; (repeat' split) <;> omega
theorem zSc_n {m : zM} {c w n k v : Int} (h : zSc m c w n v) (hk : n ≤ k) : zSc m c w k v := by
  obtain ⟨h1, d, h2, h3, h4⟩ := h
  exact ⟨h1, d, h2, by omega, h4⟩
theorem zSc_0 {m : zM} {c w v : Int} : ¬ zSc m c w 0 v := by
  rintro ⟨h1, d, h2, h3, h4⟩; omega
theorem zSc_s {m : zM} {c w n v : Int} (h : zSc m c w (n + 1) v) (h0 : 0 ≤ n) : zSc m c w n v ∨ (0 < w ∧ 0 ≤ zbes c n ∧ ¬ m 91 (zbes c n).toNat = 0 ∧ v = 10000 * zcost (m 81 (20 + zbes c n).toNat) + 1 + m 90 (61 * zbes c n + (w - 1)).toNat) := by
  obtain ⟨h1, d, h2, h3, h4⟩ := h
  by_cases hd : d = n
  · subst hd; exact Or.inr ⟨h1, h4⟩
  · exact Or.inl ⟨h1, d, h2, by omega, h4⟩
/-- rest falls at one place -/
theorem zCh_m {m m' : zM} {T c w v : Int} (h : zCh m T c w v) (e1 : m' 81 = m 81) (e2 : m' 91 = m 91) (e3 : m' 92 = m 92) (hl : ∀ i, m' 90 i ≤ m 90 i) : ∃ v', v' ≤ v ∧ zCh m' T c w v' := by
  rcases h with ⟨h1, d, h2, h3, h4, h5, h6⟩ | ⟨h1, h2, h3⟩
  · refine ⟨10000 * zcost (m 81 (20 + zbes c d).toNat) + 1 + m' 90 (61 * zbes c d + (w - 1)).toNat, ?_, Or.inl ⟨h1, d, h2, h3, h4, ?_, ?_⟩⟩
    · have := hl (61 * zbes c d + (w - 1)).toNat; omega
    · rw [e2]; exact h5
    · rw [e1]
  · refine ⟨150000 + m' 90 (61 * c + T).toNat, ?_, Or.inr ⟨?_, h2, rfl⟩⟩
    · have := hl (61 * c + T).toNat; omega
    · rw [e3]; exact h1
set_option maxRecDepth 100000 in
theorem zPh_s {m : zM} {e T c w v : Int} (h : zPh m e T) (c0 : 0 ≤ c) (c1 : c ≤ 99) (w0 : 0 ≤ w) (w1 : w ≤ T) (hT : T ≤ 60) (hv0 : 0 ≤ v) (hv : v < m 90 (61 * c + w).toNat) (hc : zCh m T c w v) : zPh (zset m 90 (61 * c + w).toNat v) e T := by
  have hl : ∀ i, zset m 90 (61 * c + w).toNat v 90 i ≤ m 90 i := fun i => by
    rw [zset_e, if_pos rfl]
    by_cases hi : i = (61 * c + w).toNat
    · rw [if_pos hi, hi]; omega
    · rw [if_neg hi]; exact Int.le_refl _
  have hb := h.1 c w c0 c1 w0 w1
  refine ⟨fun c' w' q0 q1 q2 q3 => ?_, fun c' w' q0 q1 q2 q3 q4 => ?_⟩
  · have := h.1 c' w' q0 q1 q2 q3
    rw [zset_e, if_pos rfl]
    by_cases hi : (61 * c' + w').toNat = (61 * c + w).toNat
    · rw [if_pos hi]; omega
    · rw [if_neg hi]; exact this
  · by_cases hi : (61 * c' + w').toNat = (61 * c + w).toNat
    · have : c' = c ∧ w' = w := by omega
      obtain ⟨rfl, rfl⟩ := this
      obtain ⟨v', hv', hc'⟩ := zCh_m (m' := zset m 90 (61 * c' + w').toNat v) hc rfl rfl rfl hl
      exact Or.inr ⟨v', by rw [zset_e, if_pos rfl, if_pos rfl]; exact hv', hc'⟩
    · have hs : zset m 90 (61 * c + w).toNat v 90 (61 * c' + w').toNat = m 90 (61 * c' + w').toNat := by rw [zset_e, if_pos rfl, if_neg hi]
      rw [hs]
      rcases h.2 c' w' q0 q1 q2 q3 q4 with h1 | ⟨u, h1, h2⟩
      · exact Or.inl h1
      · obtain ⟨u', hu', hc'⟩ := zCh_m (m' := zset m 90 (61 * c + w).toNat v) h2 rfl rfl rfl hl
        exact Or.inr ⟨u', by omega, hc'⟩
theorem zVs_s {m : zM} {e T w c : Int} (h : zVs m e T w c) (hn : c = e ∨ ∀ v, zCh m T c w v → m 90 (61 * c + w).toNat ≤ v) : zVs m e T w (c + 1) := fun c' w' q0 q1 q2 q3 q4 q5 v hv => by
  by_cases hq : w' = w ∧ c' = c
  · obtain ⟨rfl, rfl⟩ := hq
    rcases hn with hn | hn
    · exact absurd hn q5
    · exact hn v hv
  · exact h c' w' q0 q1 q2 q3 (by omega) q5 v hv
theorem zVs_w {m : zM} {e T w c : Int} (h : zVs m e T w c) (hc : 100 ≤ c) : zVs m e T (w + 1) 0 := fun c' w' q0 q1 q2 q3 q4 q5 v hv => h c' w' q0 q1 q2 q3 (by omega) q5 v hv
theorem zVs_0 (m : zM) (e T : Int) : zVs m e T 0 0 := fun c' w' q0 q1 q2 q3 q4 q5 v hv => absurd q4 (by omega)
theorem zVs_e {m : zM} {e T w : Int} (h : zVs m e T w 0) (hw : T < w) : zVs m e T (T + 1) 0 := fun c' w' q0 q1 q2 q3 q4 q5 v hv => h c' w' q0 q1 q2 q3 (by omega) q5 v hv
/-- the sum of rest -/
def zsm (g : Nat → Int) : Nat → Nat
  | 0 => 0
  | n + 1 => zsm g n + (g n).toNat
theorem zsm_c {g g' : Nat → Int} {n : Nat} (h : ∀ j, j < n → g' j = g j) : zsm g' n = zsm g n := by
  induction n with
  | zero => rfl
  | succ n ih => unfold zsm; rw [ih (fun j hj => h j (by omega)), h n (by omega)]
theorem zsm_s {g g' : Nat → Int} {n i : Nat} (hi : i < n) (h : ∀ j, j ≠ i → g' j = g j) (hv : (g' i).toNat < (g i).toNat) : zsm g' n + 1 ≤ zsm g n := by
  induction n with
  | zero => omega
  | succ n ih =>
    unfold zsm
    by_cases hq : i = n
    · subst hq
      rw [zsm_c (fun j hj => h j (by omega))]; omega
    · have := ih (by omega)
      rw [h n (by omega)]; omega
/-- the measure of the search: the sum, whether the pass has lowered something, what is left of the pass -/
def zmF (m : zM) (less x : Int) : Nat := zsm (m 90) 6100 * 100000 + (if less = 0 then 0 else 70000) + x.toNat
set_option maxRecDepth 100000 in
theorem zmF_s {m : zM} {c w v x x' : Int} (c0 : 0 ≤ c) (c1 : c ≤ 99) (w0 : 0 ≤ w) (w1 : w ≤ 60) (hv0 : 0 ≤ v) (hv : v < m 90 (61 * c + w).toNat) (less : Int) (hx : x' ≤ 20000) : zmF (zset m 90 (61 * c + w).toNat v) 1 x' < zmF m less x := by
  have := zsm_s (g := m 90) (g' := zset m 90 (61 * c + w).toNat v 90) (n := 6100) (i := (61 * c + w).toNat) (by omega) (fun j hj => by rw [zset_e, if_pos rfl, if_neg hj]) (by rw [zset_e, if_pos rfl, if_pos rfl]; omega)
  unfold zmF
  rw [if_neg (by omega)]
  split <;> omega
def zpQ (c _k : Nat) : Prop := c ≠ 90 ∧ c ≠ 91 ∧ c ≠ 92
theorem zMK_Q {m m1 m2 : zM} (h : zMK m m1) (hk : zKp zpQ m1 m2) : zMK m m2 := by
  refine ⟨?_, zKp_tr h.2 (zKp_mono hk (fun c k hc => by unfold zpP at hc; unfold zpQ; omega))⟩
  have e : m2 81 = m1 81 := funext (fun j => hk 81 j (by unfold zpQ; omega))
  rw [e]; exact h.1
/-- what is left is what a choice leaves -/
theorem zFx_ch {m : zM} {e T c w : Int} (h : zFx m e T) (c0 : 0 ≤ c) (c1 : c ≤ 99) (w0 : 0 ≤ w) (w1 : w ≤ T) (hc : ¬ c = e) (hf : m 90 (61 * c + w).toNat < 1152921504606846976) : zCh m T c w (m 90 (61 * c + w).toNat) := by
  rcases h.1.2 c w c0 c1 w0 w1 hc with h1 | ⟨v, h1, h2⟩
  · omega
  · have := h.2 c w c0 c1 w0 w1 (by omega) hc v h2
    have e : v = m 90 (61 * c + w).toNat := by omega
    rw [← e]; exact h2
/-- the search's start: the first k cells, of cell k the first w -/
def zIn (m : zM) (e T k w : Int) : Prop := ∀ c u : Int, 0 ≤ c → c ≤ 99 → 0 ≤ u → u ≤ T → (c < k ∨ (c = k ∧ u < w)) → m 90 (61 * c + u).toNat = (if c = e then 0 else 1152921504606846976)
theorem zIn_0 (m : zM) (e T : Int) : zIn m e T 0 0 := fun c u q0 q1 q2 q3 q4 => absurd q4 (by omega)
set_option maxRecDepth 100000 in
theorem zIn_s {m : zM} {e T k w v : Int} (h : zIn m e T k w) (k0 : 0 ≤ k) (w0 : 0 ≤ w) (w1 : w ≤ 60) (hT : T ≤ 60) (hv : v = (if k = e then 0 else 1152921504606846976)) : zIn (zset m 90 (61 * k + w).toNat v) e T k (w + 1) := fun c u q0 q1 q2 q3 q4 => by
  rw [zset_e, if_pos rfl]
  by_cases hi : (61 * c + u).toNat = (61 * k + w).toNat
  · have : c = k ∧ u = w := by omega
    obtain ⟨rfl, rfl⟩ := this
    rw [if_pos rfl]; exact hv
  · rw [if_neg hi]; exact h c u q0 q1 q2 q3 (by omega)
theorem zIn_n {m : zM} {e T k w : Int} (h : zIn m e T k w) (hw : T < w) : zIn m e T (k + 1) 0 := fun c u q0 q1 q2 q3 q4 => h c u q0 q1 q2 q3 (by omega)
theorem zIn_o {m : zM} {e T k w v : Int} {a j : Nat} (h : zIn m e T k w) (ha : a ≠ 90) : zIn (zset m a j v) e T k w := fun c u q0 q1 q2 q3 q4 => by
  rw [zset_e, if_neg (fun x => ha x.symm)]; exact h c u q0 q1 q2 q3 q4
set_option maxRecDepth 100000 in
theorem zIn_e {m : zM} {e T k w : Int} (h : zIn m e T k w) (hk : 100 ≤ k) : zPh m e T := by
  refine ⟨fun c u q0 q1 q2 q3 => ?_, fun c u q0 q1 q2 q3 q4 => ?_⟩
  · rw [h c u q0 q1 q2 q3 (by omega)]; split <;> omega
  · rw [h c u q0 q1 q2 q3 (by omega), if_neg q4]; exact Or.inl rfl
def zSp (m : zM) (c w n r : Int) : Prop := (r = 1152921504606846976 ∨ zSc m c w n r) ∧ 0 ≤ r ∧ r ≤ 1152921504606846976 ∧ ∀ v, zSc m c w n v → r ≤ v
theorem zSp_0 (m : zM) (c w : Int) : zSp m c w 0 1152921504606846976 := ⟨Or.inl rfl, by omega, by omega, fun v h => absurd h zSc_0⟩
theorem zSp_no {m : zM} {c w n r : Int} (h : zSp m c w n r) (h0 : 0 ≤ n) (hn : zbes c n < 0 ∨ m 91 (zbes c n).toNat = 0) : zSp m c w (n + 1) r := by
  obtain ⟨h1, h2, h3, h4⟩ := h
  refine ⟨h1.elim Or.inl (fun x => Or.inr (zSc_n x (by omega))), h2, h3, fun v hv => ?_⟩
  rcases zSc_s hv h0 with q | ⟨q1, q2, q3, q4⟩
  · exact h4 v q
  · rcases hn with hn | hn
    · omega
    · exact absurd hn q3
theorem zSp_yes {m : zM} {c w n r x : Int} (h : zSp m c w n r) (h0 : 0 ≤ n) (hw : 0 < w) (h1 : 0 ≤ zbes c n) (h2 : ¬ m 91 (zbes c n).toNat = 0) (hx : x = 10000 * zcost (m 81 (20 + zbes c n).toNat) + 1 + m 90 (61 * zbes c n + (w - 1)).toNat) (hx0 : 0 ≤ x) : zSp m c w (n + 1) (if r ≤ x then r else x) := by
  obtain ⟨g1, g2, g3, g4⟩ := h
  refine ⟨?_, ?_, ?_, fun v hv => ?_⟩
  · split
    · exact g1.elim Or.inl (fun x => Or.inr (zSc_n x (by omega)))
    · exact Or.inr ⟨hw, n, h0, by omega, h1, h2, hx⟩
  · split <;> omega
  · split <;> omega
  · rcases zSc_s hv h0 with q | ⟨q1, q2, q3, q4⟩
    · have := g4 v q
      split <;> omega
    · have : v = x := by omega
      split <;> omega
theorem zSp_4 {m : zM} {c w n r : Int} (h : zSp m c w n r) (hn : 4 ≤ n) (hn4 : n ≤ 4) : zSp m c w 4 r := by
  have : n = 4 := by omega
  subst this; exact h
theorem zSp_w {m : zM} {c w n r : Int} (h : zSp m c w n r) (hw : w ≤ 0) : zSp m c w 4 r := by
  obtain ⟨h1, h2, h3, h4⟩ := h
  refine ⟨h1.elim Or.inl (fun x => absurd x.1 (by omega)), h2, h3, fun v hv => absurd hv.1 (by omega)⟩
/-- a cell to which one steps -/
def zSo (m : zM) (c w n r : Int) : Prop := (r = -1 ∧ ¬ zSc m c w n (m 90 (61 * c + w).toNat)) ∨ (0 ≤ r ∧ r ≤ 99 ∧ 0 < w ∧ m 90 (61 * c + w).toNat = 10000 * zcost (m 81 (20 + r).toNat) + 1 + m 90 (61 * r + (w - 1)).toNat)
theorem zSo_0 (m : zM) (c w : Int) : zSo m c w 0 (-1) := Or.inl ⟨rfl, zSc_0⟩
theorem zSo_no {m : zM} {c w n r : Int} (h : zSo m c w n r) (h0 : 0 ≤ n) (hn : zbes c n < 0 ∨ m 91 (zbes c n).toNat = 0 ∨ ¬ 10000 * zcost (m 81 (20 + zbes c n).toNat) + 1 + m 90 (61 * zbes c n + (w - 1)).toNat = m 90 (61 * c + w).toNat) : zSo m c w (n + 1) r := by
  rcases h with ⟨h1, h2⟩ | h
  · refine Or.inl ⟨h1, fun hv => ?_⟩
    rcases zSc_s hv h0 with q | ⟨q1, q2, q3, q4⟩
    · exact h2 q
    · rcases hn with hn | hn | hn
      · omega
      · exact q3 hn
      · exact hn q4.symm
  · exact Or.inr h
theorem zSo_yes {m : zM} {c w n r x : Int} (h : zSo m c w n r) (c0 : 0 ≤ c) (c1 : c ≤ 99) (hw : 0 < w) (h1 : 0 ≤ zbes c n) (he : 10000 * zcost (m 81 (20 + zbes c n).toNat) + 1 + m 90 (61 * zbes c n + (w - 1)).toNat = m 90 (61 * c + w).toNat) (hx : x = r ∨ x = zbes c n) (hr : r < 0 → x = zbes c n) : zSo m c w (n + 1) x := by
  have hb := zbes_b (d := n) c0 c1
  rcases hx with hx | hx
  · rcases h with ⟨h2, _⟩ | h
    · exact absurd (hr (by omega)) (by omega)
    · subst hx; exact Or.inr h
  · subst hx
    exact Or.inr ⟨h1, hb.2, hw, he.symm⟩
theorem zSo_4 {m : zM} {c w n r : Int} (h : zSo m c w n r) (hn : 4 ≤ n) (hn4 : n ≤ 4) : zSo m c w 4 r := by
  have : n = 4 := by omega
  subst this; exact h
theorem zSo_w {m : zM} {c w n r : Int} (h : zSo m c w n r) (hw : w ≤ 0) : zSo m c w 4 r := by
  rcases h with ⟨h1, _⟩ | h
  · exact Or.inl ⟨h1, fun hv => absurd hv.1 (by omega)⟩
  · exact Or.inr h
set_option maxRecDepth 100000 in
theorem zsm_b {g : Nat → Int} {n : Nat} (h : ∀ j, j < n → g j ≤ 9223372036854775807) : zsm g n ≤ n * 9223372036854775807 := by
  induction n with
  | zero => exact Nat.le_of_eq (by unfold zsm; omega)
  | succ n ih =>
    have h1 := ih (fun j hj => h j (by omega))
    have h2 := h n (by omega)
    unfold zsm; omega
set_option maxRecDepth 100000 in
theorem zmF_b {m : zM} (h : ∀ j, j < 6100 → m 90 j ≤ 9223372036854775807) : zmF m 1 0 < 1000000000000000000000000000000 := by
  have := zsm_b h
  unfold zmF; rw [if_neg (by omega)]; omega
theorem zfj0 : ((0 : Fin 2).val) = 0 := rfl
theorem zfj1 : ((1 : Fin 2).val) = 1 := rfl
theorem zLcmp_0 {x y : Int} (h : zLcmp x y = 0) : x = y := by unfold zLcmp at h; split at h <;> (try split at h) <;> omega
theorem zLcmp_n {x y : Int} (h : ¬ zLcmp x y = 0) : ¬ x = y := by unfold zLcmp at h; split at h <;> (try split at h) <;> omega
theorem zLcmp_lt {x y : Int} (h : zLcmp x y < 0) : x < y := by unfold zLcmp at h; split at h <;> (try split at h) <;> omega
theorem zLcmp_ge {x y : Int} (h : ¬ zLcmp x y < 0) : y ≤ x := by unfold zLcmp at h; split at h <;> (try split at h) <;> omega
theorem zCh_n1 {m : zM} {T c w r : Int} (h : zSp m c w 4 r) (hr : r < m 90 (61 * c + w).toNat) (hb : m 90 (61 * c + w).toNat ≤ 1152921504606846976) : zCh m T c w r := Or.inl (h.1.resolve_left (by omega))
theorem zCh_n2 {m : zM} {T c w r : Int} (h : zSp m c w 4 r) (hr : m 90 (61 * c + w).toNat ≤ r) (hno : m 92 c.toNat = 0 ∨ T ≤ w) : ∀ v, zCh m T c w v → m 90 (61 * c + w).toNat ≤ v := fun v hv => by
  rcases hv with hv | ⟨q1, q2, q3⟩
  · exact Int.le_trans hr (h.2.2.2 v hv)
  · rcases hno with hno | hno
    · exact absurd hno q1
    · omega
theorem zCh_w1 {m : zM} {T c w r u : Int} (h : zSp m c w 4 r) (hw : ¬ m 92 c.toNat = 0) (hT : w < T) (hu : u = 150000 + m 90 (61 * c + T).toNat) (hr : (if r ≤ u then r else u) < m 90 (61 * c + w).toNat) (hb : m 90 (61 * c + w).toNat ≤ 1152921504606846976) : zCh m T c w (if r ≤ u then r else u) := by
  by_cases hq : r ≤ u
  · rw [if_pos hq] at hr ⊢; exact zCh_n1 h hr hb
  · rw [if_neg hq]; exact Or.inr ⟨hw, hT, hu⟩
theorem zCh_w2 {m : zM} {T c w r u : Int} (h : zSp m c w 4 r) (hu : u = 150000 + m 90 (61 * c + T).toNat) (hr : m 90 (61 * c + w).toNat ≤ (if r ≤ u then r else u)) : ∀ v, zCh m T c w v → m 90 (61 * c + w).toNat ≤ v := fun v hv => by
  have h1 : (if r ≤ u then r else u) ≤ r := by split <;> omega
  have h2 : (if r ≤ u then r else u) ≤ u := by split <;> omega
  rcases hv with hv | ⟨q1, q2, q3⟩
  · have := h.2.2.2 v hv; omega
  · omega
theorem zmF_lt {m : zM} {less x y : Int} (h : y < x) (h0 : 0 < x) : zmF m less y < zmF m less x := by unfold zmF; omega
set_option maxRecDepth 100000 in
theorem zmF_l {m : zM} {less x : Int} (h : ¬ less = 0) (hx : x ≤ 20000) : zmF m 0 x < zmF m less 0 := by
  unfold zmF
  rw [if_neg h, if_pos rfl]; omega
