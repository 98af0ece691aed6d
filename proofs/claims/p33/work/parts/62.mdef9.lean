/-! ===== a path along what is left ===== -/
def zpZ (c k : Nat) : Prop := ¬ (c = 80 ∧ (k = 22 ∨ k = 23))
theorem zFx_k {m m' : zM} {e T : Int} (h : zFx m e T) (e81 : m' 81 = m 81) (e90 : m' 90 = m 90) (e91 : m' 91 = m 91) (e92 : m' 92 = m 92) : zFx m' e T := by
  unfold zFx zPh zVs zRB zCh zSc at *
  rw [e81, e90, e91, e92]
  exact h
theorem zpZ_e {m m' : zM} (h : zKp zpZ m m') (a : Nat) (ha : a ≠ 80) : m' a = m a := funext (fun j => h a j (by unfold zpZ; omega))
theorem zMK_Z {m m1 m2 : zM} (h : zMK m m1) (hk : zKp zpZ m1 m2) : zMK m m2 := by
  refine ⟨?_, zKp_tr h.2 (zKp_mono hk (fun c k hc => by unfold zpP at hc; unfold zpZ; omega))⟩
  rw [zpZ_e hk 81 (by omega)]; exact h.1
theorem zPa_1 {m : zM} {e T c w r : Int} (h : zFx m e T) (w1 : w ≤ T) (hr : zSo m c w 4 r) (hr0 : ¬ r < 0) : 0 ≤ r ∧ r ≤ 99 ∧ 1 ≤ w ∧ 0 ≤ m 90 (61 * r + (w - 1)).toNat ∧ m 90 (61 * r + (w - 1)).toNat < m 90 (61 * c + w).toNat := by
  rcases hr with hr | ⟨q1, q2, q3, q4⟩
  · omega
  · have b := h.1.1 r (w - 1) q1 q2 (by omega) (by omega)
    have z := zcost_b (m 81 (20 + r).toNat)
    omega
theorem zPa_2 {m : zM} {e T c w r : Int} (h : zFx m e T) (c0 : 0 ≤ c) (c1 : c ≤ 99) (w0 : 0 ≤ w) (w1 : w ≤ T) (hc : ¬ c = e) (hf : m 90 (61 * c + w).toNat < 1152921504606846976) (hr : zSo m c w 4 r) (hr0 : r < 0) : w < T ∧ m 90 (61 * c + T).toNat < m 90 (61 * c + w).toNat ∧ ∀ r2, zSo m c T 4 r2 → ¬ r2 < 0 := by
  have hn : ¬ zSc m c w 4 (m 90 (61 * c + w).toNat) := by
    rcases hr with hr | hr
    · exact hr.2
    · omega
  rcases zFx_ch h c0 c1 w0 w1 hc hf with q | ⟨q1, q2, q3⟩
  · exact absurd q hn
  · refine ⟨q2, by omega, fun r2 h2 h3 => ?_⟩
    have hn2 : ¬ zSc m c T 4 (m 90 (61 * c + T).toNat) := by
      rcases h2 with h2 | h2
      · exact h2.2
      · omega
    rcases zFx_ch (w := T) h c0 c1 (by omega) (by omega) hc (by omega) with p | ⟨p1, p2, p3⟩
    · exact hn2 p
    · omega
theorem zLn_end {f : Nat → Int} (h : zLn f) (h1 : 1 ≤ f 18) : (f 18 - 1 < 16) ∧ 0 ≤ f (196 + (f 18 - 1)).toNat ∧ f (196 + (f 18 - 1)).toNat < 16 ∧ 0 ≤ zend f ∧ zend f ≤ 99 := zLn_at h (by omega) (by omega)
