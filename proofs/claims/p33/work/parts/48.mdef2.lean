/-! ===== the reference's acts: what they keep ===== -/
theorem zpig : ∀ (k n : Nat) (f : Nat → Nat), (∀ i, i < n → f i < k) → (∀ i j, i < j → j < n → f i ≠ f j) → n ≤ k := by
  intro k
  induction k with
  | zero =>
    intro n f h _
    cases n with
    | zero => exact Nat.le_refl 0
    | succ n => exact absurd (h 0 (by omega)) (by omega)
  | succ k ih =>
    intro n f h hd
    by_cases hx : ∃ i, i < n ∧ f i = k
    · obtain ⟨i0, h0, e0⟩ := hx
      have := ih (n - 1) (fun i => if i < i0 then f i else f (i + 1)) (fun i hi => by
        show (if i < i0 then f i else f (i + 1)) < k
        by_cases hq : i < i0
        · rw [if_pos hq]
          have h1 := h i (by omega)
          have h2 := hd i i0 hq h0
          omega
        · rw [if_neg hq]
          have h1 := h (i + 1) (by omega)
          have h2 := hd i0 (i + 1) (by omega) (by omega)
          omega) (fun i j hij hj => by
        show (if i < i0 then f i else f (i + 1)) ≠ (if j < i0 then f j else f (j + 1))
        by_cases hq : i < i0
        · rw [if_pos hq]
          by_cases hr : j < i0
          · rw [if_pos hr]; exact hd i j hij (by omega)
          · rw [if_neg hr]; exact hd i (j + 1) (by omega) (by omega)
        · rw [if_neg hq, if_neg (by omega)]
          exact hd (i + 1) (j + 1) (by omega) (by omega))
      omega
    · have := ih n f (fun i hi => by
        have h1 := h i hi
        have h2 : f i ≠ k := fun e => hx ⟨i, hi, e⟩
        omega) hd
      omega
/-- a rail that is not on the line: the line has room -/
theorem zLi_room {f : Nat → Int} (h : zMc f) {a : Int} (h0 : 0 ≤ a) (h1 : a < f 15) (hs : f (120 + 4 * a + 2).toNat ≠ 0) : f 18 ≤ 15 := by
  obtain ⟨hb, _, hl1, hl2, hl3⟩ := h
  have h15 : f 15 ≤ 16 := hb.2.1
  have := zpig 16 ((f 18).toNat + 1) (fun i => if (i : Int) < f 18 then (f (196 + (i : Int)).toNat).toNat else a.toNat) (fun i hi => by
    show (if (i : Int) < f 18 then (f (196 + (i : Int)).toNat).toNat else a.toNat) < 16
    by_cases hq : (i : Int) < f 18
    · rw [if_pos hq]
      have := hl2 i (by omega) hq
      omega
    · rw [if_neg hq]; omega) (fun i j hij hj => by
    show (if (i : Int) < f 18 then (f (196 + (i : Int)).toNat).toNat else a.toNat) ≠ (if (j : Int) < f 18 then (f (196 + (j : Int)).toNat).toNat else a.toNat)
    have hi : (i : Int) < f 18 := by omega
    have p1 := hl2 i (by omega) hi
    rw [if_pos hi]
    by_cases hq : (j : Int) < f 18
    · rw [if_pos hq]
      have p2 := hl2 j (by omega) hq
      have p3 := hl3 i j (by omega) (by omega) hq
      omega
    · rw [if_neg hq]
      intro e
      have e2 : f (196 + (i : Int)).toNat = a := by omega
      have e3 := p1.2.2.1
      rw [e2] at e3
      exact hs e3)
  omega
/-- a rail comes on -/
def zpC (a L : Int) (c k : Nat) : Prop := ¬ (c = 81 ∧ (k = (120 + 4 * a + 2).toNat ∨ k = (120 + 4 * a + 3).toNat ∨ (20 ≤ k ∧ k ≤ 119) ∨ k = (196 + L).toNat ∨ k = 18))
def zCo (a c : Int) (m m' : zM) : Prop := zKp (zpC a (m 81 18)) m m' ∧ m' 81 (120 + 4 * a + 2).toNat = 0 ∧ m' 81 (120 + 4 * a + 3).toNat = c ∧ m' 81 (196 + m 81 18).toNat = a ∧ m' 81 18 = m 81 18 + 1
theorem zMc_co {m m' : zM} {a c : Int} (h : zMc (m 81)) (h0 : 0 ≤ a) (h1 : a < m 81 15) (hs : m 81 (120 + 4 * a + 2).toNat = 1) (hc : 0 ≤ c ∧ c ≤ 99) (hq : zCo a c m m') : zMc (m' 81) ∧ zcar (m' 81) (m' 81 15).toNat = zcar (m 81) (m 81 15).toNat - 1 := by
  have hL := zLi_room h h0 h1 (by omega)
  obtain ⟨hb, hg, hl1, hl2, hl3⟩ := h
  obtain ⟨x1, x2, x3, x4, x5, x6, x7, x8, x9, x10, x11, x12, x13, x14⟩ := hb
  obtain ⟨hk, k1, k2, k3, k4⟩ := hq
  have kk : ∀ k, k ≠ 18 → ¬ (20 ≤ k ∧ k ≤ 119) → k ≠ (120 + 4 * a + 2).toNat → k ≠ (120 + 4 * a + 3).toNat → k ≠ (196 + m 81 18).toNat → m' 81 k = m 81 k := fun k q1 q2 q3 q4 q5 => hk 81 k (by unfold zpC; omega)
  have e15 := kk 15 (by omega) (by omega) (by omega) (by omega) (by omega)
  have e17 := kk 17 (by omega) (by omega) (by omega) (by omega) (by omega)
  have e19 := kk 19 (by omega) (by omega) (by omega) (by omega) (by omega)
  have e2 := kk 2 (by omega) (by omega) (by omega) (by omega) (by omega)
  have e3 := kk 3 (by omega) (by omega) (by omega) (by omega) (by omega)
  have e4 := kk 4 (by omega) (by omega) (by omega) (by omega) (by omega)
  have e7 := kk 7 (by omega) (by omega) (by omega) (by omega) (by omega)
  refine ⟨⟨?_, ?_, ?_, ?_, ?_⟩, ?_⟩
  · unfold zMb; rw [e15, e17, e19, e2, e3, e4, e7]
    exact ⟨x1, x2, x3, x4, x5, x6, x7, x8, x9, x10, x11, x12, x13, x14⟩
  · exact zGn_k hg (kk 16 (by omega) (by omega) (by omega) (by omega) (by omega)) (fun k q1 q2 => kk k (by omega) (by omega) (by omega) (by omega) (by omega))
  · rw [k4]; omega
  · intro p q0 q1
    rw [k4] at q1
    rw [e15]
    by_cases hp : p = m 81 18
    · subst hp
      rw [k3, k1, k2]
      exact ⟨h0, h1, rfl, hc.1, hc.2⟩
    · obtain ⟨b1, b2, b3, b4, b5⟩ := hl2 p q0 (by omega)
      rw [kk (196 + p).toNat (by omega) (by omega) (by omega) (by omega) (by omega)]
      have hne : m 81 (196 + p).toNat ≠ a := by intro e; rw [e] at b3; omega
      rw [kk (120 + 4 * m 81 (196 + p).toNat + 2).toNat (by omega) (by omega) (by omega) (by omega) (by omega), kk (120 + 4 * m 81 (196 + p).toNat + 3).toNat (by omega) (by omega) (by omega) (by omega) (by omega)]
      exact ⟨b1, b2, b3, b4, b5⟩
  · intro p q q0 q1 q2
    rw [k4] at q2
    obtain ⟨b1, b2, b3, b4, b5⟩ := hl2 p q0 (by omega)
    have hne : m 81 (196 + p).toNat ≠ a := by intro e; rw [e] at b3; omega
    rw [kk (196 + p).toNat (by omega) (by omega) (by omega) (by omega) (by omega)]
    by_cases hp : q = m 81 18
    · subst hp
      rw [k3]; exact hne
    · rw [kk (196 + q).toNat (by omega) (by omega) (by omega) (by omega) (by omega)]
      exact hl3 p q q0 q1 (by omega)
  · rw [e15]
    have t2 : 120 + 4 * a.toNat + 2 = (120 + 4 * a + 2).toNat := by omega
    refine zcar_set (r := a.toNat) (by omega) (by rw [t2]; exact hs) (by rw [t2, k1]; omega) (fun j hjn hj => ?_)
    exact kk _ (by omega) (by omega) (by omega) (by omega) (by omega)
/-- slots on which nothing hangs -/
theorem zMi_free {m : zM} {k : Nat} {v : Int} (h : zMi (m 81)) (hk : k = 0 ∨ k = 1 ∨ k = 5 ∨ k = 6 ∨ (8 ≤ k ∧ k ≤ 11) ∨ k = 14 ∨ (20 ≤ k ∧ k ≤ 119) ∨ 212 ≤ k) : zMi (zset m 81 k v 81) := by
  have e : ∀ j, j ≠ k → zset m 81 k v 81 j = m 81 j := fun j hj => by rw [zset_e, if_pos rfl, if_neg hj]
  obtain ⟨hc, h1, h2⟩ := h
  have b := hc.1
  unfold zMb at b
  refine ⟨zMc_k hc (fun j hj => e j (by omega)) (by rw [e 19 (by omega)]; omega) (by rw [e 2 (by omega)]; omega), ?_, ?_⟩
  · rw [e 13 (by omega), e 12 (by omega), e 7 (by omega), e 18 (by omega)]; exact h1
  · rw [e 13 (by omega), e 18 (by omega)]; exact h2
theorem zMi_time {m m' : zM} (h : zMi (m 81)) (hk : zKp zpM m m') (h0 : 0 ≤ m' 81 2) (h1 : m' 81 2 ≤ m 81 2) : zMi (m' 81) := by
  have e : ∀ j, j ≠ 2 → ¬ (8 ≤ j ∧ j ≤ 10) → ¬ (20 ≤ j ∧ j ≤ 119) → m' 81 j = m 81 j := fun j q1 q2 q3 => hk 81 j (by unfold zpM; omega)
  obtain ⟨hc, h2, h3⟩ := h
  have b := hc.1
  unfold zMb at b
  refine ⟨zMc_k hc (fun j hj => e j (by omega) (by omega) (by omega)) (by rw [e 19 (by omega) (by omega) (by omega)]; omega) (by omega), ?_, ?_⟩
  · rw [e 13 (by omega) (by omega) (by omega), e 12 (by omega) (by omega) (by omega), e 7 (by omega) (by omega) (by omega), e 18 (by omega) (by omega) (by omega)]; exact h2
  · rw [e 13 (by omega) (by omega) (by omega), e 18 (by omega) (by omega) (by omega)]; exact h3
theorem zMc_log {m m' : zM} (h : zMc (m 81)) (hk : zKp zpL m m') (h0 : 0 ≤ m' 81 19) (h1 : m' 81 19 ≤ 100) : zMc (m' 81) := by
  have e : ∀ j, j ≠ 19 → ¬ (212 ≤ j ∧ j ≤ 611) → m' 81 j = m 81 j := fun j q1 q2 => hk 81 j (by unfold zpL; omega)
  have b := h.1
  unfold zMb at b
  exact zMc_k h (fun j hj => e j (by omega) (by omega)) ⟨h0, h1⟩ (by rw [e 2 (by omega) (by omega)]; omega)
theorem zMi_log {m m' : zM} (h : zMi (m 81)) (hk : zKp zpL m m') (h0 : 0 ≤ m' 81 19) (h1 : m' 81 19 ≤ 100) : zMi (m' 81) := by
  have e : ∀ j, j ≠ 19 → ¬ (212 ≤ j ∧ j ≤ 611) → m' 81 j = m 81 j := fun j q1 q2 => hk 81 j (by unfold zpL; omega)
  obtain ⟨hc, h2, h3⟩ := h
  refine ⟨zMc_log hc hk h0 h1, ?_, ?_⟩
  · rw [e 13 (by omega) (by omega), e 12 (by omega) (by omega), e 7 (by omega) (by omega), e 18 (by omega) (by omega)]; exact h2
  · rw [e 13 (by omega) (by omega), e 18 (by omega) (by omega)]; exact h3
/-- water that falls, or comes up to the tank -/
theorem zMi_water {m : zM} {v : Int} (h : zMi (m 81)) (h0 : 0 ≤ v) (h1 : v ≤ m 81 3) : zMi (zset m 81 2 v 81) := by
  have e : ∀ j, j ≠ 2 → zset m 81 2 v 81 j = m 81 j := fun j hj => by rw [zset_e, if_pos rfl, if_neg hj]
  have e2 : zset m 81 2 v 81 2 = v := by rw [zset_e, if_pos rfl, if_pos rfl]
  obtain ⟨hc, h2, h3⟩ := h
  have b := hc.1
  unfold zMb at b
  refine ⟨zMc_k hc (fun j hj => e j (by omega)) (by rw [e 19 (by omega)]; omega) (by rw [e2]; omega), ?_, ?_⟩
  · rw [e 13 (by omega), e 12 (by omega), e 7 (by omega), e 18 (by omega)]; exact h2
  · rw [e 13 (by omega), e 18 (by omega)]; exact h3
/-- the train's place -/
theorem zMi_at {m : zM} {v : Int} (h : zMi (m 81)) (h0 : 0 ≤ v) (h1 : m 81 13 = 1 → v + m 81 7 ≤ m 81 18) : zMi (zset m 81 12 v 81) := by
  have e : ∀ j, j ≠ 12 → zset m 81 12 v 81 j = m 81 j := fun j hj => by rw [zset_e, if_pos rfl, if_neg hj]
  have e2 : zset m 81 12 v 81 12 = v := by rw [zset_e, if_pos rfl, if_pos rfl]
  obtain ⟨hc, h2, h3⟩ := h
  have b := hc.1
  unfold zMb at b
  refine ⟨zMc_k hc (fun j hj => e j (by omega)) (by rw [e 19 (by omega)]; omega) (by rw [e 2 (by omega)]; omega), ?_, ?_⟩
  · rw [e 13 (by omega), e2, e 7 (by omega), e 18 (by omega)]; exact fun q => ⟨h0, h1 q⟩
  · rw [e 13 (by omega), e 18 (by omega)]; exact h3
/-- the shift of the line, k places on the way -/
def zSh (k : Int) (m m' : zM) : Prop := (∀ x j : Nat, ¬ (x = 81 ∧ 196 ≤ j ∧ (j : Int) < 195 + k) → m' x j = m x j) ∧ (∀ p : Int, 0 ≤ p → p < k - 1 → m' 81 (196 + p).toNat = m 81 (197 + p).toNat)
theorem zSh_0 (m : zM) : zSh 1 m m := ⟨fun _ _ _ => rfl, fun p h0 h1 => absurd h1 (by omega)⟩
theorem zSh_s {k : Int} {m m1 : zM} (h : zSh k m m1) (h1 : 1 ≤ k) : zSh (k + 1) m (zset m1 81 (195 + k).toNat (m1 81 (196 + k).toNat)) := by
  refine ⟨fun x j hn => ?_, fun p h0 hp => ?_⟩
  · rw [zset_e]
    by_cases hx : x = 81
    · rw [if_pos hx, if_neg (by omega)]; exact h.1 x j (by omega)
    · rw [if_neg hx]; exact h.1 x j (by omega)
  · rw [zset_e, if_pos rfl]
    by_cases hq : p = k - 1
    · subst hq
      rw [if_pos (by omega), h.1 81 (196 + k).toNat (by omega)]
      congr 1; omega
    · rw [if_neg (by omega)]; exact h.2 p h0 (by omega)
theorem zMi_lift {f g : Nat → Int} (h : zMi f) (h13 : f 13 = 1) (h12 : 0 < f 12) (hg : ∀ k, (k = 2 ∨ k = 3 ∨ k = 4 ∨ k = 7 ∨ k = 13 ∨ (15 ≤ k ∧ k ≤ 17) ∨ k = 19 ∨ (120 ≤ k ∧ k ≤ 195)) → k ≠ (120 + 4 * f 196 + 2).toNat → k ≠ (120 + 4 * f 196 + 3).toNat → g k = f k) (g12 : g 12 = f 12 - 1) (g18 : g 18 = f 18 - 1) (gl : ∀ p : Int, 0 ≤ p → p < f 18 - 1 → g (196 + p).toNat = f (197 + p).toNat) : zMi g := by
  obtain ⟨hc, h2, h3⟩ := h
  obtain ⟨hb, hgn, hl1, hl2, hl3⟩ := hc
  obtain ⟨x1, x2, x3, x4, x5, x6, x7, x8, x9, x10, x11, x12, x13, x14⟩ := hb
  have t := h2 h13
  have r0 := hl2 0 (by omega) (by omega)
  have e196 : (196 + (0 : Int)).toNat = 196 := rfl
  rw [e196] at r0
  have e2 := hg 2 (by omega) (by omega) (by omega)
  have e3 := hg 3 (by omega) (by omega) (by omega)
  have e4 := hg 4 (by omega) (by omega) (by omega)
  have e7 := hg 7 (by omega) (by omega) (by omega)
  have e13 := hg 13 (by omega) (by omega) (by omega)
  have e15 := hg 15 (by omega) (by omega) (by omega)
  have e17 := hg 17 (by omega) (by omega) (by omega)
  have e19 := hg 19 (by omega) (by omega) (by omega)
  refine ⟨⟨?_, ?_, ?_, ?_, ?_⟩, ?_, ?_⟩
  · unfold zMb; rw [e15, e17, e19, e2, e3, e4, e7]
    exact ⟨x1, x2, x3, x4, x5, x6, x7, x8, x9, x10, x11, x12, x13, x14⟩
  · exact zGn_k hgn (hg 16 (by omega) (by omega) (by omega)) (fun k q1 q2 => hg k (by omega) (by omega) (by omega))
  · rw [g18]; omega
  · intro p q0 q1
    rw [g18] at q1
    rw [e15, gl p q0 q1]
    have b := hl2 (p + 1) (by omega) (by omega)
    have d := hl3 0 (p + 1) (by omega) (by omega) (by omega)
    rw [show (196 + (p + 1)).toNat = (197 + p).toNat by omega] at b d
    rw [e196] at d
    rw [hg (120 + 4 * f (197 + p).toNat + 2).toNat (by omega) (by omega) (by omega), hg (120 + 4 * f (197 + p).toNat + 3).toNat (by omega) (by omega) (by omega)]
    exact b
  · intro p q q0 q1 q2
    rw [g18] at q2
    rw [gl p q0 (by omega), gl q (by omega) q2]
    have d := hl3 (p + 1) (q + 1) (by omega) (by omega) (by omega)
    rw [show (196 + (p + 1)).toNat = (197 + p).toNat by omega, show (196 + (q + 1)).toNat = (197 + q).toNat by omega] at d
    exact d
  · rw [e13, g12, e7, g18]; omega
  · rw [e13]; omega
theorem zMi_gn {f : Nat → Int} (h : zMi f) : zGn f := h.1.2.1
theorem zMi_w0 {f : Nat → Int} (h : zMi f) : 0 ≤ f 2 := by have := h.1.1; unfold zMb at this; omega
theorem zMi_ln {f : Nat → Int} (h : zMi f) : zLn f := zLn_of h.1
/-- the row of cells that a line is set on -/
def zp85 (c _k : Nat) : Prop := c ≠ 85
def zRow (n : Int) (m : zM) : Prop := ∀ k : Nat, (k : Int) < n → 0 ≤ m 85 k ∧ m 85 k ≤ 99
theorem zRow_0 (m : zM) : zRow 0 m := fun k h => absurd h (by omega)
theorem zRow_s {n c : Int} {m : zM} (h : zRow n m) (h0 : 0 ≤ n) (hc : 0 ≤ c ∧ c ≤ 99) : zRow (n + 1) (zset m 85 n.toNat c) := fun k hk => by
  rw [zset_e, if_pos rfl]
  by_cases hq : k = n.toNat
  · rw [if_pos hq]; exact hc
  · rw [if_neg hq]; exact h k (by omega)
theorem zRow_m {n n' : Int} {m : zM} (h : zRow n m) (hn : n' ≤ n) : zRow n' m := fun k hk => h k (by omega)
theorem zCo_1 {m : zM} {a c L : Int} (hL : L = m 81 18) (a0 : 0 ≤ a) (a1 : a < 16) (L0 : 0 ≤ L) (L1 : L ≤ 15) : zCo a c m (zset (zset (zset (zset m 81 (120 + 4 * a + 2).toNat 0) 81 (120 + 4 * a + 3).toNat c) 81 (196 + L).toNat a) 81 18 (L + 1)) := by
  subst hL
  refine ⟨zKp_st (zKp_st (zKp_st (zKp_st (zKp_rf _) ?_) ?_) ?_) ?_, ?_, ?_, ?_, ?_⟩
  · unfold zpC; omega
  · unfold zpC; omega
  · unfold zpC; omega
  · unfold zpC; omega
  · simp only [zset_e, reduceIte]
    rw [if_neg (by omega), if_neg (by omega), if_neg (by omega)]
  · simp only [zset_e, reduceIte]
    rw [if_neg (by omega), if_neg (by omega)]
  · simp only [zset_e, reduceIte]
    rw [if_neg (by omega)]
  · simp only [zset_e, reduceIte]
theorem zCo_2 {m : zM} {a c L v : Int} (hL : L = m 81 18) (a0 : 0 ≤ a) (a1 : a < 16) (L0 : 0 ≤ L) (L1 : L ≤ 15) (c0 : 0 ≤ c) (c1 : c ≤ 99) : zCo a c m (zset (zset (zset (zset (zset m 81 (120 + 4 * a + 2).toNat 0) 81 (120 + 4 * a + 3).toNat c) 81 (20 + c).toNat v) 81 (196 + L).toNat a) 81 18 (L + 1)) := by
  subst hL
  refine ⟨zKp_st (zKp_st (zKp_st (zKp_st (zKp_st (zKp_rf _) ?_) ?_) ?_) ?_) ?_, ?_, ?_, ?_, ?_⟩
  · unfold zpC; omega
  · unfold zpC; omega
  · unfold zpC; omega
  · unfold zpC; omega
  · unfold zpC; omega
  · simp only [zset_e, reduceIte]
    rw [if_neg (by omega), if_neg (by omega), if_neg (by omega), if_neg (by omega)]
  · simp only [zset_e, reduceIte]
    rw [if_neg (by omega), if_neg (by omega), if_neg (by omega)]
  · simp only [zset_e, reduceIte]
    rw [if_neg (by omega)]
  · simp only [zset_e, reduceIte]
