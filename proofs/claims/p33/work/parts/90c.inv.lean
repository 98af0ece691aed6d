/-! ===== what holds between two calls of a run: the class is sound, the reference is, and they agree where the parts compare ===== -/
def zIt (m : zM) : Prop := 0 ≤ m 53 1 ∧ m 53 1 ≤ 400 ∧ m 80 5 = m 53 1
def zIw (m : zM) : Prop := (0 ≤ m 5 4 ∧ m 5 4 ≤ 16 ∧ m 81 15 = m 5 4) ∧ (0 ≤ m 12 3 ∧ m 12 3 ≤ 4 ∧ m 81 16 = m 12 3) ∧ ∀ i : Nat, (i : Int) < m 12 3 → m 81 (184 + 3 * i + 2) = m 15 i
def zIk (m : zM) : Prop := (-1 ≤ m 27 8 ∧ m 27 8 ≤ 15 ∧ 1 ≤ m 44 7 ∧ m 44 7 ≤ 4) ∧ (0 ≤ m 27 4 ∧ m 27 4 ≤ 16 ∧ m 82 15 = m 27 4) ∧ (0 ≤ m 34 3 ∧ m 34 3 ≤ 4 ∧ m 82 16 = m 34 3) ∧ (∀ i : Nat, (i : Int) < m 34 3 → m 82 (184 + 3 * i + 2) = m 37 i) ∧ zMi (m 82) ∧ zTz (m 82)
def zInv (m : zM) : Prop := cS m ∧ zIt m ∧ zIw m ∧ zMi (m 81) ∧ zTz (m 81) ∧ (m 80 3 = m 0 2 ∧ (m 0 2 = 0 ∨ m 0 2 = 1)) ∧ (m 0 2 = 1 → zIk m)
/-- the places that it speaks of, cS's and the reference's world apart -/
def zqT (c k : Nat) : Prop := (c = 53 ∧ k = 1) ∨ (c = 80 ∧ k = 5)
def zqN (c k : Nat) : Prop := (c = 5 ∧ k = 4) ∨ (c = 12 ∧ k = 3) ∨ c = 15 ∨ (c = 81 ∧ (k = 15 ∨ k = 16 ∨ (184 ≤ k ∧ k ≤ 195)))
def zqK (c k : Nat) : Prop := (c = 80 ∧ k = 3) ∨ (c = 0 ∧ k = 2) ∨ (23 ≤ c ∧ c ≤ 44) ∨ c = 82
theorem zIt_k {m m' : zM} (h : zIt m) (e : zKp zqT m m') : zIt m' := by
  unfold zIt at *
  rw [e 53 1 (by unfold zqT; omega), e 80 5 (by unfold zqT; omega)]; exact h
theorem zIw_k {m m' : zM} (h : zIw m) (e : zKp zqN m m') : zIw m' := by
  unfold zIw at *
  rw [e 5 4 (by unfold zqN; omega), e 12 3 (by unfold zqN; omega), e 81 15 (by unfold zqN; omega), e 81 16 (by unfold zqN; omega)]
  refine ⟨h.1, h.2.1, fun i hi => ?_⟩
  have h34 := h.2.1.2.1
  rw [e 81 (184 + 3 * i + 2) (by unfold zqN; omega), e 15 i (by unfold zqN; omega)]
  exact h.2.2 i hi
theorem zIk_k {m m' : zM} (h : zIk m) (e : zKp zqK m m') : zIk m' := by
  have e82 : m' 82 = m 82 := funext (fun j => e 82 j (by unfold zqK; omega))
  unfold zIk at *
  rw [e 27 8 (by unfold zqK; omega), e 44 7 (by unfold zqK; omega), e 27 4 (by unfold zqK; omega), e 34 3 (by unfold zqK; omega), e82]
  refine ⟨h.1, h.2.1, h.2.2.1, fun i hi => ?_, h.2.2.2.2⟩
  rw [e 37 i (by unfold zqK; omega)]
  exact h.2.2.2.1 i hi
theorem zIf_k {m m' : zM} (h : (m 80 3 = m 0 2 ∧ (m 0 2 = 0 ∨ m 0 2 = 1)) ∧ (m 0 2 = 1 → zIk m)) (e : zKp zqK m m') : (m' 80 3 = m' 0 2 ∧ (m' 0 2 = 0 ∨ m' 0 2 = 1)) ∧ (m' 0 2 = 1 → zIk m') := by
  rw [e 80 3 (by unfold zqK; omega), e 0 2 (by unfold zqK; omega)]
  exact ⟨h.1, fun z => zIk_k (h.2 z) e⟩
/-- calls that touch nothing of it -/
theorem zInv_W {m m' : zM} (h : zInv m) (w : zSW m m') : zInv m' := by
  obtain ⟨h1, h2, h3, h4, h5, h6⟩ := h
  have e81 : m' 81 = m 81 := funext (fun j => w.1 81 j (by unfold zqW zqC; omega))
  exact ⟨w.2, zIt_k h2 (zKp_mono w.1 (fun c k hc => by unfold zqT at hc; unfold zqW zqC; omega)), zIw_k h3 (zKp_mono w.1 (fun c k hc => by unfold zqN at hc; unfold zqW zqC; omega)), by rw [e81]; exact h4, by rw [e81]; exact h5, zIf_k h6 (zKp_mono w.1 (fun c k hc => by unfold zqK at hc; unfold zqW zqC; omega))⟩
theorem zInv_M {m m' : zM} (h : zInv m) (w : zMK m m') : zInv m' := by
  obtain ⟨h1, h2, h3, h4, h5, h6⟩ := h
  have e : ∀ c k, c ≤ 79 → m' c k = m c k := fun c k hc => w.2 c k (by unfold zpP; omega)
  exact ⟨cS_of h1 (e 5 8 (by omega)) (e 22 7 (by omega)) (e 59 6 (by omega)) (e 59 4 (by omega)), zIt_k h2 (zKp_mono w.2 (fun c k hc => by unfold zqT at hc; unfold zpP; omega)), zIw_k h3 (zKp_mono w.2 (fun c k hc => by unfold zqN at hc; unfold zpP; omega)), w.1, zTz_P h5 w.2, zIf_k h6 (zKp_mono w.2 (fun c k hc => by unfold zqK at hc; unfold zpP; omega))⟩
theorem zInv_i {m : zM} (h : zInv m) : zMi (m 81) := h.2.2.2.1
theorem zInv_z {m : zM} (h : zInv m) : zTz (m 81) := h.2.2.2.2.1
theorem zInv_s {m : zM} (h : zInv m) : cS m := h.1
/-- feed: both answer alike -/
theorem zInv_feed {m m1 m2 : zM} {r1 r2 : Int} (h : zInv m) (f1 : if m 53 1 + 20 ≤ 400 then zfr 53 54 m m1 ∧ r1 = m 53 1 + 20 ∧ m1 53 1 = m 53 1 + 20 else r1 = -1 ∧ m1 = m) (f2 : zKp zpF m1 m2 ∧ ((400 < m1 80 5 + 20 ∧ r2 = -1 ∧ m2 80 5 = m1 80 5) ∨ (m1 80 5 + 20 ≤ 400 ∧ r2 = m1 80 5 + 20 ∧ m2 80 5 = m1 80 5 + 20))) : r1 = r2 ∧ zInv m2 := by
  obtain ⟨h1, h2, h3, h4, h5, h6⟩ := h
  unfold zIt at h2
  have k1 : ∀ c k, ¬ (c = 53 ∨ c = 54) → m1 c k = m c k := fun c k hc => by
    by_cases h20 : m 53 1 + 20 ≤ 400
    · rw [if_pos h20] at f1; exact f1.1 c k (by omega)
    · rw [if_neg h20] at f1; rw [f1.2]
  have e805 := k1 80 5 (by omega)
  have e531 : m2 53 1 = m1 53 1 := f2.1 53 1 (by unfold zpF; omega)
  have k2 : ∀ c k, ¬ (c = 53 ∨ c = 54 ∨ c = 83 ∨ c = 84 ∨ (c = 80 ∧ (k = 0 ∨ k = 5))) → m2 c k = m c k := fun c k hc => (f2.1 c k (by unfold zpF; omega)).trans (k1 c k (by omega))
  have e81 : m2 81 = m 81 := funext (fun j => k2 81 j (by omega))
  have hr : r1 = r2 ∧ 0 ≤ m2 53 1 ∧ m2 53 1 ≤ 400 ∧ m2 80 5 = m2 53 1 := by
    by_cases h20 : m 53 1 + 20 ≤ 400
    · rw [if_pos h20] at f1; omega
    · rw [if_neg h20] at f1
      have := f1.2
      subst this
      omega
  exact ⟨hr.1, cS_of h1 (k2 5 8 (by omega)) (k2 22 7 (by omega)) (k2 59 6 (by omega)) (k2 59 4 (by omega)), hr.2, zIw_k h3 (fun c k hc => k2 c k (by unfold zqN at hc; omega)), by rw [e81]; exact h4, by rw [e81]; exact h5, zIf_k h6 (fun c k hc => k2 c k (by unfold zqK at hc; omega))⟩
theorem zInv_end {m m1 m2 : zM} {n r1 r2 : Int} (h : zInv m) (f1 : if 0 ≤ n ∧ n ≤ m 53 1 then r1 = 1 ∧ m1 = zset m 53 1 n else r1 = 0 ∧ m1 = m) (f2 : zKp zpE m1 m2 ∧ ((¬ (0 ≤ n ∧ n ≤ m1 80 5) ∧ r2 = 0 ∧ m2 80 5 = m1 80 5) ∨ (0 ≤ n ∧ n ≤ m1 80 5 ∧ r2 = 1 ∧ m2 80 5 = n))) : r1 = r2 ∧ zInv m2 := by
  obtain ⟨h1, h2, h3, h4, h5, h6⟩ := h
  unfold zIt at h2
  have k1 : ∀ c k, ¬ (c = 53 ∧ k = 1) → m1 c k = m c k := fun c k hc => by
    by_cases hn : 0 ≤ n ∧ n ≤ m 53 1
    · rw [if_pos hn] at f1
      rw [f1.2, zset_e]
      by_cases hq : c = 53
      · rw [if_pos hq, if_neg (by omega)]
      · rw [if_neg hq]
    · rw [if_neg hn] at f1; rw [f1.2]
  have v1 : m1 53 1 = if 0 ≤ n ∧ n ≤ m 53 1 then n else m 53 1 := by
    by_cases hn : 0 ≤ n ∧ n ≤ m 53 1
    · rw [if_pos hn] at f1 ⊢
      rw [f1.2, zset_e, if_pos rfl, if_pos rfl]
    · rw [if_neg hn] at f1 ⊢; rw [f1.2]
  have e805 := k1 80 5 (by omega)
  have e531 : m2 53 1 = m1 53 1 := f2.1 53 1 (by unfold zpE; omega)
  have k2 : ∀ c k, ¬ ((c = 53 ∧ k = 1) ∨ (c = 80 ∧ (k = 0 ∨ k = 5))) → m2 c k = m c k := fun c k hc => (f2.1 c k (by unfold zpE; omega)).trans (k1 c k (by omega))
  have e81 : m2 81 = m 81 := funext (fun j => k2 81 j (by omega))
  have hr : r1 = r2 ∧ 0 ≤ m2 53 1 ∧ m2 53 1 ≤ 400 ∧ m2 80 5 = m2 53 1 := by
    by_cases hn : 0 ≤ n ∧ n ≤ m 53 1
    · rw [if_pos hn] at f1 v1; omega
    · rw [if_neg hn] at f1 v1; omega
  exact ⟨hr.1, cS_of h1 (k2 5 8 (by omega)) (k2 22 7 (by omega)) (k2 59 6 (by omega)) (k2 59 4 (by omega)), hr.2, zIw_k h3 (fun c k hc => k2 c k (by unfold zqN at hc; omega)), by rw [e81]; exact h4, by rw [e81]; exact h5, zIf_k h6 (fun c k hc => k2 c k (by unfold zqK at hc; omega))⟩
theorem zInv_orders {m m1 m2 : zM} (h : zInv m) (w : zSV m m1) (f : zMi (m2 81) ∧ zTz (m2 81) ∧ m2 80 5 = 0 ∧ zKp zpU m1 m2) : zInv m2 := by
  obtain ⟨h1, h2, h3, h4, h5, h6⟩ := h
  have e : ∀ c k, c ≤ 79 → m2 c k = m1 c k := fun c k hc => f.2.2.2 c k (by unfold zpU; omega)
  have k2 : ∀ c k, zqV c k → zpU c k → m2 c k = m c k := fun c k hc hd => (f.2.2.2 c k hd).trans (w.1 c k hc)
  refine ⟨cS_of w.2.1 (e 5 8 (by omega)) (e 22 7 (by omega)) (e 59 6 (by omega)) (e 59 4 (by omega)), ?_, zIw_k h3 (fun c k hc => k2 c k (by unfold zqN at hc; unfold zqV zqCo zqC; omega) (by unfold zqN at hc; unfold zpU; omega)), f.1, f.2.1, zIf_k h6 (fun c k hc => k2 c k (by unfold zqK at hc; unfold zqV zqCo zqC; omega) (by unfold zqK at hc; unfold zpU; omega))⟩
  have a1 := e 53 1 (by omega)
  have a2 := w.2.2
  have a3 := f.2.2.1
  unfold zIt; omega

theorem zMi_52 {f g : Nat → Int} (h : zMi f) (e : ∀ j : Nat, j < 4856 → g j = f j) : zMi g := zMi_ext h (fun j hj => e j (by omega))
theorem zTz_52 {f g : Nat → Int} (h : zMi f) (hz : zTz f) (e : ∀ j : Nat, j < 4856 → g j = f j) : zTz g := fun t t0 t1 => by
  have hb := zMi_b h
  rw [e 17 (by omega)] at t1
  obtain ⟨lev, q⟩ := hz t t0 t1
  exact ⟨lev, zTk_t q t0 (fun j _ h2 => e j (by unfold zMb at hb; omega))⟩
theorem zInv_rail {m m1 m2 : zM} {a b r1 r2 : Int} (h : zInv m) (f1 : zPR a b m r1 m1) (f2 : zMi (m2 81) ∧ zKp zpR m1 m2 ∧ zAns (0 ≤ a ∧ a ≤ 99 ∧ -9 ≤ b ∧ b ≤ 9) 16 (m1 81 15) r2 (m2 80 0) (m2 81 15)) : (r1 = m2 80 0 ∧ (r1 = 0 → m2 94 0 = r2)) ∧ zInv m2 := by
  obtain ⟨h1, h2, h3, h4, h5, h6⟩ := h
  obtain ⟨g1, g2, g3⟩ := f2
  have k1 : ∀ c k, ¬ (5 ≤ c ∧ c ≤ 11) → c ≠ 94 → m1 c k = m c k := fun c k hc hd => by
    rcases f1 with f | f | f
    · exact f.2.2.2.1 c k hc hd
    · rw [f.2.2]
    · rw [f.2.2.2]
  have k58 : m1 5 8 = m 5 8 := by
    rcases f1 with f | f | f
    · exact f.2.2.2.2.1
    · rw [f.2.2]
    · rw [f.2.2.2]
  have hA : (r1 = 0 ∧ (0 ≤ a ∧ a ≤ 99 ∧ -9 ≤ b ∧ b ≤ 9) ∧ m 5 4 < 16 ∧ m1 5 4 = m 5 4 + 1 ∧ m1 94 0 = m 5 4) ∨ (r1 = 1 ∧ ¬ (0 ≤ a ∧ a ≤ 99 ∧ -9 ≤ b ∧ b ≤ 9) ∧ m1 5 4 = m 5 4) ∨ (r1 = 2 ∧ (0 ≤ a ∧ a ≤ 99 ∧ -9 ≤ b ∧ b ≤ 9) ∧ 16 ≤ m 5 4 ∧ m1 5 4 = m 5 4) := by
    rcases f1 with f | f | f
    · exact Or.inl ⟨f.1, f.2.1, f.2.2.1, f.2.2.2.2.2.1, f.2.2.2.2.2.2⟩
    · exact Or.inr (Or.inl ⟨f.1, f.2.1, by rw [f.2.2]⟩)
    · exact Or.inr (Or.inr ⟨f.1, f.2.1, f.2.2.1, by rw [f.2.2.2]⟩)
  have e15 := k1 81 15 (by omega) (by omega)
  have e54 : m2 5 4 = m1 5 4 := g2 5 4 (by unfold zpR zpP; omega)
  have e94 : m2 94 0 = m1 94 0 := g2 94 0 (by unfold zpR zpP; omega)
  have k2 : ∀ c k, ¬ (5 ≤ c ∧ c ≤ 11) → c ≠ 94 → zpR c k → m2 c k = m c k := fun c k hc hd he => (g2 c k he).trans (k1 c k hc hd)
  unfold zAns at g3
  have h3' := h3
  unfold zIw at h3'
  obtain ⟨w1, w2, w3⟩ := h3'
  have hr : (r1 = m2 80 0 ∧ (r1 = 0 → m2 94 0 = r2)) ∧ 0 ≤ m2 5 4 ∧ m2 5 4 ≤ 16 ∧ m2 81 15 = m2 5 4 := by omega
  refine ⟨hr.1, cS_of h1 ((g2 5 8 (by unfold zpR zpP; omega)).trans k58) (k2 22 7 (by omega) (by omega) (by unfold zpR zpP; omega)) (k2 59 6 (by omega) (by omega) (by unfold zpR zpP; omega)) (k2 59 4 (by omega) (by omega) (by unfold zpR zpP; omega)), zIt_k h2 (fun c k hc => k2 c k (by unfold zqT at hc; omega) (by unfold zqT at hc; omega) (by unfold zqT at hc; unfold zpR zpP; omega)), ?_, g1, zTz_k h5 (k2 81 17 (by omega) (by omega) (by unfold zpR zpP; omega)) (fun j hj => k2 81 j (by omega) (by omega) (by unfold zpR zpP; omega)), zIf_k h6 (fun c k hc => k2 c k (by unfold zqK at hc; omega) (by unfold zqK at hc; omega) (by unfold zqK at hc; unfold zpR zpP; omega))⟩
  unfold zIw
  rw [k2 12 3 (by omega) (by omega) (by unfold zpR zpP; omega), k2 81 16 (by omega) (by omega) (by unfold zpR zpP; omega)]
  refine ⟨hr.2, w2, fun i hi => ?_⟩
  rw [k2 81 (184 + 3 * i + 2) (by omega) (by omega) (by unfold zpR zpP; omega), k2 15 i (by omega) (by omega) (by unfold zpR zpP; omega)]
  exact w3 i hi
theorem zInv_gang {m m1 m2 : zM} {a b r1 r2 : Int} (h : zInv m) (f1 : zPG a b m r1 m1) (f2 : zMi (m2 81) ∧ zKp (zpG (m1 81 16)) m1 m2 ∧ zAns (1 ≤ a ∧ a ≤ 9 ∧ 1 ≤ b ∧ b ≤ 30) 4 (m1 81 16) r2 (m2 80 0) (m2 81 16) ∧ (m2 81 16 = m1 81 16 + 1 → m2 81 (184 + 3 * m1 81 16 + 2).toNat = 0)) : (r1 = m2 80 0 ∧ (r1 = 0 → m2 94 0 = r2)) ∧ zInv m2 := by
  obtain ⟨h1, h2, h3, h4, h5, h6⟩ := h
  obtain ⟨g1, g2, g3, g4⟩ := f2
  have k1 : ∀ c k, ¬ (12 ≤ c ∧ c ≤ 15) → c ≠ 94 → m1 c k = m c k := fun c k hc hd => by
    rcases f1 with f | f | f
    · exact f.2.2.2.1 c k hc hd
    · rw [f.2.2]
    · rw [f.2.2.2]
  have hA : (r1 = 0 ∧ (1 ≤ a ∧ a ≤ 9 ∧ 1 ≤ b ∧ b ≤ 30) ∧ m 12 3 < 4 ∧ m1 12 3 = m 12 3 + 1 ∧ m1 94 0 = m 12 3) ∨ (r1 = 1 ∧ ¬ (1 ≤ a ∧ a ≤ 9 ∧ 1 ≤ b ∧ b ≤ 30) ∧ m1 12 3 = m 12 3) ∨ (r1 = 2 ∧ (1 ≤ a ∧ a ≤ 9 ∧ 1 ≤ b ∧ b ≤ 30) ∧ 4 ≤ m 12 3 ∧ m1 12 3 = m 12 3) := by
    rcases f1 with f | f | f
    · exact Or.inl ⟨f.1, f.2.1, f.2.2.1, f.2.2.2.2.1, f.2.2.2.2.2.2⟩
    · exact Or.inr (Or.inl ⟨f.1, f.2.1, by rw [f.2.2]⟩)
    · exact Or.inr (Or.inr ⟨f.1, f.2.1, f.2.2.1, by rw [f.2.2.2]⟩)
  have hB : ∀ j : Nat, m1 15 j = if r1 = 0 ∧ j = (m 12 3).toNat then 0 else m 15 j := fun j => by
    rcases f1 with f | f | f
    · rw [f.2.2.2.2.2.1 j]
      by_cases q : j = (m 12 3).toNat
      · rw [if_pos q, if_pos ⟨f.1, q⟩]
      · rw [if_neg q, if_neg (fun z => q z.2)]
    · rw [if_neg (by omega), f.2.2]
    · rw [if_neg (by omega), f.2.2.2]
  have e16 := k1 81 16 (by omega) (by omega)
  have e123 : m2 12 3 = m1 12 3 := g2 12 3 (by unfold zpG zpP; omega)
  have e94 : m2 94 0 = m1 94 0 := g2 94 0 (by unfold zpG zpP; omega)
  have h3' := h3
  unfold zIw at h3'
  obtain ⟨w1, w2, w3⟩ := h3'
  have k2 : ∀ c k, ¬ (12 ≤ c ∧ c ≤ 15) → c ≠ 94 → zpG (m1 81 16) c k → m2 c k = m c k := fun c k hc hd he => (g2 c k he).trans (k1 c k hc hd)
  unfold zAns at g3
  have hr : (r1 = m2 80 0 ∧ (r1 = 0 → m2 94 0 = r2)) ∧ 0 ≤ m2 12 3 ∧ m2 12 3 ≤ 4 ∧ m2 81 16 = m2 12 3 := by omega
  have hr2 : (r1 = 0 ∧ m2 12 3 = m 12 3 + 1 ∧ m2 81 16 = m1 81 16 + 1) ∨ (r1 ≠ 0 ∧ m2 12 3 = m 12 3) := by omega
  refine ⟨hr.1, cS_of h1 (k2 5 8 (by omega) (by omega) (by unfold zpG zpP; omega)) (k2 22 7 (by omega) (by omega) (by unfold zpG zpP; omega)) (k2 59 6 (by omega) (by omega) (by unfold zpG zpP; omega)) (k2 59 4 (by omega) (by omega) (by unfold zpG zpP; omega)), zIt_k h2 (fun c k hc => k2 c k (by unfold zqT at hc; omega) (by unfold zqT at hc; omega) (by unfold zqT at hc; unfold zpG zpP; omega)), ?_, g1, zTz_k h5 (k2 81 17 (by omega) (by omega) (by unfold zpG zpP; omega)) (fun j hj => k2 81 j (by omega) (by omega) (by unfold zpG zpP; omega)), zIf_k h6 (fun c k hc => k2 c k (by unfold zqK at hc; omega) (by unfold zqK at hc; omega) (by unfold zqK at hc; unfold zpG zpP; omega))⟩
  unfold zIw
  rw [k2 5 4 (by omega) (by omega) (by unfold zpG zpP; omega), k2 81 15 (by omega) (by omega) (by unfold zpG zpP; omega)]
  refine ⟨w1, hr.2, fun i hi => ?_⟩
  rw [show m2 15 i = m1 15 i from g2 15 i (by unfold zpG zpP; omega), hB i]
  by_cases hq : r1 = 0 ∧ i = (m 12 3).toNat
  · rw [if_pos hq]
    have e : 184 + 3 * i + 2 = (184 + 3 * m1 81 16 + 2).toNat := by omega
    rw [e]
    exact g4 (by omega)
  · rw [if_neg hq, k2 81 (184 + 3 * i + 2) (by omega) (by omega) (by unfold zpG zpP; omega)]
    exact w3 i (by omega)
theorem zInv_task {m m1 m2 : zM} {g k r1 r2 : Int} (h : zInv m) (f1 : zPT g k m r1 m1) (f2 : zMi (m2 81) ∧ zKp (zpT g) m1 m2 ∧ ((¬ (0 ≤ g ∧ g < m1 81 16) ∧ m2 80 0 = 1 ∧ m2 81 (184 + 3 * g + 2).toNat = m1 81 (184 + 3 * g + 2).toNat) ∨ (0 ≤ g ∧ g < m1 81 16 ∧ ¬ (0 ≤ k ∧ k ≤ 3) ∧ m2 80 0 = 2 ∧ m2 81 (184 + 3 * g + 2).toNat = m1 81 (184 + 3 * g + 2).toNat) ∨ (0 ≤ g ∧ g < m1 81 16 ∧ 0 ≤ k ∧ k ≤ 3 ∧ m2 80 0 = 0 ∧ r2 = m1 81 (184 + 3 * g + 2).toNat ∧ m2 81 (184 + 3 * g + 2).toNat = k))) : (r1 = m2 80 0 ∧ (r1 = 0 → m2 94 0 = r2)) ∧ zInv m2 := by
  obtain ⟨h1, h2, h3, h4, h5, h6⟩ := h
  obtain ⟨g1, g2, g3⟩ := f2
  have k1 : ∀ c k, c ≠ 15 → c ≠ 94 → m1 c k = m c k := fun c k hc hd => by
    rcases f1 with f | f | f
    · exact f.2.2.2.1 c k (by omega) hd
    · rw [f.2.2]
    · rw [f.2.2.2]
  have hA : (r1 = 0 ∧ (0 ≤ g ∧ g < m 12 3) ∧ (0 ≤ k ∧ k ≤ 3) ∧ m1 94 0 = m 15 g.toNat) ∨ (r1 = 1 ∧ ¬ (0 ≤ g ∧ g < m 12 3)) ∨ (r1 = 2 ∧ (0 ≤ g ∧ g < m 12 3) ∧ ¬ (0 ≤ k ∧ k ≤ 3)) := by
    rcases f1 with f | f | f
    · exact Or.inl ⟨f.1, f.2.1, f.2.2.1, f.2.2.2.2.2⟩
    · exact Or.inr (Or.inl ⟨f.1, f.2.1⟩)
    · exact Or.inr (Or.inr ⟨f.1, f.2.1, f.2.2.1⟩)
  have hB : ∀ j : Nat, m1 15 j = if r1 = 0 ∧ j = g.toNat then k else m 15 j := fun j => by
    rcases f1 with f | f | f
    · rw [f.2.2.2.2.1 j]
      by_cases q : j = g.toNat
      · rw [if_pos q, if_pos ⟨f.1, q⟩]
      · rw [if_neg q, if_neg (fun z => q z.2)]
    · rw [if_neg (by omega), f.2.2]
    · rw [if_neg (by omega), f.2.2.2]
  have e16 := k1 81 16 (by omega) (by omega)
  have e94 : m2 94 0 = m1 94 0 := g2 94 0 (by unfold zpT zpP; omega)
  have eg := k1 81 (184 + 3 * g + 2).toNat (by omega) (by omega)
  have h3' := h3
  unfold zIw at h3'
  obtain ⟨w1, w2, w3⟩ := h3'
  have eo : 0 ≤ g → g < m 12 3 → m 81 (184 + 3 * g + 2).toNat = m 15 g.toNat := fun a b => by
    rw [show (184 + 3 * g + 2).toNat = 184 + 3 * g.toNat + 2 by omega]
    exact w3 g.toNat (by omega)
  have k2 : ∀ c k, c ≠ 15 → c ≠ 94 → zpT g c k → m2 c k = m c k := fun c k hc hd he => (g2 c k he).trans (k1 c k hc hd)
  have hr : (r1 = m2 80 0 ∧ (r1 = 0 → m2 94 0 = r2)) := by
    by_cases q0 : 0 ≤ g ∧ g < m 12 3
    · have := eo q0.1 q0.2; omega
    · omega
  refine ⟨hr, cS_of h1 (k2 5 8 (by omega) (by omega) (by unfold zpT zpP; omega)) (k2 22 7 (by omega) (by omega) (by unfold zpT zpP; omega)) (k2 59 6 (by omega) (by omega) (by unfold zpT zpP; omega)) (k2 59 4 (by omega) (by omega) (by unfold zpT zpP; omega)), zIt_k h2 (fun c k hc => k2 c k (by unfold zqT at hc; omega) (by unfold zqT at hc; omega) (by unfold zqT at hc; unfold zpT zpP; omega)), ?_, g1, ?_, zIf_k h6 (fun c k hc => k2 c k (by unfold zqK at hc; omega) (by unfold zqK at hc; omega) (by unfold zqK at hc; unfold zpT zpP; omega))⟩
  · have e81 : ∀ j : Nat, j ≠ (184 + 3 * g + 2).toNat → (j = 15 ∨ j = 16 ∨ (184 ≤ j ∧ j ≤ 195)) → m2 81 j = m 81 j := fun j q z => k2 81 j (by omega) (by omega) (by unfold zpT zpP; omega)
    have e15 : m2 81 15 = m 81 15 := by
      by_cases q : 15 = (184 + 3 * g + 2).toNat
      · rw [q]; omega
      · exact e81 15 q (by omega)
    have e16' : m2 81 16 = m 81 16 := by
      by_cases q : 16 = (184 + 3 * g + 2).toNat
      · rw [q]; omega
      · exact e81 16 q (by omega)
    unfold zIw
    rw [k2 5 4 (by omega) (by omega) (by unfold zpT zpP; omega), k2 12 3 (by omega) (by omega) (by unfold zpT zpP; omega), e15, e16']
    refine ⟨w1, w2, fun i hi => ?_⟩
    rw [show m2 15 i = m1 15 i from g2 15 i (by unfold zpT zpP; omega), hB i]
    by_cases q : 184 + 3 * i + 2 = (184 + 3 * g + 2).toNat
    · rw [q]
      have hi' := w3 i hi
      rw [q] at hi'
      by_cases hq : r1 = 0 ∧ i = g.toNat
      · rw [if_pos hq]; omega
      · rw [if_neg hq]; omega
    · rw [if_neg (by omega), e81 _ q (by omega)]
      exact w3 i hi
  · by_cases q : 0 ≤ g ∧ g < m 12 3
    · exact zTz_k h5 (k2 81 17 (by omega) (by omega) (by unfold zpT zpP; omega)) (fun j hj => k2 81 j (by omega) (by omega) (by unfold zpT zpP; omega))
    · have e : ∀ j : Nat, (j = 17 ∨ 612 ≤ j) → m2 81 j = m 81 j := fun j hj => by
        by_cases z : j = (184 + 3 * g + 2).toNat
        · rw [z]; omega
        · exact k2 81 j (by omega) (by omega) (by unfold zpT zpP; omega)
      exact zTz_k h5 (e 17 (by omega)) (fun j hj => e j (Or.inr hj))
theorem zInv_image {m m1 m2 : zM} (h : zInv m) (f1 : ∃ q : zM, zfr 23 44 m q ∧ q 27 4 = m 5 4 ∧ q 27 8 = m 5 8 ∧ q 44 7 = m 22 7 ∧ q 34 3 = m 12 3 ∧ (∀ i, i < 4 → q 37 i = m 15 i) ∧ m1 = zset q 0 2 1) (f2 : m2 80 3 = 1 ∧ zCp 81 82 m1 m2 ∧ zKp zpI m1 m2) : zInv m2 := by
  obtain ⟨h1, h2, h3, h4, h5, h6⟩ := h
  obtain ⟨q, a1, a2, a3, a4, a5, a6, rfl⟩ := f1
  obtain ⟨g1, g2, g3⟩ := f2
  have kq : ∀ c k, ¬ (c = 0 ∧ k = 2) → zset q 0 2 1 c k = q c k := fun c k hc => by
    rw [zset_e]
    by_cases z : c = 0
    · rw [if_pos z, if_neg (by omega), z]
    · rw [if_neg z]
  have k2 : ∀ c k, ¬ (c = 0 ∧ k = 2) → ¬ (23 ≤ c ∧ c ≤ 44) → zpI c k → m2 c k = m c k := fun c k x y z => (g3 c k z).trans ((kq c k x).trans (a1 c k (by omega)))
  have k3 : ∀ c k, ¬ (c = 0 ∧ k = 2) → zpI c k → m2 c k = q c k := fun c k x z => (g3 c k z).trans (kq c k x)
  have e02 : m2 0 2 = 1 := by rw [g3 0 2 (by unfold zpI; omega), zset_e, if_pos rfl, if_pos rfl]
  have e82 : ∀ j : Nat, j < 4856 → m2 82 j = m 81 j := fun j hj => (g2 j hj).trans ((kq 81 j (by omega)).trans (a1 81 j (by omega)))
  have e81 : m2 81 = m 81 := funext (fun j => k2 81 j (by omega) (by omega) (by unfold zpI; omega))
  refine ⟨cS_of h1 (k2 5 8 (by omega) (by omega) (by unfold zpI; omega)) (k2 22 7 (by omega) (by omega) (by unfold zpI; omega)) (k2 59 6 (by omega) (by omega) (by unfold zpI; omega)) (k2 59 4 (by omega) (by omega) (by unfold zpI; omega)), zIt_k h2 (fun c k hc => k2 c k (by unfold zqT at hc; omega) (by unfold zqT at hc; omega) (by unfold zqT at hc; unfold zpI; omega)), zIw_k h3 (fun c k hc => k2 c k (by unfold zqN at hc; omega) (by unfold zqN at hc; omega) (by unfold zqN at hc; unfold zpI; omega)), by rw [e81]; exact h4, by rw [e81]; exact h5, ⟨by omega, Or.inr e02⟩, fun _ => ?_⟩
  unfold zIw at h3
  obtain ⟨w1, w2, w3⟩ := h3
  have hw := h1.1
  unfold cW at hw
  unfold zIk
  rw [k3 27 8 (by omega) (by unfold zpI; omega), k3 44 7 (by omega) (by unfold zpI; omega), k3 27 4 (by omega) (by unfold zpI; omega), k3 34 3 (by omega) (by unfold zpI; omega), e82 15 (by omega), e82 16 (by omega), a2, a3, a4, a5]
  refine ⟨by omega, w1, w2, fun i hi => ?_, zMi_52 h4 e82, zTz_52 h4 h5 e82⟩
  rw [e82 _ (by omega), k3 37 i (by omega) (by unfold zpI; omega), a6 i (by omega)]
  exact w3 i hi
theorem zInv_back {m m1 m2 : zM} {r1 r2 : Int} (h : zInv m) (f1 : (m 0 2 = 0 → r1 = 0 ∧ m1 = m) ∧ (¬ m 0 2 = 0 → r1 = 1 ∧ zfr 1 22 m m1 ∧ m1 5 4 = m 27 4 ∧ m1 5 8 = m 27 8 ∧ m1 22 7 = m 44 7 ∧ m1 12 3 = m 34 3 ∧ (∀ i, i < 4 → m1 15 i = m 37 i))) (f2 : (m1 80 3 = 0 ∧ r2 = 0 ∧ m2 = zset m1 80 0 0) ∨ (m1 80 3 = 1 ∧ r2 = 1 ∧ zCp 82 81 m1 m2 ∧ zKp zpB m1 m2)) : r1 = r2 ∧ zInv m2 := by
  obtain ⟨h1, h2, h3, h4, h5, ⟨h6, h7⟩, h8⟩ := h
  by_cases z : m 0 2 = 0
  · obtain ⟨x1, rfl⟩ := f1.1 z
    rcases f2 with ⟨y1, y2, rfl⟩ | ⟨y1, y2, _⟩
    · have k2 : ∀ c k, ¬ (c = 80 ∧ k = 0) → zset m1 80 0 0 c k = m1 c k := fun c k hc => by
        rw [zset_e]
        by_cases z : c = 80
        · rw [if_pos z, if_neg (by omega), z]
        · rw [if_neg z]
      have e81 : zset m1 80 0 0 81 = m1 81 := funext (fun j => k2 81 j (by omega))
      exact ⟨by omega, cS_of h1 (k2 5 8 (by omega)) (k2 22 7 (by omega)) (k2 59 6 (by omega)) (k2 59 4 (by omega)), zIt_k h2 (fun c k hc => k2 c k (by unfold zqT at hc; omega)), zIw_k h3 (fun c k hc => k2 c k (by unfold zqN at hc; omega)), by rw [e81]; exact h4, by rw [e81]; exact h5, zIf_k ⟨⟨h6, h7⟩, h8⟩ (fun c k hc => k2 c k (by unfold zqK at hc; omega))⟩
    · omega
  · obtain ⟨x1, a1, a2, a3, a4, a5, a6⟩ := f1.2 z
    have e803 := a1 80 3 (by omega)
    rcases f2 with ⟨y1, _⟩ | ⟨y1, y2, g2, g3⟩
    · omega
    have hk := h8 (by omega)
    unfold zIk at hk
    obtain ⟨c1, c2, c3, c4, c5, c6⟩ := hk
    have k3 : ∀ c k, zpB c k → m2 c k = m1 c k := g3
    have k2 : ∀ c k, ¬ (1 ≤ c ∧ c ≤ 22) → zpB c k → m2 c k = m c k := fun c k x y => (g3 c k y).trans (a1 c k (by omega))
    have e81 : ∀ j : Nat, j < 4856 → m2 81 j = m 82 j := fun j hj => (g2 j hj).trans (a1 82 j (by omega))
    have hcr := h1.2
    refine ⟨by omega, ⟨?_, ?_⟩, zIt_k h2 (fun c k hc => k2 c k (by unfold zqT at hc; omega) (by unfold zqT at hc; unfold zpB; omega)), ?_, zMi_52 c5 e81, zTz_52 c5 c6 e81, zIf_k ⟨⟨h6, h7⟩, h8⟩ (fun c k hc => k2 c k (by unfold zqK at hc; omega) (by unfold zqK at hc; unfold zpB; omega))⟩
    · unfold cW
      rw [k3 5 8 (by unfold zpB; omega), k3 22 7 (by unfold zpB; omega), a3, a4]; omega
    · unfold cR at *
      rw [k2 59 6 (by omega) (by unfold zpB; omega), k2 59 4 (by omega) (by unfold zpB; omega)]; exact hcr
    · unfold zIw
      rw [k3 5 4 (by unfold zpB; omega), k3 12 3 (by unfold zpB; omega), e81 15 (by omega), e81 16 (by omega), a2, a5]
      refine ⟨c2, c3, fun i hi => ?_⟩
      rw [e81 _ (by omega), k3 15 i (by unfold zpB; omega), a6 i (by omega)]
      exact c4 i hi
theorem zInv_t {m : zM} (h : zInv m) : 0 ≤ m 53 1 ∧ m 53 1 ≤ 400 := ⟨h.2.1.1, h.2.1.2.1⟩
theorem zInv_n {m : zM} (h : zInv m) : 0 ≤ m 5 4 ∧ 0 ≤ m 12 3 ∧ m 12 3 ≤ 4 := ⟨h.2.2.1.1.1, h.2.2.1.2.1.1, h.2.2.1.2.1.2.1⟩
theorem zInv_feed1 {m m1 : zM} {r1 : Int} (h : zInv m) (f1 : if m 53 1 + 20 ≤ 400 then zfr 53 54 m m1 ∧ r1 = m 53 1 + 20 ∧ m1 53 1 = m 53 1 + 20 else r1 = -1 ∧ m1 = m) : 0 ≤ m1 80 5 ∧ m1 80 5 ≤ 400 := by
  have h2 := h.2.1
  unfold zIt at h2
  by_cases h20 : m 53 1 + 20 ≤ 400
  · rw [if_pos h20] at f1
    have := f1.1 80 5 (by omega)
    omega
  · rw [if_neg h20] at f1
    rw [f1.2]; omega
theorem zInv_end1 {m m1 : zM} {n r1 : Int} (h : zInv m) (f1 : if 0 ≤ n ∧ n ≤ m 53 1 then r1 = 1 ∧ m1 = zset m 53 1 n else r1 = 0 ∧ m1 = m) : 0 ≤ m1 80 5 ∧ m1 80 5 ≤ 400 := by
  have h2 := h.2.1
  unfold zIt at h2
  by_cases hn : 0 ≤ n ∧ n ≤ m 53 1
  · rw [if_pos hn] at f1
    rw [f1.2, zset_e, if_neg (by omega)]; omega
  · rw [if_neg hn] at f1
    rw [f1.2]; omega
theorem zInv_V1 {m m1 : zM} (h : zInv m) (w : zSV m m1) : zMi (m1 81) ∧ zTz (m1 81) ∧ 0 ≤ m1 80 5 ∧ m1 80 5 ≤ 400 := by
  have h2 := h.2.1
  unfold zIt at h2
  have e81 : m1 81 = m 81 := funext (fun j => w.1 81 j (by unfold zqV zqCo zqC; omega))
  have e805 : m1 80 5 = m 80 5 := w.1 80 5 (by unfold zqV zqCo zqC; omega)
  rw [e81, e805]
  exact ⟨zInv_i h, zInv_z h, by omega, by omega⟩
theorem zInv_rail1 {m m1 : zM} {a b r1 : Int} (h : zInv m) (f1 : zPR a b m r1 m1) : zMi (m1 81) := by
  rcases f1 with f | f | f
  · rw [show m1 81 = m 81 from funext (fun j => f.2.2.2.1 81 j (by omega) (by omega))]; exact zInv_i h
  · rw [f.2.2]; exact zInv_i h
  · rw [f.2.2.2]; exact zInv_i h
theorem zInv_gang1 {m m1 : zM} {a b r1 : Int} (h : zInv m) (f1 : zPG a b m r1 m1) : zMi (m1 81) := by
  rcases f1 with f | f | f
  · rw [show m1 81 = m 81 from funext (fun j => f.2.2.2.1 81 j (by omega) (by omega))]; exact zInv_i h
  · rw [f.2.2]; exact zInv_i h
  · rw [f.2.2.2]; exact zInv_i h
theorem zInv_task1 {m m1 : zM} {g k r1 : Int} (h : zInv m) (f1 : zPT g k m r1 m1) : zMi (m1 81) := by
  rcases f1 with f | f | f
  · rw [show m1 81 = m 81 from funext (fun j => f.2.2.2.1 81 j (by omega) (by omega))]; exact zInv_i h
  · rw [f.2.2]; exact zInv_i h
  · rw [f.2.2.2]; exact zInv_i h
