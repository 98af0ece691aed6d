/-! ===== the ring of the rows, closed ===== -/
theorem mRows (l : Launch) : ∀ (k : Nat) (d : Int), d + k = 7 → zMet l zLay yX11_readRow cX11_readRow 1 (some .boolean) (62 + 3 * k) (CX11_readRow d).1 (CX11_readRow d).2.1 (CX11_readRow d).2.2.1 (CX11_readRow d).2.2.2 := by
  intro k
  induction k with
  | zero =>
    intro d hd
    obtain rfl : d = 7 := by omega
    exact zMet_no (fun vs mem hl h => zDeep hl h)
  | succ k ih =>
    intro d hd
    have h1 := ih (d + 1) (by omega)
    have hc := (mTest l (k + 1) d (by omega)).2.2
    have a1 := mX11_readAgain l d (60 + 3 * (k + 1)) (by omega) (62 + 3 * k) (by omega) h1
    have a2 := mX11_readTest l d (60 + 3 * (k + 1)) (by omega) (32 + 3 * (k + 1)) (by omega) hc (62 + 3 * k) (by omega) h1
    have a3 := mX11_readOrder l d (61 + 3 * (k + 1)) (by omega) (60 + 3 * (k + 1)) (by omega) a1 (60 + 3 * (k + 1)) (by omega) a2
    exact mX11_readRow l d (62 + 3 * (k + 1)) (by omega) (61 + 3 * (k + 1)) (by omega) a3
theorem mX11_readRow0 (l : Launch) : zMet l zLay yX11_readRow cX11_readRow 1 (some .boolean) 83 (CX11_readRow 0).1 (CX11_readRow 0).2.1 (CX11_readRow 0).2.2.1 (CX11_readRow 0).2.2.2 := mRows l 7 0 (by omega)
/-! ===== a text is told: the draft is copied ===== -/
theorem zSg_t {f g : Nat → Int} {t t' a b L S : Int} (h : zSg f t a b L S) (eo : ∀ k : Int, a ≤ k → k < b → g (613 + 1061 * t' + 3 * k).toNat = f (613 + 1061 * t + 3 * k).toNat ∧ g (613 + 1061 * t' + 3 * k + 1).toNat = f (613 + 1061 * t + 3 * k + 1).toNat ∧ g (613 + 1061 * t' + 3 * k + 2).toNat = f (613 + 1061 * t + 3 * k + 2).toNat) (es : ∀ j : Int, 0 ≤ j → j < 199 → g (1273 + 1061 * t' + 2 * j).toNat = f (1273 + 1061 * t + 2 * j).toNat) : zSg g t' a b L S := by
  obtain ⟨u, u1, u2, u3, u4⟩ := h
  refine ⟨u, u1, u2, u3, fun k q1 q2 => ?_⟩
  obtain ⟨o1, o2, o3⟩ := eo k q1 q2
  obtain ⟨p1, p2, p3⟩ := u4 k q1 q2
  have hcn : zCn f t (f (613 + 1061 * t + 3 * k + 1).toNat) → zCn g t' (f (613 + 1061 * t + 3 * k + 1).toNat) := fun hc => by
    obtain ⟨c0, x, c1, c2, c3, c4, c5⟩ := hc
    refine ⟨c0, x, c1, c2, c3, c4, fun j z1 z2 => ?_⟩
    rw [es j (by omega) (by omega)]
    exact c5 j z1 z2
  rw [o1, o2]
  refine ⟨?_, p2, p3⟩
  unfold zOp at *
  rw [o1, o2, o3]
  obtain ⟨h1, h2, h3⟩ := p1
  refine ⟨h1, h2, ?_⟩
  rcases h3 with h3 | h3 | h3 | h3 | h3
  · exact Or.inl h3
  · exact Or.inr (Or.inl h3)
  · exact Or.inr (Or.inr (Or.inl ⟨h3.1, h3.2.1, h3.2.2.1, h3.2.2.2.1, h3.2.2.2.2.1, hcn h3.2.2.2.2.2⟩))
  · exact Or.inr (Or.inr (Or.inr (Or.inl ⟨h3.1, h3.2.1, h3.2.2.1, h3.2.2.2.1, h3.2.2.2.2.1, h3.2.2.2.2.2.1, hcn h3.2.2.2.2.2.2⟩)))
  · have ha := p2 h3.1
    rw [(eo (f (613 + 1061 * t + 3 * k + 1).toNat) ha (by omega)).1]
    exact Or.inr (Or.inr (Or.inr (Or.inr h3)))
theorem zTk_t {f g : Nat → Int} {t : Int} {lev : Int → Int} (h : zTk f t lev) (t0 : 0 ≤ t) (e : ∀ j : Nat, 612 + 1061 * t ≤ (j : Int) → (j : Int) < 1673 + 1061 * t → g j = f j) : zTk g t lev := by
  obtain ⟨h1, h2, h3, h4⟩ := h
  have e1 := e (612 + 1061 * t).toNat (by omega) (by omega)
  refine ⟨by rw [e1]; exact h1, by rw [e1]; exact h2, h3, fun k q0 q1 => ?_⟩
  rw [e1] at q1 ⊢
  have hk : k < 200 := by omega
  have o1 := e (613 + 1061 * t + 3 * k).toNat (by omega) (by omega)
  have o2 := e (613 + 1061 * t + 3 * k + 1).toNat (by omega) (by omega)
  have o3 := e (613 + 1061 * t + 3 * k + 2).toNat (by omega) (by omega)
  have hcn : ∀ n, zCn f t n → zCn g t n := fun n hc => by
    obtain ⟨c0, x, c1, c2, c3, c4, c5⟩ := hc
    refine ⟨c0, x, c1, c2, c3, c4, fun j z1 z2 => ?_⟩
    rw [e (1273 + 1061 * t + 2 * j).toNat (by omega) (by omega)]
    exact c5 j z1 z2
  have p1 := h4 k q0 q1
  unfold zOp at *
  rw [o1, o2, o3]
  obtain ⟨h1, h2, h3⟩ := p1
  refine ⟨h1, h2, ?_⟩
  rcases h3 with h3 | h3 | h3 | h3 | h3
  · exact Or.inl h3
  · exact Or.inr (Or.inl h3)
  · exact Or.inr (Or.inr (Or.inl ⟨h3.1, h3.2.1, h3.2.2.1, h3.2.2.2.1, h3.2.2.2.2.1, hcn _ h3.2.2.2.2.2⟩))
  · exact Or.inr (Or.inr (Or.inr (Or.inl ⟨h3.1, h3.2.1, h3.2.2.1, h3.2.2.2.1, h3.2.2.2.2.1, h3.2.2.2.2.2.1, hcn _ h3.2.2.2.2.2.2⟩)))
  · refine Or.inr (Or.inr (Or.inr (Or.inr ?_)))
    rw [e (613 + 1061 * t + 3 * f (613 + 1061 * t + 3 * k + 1).toNat).toNat (by omega) (by omega)]
    exact h3
theorem zMi_17 {f g : Nat → Int} (h : zMi f) (e : ∀ j, j < 212 → j ≠ 17 → g j = f j) (h0 : 0 ≤ g 17) (h4 : g 17 ≤ 4) : zMi g := by
  obtain ⟨⟨hb, hg, hl1, hl2, hl3⟩, h2, h3⟩ := h
  unfold zMb at hb
  refine ⟨⟨?_, zGn_k hg (e 16 (by omega) (by omega)) (fun k q1 q2 => e k (by omega) (by omega)), ?_, ?_, ?_⟩, ?_, ?_⟩
  · unfold zMb; rw [e 15 (by omega) (by omega), e 19 (by omega) (by omega), e 3 (by omega) (by omega), e 2 (by omega) (by omega), e 4 (by omega) (by omega), e 7 (by omega) (by omega)]; omega
  · rw [e 18 (by omega) (by omega)]; exact hl1
  · intro p q0 q1
    rw [e 18 (by omega) (by omega)] at q1
    obtain ⟨b1, b2, b3, b4, b5⟩ := hl2 p q0 q1
    rw [e (196 + p).toNat (by omega) (by omega), e 15 (by omega) (by omega), e (120 + 4 * f (196 + p).toNat + 2).toNat (by omega) (by omega), e (120 + 4 * f (196 + p).toNat + 3).toNat (by omega) (by omega)]
    exact ⟨b1, b2, b3, b4, b5⟩
  · intro p q q0 q1 q2
    rw [e 18 (by omega) (by omega)] at q2
    rw [e (196 + p).toNat (by omega) (by omega), e (196 + q).toNat (by omega) (by omega)]
    exact hl3 p q q0 q1 q2
  · rw [e 13 (by omega) (by omega), e 12 (by omega) (by omega), e 7 (by omega) (by omega), e 18 (by omega) (by omega)]; exact h2
  · rw [e 13 (by omega) (by omega), e 18 (by omega) (by omega)]; exact h3
/-- k slots of the draft are copied to text t -/
def zCy (t k : Int) (m m' : zM) : Prop := (∀ c j : Nat, ¬ (c = 81 ∧ 612 + 1061 * t ≤ (j : Int) ∧ (j : Int) < 612 + 1061 * t + k) → m' c j = m c j) ∧ ∀ j : Int, 0 ≤ j → j < k → m' 81 (612 + 1061 * t + j).toNat = m 81 (4856 + j).toNat
theorem zCy_0 (t : Int) (m : zM) : zCy t 0 m m := ⟨fun _ _ _ => rfl, fun j h0 h => absurd h (by omega)⟩
theorem zCy_s {t k : Int} {m m1 : zM} (h : zCy t k m m1) (t0 : 0 ≤ t) (t1 : t ≤ 3) (k0 : 0 ≤ k) (k1 : k < 1061) : zCy t (k + 1) m (zset m1 81 (612 + 1061 * t + k).toNat (m1 81 (4856 + k).toNat)) := by
  refine ⟨fun c j hn => ?_, fun j h0 hj => ?_⟩
  · rw [zset_e]
    by_cases hc : c = 81
    · rw [if_pos hc, if_neg (by omega)]; exact h.1 c j (by omega)
    · rw [if_neg hc]; exact h.1 c j (by omega)
  · rw [zset_e, if_pos rfl]
    by_cases hq : j = k
    · subst hq; rw [if_pos rfl]; exact h.1 81 _ (by omega)
    · rw [if_neg (by omega)]; exact h.2 j h0 (by omega)
/-- what telling a text leaves of the rest -/
def zpU (c k : Nat) : Prop := c ≤ 79 ∨ c = 82 ∨ c = 94 ∨ (c = 80 ∧ k = 3) ∨ (c = 81 ∧ (k = 15 ∨ k = 16 ∨ (184 ≤ k ∧ k ≤ 195)))
def zpY (c k : Nat) : Prop := (c = 80 → k = 3) ∧ (c = 81 → k < 4857)
theorem zKp_YU {m m' : zM} (h : zKp zpY m m') : zKp zpU m m' := zKp_mono h (fun c k hc => by unfold zpU at hc; unfold zpY; omega)
theorem zKp_XY {m m' : zM} (h : zKp zpX m m') : zKp zpY m m' := zKp_mono h (fun c k hc => by unfold zpY at hc; unfold zpX; omega)
/-- the draft's count stands, all is copied, one text more -/
theorem zOr_end {m0 m m1 m2 : zM} (hi : zMi (m0 81)) (hz : zTz (m0 81)) (hk : zKp zpY m0 m) (h5 : m 80 5 = 0) (hn : m 80 12 ≤ 200) (hs : zSg (m 81) 4 0 (m 80 12) 0 (m 80 13)) (ht : m0 81 17 < 4) (h1 : m1 = zset m 81 4856 (m 80 12)) (h2 : zCy (m0 81 17) 1061 m1 m2) : zMi (zset m2 81 17 (m0 81 17 + 1) 81) ∧ zTz (zset m2 81 17 (m0 81 17 + 1) 81) ∧ zset m2 81 17 (m0 81 17 + 1) 80 5 = 0 ∧ zKp zpU m0 (zset m2 81 17 (m0 81 17 + 1)) := by
  have hb := zMi_b hi
  unfold zMb at hb
  obtain ⟨T, hT⟩ : ∃ T, T = m0 81 17 := ⟨_, rfl⟩
  rw [← hT] at h2 ht hb ⊢
  have e1 : ∀ j, j ≠ 4856 → m1 81 j = m 81 j := fun j hj => by rw [h1, zset_e, if_pos rfl, if_neg hj]
  have e1s : m1 81 4856 = m 80 12 := by rw [h1, zset_e, if_pos rfl, if_pos rfl]
  have e2 : ∀ j : Nat, j < 4856 → ¬ (612 + 1061 * T ≤ (j : Int) ∧ (j : Int) < 1673 + 1061 * T) → m2 81 j = m0 81 j := fun j hj hn => by
    rw [h2.1 81 j (by omega), e1 j (by omega), hk 81 j (by unfold zpY; omega)]
  have ez : ∀ j, j ≠ 17 → zset m2 81 17 (T + 1) 81 j = m2 81 j := fun j hj => by rw [zset_e, if_pos rfl, if_neg hj]
  have e17 : zset m2 81 17 (T + 1) 81 17 = T + 1 := by rw [zset_e, if_pos rfl, if_pos rfl]
  refine ⟨zMi_17 hi (fun j q1 q2 => ?_) (by rw [e17]; omega) (by rw [e17]; omega), fun t t0 t1 => ?_, ?_, fun c j hc => ?_⟩
  · rw [ez j q2, e2 j (by omega) (by omega)]
  · rw [e17] at t1
    by_cases htT : t = T
    · subst htT
      refine zSg_tk (N := m 80 12) (S := m 80 13) (zSg_t (t := 4) (f := m 81) hs (fun k q1 q2 => ⟨?_, ?_, ?_⟩) (fun j q1 q2 => ?_)) ?_ hn
      · rw [ez _ (by omega)]
        have q := h2.2 (1 + 3 * k) (by omega) (by omega)
        rw [show (612 + 1061 * t + (1 + 3 * k)).toNat = (613 + 1061 * t + 3 * k).toNat by omega, show (4856 + (1 + 3 * k)).toNat = (613 + 1061 * 4 + 3 * k).toNat by omega] at q
        rw [q, e1 _ (by omega)]
      · rw [ez _ (by omega)]
        have q := h2.2 (2 + 3 * k) (by omega) (by omega)
        rw [show (612 + 1061 * t + (2 + 3 * k)).toNat = (613 + 1061 * t + 3 * k + 1).toNat by omega, show (4856 + (2 + 3 * k)).toNat = (613 + 1061 * 4 + 3 * k + 1).toNat by omega] at q
        rw [q, e1 _ (by omega)]
      · rw [ez _ (by omega)]
        have q := h2.2 (3 + 3 * k) (by omega) (by omega)
        rw [show (612 + 1061 * t + (3 + 3 * k)).toNat = (613 + 1061 * t + 3 * k + 2).toNat by omega, show (4856 + (3 + 3 * k)).toNat = (613 + 1061 * 4 + 3 * k + 2).toNat by omega] at q
        rw [q, e1 _ (by omega)]
      · rw [ez _ (by omega)]
        have q := h2.2 (661 + 2 * j) (by omega) (by omega)
        rw [show (612 + 1061 * t + (661 + 2 * j)).toNat = (1273 + 1061 * t + 2 * j).toNat by omega, show (4856 + (661 + 2 * j)).toNat = (1273 + 1061 * 4 + 2 * j).toNat by omega] at q
        rw [q, e1 _ (by omega)]
      · rw [ez _ (by omega)]
        have q := h2.2 0 (by omega) (by omega)
        rw [show (612 + 1061 * t + 0).toNat = (612 + 1061 * t).toNat by omega, show (4856 + (0 : Int)).toNat = 4856 by omega] at q
        rw [q, e1s]
    · obtain ⟨lev, h⟩ := hz t t0 (by omega)
      refine ⟨lev, zTk_t h t0 (fun j q1 q2 => ?_)⟩
      rw [ez j (by omega), e2 j (by omega) (by omega)]
  · rw [zset_e, if_neg (by omega), h2.1 80 5 (by omega), h1, zset_e, if_neg (by omega), h5]
  · unfold zpU at hc
    have q : c ≠ 81 ∨ (c = 81 ∧ j ≠ 17 ∧ j < 612) := by omega
    rcases q with q | ⟨q, q1, q2⟩
    · rw [zset_e, if_neg q, h2.1 c j (by omega), h1, zset_e, if_neg q, hk c j (by unfold zpY; omega)]
    · subst q
      rw [ez j q1, e2 j (by omega) (by omega)]
