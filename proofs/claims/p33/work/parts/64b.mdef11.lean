/-! ===== the shape of what the reader writes: tests ===== -/
def zHc (f : Nat → Int) (t : Int) (h : Int → Int) (a j : Int) : Prop := 0 ≤ h j ∧ h j ≤ j - a ∧ ((f (1273 + 1061 * t + 2 * j).toNat ≤ 16 ∧ h (j + 1) = h j + 1) ∨ (f (1273 + 1061 * t + 2 * j).toNat = 17 ∧ 1 ≤ h j ∧ h (j + 1) = h j) ∨ (17 < f (1273 + 1061 * t + 2 * j).toNat ∧ 2 ≤ h j ∧ h (j + 1) = h j - 1))
def zHs (f : Nat → Int) (t a b : Int) : Prop := ∃ h : Int → Int, a < b ∧ h a = 0 ∧ h b = 1 ∧ ∀ j : Int, a ≤ j → j < b → zHc f t h a j
theorem zHs_k {f g : Nat → Int} {t a b : Int} (hh : zHs f t a b) (e : ∀ j : Int, a ≤ j → j < b → g (1273 + 1061 * t + 2 * j).toNat = f (1273 + 1061 * t + 2 * j).toNat) : zHs g t a b := by
  obtain ⟨h, h1, h2, h3, h4⟩ := hh
  refine ⟨h, h1, h2, h3, fun j q1 q2 => ?_⟩
  unfold zHc
  rw [e j q1 q2]
  exact h4 j q1 q2
theorem zHs_ht {f : Nat → Int} {t a b : Int} (hh : zHs f t a b) (a0 : 0 ≤ a) (b1 : b ≤ 199) : ∃ h, zHt f t a b h := by
  obtain ⟨h, h1, h2, h3, h4⟩ := hh
  exact ⟨h, a0, by omega, b1, h2, h4⟩
theorem zHs_1 {f : Nat → Int} {t a : Int} (hf : f (1273 + 1061 * t + 2 * a).toNat ≤ 16) : zHs f t a (a + 1) := by
  obtain ⟨g, ev⟩ : ∃ g : Int → Int, ∀ j, g j = j - a := ⟨fun j => j - a, fun _ => rfl⟩
  have e0 := ev a
  have e1 := ev (a + 1)
  refine ⟨g, by omega, by omega, by omega, fun j q1 q2 => ?_⟩
  have : j = a := by omega
  subst this
  exact ⟨by omega, by omega, Or.inl ⟨hf, by omega⟩⟩
theorem zHs_not {f : Nat → Int} {t a b : Int} (hh : zHs f t a b) (hf : f (1273 + 1061 * t + 2 * b).toNat = 17) : zHs f t a (b + 1) := by
  obtain ⟨h, h1, h2, h3, h4⟩ := hh
  obtain ⟨g, ev⟩ : ∃ g : Int → Int, ∀ j, g j = if j ≤ b then h j else 1 := ⟨fun j => if j ≤ b then h j else 1, fun _ => rfl⟩
  refine ⟨g, by omega, by rw [ev, if_pos (by omega)]; exact h2, by rw [ev, if_neg (by omega)], fun j q1 q2 => ?_⟩
  unfold zHc
  rw [ev j, ev (j + 1)]
  by_cases hj : j = b
  · subst hj
    rw [if_pos (by omega), if_neg (by omega)]
    exact ⟨by omega, by omega, Or.inr (Or.inl ⟨hf, by omega, by omega⟩)⟩
  · have q := h4 j q1 (by omega)
    unfold zHc at q
    rw [if_pos (by omega), if_pos (by omega)]
    exact q
theorem zHs_and {f : Nat → Int} {t a b c : Int} (h1 : zHs f t a b) (h2 : zHs f t b c) (hf : 17 < f (1273 + 1061 * t + 2 * c).toNat) : zHs f t a (c + 1) := by
  obtain ⟨u, u1, u2, u3, u4⟩ := h1
  obtain ⟨v, v1, v2, v3, v4⟩ := h2
  obtain ⟨g, ev⟩ : ∃ g : Int → Int, ∀ j, g j = if j < b then u j else if j ≤ c then v j + 1 else 1 := ⟨fun j => if j < b then u j else if j ≤ c then v j + 1 else 1, fun _ => rfl⟩
  refine ⟨g, by omega, ?_, ?_, fun j q1 q2 => ?_⟩
  · rw [ev, if_pos u1]; exact u2
  · rw [ev, if_neg (by omega), if_neg (by omega)]
  · unfold zHc
    by_cases hb : j < b
    · have q := u4 j q1 hb
      unfold zHc at q
      have g0 : g j = u j := by rw [ev, if_pos hb]
      have g1 : g (j + 1) = u (j + 1) := by
        rw [ev]
        by_cases hb1 : j + 1 < b
        · rw [if_pos hb1]
        · have e : j + 1 = b := by omega
          rw [if_neg hb1, if_pos (by omega), e, v2, u3]; omega
      rw [g0, g1]
      exact q
    · by_cases hc : j = c
      · subst hc
        have g0 : g j = 2 := by rw [ev, if_neg hb, if_pos (by omega), v3]; omega
        have g1 : g (j + 1) = 1 := by rw [ev, if_neg (by omega), if_neg (by omega)]
        rw [g0, g1]
        exact ⟨by omega, by omega, Or.inr (Or.inr ⟨hf, by omega, by omega⟩)⟩
      · have q := v4 j (by omega) (by omega)
        unfold zHc at q
        have g0 : g j = v j + 1 := by rw [ev, if_neg hb, if_pos (by omega)]
        have g1 : g (j + 1) = v (j + 1) + 1 := by rw [ev, if_neg (by omega), if_pos (by omega)]
        rw [g0, g1]
        refine ⟨by omega, by omega, ?_⟩
        rcases q.2.2 with z | z | z
        · exact Or.inl ⟨z.1, by omega⟩
        · exact Or.inr (Or.inl ⟨z.1, by omega, by omega⟩)
        · exact Or.inr (Or.inr ⟨z.1, by omega, by omega⟩)
/-! ===== the shape of what the reader writes: rows of ops ===== -/
/-- ops a to b at level L; their tests' steps end at S or ahead of it -/
def zSg (f : Nat → Int) (t a b L S : Int) : Prop := ∃ lev : Int → Int, a ≤ b ∧ lev a = L ∧ lev b = L ∧ ∀ k : Int, a ≤ k → k < b → zOp f t lev b k ∧ (f (613 + 1061 * t + 3 * k).toNat = 11 → a ≤ f (613 + 1061 * t + 3 * k + 1).toNat) ∧ (f (613 + 1061 * t + 3 * k).toNat = 9 ∨ f (613 + 1061 * t + 3 * k).toNat = 10 → f (613 + 1061 * t + 3 * k + 1).toNat % 200 ≤ S)
theorem zSg_0 {f : Nat → Int} {t a L S : Int} : zSg f t a a L S := ⟨fun _ => L, by omega, rfl, rfl, fun k h1 h2 => absurd h2 (by omega)⟩
theorem zSg_tk {f : Nat → Int} {t N S : Int} (h : zSg f t 0 N 0 S) (hN : f (612 + 1061 * t).toNat = N) (h2 : N ≤ 200) : ∃ lev, zTk f t lev := by
  obtain ⟨lev, h1, h3, h4, h5⟩ := h
  exact ⟨lev, by omega, by omega, h3, fun k q0 q1 => by rw [hN] at q1 ⊢; exact (h5 k q0 q1).1⟩
theorem zSg_act {f : Nat → Int} {t a L S : Int} (hf : f (613 + 1061 * t + 3 * a).toNat ≤ 6) (L0 : 0 ≤ L) (L7 : L ≤ 7) : zSg f t a (a + 1) L S := by
  refine ⟨fun _ => L, by omega, rfl, rfl, fun k h1 h2 => ?_⟩
  have : k = a := by omega
  subst this
  refine ⟨⟨L0, L7, Or.inl ⟨hf, rfl⟩⟩, fun h => by omega, fun h => by omega⟩
theorem zOp_x {f : Nat → Int} {t N N' a k : Int} {lev lev' : Int → Int} (h : zOp f t lev N k) (hn : f (613 + 1061 * t + 3 * k).toNat = 11 → a ≤ f (613 + 1061 * t + 3 * k + 1).toNat) (hak : a ≤ k) (hk : k < N) (hN : N ≤ N') (e : ∀ j, a ≤ j → j ≤ N → lev' j = lev j) : zOp f t lev' N' k := by
  have e0 := e k hak (by omega)
  have e1 := e (k + 1) (by omega) (by omega)
  unfold zOp at *
  obtain ⟨h1, h2, h3⟩ := h
  rw [e0, e1]
  refine ⟨h1, h2, ?_⟩
  rcases h3 with h3 | h3 | h3 | h3 | h3
  · exact Or.inl h3
  · exact Or.inr (Or.inl h3)
  · refine Or.inr (Or.inr (Or.inl ⟨h3.1, h3.2.1, h3.2.2.1, by omega, ?_, h3.2.2.2.2.2⟩))
    rw [e _ (by omega) (by omega)]; exact h3.2.2.2.2.1
  · refine Or.inr (Or.inr (Or.inr (Or.inl ⟨h3.1, h3.2.1, h3.2.2.1, h3.2.2.2.1, by omega, ?_, h3.2.2.2.2.2.2⟩)))
    rw [e _ (by omega) (by omega)]; exact h3.2.2.2.2.2.1
  · have ha := hn h3.1
    refine Or.inr (Or.inr (Or.inr (Or.inr ⟨h3.1, h3.2.1, h3.2.2.1, h3.2.2.2.1, h3.2.2.2.2.1, ?_⟩)))
    rw [e (f (613 + 1061 * t + 3 * k + 1).toNat) (by omega) (by omega), e (f (613 + 1061 * t + 3 * k + 1).toNat + 1) (by omega) (by omega)]
    exact h3.2.2.2.2.2
theorem zSg_cat {f : Nat → Int} {t a b c L S : Int} (h1 : zSg f t a b L S) (h2 : zSg f t b c L S) : zSg f t a c L S := by
  obtain ⟨u, u1, u2, u3, u4⟩ := h1
  obtain ⟨v, v1, v2, v3, v4⟩ := h2
  obtain ⟨g, ev⟩ : ∃ g : Int → Int, ∀ j, g j = if j < b then u j else v j := ⟨fun j => if j < b then u j else v j, fun _ => rfl⟩
  refine ⟨g, by omega, ?_, ?_, fun k q1 q2 => ?_⟩
  · rw [ev]
    by_cases h : a < b
    · rw [if_pos h]; exact u2
    · rw [if_neg h, show a = b by omega]; exact v2
  · rw [ev, if_neg (by omega)]; exact v3
  · by_cases hb : k < b
    · have q := u4 k q1 hb
      refine ⟨zOp_x q.1 q.2.1 q1 hb v1 (fun j z1 z2 => ?_), q.2⟩
      rw [ev]
      by_cases hj : j < b
      · rw [if_pos hj]
      · rw [if_neg hj, show j = b by omega, v2, u3]
    · have q := v4 k (by omega) q2
      refine ⟨zOp_x q.1 q.2.1 (by omega) q2 (by omega) (fun j z1 z2 => ?_), fun z => by have := q.2.1 z; omega, q.2.2⟩
      rw [ev, if_neg (by omega)]
theorem zSg_if {f : Nat → Int} {t a b L S : Int} (hw : f (613 + 1061 * t + 3 * a).toNat = 9) (hs : f (613 + 1061 * t + 3 * a + 1).toNat % 200 ≤ S) (hp : f (613 + 1061 * t + 3 * a + 2).toNat = b) (hc : zCn f t (f (613 + 1061 * t + 3 * a + 1).toNat)) (L0 : 0 ≤ L) (L7 : L ≤ 7) (h : zSg f t (a + 1) b L S) : zSg f t a b L S := by
  obtain ⟨u, u1, u2, u3, u4⟩ := h
  obtain ⟨g, ev⟩ : ∃ g : Int → Int, ∀ j, g j = if j ≤ a then L else u j := ⟨fun j => if j ≤ a then L else u j, fun _ => rfl⟩
  refine ⟨g, by omega, by rw [ev, if_pos (by omega)], by rw [ev, if_neg (by omega)]; exact u3, fun k q1 q2 => ?_⟩
  by_cases hk : k = a
  · subst hk
    refine ⟨?_, fun z => by omega, fun _ => hs⟩
    unfold zOp
    rw [ev k, ev (k + 1), if_pos (by omega), if_neg (by omega), hp, ev b, if_neg (by omega)]
    exact ⟨L0, L7, Or.inr (Or.inr (Or.inl ⟨hw, u2, by omega, by omega, u3, hc⟩))⟩
  · have q := u4 k (by omega) q2
    refine ⟨zOp_x q.1 q.2.1 (by omega) q2 (by omega) (fun j z1 z2 => ?_), fun z => by have := q.2.1 z; omega, q.2.2⟩
    rw [ev, if_neg (by omega)]
theorem zSg_again {f : Nat → Int} {t a b L S : Int} (hw : f (613 + 1061 * t + 3 * a).toNat = 8) (hr : f (613 + 1061 * t + 3 * b).toNat = 11) (hn : f (613 + 1061 * t + 3 * b + 1).toNat = a) (a0 : 0 ≤ a) (L0 : 0 ≤ L) (L6 : L ≤ 6) (h : zSg f t (a + 1) b (L + 1) S) : zSg f t a (b + 1) L S := by
  obtain ⟨u, u1, u2, u3, u4⟩ := h
  obtain ⟨g, ev⟩ : ∃ g : Int → Int, ∀ j, g j = if j ≤ a then L else if j ≤ b then u j else L := ⟨fun j => if j ≤ a then L else if j ≤ b then u j else L, fun _ => rfl⟩
  refine ⟨g, by omega, by rw [ev, if_pos (by omega)], by rw [ev, if_neg (by omega), if_neg (by omega)], fun k q1 q2 => ?_⟩
  by_cases hk : k = a
  · subst hk
    refine ⟨?_, fun z => by omega, fun z => by omega⟩
    unfold zOp
    rw [ev k, ev (k + 1), if_pos (by omega), if_neg (by omega), if_pos (by omega)]
    exact ⟨L0, by omega, Or.inr (Or.inl ⟨Or.inr hw, L6, u2⟩)⟩
  · by_cases hb : k = b
    · subst hb
      refine ⟨?_, fun _ => by omega, fun z => by omega⟩
      unfold zOp
      rw [ev k, ev (k + 1), hn, ev a, ev (a + 1), if_neg (by omega), if_pos (by omega), if_neg (by omega), if_neg (by omega), if_pos (by omega), if_neg (by omega), if_pos (by omega), u3, u2]
      exact ⟨by omega, by omega, Or.inr (Or.inr (Or.inr (Or.inr ⟨hr, by omega, by omega, by omega, by omega, Or.inr ⟨by omega, rfl⟩⟩)))⟩
    · have q := u4 k (by omega) (by omega)
      refine ⟨zOp_x q.1 q.2.1 (by omega) (by omega) (by omega) (fun j z1 z2 => ?_), fun z => by have := q.2.1 z; omega, q.2.2⟩
      rw [ev, if_neg (by omega), if_pos (by omega)]
theorem zSg_while {f : Nat → Int} {t a b L S : Int} (ho : f (613 + 1061 * t + 3 * a).toNat = 7) (hs : f (613 + 1061 * t + 3 * (a + 1) + 1).toNat % 200 ≤ S) (hw : f (613 + 1061 * t + 3 * (a + 1)).toNat = 10) (hp : f (613 + 1061 * t + 3 * (a + 1) + 2).toNat = b + 1) (hc : zCn f t (f (613 + 1061 * t + 3 * (a + 1) + 1).toNat)) (hr : f (613 + 1061 * t + 3 * b).toNat = 11) (hn : f (613 + 1061 * t + 3 * b + 1).toNat = a + 1) (a0 : 0 ≤ a) (L0 : 0 ≤ L) (L6 : L ≤ 6) (h : zSg f t (a + 2) b (L + 1) S) : zSg f t a (b + 1) L S := by
  obtain ⟨u, u1, u2, u3, u4⟩ := h
  obtain ⟨g, ev⟩ : ∃ g : Int → Int, ∀ j, g j = if j ≤ a then L else if j ≤ a + 1 then L + 1 else if j ≤ b then u j else L := ⟨fun j => if j ≤ a then L else if j ≤ a + 1 then L + 1 else if j ≤ b then u j else L, fun _ => rfl⟩
  refine ⟨g, by omega, by rw [ev, if_pos (by omega)], by rw [ev, if_neg (by omega), if_neg (by omega), if_neg (by omega)], fun k q1 q2 => ?_⟩
  have eu : u (a + 1 + 1) = L + 1 := by rw [show a + 1 + 1 = a + 2 by omega]; exact u2
  by_cases hk : k = a
  · subst hk
    refine ⟨?_, fun z => by omega, fun z => by omega⟩
    unfold zOp
    rw [ev k, ev (k + 1), if_pos (by omega), if_neg (by omega), if_pos (by omega)]
    exact ⟨L0, by omega, Or.inr (Or.inl ⟨Or.inl ho, L6, rfl⟩)⟩
  · by_cases hk1 : k = a + 1
    · subst hk1
      refine ⟨?_, fun z => by omega, fun _ => hs⟩
      unfold zOp
      rw [hp, ev (a + 1), ev (a + 1 + 1), ev (b + 1), if_neg (by omega), if_pos (by omega), if_neg (by omega), if_neg (by omega), if_pos (by omega), if_neg (by omega), if_neg (by omega), if_neg (by omega), eu]
      exact ⟨by omega, by omega, Or.inr (Or.inr (Or.inr (Or.inl ⟨hw, by omega, rfl, by omega, by omega, by omega, hc⟩)))⟩
    · by_cases hb : k = b
      · subst hb
        refine ⟨?_, fun _ => by omega, fun z => by omega⟩
        unfold zOp
        rw [hn, ev k, ev (k + 1), ev (a + 1), if_neg (by omega), if_neg (by omega), if_pos (by omega), if_neg (by omega), if_neg (by omega), if_neg (by omega), if_neg (by omega), if_pos (by omega), u3]
        exact ⟨by omega, by omega, Or.inr (Or.inr (Or.inr (Or.inr ⟨hr, by omega, by omega, by omega, by omega, Or.inl ⟨hw, rfl⟩⟩)))⟩
      · have q := u4 k (by omega) (by omega)
        refine ⟨zOp_x q.1 q.2.1 (by omega) (by omega) (by omega) (fun j z1 z2 => ?_), fun z => by have := q.2.1 z; omega, q.2.2⟩
        rw [ev, if_neg (by omega), if_neg (by omega), if_pos (by omega)]
theorem zSg_S {f : Nat → Int} {t a b L S S' : Int} (h : zSg f t a b L S) (hS : S ≤ S') : zSg f t a b L S' := by
  obtain ⟨u, u1, u2, u3, u4⟩ := h
  exact ⟨u, u1, u2, u3, fun k q1 q2 => ⟨(u4 k q1 q2).1, (u4 k q1 q2).2.1, fun z => by have := (u4 k q1 q2).2.2 z; omega⟩⟩
theorem zSg_k {f g : Nat → Int} {t a b L S : Int} (h : zSg f t a b L S) (eo : ∀ k : Int, a ≤ k → k < b → g (613 + 1061 * t + 3 * k).toNat = f (613 + 1061 * t + 3 * k).toNat ∧ g (613 + 1061 * t + 3 * k + 1).toNat = f (613 + 1061 * t + 3 * k + 1).toNat ∧ g (613 + 1061 * t + 3 * k + 2).toNat = f (613 + 1061 * t + 3 * k + 2).toNat) (es : ∀ j : Int, 0 ≤ j → j < S → g (1273 + 1061 * t + 2 * j).toNat = f (1273 + 1061 * t + 2 * j).toNat) : zSg g t a b L S := by
  obtain ⟨u, u1, u2, u3, u4⟩ := h
  refine ⟨u, u1, u2, u3, fun k q1 q2 => ?_⟩
  obtain ⟨o1, o2, o3⟩ := eo k q1 q2
  obtain ⟨p1, p2, p3⟩ := u4 k q1 q2
  have hcn : (f (613 + 1061 * t + 3 * k).toNat = 9 ∨ f (613 + 1061 * t + 3 * k).toNat = 10) → zCn f t (f (613 + 1061 * t + 3 * k + 1).toNat) → zCn g t (f (613 + 1061 * t + 3 * k + 1).toNat) := fun hw hc => by
    have hb := p3 hw
    obtain ⟨c0, x, c1, c2, c3, c4, c5⟩ := hc
    refine ⟨c0, x, c1, c2, c3, c4, fun j z1 z2 => ?_⟩
    rw [es j (by omega) (by omega)]
    exact c5 j z1 z2
  rw [o1, o2]
  refine ⟨?_, p2, p3⟩
  unfold zOp at *
  rw [o1, o2, o3]
  obtain ⟨h1, h2, h3⟩ := p1
  refine ⟨h1, h2, ?_⟩
  rcases h3 with h3 | h3 | h3 | h3 | h3
  · exact Or.inl h3
  · exact Or.inr (Or.inl h3)
  · exact Or.inr (Or.inr (Or.inl ⟨h3.1, h3.2.1, h3.2.2.1, h3.2.2.2.1, h3.2.2.2.2.1, hcn (Or.inl h3.1) h3.2.2.2.2.2⟩))
  · exact Or.inr (Or.inr (Or.inr (Or.inl ⟨h3.1, h3.2.1, h3.2.2.1, h3.2.2.2.1, h3.2.2.2.2.1, h3.2.2.2.2.2.1, hcn (Or.inr h3.1) h3.2.2.2.2.2.2⟩)))
  · have ha := p2 h3.1
    rw [(eo (f (613 + 1061 * t + 3 * k + 1).toNat) ha (by omega)).1]
    exact Or.inr (Or.inr (Or.inr (Or.inr h3)))
