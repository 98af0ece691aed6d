/-! ===== the run of a told text ===== -/
def zRn (mem m : zM) (o w d tp k all : Int) : Prop := zMK mem m ∧ 0 ≤ o ∧ o ≤ 3 ∧ w ≤ 200 ∧ 0 ≤ d ∧ d ≤ w ∧ 0 ≤ k ∧ k ≤ all ∧ all = mem 81 (612 + 1061 * o).toNat ∧ 0 ≤ tp ∧ tp ≤ 7 ∧ all ≤ 200 ∧ ∃ lev, zTk (mem 81) o lev ∧ tp = lev k
def zmR (w d : Int) (g : Nat → Int) (tp all k : Int) : Nat := (w - d).toNat * 10000 + zfL g d tp.toNat * 500 + (all - k).toNat
theorem zRn_0 {mem m : zM} {o w : Int} (h : zMK mem m) (ht : zTz (mem 81)) (o0 : 0 ≤ o) (o1 : o < mem 81 17) (o2 : o ≤ 3) (w0 : 0 ≤ w) (w1 : w ≤ 200) : zRn mem m o w 0 0 0 (m 81 (612 + 1061 * o).toNat) := by
  obtain ⟨lev, hl⟩ := ht o o0 o1
  have e := zMK_612 h (612 + 1061 * o).toNat (by omega)
  have h1 := hl.1
  have h2 := hl.2.1
  exact ⟨h, o0, o2, w1, by omega, w0, by omega, by omega, e, by omega, by omega, by omega, lev, hl, hl.2.2.1.symm⟩
theorem zRn_b {mem m : zM} {o w d tp k all : Int} (h : zRn mem m o w d tp k all) : zMK mem m ∧ 0 ≤ o ∧ o ≤ 3 ∧ w ≤ 200 ∧ 0 ≤ d ∧ d ≤ w ∧ 0 ≤ k ∧ k ≤ all ∧ 0 ≤ tp ∧ tp ≤ 7 ∧ all ≤ 200 := by
  obtain ⟨h1, h2, h3, h4, h5, h6, h7, h8, h9, h10, h11, h12, h13⟩ := h
  exact ⟨h1, h2, h3, h4, h5, h6, h7, h8, h10, h11, h12⟩
theorem zRn_w {mem m : zM} {o w d tp k all : Int} (h : zRn mem m o w d tp k all) (hk : k < all) : ∃ lev, zTk (mem 81) o lev ∧ tp = lev k ∧ zOp (m 81) o lev all k := by
  obtain ⟨h1, h2, h3, h4, h5, h6, h7, h8, h9, h10, h11, h12, lev, h13, h14⟩ := h
  refine ⟨lev, h13, h14, ?_⟩
  have := h13.2.2.2 k h7 (by omega)
  rw [← h9] at this
  exact zOp_k this h2 h7 (zMK_612 h1)
theorem zRn_mk {mem m m2 : zM} {o w d d2 tp tp2 k k2 all : Int} {lev : Int → Int} (h : zRn mem m o w d tp k all) (hl : zTk (mem 81) o lev) (h2 : zMK mem m2) (hd0 : 0 ≤ d2) (hd : d2 ≤ w) (hk0 : 0 ≤ k2) (hk : k2 ≤ all) (ht0 : 0 ≤ tp2) (ht1 : tp2 ≤ 7) (htl : tp2 = lev k2) : zRn mem m2 o w d2 tp2 k2 all := by
  obtain ⟨h1, h2', h3, h4, h5, h6, h7, h8, h9, h10, h11, h12, h13⟩ := h
  exact ⟨h2, h2', h3, h4, hd0, hd, hk0, hk, h9, ht0, ht1, h12, lev, hl, htl⟩
set_option maxRecDepth 100000 in
theorem zRn_act {mem m m2 : zM} {o w d tp k all : Int} {nn : Nat} (h : zRn mem m o w d tp k all) (hk : k < all) (hd : d < w) (hw : m 81 (613 + 1061 * o + 3 * k).toNat ≤ 6) (h1 : zMi (m2 81)) (h2 : zKp zpA m m2) (hn : zmR w d (m 89) tp all k ≤ nn) : ∃ n', n' < nn ∧ zRn mem m2 o w (d + 1) tp (k + 1) all ∧ zmR w (d + 1) (m2 89) tp all (k + 1) ≤ n' := by
  obtain ⟨lev, hl, e, ho⟩ := zRn_w h hk
  obtain ⟨b1, b2, b3, b4, b5, b6, b7, b8, b9, b10, b11⟩ := zRn_b h
  refine ⟨nn - 1, ?_, zRn_mk h hl (zMK_A b1 h1 h2) (by omega) (by omega) (by omega) (by omega) b9 b10 ?_, ?_⟩
  · unfold zmR at hn; omega
  · unfold zOp at ho; omega
  · have := zfL_le (m2 89) (d + 1) tp.toNat
    unfold zmR at *; omega
set_option maxRecDepth 100000 in
theorem zRn_push {mem m : zM} {o w d tp k all v : Int} {nn : Nat} (h : zRn mem m o w d tp k all) (hk : k < all) (hw : m 81 (613 + 1061 * o + 3 * k).toNat = 7 ∨ m 81 (613 + 1061 * o + 3 * k).toNat = 8) (hn : zmR w d (m 89) tp all k ≤ nn) : tp ≤ 6 ∧ ∃ n', n' < nn ∧ zRn mem (zset (zset m 88 tp.toNat v) 89 tp.toNat d) o w d (tp + 1) (k + 1) all ∧ zmR w d (zset (zset m 88 tp.toNat v) 89 tp.toNat d 89) (tp + 1) all (k + 1) ≤ n' := by
  obtain ⟨lev, hl, e, ho⟩ := zRn_w h hk
  obtain ⟨b1, b2, b3, b4, b5, b6, b7, b8, b9, b10, b11⟩ := zRn_b h
  have ho2 : tp ≤ 6 ∧ lev (k + 1) = tp + 1 := by unfold zOp at ho; omega
  refine ⟨ho2.1, nn - 1, ?_, zRn_mk h hl (zMK_o (zMK_o b1 (by omega) (by unfold zpP; omega)) (by omega) (by unfold zpP; omega)) (by omega) (by omega) (by omega) (by omega) (by omega) (by omega) (by omega), ?_⟩
  · unfold zmR at hn; omega
  · have := zfL_push (g := m 89) (g' := zset (zset m 88 tp.toNat v) 89 tp.toNat d 89) (d := d) b9 rfl (fun j hj => by simp only [zset_e, reduceIte]; rw [if_neg hj]; rfl) (by simp only [zset_e, reduceIte])
    unfold zmR at *; omega
theorem zRn_cn {mem m : zM} {o w d tp k all : Int} (h : zRn mem m o w d tp k all) (hk : k < all) (hw : m 81 (613 + 1061 * o + 3 * k).toNat = 9 ∨ m 81 (613 + 1061 * o + 3 * k).toNat = 10) (hr : zR32 (m 81 (613 + 1061 * o + 3 * k + 1).toNat)) : ∃ x, zHt (m 81) o (zDiv (m 81 (613 + 1061 * o + 3 * k + 1).toNat) 200) (zRem (m 81 (613 + 1061 * o + 3 * k + 1).toNat) 200) x := by
  obtain ⟨lev, hl, e, ho⟩ := zRn_w h hk
  have hc : zCn (m 81) o (m 81 (613 + 1061 * o + 3 * k + 1).toNat) := by
    obtain ⟨_, _, h3⟩ := ho
    rcases h3 with h3 | h3 | h3 | h3 | h3
    · omega
    · omega
    · exact h3.2.2.2.2.2
    · exact h3.2.2.2.2.2.2
    · omega
  rw [zDiv_nn hr ⟨by omega, by omega⟩ hc.1 (by omega), zRem_nn hr ⟨by omega, by omega⟩ hc.1 (by omega)]
  exact hc.2
set_option maxRecDepth 100000 in
theorem zRn_yes {mem m m2 : zM} {o w d tp k all : Int} {nn : Nat} (h : zRn mem m o w d tp k all) (hk : k < all) (hw : m 81 (613 + 1061 * o + 3 * k).toNat = 9 ∨ m 81 (613 + 1061 * o + 3 * k).toNat = 10) (h2 : zKp zp87 m m2) (hn : zmR w d (m 89) tp all k ≤ nn) : ∃ n', n' < nn ∧ zRn mem m2 o w d tp (k + 1) all ∧ zmR w d (m2 89) tp all (k + 1) ≤ n' := by
  obtain ⟨lev, hl, e, ho⟩ := zRn_w h hk
  obtain ⟨b1, b2, b3, b4, b5, b6, b7, b8, b9, b10, b11⟩ := zRn_b h
  have e9 : m2 89 = m 89 := funext (fun j => h2 89 j (by unfold zp87; omega))
  rw [e9]
  have ho2 : lev (k + 1) = tp := by unfold zOp at ho; omega
  refine ⟨nn - 1, ?_, zRn_mk h hl (zMK_87 b1 h2) b5 b6 (by omega) (by omega) b9 b10 ho2.symm, ?_⟩
  · unfold zmR at hn; omega
  · unfold zmR at *; omega
set_option maxRecDepth 100000 in
theorem zRn_no {mem m m2 : zM} {o w d tp tp2 k all : Int} {nn : Nat} (h : zRn mem m o w d tp k all) (hk : k < all) (hw : (m 81 (613 + 1061 * o + 3 * k).toNat = 9 ∧ tp2 = tp) ∨ (m 81 (613 + 1061 * o + 3 * k).toNat = 10 ∧ tp2 = tp - 1)) (h2 : zKp zp87 m m2) (hn : zmR w d (m 89) tp all k ≤ nn) : ∃ n', n' < nn ∧ zRn mem m2 o w d tp2 (m2 81 (613 + 1061 * o + 3 * k + 2).toNat) all ∧ zmR w d (m2 89) tp2 all (m2 81 (613 + 1061 * o + 3 * k + 2).toNat) ≤ n' := by
  have e8 : m2 81 = m 81 := funext (fun j => h2 81 j (by unfold zp87; omega))
  rw [e8]
  obtain ⟨lev, hl, e, ho⟩ := zRn_w h hk
  obtain ⟨b1, b2, b3, b4, b5, b6, b7, b8, b9, b10, b11⟩ := zRn_b h
  have e9 : m2 89 = m 89 := funext (fun j => h2 89 j (by unfold zp87; omega))
  rw [e9]
  have ho2 : k < m 81 (613 + 1061 * o + 3 * k + 2).toNat ∧ m 81 (613 + 1061 * o + 3 * k + 2).toNat ≤ all ∧ lev (m 81 (613 + 1061 * o + 3 * k + 2).toNat) = tp2 ∧ 0 ≤ tp2 ∧ tp2 ≤ tp ∧ tp - 1 ≤ tp2 := by unfold zOp at ho; omega
  refine ⟨nn - 1, ?_, zRn_mk h hl (zMK_87 b1 h2) b5 b6 (by omega) (by omega) (by omega) (by omega) ho2.2.2.1.symm, ?_⟩
  · unfold zmR at hn; omega
  · have : zfL (m 89) d tp2.toNat ≤ zfL (m 89) d tp.toNat := by
      by_cases hq : tp2 = tp
      · rw [hq]; exact Nat.le_refl _
      · exact zfL_pop (g := m 89) (by omega) (show tp2 = tp - 1 by omega) (fun j _ => rfl)
    unfold zmR at *; omega
theorem zRn_rb {mem m : zM} {o w d tp k all : Int} (h : zRn mem m o w d tp k all) (hk : k < all) (hw : ¬ m 81 (613 + 1061 * o + 3 * k).toNat ≤ 6) (h7 : ¬ m 81 (613 + 1061 * o + 3 * k).toNat = 7) (h8 : ¬ m 81 (613 + 1061 * o + 3 * k).toNat = 8) (h9 : ¬ m 81 (613 + 1061 * o + 3 * k).toNat = 9) (h10 : ¬ m 81 (613 + 1061 * o + 3 * k).toNat = 10) : m 81 (613 + 1061 * o + 3 * k).toNat = 11 ∧ 1 ≤ tp ∧ 0 ≤ m 81 (613 + 1061 * o + 3 * k + 1).toNat ∧ m 81 (613 + 1061 * o + 3 * k + 1).toNat < k := by
  obtain ⟨lev, hl, e, ho⟩ := zRn_w h hk
  unfold zOp at ho; omega
set_option maxRecDepth 100000 in
/-- a round's end: on, or once more -/
theorem zRn_on {mem m : zM} {o w d tp k all v : Int} {nn : Nat} (h : zRn mem m o w d tp k all) (hk : k < all) (h1 : 1 ≤ tp) (hw : m 81 (613 + 1061 * o + 3 * k).toNat = 11) (hn : zmR w d (m 89) tp all k ≤ nn) : ∃ n', n' < nn ∧ zRn mem (zset (zset m 88 (tp - 1).toNat v) 89 (tp - 1).toNat d) o w d (tp - 1) (k + 1) all ∧ zmR w d (zset (zset m 88 (tp - 1).toNat v) 89 (tp - 1).toNat d 89) (tp - 1) all (k + 1) ≤ n' := by
  obtain ⟨lev, hl, e, ho⟩ := zRn_w h hk
  obtain ⟨b1, b2, b3, b4, b5, b6, b7, b8, b9, b10, b11⟩ := zRn_b h
  have ho2 : lev (k + 1) = tp - 1 := by unfold zOp at ho; omega
  refine ⟨nn - 1, ?_, zRn_mk h hl (zMK_o (zMK_o b1 (by omega) (by unfold zpP; omega)) (by omega) (by unfold zpP; omega)) b5 b6 (by omega) (by omega) (by omega) (by omega) ho2.symm, ?_⟩
  · unfold zmR at hn; omega
  · have := zfL_pop (g := m 89) (g' := zset (zset m 88 (tp - 1).toNat v) 89 (tp - 1).toNat d 89) (d := d) h1 rfl (fun j hj => by simp only [zset_e, reduceIte]; rw [if_neg hj]; rfl)
    unfold zmR at *; omega
set_option maxRecDepth 100000 in
theorem zRn_again {mem m : zM} {o w d tp k k2 all v : Int} {nn : Nat} (h : zRn mem m o w d tp k all) (hk : k < all) (h1 : 1 ≤ tp) (hw : m 81 (613 + 1061 * o + 3 * k).toNat = 11) (hs : ¬ m 89 (tp - 1).toNat = d) (hk2 : (m 81 (613 + 1061 * o + 3 * m 81 (613 + 1061 * o + 3 * k + 1).toNat).toNat = 10 ∧ k2 = m 81 (613 + 1061 * o + 3 * k + 1).toNat) ∨ (¬ m 81 (613 + 1061 * o + 3 * m 81 (613 + 1061 * o + 3 * k + 1).toNat).toNat = 10 ∧ k2 = m 81 (613 + 1061 * o + 3 * k + 1).toNat + 1)) (hn : zmR w d (m 89) tp all k ≤ nn) : ∃ n', n' < nn ∧ zRn mem (zset (zset m 88 (tp - 1).toNat v) 89 (tp - 1).toNat d) o w d tp k2 all ∧ zmR w d (zset (zset m 88 (tp - 1).toNat v) 89 (tp - 1).toNat d 89) tp all k2 ≤ n' := by
  obtain ⟨lev, hl, e, ho⟩ := zRn_w h hk
  obtain ⟨b1, b2, b3, b4, b5, b6, b7, b8, b9, b10, b11⟩ := zRn_b h
  have ho2 : lev k2 = tp ∧ 0 ≤ k2 ∧ k2 ≤ k := by
    unfold zOp at ho
    rcases hk2 with ⟨q1, q2⟩ | ⟨q1, q2⟩ <;> subst q2 <;> omega
  have hf := zfL_round (g := m 89) (g' := zset (zset m 88 (tp - 1).toNat v) 89 (tp - 1).toNat d 89) (d := d) h1 hs (fun j hj => by simp only [zset_e, reduceIte]; rw [if_neg hj]; rfl) (by simp only [zset_e, reduceIte])
  refine ⟨nn - 1, ?_, zRn_mk h hl (zMK_o (zMK_o b1 (by omega) (by unfold zpP; omega)) (by omega) (by unfold zpP; omega)) b5 b6 (by omega) (by omega) (by omega) (by omega) ho2.1.symm, ?_⟩
  · unfold zmR at hn; omega
  · unfold zmR at *; omega
theorem zRn_op {mem m : zM} {o w d tp k all : Int} (h : zRn mem m o w d tp k all) (hk : k < all) : m 81 (613 + 1061 * o + 3 * k).toNat ≤ 6 ∨ (m 81 (613 + 1061 * o + 3 * k).toNat = 7 ∨ m 81 (613 + 1061 * o + 3 * k).toNat = 8) ∨ m 81 (613 + 1061 * o + 3 * k).toNat = 9 ∨ m 81 (613 + 1061 * o + 3 * k).toNat = 10 ∨ m 81 (613 + 1061 * o + 3 * k).toNat = 11 := by
  obtain ⟨lev, hl, e, ho⟩ := zRn_w h hk
  unfold zOp at ho; omega
set_option maxRecDepth 100000 in
theorem zmR_0 {w all : Int} {g : Nat → Int} (hw : w ≤ 200) (ha : all ≤ 200) : zmR w 0 g 0 all 0 ≤ 5000000000 := by
  have := zfL_le g 0 (0 : Int).toNat
  unfold zmR; omega
