/-! ===== calls whose end is told by their start ===== -/
def zdt (f : List Int → zM → Int) (g : List Int → zM → zM) : List Int → zM → Int → zM → Prop := fun vs mem r mem' => r = f vs mem ∧ mem' = g vs mem
theorem zinv_d (Λ : List zC) (tags : List Nat) (rt : Nat) (pre : List Int → zM → Prop) (f : List Int → zM → Int) (g : List Int → zM → zM) (st : List zV) (mem : zM) (K : List zV → zM → Prop) : zinv Λ (some (tags, rt, pre, zdt f g)) st mem K = zIV Λ tags rt pre st mem (fun vs => zrt rt (f vs mem) → zokM Λ (g vs mem) → K (zres rt (f vs mem) (st.drop tags.length)) (g vs mem)) := by
  rw [zinv_g]
  congr 1
  funext vs
  refine propext ⟨fun h => fun h1 h2 => h _ _ h1 h2 ⟨rfl, rfl⟩, fun h r mem' h1 h2 h3 => ?_⟩
  obtain ⟨rfl, rfl⟩ := h3
  exact h h1 h2
theorem zv_cd {Λ : List zC} {pl : zPo} {cv cS : Nat → Option zCt} {rt : Nat} {RP : Int → zM → Prop} {thr : Nat → Option Nat} {XP : Nat → zM → Prop} {nL : Nat} {k : Nat} {tags : List Nat} {rt' : Nat} {pre : List Int → zM → Prop} {f : List Int → zM → Int} {g : List Int → zM → zM} (h : cv k = some (tags, rt', pre, zdt f g)) (n pc : Nat) (ls : zL) (st : List zV) (mem : zM) (J : zJ) (K : zL → List zV → zM → Prop) : zwI Λ pl cv cS rt RP thr XP nL (.invokevirtual k) n pc ls st mem J K = (n = 3 ∧ zIV Λ tags rt' pre st mem (fun vs => zrt rt' (f vs mem) → zokM Λ (g vs mem) → K ls (zres rt' (f vs mem) (st.drop tags.length)) (g vs mem))) := by
  rw [zi_invokevirtual, h, zinv_d]
def zbo (Q1 Q0 : List Int → zM → Prop) : List Int → zM → Int → zM → Prop := fun vs mem r mem' => mem' = mem ∧ ((r = 1 ∧ Q1 vs mem) ∨ (r = 0 ∧ Q0 vs mem))
theorem zinv_b (Λ : List zC) (tags : List Nat) (pre : List Int → zM → Prop) (Q1 Q0 : List Int → zM → Prop) (st : List zV) (mem : zM) (K : List zV → zM → Prop) : zinv Λ (some (tags, 4, pre, zbo Q1 Q0)) st mem K = zIV Λ tags 4 pre st mem (fun vs => zokM Λ mem → (Q1 vs mem → K ((0, 1) :: st.drop tags.length) mem) ∧ (Q0 vs mem → K ((0, 0) :: st.drop tags.length) mem)) := by
  rw [zinv_g]
  congr 1
  funext vs
  refine propext ⟨fun h h2 => ⟨fun h3 => h 1 mem ⟨by decide, by decide⟩ h2 ⟨rfl, Or.inl ⟨rfl, h3⟩⟩, fun h3 => h 0 mem ⟨by decide, by decide⟩ h2 ⟨rfl, Or.inr ⟨rfl, h3⟩⟩⟩, fun h r mem' h1 h2 h3 => ?_⟩
  obtain ⟨rfl, ⟨rfl, h3⟩ | ⟨rfl, h3⟩⟩ := h3
  · exact (h h2).1 h3
  · exact (h h2).2 h3
theorem zv_cb {Λ : List zC} {pl : zPo} {cv cS : Nat → Option zCt} {rt : Nat} {RP : Int → zM → Prop} {thr : Nat → Option Nat} {XP : Nat → zM → Prop} {nL : Nat} {k : Nat} {tags : List Nat} {pre : List Int → zM → Prop} {Q1 Q0 : List Int → zM → Prop} (h : cv k = some (tags, 4, pre, zbo Q1 Q0)) (n pc : Nat) (ls : zL) (st : List zV) (mem : zM) (J : zJ) (K : zL → List zV → zM → Prop) : zwI Λ pl cv cS rt RP thr XP nL (.invokevirtual k) n pc ls st mem J K = (n = 3 ∧ zIV Λ tags 4 pre st mem (fun vs => zokM Λ mem → (Q1 vs mem → K ls ((0, 1) :: st.drop tags.length) mem) ∧ (Q0 vs mem → K ls ((0, 0) :: st.drop tags.length) mem))) := by
  rw [zi_invokevirtual, h, zinv_b]
theorem zs_cb {Λ : List zC} {pl : zPo} {cv cS : Nat → Option zCt} {rt : Nat} {RP : Int → zM → Prop} {thr : Nat → Option Nat} {XP : Nat → zM → Prop} {nL : Nat} {k : Nat} {tags : List Nat} {pre : List Int → zM → Prop} {Q1 Q0 : List Int → zM → Prop} (h : cS k = some (tags, 4, pre, zbo Q1 Q0)) (h2 : pl k = none) (n pc : Nat) (ls : zL) (st : List zV) (mem : zM) (J : zJ) (K : zL → List zV → zM → Prop) : zwI Λ pl cv cS rt RP thr XP nL (.invokestatic k) n pc ls st mem J K = (n = 3 ∧ zIV Λ tags 4 pre st mem (fun vs => zokM Λ mem → (Q1 vs mem → K ls ((0, 1) :: st.drop tags.length) mem) ∧ (Q0 vs mem → K ls ((0, 0) :: st.drop tags.length) mem))) := by
  rw [zi_invokestatic, h, zinv_b]
  have e : ∀ F, zpl pl k 6 F = False := fun F => by unfold zpl; rw [h2]
  rw [e, or_false]
theorem zc_ne10 (P : Prop) : (zCmp .ne 1 0 → P) = P := propext ⟨fun h => h (by unfold zCmp; decide), fun h _ => h⟩
theorem zc_ne11 (P : Prop) : (¬ zCmp .ne 1 0 → P) = True := propext ⟨fun _ => trivial, fun _ h => absurd h (by unfold zCmp; decide)⟩
theorem zc_ne00 (P : Prop) : (zCmp .ne 0 0 → P) = True := propext ⟨fun _ => trivial, fun _ h => absurd h (by unfold zCmp; decide)⟩
theorem zc_ne01 (P : Prop) : (¬ zCmp .ne 0 0 → P) = P := propext ⟨fun h => h (by unfold zCmp; decide), fun h _ => h⟩
theorem zc_eq10 (P : Prop) : (zCmp .eq 1 0 → P) = True := propext ⟨fun _ => trivial, fun _ h => absurd h (by unfold zCmp; decide)⟩
theorem zc_eq11 (P : Prop) : (¬ zCmp .eq 1 0 → P) = P := propext ⟨fun h => h (by unfold zCmp; decide), fun h _ => h⟩
theorem zc_eq00 (P : Prop) : (zCmp .eq 0 0 → P) = P := propext ⟨fun h => h (by unfold zCmp; decide), fun h _ => h⟩
theorem zc_eq01 (P : Prop) : (¬ zCmp .eq 0 0 → P) = True := propext ⟨fun _ => trivial, fun _ h => absurd h (by unfold zCmp; decide)⟩
/-! ===== the reference's world ===== -/
theorem zs_80_81 (m : zM) (k : Nat) (v : Int) : zset m 80 k v 81 = m 81 := rfl
theorem zs_83_81 (m : zM) (k : Nat) (v : Int) : zset m 83 k v 81 = m 81 := rfl
theorem zs_84_81 (m : zM) (k : Nat) (v : Int) : zset m 84 k v 81 = m 81 := rfl
theorem zs_85_81 (m : zM) (k : Nat) (v : Int) : zset m 85 k v 81 = m 81 := rfl
theorem zs_86_81 (m : zM) (k : Nat) (v : Int) : zset m 86 k v 81 = m 81 := rfl
theorem zs_87_81 (m : zM) (k : Nat) (v : Int) : zset m 87 k v 81 = m 81 := rfl
theorem zs_88_81 (m : zM) (k : Nat) (v : Int) : zset m 88 k v 81 = m 81 := rfl
theorem zs_89_81 (m : zM) (k : Nat) (v : Int) : zset m 89 k v 81 = m 81 := rfl
theorem zs_90_81 (m : zM) (k : Nat) (v : Int) : zset m 90 k v 81 = m 81 := rfl
theorem zs_91_81 (m : zM) (k : Nat) (v : Int) : zset m 91 k v 81 = m 81 := rfl
theorem zs_92_81 (m : zM) (k : Nat) (v : Int) : zset m 92 k v 81 = m 81 := rfl
theorem zs_93_81 (m : zM) (k : Nat) (v : Int) : zset m 93 k v 81 = m 81 := rfl
theorem zifn {α : Type} {a b : Nat} {i : Decidable (a = b)} {x y : α} (h : ¬ a = b) : @ite α (a = b) i x y = y := if_neg h
theorem zifp {α : Type} {a b : Nat} {i : Decidable (a = b)} {x y : α} (h : a = b) : @ite α (a = b) i x y = x := if_pos h
def zKp (P : Nat → Nat → Prop) (m m' : zM) : Prop := ∀ c k, P c k → m' c k = m c k
theorem zKp_rf {P : Nat → Nat → Prop} (m : zM) : zKp P m m := fun _ _ _ => rfl
theorem zKp_tr {P : Nat → Nat → Prop} {a b c : zM} (h1 : zKp P a b) (h2 : zKp P b c) : zKp P a c := fun x k h => (h2 x k h).trans (h1 x k h)
theorem zKp_mono {P Q : Nat → Nat → Prop} {m m' : zM} (h : zKp Q m m') (hs : ∀ c k, P c k → Q c k) : zKp P m m' := fun c k hc => h c k (hs c k hc)
theorem zKp_st {P : Nat → Nat → Prop} {m m1 : zM} {a k : Nat} {v : Int} (h : zKp P m m1) (hn : ¬ P a k) : zKp P m (zset m1 a k v) := fun c j hc => by
  rw [zset_e]
  by_cases h1 : c = a
  · by_cases h2 : j = k
    · subst h1; subst h2; exact absurd hc hn
    · rw [if_pos h1, if_neg h2]; exact h c j hc
  · rw [if_neg h1]; exact h c j hc
/-- what a night leaves; what time leaves; what a line of the log leaves; what acts leave -/
def zpN (c k : Nat) : Prop := c ≠ 86 ∧ ¬ (c = 81 ∧ (k = 8 ∨ (20 ≤ k ∧ k ≤ 119)))
def zpM (c k : Nat) : Prop := c ≠ 86 ∧ ¬ (c = 81 ∧ (k = 2 ∨ k = 8 ∨ k = 9 ∨ k = 10 ∨ (20 ≤ k ∧ k ≤ 119)))
def zpL (c k : Nat) : Prop := ¬ (c = 81 ∧ (k = 19 ∨ (212 ≤ k ∧ k ≤ 611)))
def zpA (c k : Nat) : Prop := c ≠ 86 ∧ (c = 81 → k = 15 ∨ k = 16 ∨ k = 17 ∨ (184 ≤ k ∧ k ≤ 195) ∨ 612 ≤ k)
theorem zKp_NM {m m' : zM} (h : zKp zpN m m') : zKp zpM m m' := zKp_mono h (fun c k hc => by unfold zpM at hc; unfold zpN; omega)
theorem zKp_MA {m m' : zM} (h : zKp zpM m m') : zKp zpA m m' := zKp_mono h (fun c k hc => by unfold zpA at hc; unfold zpM; omega)
theorem zKp_LA {m m' : zM} (h : zKp zpL m m') : zKp zpA m m' := zKp_mono h (fun c k hc => by unfold zpA at hc; unfold zpL; omega)
theorem zKN_gr {m m1 : zM} {n v : Int} (h : zKp zpN m m1) (h0 : 0 ≤ n) (h1 : n ≤ 99) : zKp zpN m (zset m1 81 (zw (20 + n)).toNat v) := by
  rw [zw_id (by omega) (by omega)]
  exact zKp_st h (by unfold zpN; omega)
theorem zKN_dr {m m1 m2 : zM} (h : zKp zpN m m1) (hd : ∃ v, m2 = zset m1 81 8 v) : zKp zpN m m2 := by
  obtain ⟨v, rfl⟩ := hd
  exact zKp_st h (by unfold zpN; omega)
def zbes (c w : Int) : Int := if 0 ≤ c % 10 + (if w = 1 then 1 else if w = 3 then -1 else 0) ∧ c % 10 + (if w = 1 then 1 else if w = 3 then -1 else 0) ≤ 9 ∧ 0 ≤ c / 10 + (if w = 2 then 1 else if w = 0 then -1 else 0) ∧ c / 10 + (if w = 2 then 1 else if w = 0 then -1 else 0) ≤ 9 then 10 * (c / 10 + (if w = 2 then 1 else if w = 0 then -1 else 0)) + (c % 10 + (if w = 1 then 1 else if w = 3 then -1 else 0)) else -1
def zcost (k : Int) : Int := if k = 0 then 12 else if k = 1 then 20 else 40
theorem zcost_b (k : Int) : 12 ≤ zcost k ∧ zcost k ≤ 40 := by unfold zcost; split <;> (try split) <;> omega
def zstr (f : Nat → Int) (k : Int) : Nat → Int
  | 0 => 0
  | n + 1 => zw (zstr f k n + (if f (184 + 3 * n + 2) = k then f (184 + 3 * n) else 0))
theorem zstr_s {f : Nat → Int} {k x : Int} (hx : 0 ≤ x) : zstr f k (x + 1).toNat = zw (zstr f k x.toNat + (if f (184 + 3 * x + 2).toNat = k then f (184 + 3 * x).toNat else 0)) := by
  have e1 : (x + 1).toNat = x.toNat + 1 := by omega
  have e2 : (184 + 3 * x + 2).toNat = 184 + 3 * x.toNat + 2 := by omega
  have e3 : (184 + 3 * x).toNat = 184 + 3 * x.toNat := by omega
  rw [e1, e2, e3]; rfl
theorem zstr_c {f g : Nat → Int} {k : Int} {n : Nat} (hn : n ≤ 4) (h : ∀ j, 184 ≤ j → j ≤ 195 → g j = f j) : zstr g k n = zstr f k n := by
  induction n with
  | zero => rfl
  | succ n ih =>
    unfold zstr
    rw [ih (by omega), h (184 + 3 * n + 2) (by omega) (by omega), h (184 + 3 * n) (by omega) (by omega)]
def zcar (f : Nat → Int) : Nat → Int
  | 0 => 0
  | n + 1 => zcar f n + (if f (120 + 4 * n + 2) = 1 then 1 else 0)
theorem zcar_s {f : Nat → Int} {x : Int} (hx : 0 ≤ x) : zcar f (x + 1).toNat = zcar f x.toNat + (if f (120 + 4 * x + 2).toNat = 1 then 1 else 0) := by
  have e1 : (x + 1).toNat = x.toNat + 1 := by omega
  have e2 : (120 + 4 * x + 2).toNat = 120 + 4 * x.toNat + 2 := by omega
  rw [e1, e2]; rfl
theorem zcar_b (f : Nat → Int) (n : Nat) : 0 ≤ zcar f n ∧ zcar f n ≤ n := by
  induction n with
  | zero => unfold zcar; omega
  | succ n ih => unfold zcar; split <;> omega
theorem zcar_c {f g : Nat → Int} {n : Nat} (h : ∀ j, j < n → g (120 + 4 * j + 2) = f (120 + 4 * j + 2)) : zcar g n = zcar f n := by
  induction n with
  | zero => rfl
  | succ n ih =>
    unfold zcar
    rw [ih (fun j hj => h j (by omega)), h n (by omega)]
theorem zcar_pos {f : Nat → Int} {n : Nat} (h : 0 < zcar f n) : ∃ j, j < n ∧ f (120 + 4 * j + 2) = 1 := by
  induction n with
  | zero => exact absurd h (by unfold zcar; omega)
  | succ n ih =>
    unfold zcar at h
    by_cases h1 : f (120 + 4 * n + 2) = 1
    · exact ⟨n, by omega, h1⟩
    · rw [if_neg h1] at h
      obtain ⟨j, hj, he⟩ := ih (by omega)
      exact ⟨j, by omega, he⟩
/-- a carried rail is laid -/
theorem zcar_set {f g : Nat → Int} {n r : Nat} (hr : r < n) (h1 : f (120 + 4 * r + 2) = 1) (h0 : g (120 + 4 * r + 2) ≠ 1) (h : ∀ j, j < n → j ≠ r → g (120 + 4 * j + 2) = f (120 + 4 * j + 2)) : zcar g n = zcar f n - 1 := by
  induction n with
  | zero => omega
  | succ n ih =>
    unfold zcar
    by_cases hn : r = n
    · subst hn
      rw [if_pos h1, if_neg h0, zcar_c (f := f) (g := g) (fun j hj => h j (by omega) (by omega))]; omega
    · rw [ih (by omega) (fun j hj => h j (by omega)), h n (by omega) (by omega)]; omega
/-- the line: at most 16 places, each with a rail's number, each such rail with a cell -/
def zLn (f : Nat → Int) : Prop := (0 ≤ f 18 ∧ f 18 ≤ 16) ∧ ∀ p : Int, 0 ≤ p → p < f 18 → (0 ≤ f (196 + p).toNat ∧ f (196 + p).toNat < 16) ∧ 0 ≤ f (120 + 4 * f (196 + p).toNat + 3).toNat ∧ f (120 + 4 * f (196 + p).toNat + 3).toNat ≤ 99
def zbur (f : Nat → Int) (p : Int) : Prop := f (20 + f (120 + 4 * f (196 + p).toNat + 3).toNat).toNat = 2
theorem zIB_1 {P : Prop} {r : Int} (h : (r = 0 ∧ ¬ P) ∨ (r = 1 ∧ P)) (hr : ¬ r = 0) : P := by
  rcases h with h | h
  · exact absurd h.1 hr
  · exact h.2
theorem zIB_0 {P : Prop} {r : Int} (h : (r = 0 ∧ ¬ P) ∨ (r = 1 ∧ P)) (hr : r = 0) : ¬ P := by
  rcases h with h | h
  · exact h.2
  · omega
/-- the line's end -/
def zend (f : Nat → Int) : Int := f (120 + 4 * f (196 + (f 18 - 1)).toNat + 3).toNat
theorem zLn_at {f : Nat → Int} (h : zLn f) {p : Int} (h0 : 0 ≤ p) (h1 : p < f 18) : p < 16 ∧ 0 ≤ f (196 + p).toNat ∧ f (196 + p).toNat < 16 ∧ 0 ≤ f (120 + 4 * f (196 + p).toNat + 3).toNat ∧ f (120 + 4 * f (196 + p).toNat + 3).toNat ≤ 99 := by
  obtain ⟨a, b⟩ := h.2 p h0 h1
  have := h.1.2
  exact ⟨by omega, a.1, a.2, b.1, b.2⟩
def zNoC (f : Nat → Int) (n : Int) : Prop := ∀ a : Int, 0 ≤ a → a < n → f (120 + 4 * a + 2).toNat ≠ 1
theorem zNoC_0 (f : Nat → Int) : zNoC f 0 := fun a h0 h1 => absurd h1 (by omega)
theorem zNoC_s {f : Nat → Int} {n : Int} (h : zNoC f n) (h1 : ¬ f (120 + 4 * n + 2).toNat = 1) : zNoC f (n + 1) := fun a h0 h2 => by
  by_cases hq : a = n
  · subst hq; exact h1
  · exact h a h0 (by omega)
theorem zNoC_e {f : Nat → Int} {n k : Int} (h : zNoC f n) (he : k = n) : zNoC f k := by subst he; exact h
def zNoB (f : Nat → Int) (n : Int) : Prop := ∀ p : Int, 0 ≤ p → p < n → ¬ zbur f p
theorem zNoB_0 (f : Nat → Int) : zNoB f 0 := fun a h0 h1 => absurd h1 (by omega)
theorem zNoB_s {f : Nat → Int} {n : Int} (h : zNoB f n) (h1 : ¬ zbur f n) : zNoB f (n + 1) := fun a h0 h2 => by
  by_cases hq : a = n
  · subst hq; exact h1
  · exact h a h0 (by omega)
theorem zNoB_e {f : Nat → Int} {n k : Int} (h : zNoB f n) (he : k = n) : zNoB f k := by subst he; exact h
def zGn (f : Nat → Int) : Prop := (0 ≤ f 16 ∧ f 16 ≤ 4) ∧ ∀ g : Int, 0 ≤ g → g < 4 → 0 ≤ f (184 + 3 * g + 1).toNat ∧ f (184 + 3 * g + 1).toNat ≤ 30
def zLi (f : Nat → Int) : Prop := (0 ≤ f 18 ∧ f 18 ≤ 16) ∧ (∀ p : Int, 0 ≤ p → p < f 18 → 0 ≤ f (196 + p).toNat ∧ f (196 + p).toNat < f 15 ∧ f (120 + 4 * f (196 + p).toNat + 2).toNat = 0 ∧ 0 ≤ f (120 + 4 * f (196 + p).toNat + 3).toNat ∧ f (120 + 4 * f (196 + p).toNat + 3).toNat ≤ 99) ∧ (∀ p q : Int, 0 ≤ p → p < q → q < f 18 → f (196 + p).toNat ≠ f (196 + q).toNat)
def zMb (f : Nat → Int) : Prop := 0 ≤ f 15 ∧ f 15 ≤ 16 ∧ 0 ≤ f 17 ∧ f 17 ≤ 4 ∧ 0 ≤ f 19 ∧ f 19 ≤ 100 ∧ 1 ≤ f 3 ∧ f 3 ≤ 60 ∧ 0 ≤ f 2 ∧ f 2 ≤ f 3 ∧ 0 ≤ f 4 ∧ f 4 ≤ 9 ∧ 1 ≤ f 7 ∧ f 7 ≤ 4
def zMc (f : Nat → Int) : Prop := zMb f ∧ zGn f ∧ zLi f
def zMi (f : Nat → Int) : Prop := zMc f ∧ (f 13 = 1 → 0 ≤ f 12 ∧ f 12 + f 7 ≤ f 18) ∧ (f 13 ≠ 1 → f 18 = 0)
theorem zLn_of {f : Nat → Int} (h : zMc f) : zLn f := by
  obtain ⟨hb, _, h1, h2, _⟩ := h
  refine ⟨h1, fun p h0 hp => ?_⟩
  obtain ⟨a, b, c, d, e⟩ := h2 p h0 hp
  obtain ⟨x1, x2, _⟩ := hb
  exact ⟨⟨a, by omega⟩, d, e⟩
theorem zGn_k {f g : Nat → Int} (h : zGn f) (h1 : g 16 = f 16) (h2 : ∀ k, 184 ≤ k → k ≤ 195 → g k = f k) : zGn g := by
  refine ⟨by rw [h1]; exact h.1, fun x h0 h3 => ?_⟩
  rw [h2 (184 + 3 * x + 1).toNat (by omega) (by omega)]
  exact h.2 x h0 h3
/-- what the bounds hang on -/
theorem zMc_k {f g : Nat → Int} (h : zMc f) (h1 : ∀ k, (k = 3 ∨ k = 4 ∨ k = 7 ∨ (15 ≤ k ∧ k ≤ 18) ∨ (120 ≤ k ∧ k ≤ 211)) → g k = f k) (h2 : 0 ≤ g 19 ∧ g 19 ≤ 100) (h3 : 0 ≤ g 2 ∧ g 2 ≤ f 3) : zMc g := by
  obtain ⟨hb, hg, hl1, hl2, hl3⟩ := h
  obtain ⟨x1, x2, x3, x4, x5, x6, x7, x8, x9, x10, x11, x12, x13, x14⟩ := hb
  have e15 := h1 15 (by omega)
  have e18 := h1 18 (by omega)
  refine ⟨?_, zGn_k hg (h1 16 (by omega)) (fun k ha hb => h1 k (by omega)), ?_, ?_, ?_⟩
  · refine ⟨?_, ?_, ?_, ?_, ?_, ?_, ?_, ?_, ?_, ?_, ?_, ?_, ?_, ?_⟩ <;> (try rw [h1 15 (by omega)]) <;> (try rw [h1 17 (by omega)]) <;> (try rw [h1 3 (by omega)]) <;> (try rw [h1 4 (by omega)]) <;> (try rw [h1 7 (by omega)]) <;> omega
  · rw [e18]; exact hl1
  · intro p h0 hp
    rw [e18] at hp
    obtain ⟨a, b, c, d, e⟩ := hl2 p h0 hp
    rw [h1 (196 + p).toNat (by omega), e15, h1 (120 + 4 * f (196 + p).toNat + 2).toNat (by omega), h1 (120 + 4 * f (196 + p).toNat + 3).toNat (by omega)]
    exact ⟨a, b, c, d, e⟩
  · intro p q h0 hp hq
    rw [e18] at hq
    rw [h1 (196 + p).toNat (by omega), h1 (196 + q).toNat (by omega)]
    exact hl3 p q h0 hp hq
