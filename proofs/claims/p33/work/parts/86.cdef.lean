/-! ===== the class between its outer calls ===== -/
def cS (m : zM) : Prop := cW m ∧ cR m
/-- what an outer call leaves that has no word of its own below -/
def zqC (c k : Nat) : Prop := (23 ≤ c ∧ c ≤ 44) ∨ c = 53 ∨ c = 54 ∨ 80 ≤ c ∨ (c = 0 ∧ k = 2) ∨ (c = 5 ∧ k = 4) ∨ (12 ≤ c ∧ c ≤ 15)
def zSC (m m' : zM) : Prop := zKp zqC m m' ∧ cS m'
theorem cS_of {m m' : zM} (h : cS m) (h1 : m' 5 8 = m 5 8) (h2 : m' 22 7 = m 22 7) (h3 : m' 59 6 = m 59 6) (h4 : m' 59 4 = m 59 4) : cS m' := by
  unfold cS cW cR at *
  rw [h1, h2, h3, h4]; exact h
theorem zSC_rf {m : zM} (h : cS m) : zSC m m := ⟨zKp_rf m, h⟩
theorem zSC_tr {a b c : zM} (h1 : zSC a b) (h2 : zSC b c) : zSC a c := ⟨zKp_tr h1.1 h2.1, h2.2⟩
theorem zSC_W {m m' : zM} (h : zSC m m') : cW m' := h.2.1
theorem zSC_R {m m' : zM} (h : zSC m m') : cR m' := h.2.2
theorem zSC_a {m m1 m' : zM} (h1 : zSC m m1) (h : zaW m1 m') : zSC m m' := by
  refine ⟨zKp_tr h1.1 (fun c k hc => h.1 c k (by unfold zqC at hc; unfold zpw; omega)), h.2, ?_⟩
  have h3 := h.1 59 6 (by unfold zpw; omega)
  have h4 := h.1 59 4 (by unfold zpw; omega)
  have hr := h1.2.2
  unfold cR at *
  rw [h3, h4]; exact hr
theorem zSC_k {m m1 m' : zM} (h1 : zSC m m1) (h : zkW m1 m') : zSC m m' := zSC_a h1 (zaW_k h h1.2.1)
theorem zSC_q {m m1 m' : zM} (h1 : zSC m m1) (h : zfr 59 63 m1 m') (hr : cR m') : zSC m m' := by
  refine ⟨zKp_tr h1.1 (fun c k hc => h c k (by unfold zqC at hc; omega)), ?_, hr⟩
  have hw := h1.2.1
  unfold cW at *
  rw [h 5 8 (by omega), h 22 7 (by omega)]; exact hw
theorem zSC_p {m m1 m' : zM} (h1 : zSC m m1) (h : zfR m1 m') : zSC m m' := by
  refine ⟨zKp_tr h1.1 (fun c k hc => h.1 c k (by unfold zqC at hc; unfold zpw; omega) (by unfold zqC at hc; omega)), h.2, ?_⟩
  have h3 := h.1 59 6 (by unfold zpw; omega) (by omega)
  have h4 := h.1 59 4 (by unfold zpw; omega) (by omega)
  have hr := h1.2.2
  unfold cR at *
  rw [h3, h4]; exact hr
theorem zSC_d {m m1 m' : zM} {lo hi : Int} (h1 : zSC m m1) (h : zfr lo hi m1 m') (hd : (45 ≤ lo ∧ hi ≤ 52) ∨ (64 ≤ lo ∧ hi ≤ 79)) : zSC m m' :=
  ⟨zKp_tr h1.1 (fun c k hc => h c k (by unfold zqC at hc; omega)), cS_of h1.2 (h 5 8 (by omega)) (h 22 7 (by omega)) (h 59 6 (by omega)) (h 59 4 (by omega))⟩
theorem zSC_t {m m1 m' : zM} (h1 : zSC m m1) (h : zfr 5 11 m1 m') (h4 : m' 5 4 = m1 5 4) (h8 : m' 5 8 = m1 5 8) : zSC m m' := by
  refine ⟨zKp_tr h1.1 (fun c k hc => ?_), cS_of h1.2 h8 (h 22 7 (by omega)) (h 59 6 (by omega)) (h 59 4 (by omega))⟩
  by_cases hq : c = 5
  · subst hq
    have : k = 4 := by unfold zqC at hc; omega
    subst this; exact h4
  · exact h c k (by unfold zqC at hc; omega)
theorem zSC_st {m m1 : zM} {a k : Nat} {v : Int} (h1 : zSC m m1) (hn : (a = 0 ∧ k ≠ 2) ∨ a = 1) : zSC m (zset m1 a k v) := by
  refine ⟨zKp_st h1.1 (by unfold zqC; omega), cS_of h1.2 ?_ ?_ ?_ ?_⟩ <;> (rw [zset_e, if_neg (by omega)])
/-- texts are told: the tape is empty behind it -/
def zqCo (c k : Nat) : Prop := zqC c k ∧ c ≠ 53
def zSO (m m' : zM) : Prop := zKp zqCo m m' ∧ cS m' ∧ m' 53 1 = 0
theorem zSO_of {m m1 m2 : zM} (h1 : zSC m m1) (h2 : zKp zqCo m1 m2) (h3 : cS m2) (h4 : m2 53 1 = 0) : zSO m m2 := ⟨zKp_tr (zKp_mono h1.1 (fun c k hc => hc.1)) h2, h3, h4⟩
theorem zSO_st {m m1 : zM} {a k : Nat} {v : Int} (h1 : zSO m m1) (hn : (a = 0 ∧ k ≠ 2) ∨ a = 1) : zSO m (zset m1 a k v) := by
  refine ⟨zKp_st h1.1 (by unfold zqCo zqC; omega), cS_of h1.2.1 ?_ ?_ ?_ ?_, ?_⟩ <;> (try (rw [zset_e, if_neg (by omega)]))
  exact h1.2.2
theorem zSO_d {m m1 m' : zM} {lo hi : Int} (h1 : zSO m m1) (h : zfr lo hi m1 m') (hd : (45 ≤ lo ∧ hi ≤ 52) ∨ (64 ≤ lo ∧ hi ≤ 79)) : zSO m m' :=
  ⟨zKp_tr h1.1 (fun c k hc => h c k (by unfold zqCo zqC at hc; omega)), cS_of h1.2.1 (h 5 8 (by omega)) (h 22 7 (by omega)) (h 59 6 (by omega)) (h 59 4 (by omega)), by rw [h 53 1 (by omega)]; exact h1.2.2⟩
theorem zSO_cut {m m1 : zM} (h1 : zSC m m1) : zSO m (zset m1 53 1 0) := by
  refine ⟨zKp_st (zKp_mono h1.1 (fun c k hc => hc.1)) (by unfold zqCo; omega), cS_of h1.2 ?_ ?_ ?_ ?_, ?_⟩
  · rw [zset_e, if_neg (by omega)]
  · rw [zset_e, if_neg (by omega)]
  · rw [zset_e, if_neg (by omega)]
  · rw [zset_e, if_neg (by omega)]
  · rw [zset_e, if_pos rfl, if_pos rfl]
