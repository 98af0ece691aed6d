/-! ===== the first memory, and the list of the cells that the constructors leave ===== -/
def zm22 (k : Nat) : Int := if k = 3 then 30 else if k = 4 then 1 else if k = 5 then 3 else if k = 7 then 2 else 0
def zm81 (k : Nat) : Int := if k = 3 then 30 else if k = 4 then 1 else if k = 5 then 3 else if k = 7 then 2 else if k = 8 then 1 else if k = 10 then (-1) else if k = 14 then (-1) else 0
def zM0 : zM := fun c k => if c = 0 then (if k = 6 then (-1) else 0) else if c = 1 then (if k = 6 then (-1) else if k = 9 then (-1) else 0) else if c = 2 then (if k = 2 then 1 else 0) else if c = 5 then (if k = 8 then (-1) else 0) else if c = 22 then zm22 k else if c = 23 then (if k = 6 then (-1) else if k = 9 then (-1) else 0) else if c = 24 then (if k = 2 then 1 else 0) else if c = 27 then (if k = 8 then (-1) else 0) else if c = 44 then zm22 k else if c = 45 then (if k = 2 then 1 else 0) else if c = 48 then (if k = 5 then (-1) else 0) else if c = 59 then (if k = 4 then 1 else if k = 5 then (-1) else 0) else if c = 80 then (if k = 10 then (-1) else 0) else if c = 81 then zm81 k else 0
def zZ (c : Nat) : Bool := !([0, 1, 2, 5, 22, 23, 24, 27, 44, 45, 48, 59, 80, 81] : List Nat).contains c
theorem zM0_z {c k : Nat} (h : zZ c = true) : zM0 c k = 0 := by
  simp only [zZ, List.contains_cons, List.contains_nil, Bool.or_false, Bool.not_eq_true', Bool.or_eq_false_iff, beq_eq_false_iff_ne, ne_eq] at h
  obtain ⟨h0, h1, h2, h5, h22, h23, h24, h27, h44, h45, h48, h59, h80, h81⟩ := h
  unfold zM0
  rw [if_neg h0, if_neg h1, if_neg h2, if_neg h5, if_neg h22, if_neg h23, if_neg h24, if_neg h27, if_neg h44, if_neg h45, if_neg h48, if_neg h59, if_neg h80, if_neg h81]
theorem zib {P : Prop} [Decidable P] {a b : Int} (ha : -1 ≤ a ∧ a ≤ 30) (hb : -1 ≤ b ∧ b ≤ 30) : -1 ≤ (if P then a else b) ∧ (if P then a else b) ≤ 30 := by
  split
  · exact ha
  · exact hb
theorem zM0_b (c k : Nat) : -1 ≤ zM0 c k ∧ zM0 c k ≤ 30 := by
  unfold zM0 zm22 zm81
  repeat' (first | exact ⟨by decide, by decide⟩ | apply zib)
theorem zL4 : (List.range 95).all (fun id => (List.range 30).all fun k => ((zLay.getD id (9, 0, [])).2.2.getD k (9, 9)).1 != 4 || (zM0 id k == 0 || zM0 id k == 1)) = true := by decide +kernel
theorem zL3 : (List.range 95).all (fun id => (zLay.getD id (9, 0, [])).1 != 3 || zZ id) = true := by decide +kernel
theorem zLl : (List.range 95).all (fun id => decide ((zLay.getD id (9, 0, [])).2.2.length ≤ 30)) = true := by decide +kernel
theorem zM0_ok : zokM zLay zM0 := by
  intro id κ h
  have hid : id < 95 := Nat.lt_of_lt_of_le (List.getElem?_eq_some_iff.mp h).1 (by decide +kernel)
  have hg : zLay.getD id (9, 0, []) = κ := by rw [List.getD_eq_getElem?_getD, h]; rfl
  have h3 := zrange zL3 hid
  have h5 := zrange zLl hid
  rw [hg] at h3 h5
  have hb : ∀ k, -1 ≤ zM0 id k ∧ zM0 id k ≤ 30 := zM0_b id
  refine ⟨fun _ k t ht => ⟨fun _ => ⟨by have := hb k; omega, by have := hb k; omega⟩, fun ht4 => ?_⟩, fun _ i _ => ⟨by have := hb i; omega, by have := hb i; omega⟩, fun _ i _ => ⟨by have := hb i; omega, by have := hb i; omega⟩, fun hk i _ => ?_, fun _ i _ => ⟨by have := hb i; omega, by have := hb i; omega⟩⟩
  · have hk : k < 30 := Nat.lt_of_lt_of_le (List.getElem?_eq_some_iff.mp ht).1 (of_decide_eq_true h5)
    have h4 := zrange (zrange zL4 hid) hk
    rw [hg, List.getD_eq_getElem?_getD, ht] at h4
    have ht' : (((some t).getD (9, 9)).1 != 4) = false := by
      rw [show (some t).getD (9, 9) = t from rfl, ht4]; rfl
    rw [ht', Bool.false_or, Bool.or_eq_true, beq_iff_eq, beq_iff_eq] at h4
    rcases h4 with h4 | h4 <;> rw [h4] <;> exact ⟨by decide, by decide⟩
  · rw [show (κ.1 != 3) = false by rw [hk]; rfl, Bool.false_or] at h3
    rw [zM0_z h3]
    exact ⟨by decide, by decide⟩
theorem zm81_0 {k : Nat} (h : 14 < k) : zM0 81 k = 0 := by
  show zm81 k = 0
  unfold zm81
  rw [if_neg (by omega), if_neg (by omega), if_neg (by omega), if_neg (by omega), if_neg (by omega), if_neg (by omega), if_neg (by omega)]
theorem zInv_0 : zInv zM0 := by
  have e0 : zM0 81 2 = 0 := rfl
  have e3 : zM0 81 3 = 30 := rfl
  have e4 : zM0 81 4 = 1 := rfl
  have e7 : zM0 81 7 = 2 := rfl
  have e13 : zM0 81 13 = 0 := rfl
  have e15 : zM0 81 15 = 0 := rfl
  have e16 : zM0 81 16 = 0 := rfl
  have e17 : zM0 81 17 = 0 := rfl
  have e18 : zM0 81 18 = 0 := rfl
  have e19 : zM0 81 19 = 0 := rfl
  refine ⟨⟨⟨by decide, by decide, by decide, by decide⟩, ⟨by decide, by decide, by decide, by decide⟩⟩, ⟨by decide, by decide, rfl⟩, ⟨⟨by decide, by decide, rfl⟩, ⟨by decide, by decide, rfl⟩, fun i hi => ?_⟩, ⟨⟨?_, ⟨?_, fun g h0 h1 => ?_⟩, ?_, fun p h0 h1 => ?_, fun p q h0 h1 h2 => ?_⟩, fun h => ?_, fun _ => e18⟩, fun t h0 h1 => ?_, ⟨rfl, Or.inl rfl⟩, fun h => ?_⟩
  · have e : zM0 12 3 = 0 := rfl
    rw [e] at hi; omega
  · unfold zMb
    rw [e15, e17, e19, e3, e0, e4, e7]; decide
  · rw [e16]; decide
  · rw [zm81_0 (k := (184 + 3 * g + 1).toNat) (by omega)]; decide
  · rw [e18]; decide
  · rw [e18] at h1; omega
  · rw [e18] at h2; omega
  · rw [e13] at h; cases h
  · rw [e17] at h1; omega
  · exact absurd h (by decide)
/-- where the cells lie -/
def zAd (q0 q1 q2 : Nat) (w0 w1 : Nat → Nat) (id : Nat) : Nat := if id = 0 then q0 else if id < 80 then w0 (id - 1) else if id = 80 then q1 else if id < 94 then w1 (id - 81) else q2
def zWg (ad : Nat → Nat) (cs : Nat → ClassId) (mem : zM) : List zC → Nat → va_W
  | [], _ => []
  | κ :: r, id => (ad id, zEl ad cs κ (mem id)) :: zWg ad cs mem r (id + 1)
theorem zWg_eq {ad : Nat → Nat} {cs : Nat → ClassId} {mem : zM} : ∀ (Λ : List zC) (k : Nat), (Λ.mapIdx fun id κ => (ad (id + k), zEl ad cs κ (mem (id + k)))) = zWg ad cs mem Λ k := by
  intro Λ
  induction Λ with
  | nil => intro k; rfl
  | cons κ r ih =>
    intro k
    rw [List.mapIdx_cons]
    have e : (fun (i : Nat) (κ : zC) => (ad (i + 1 + k), zEl ad cs κ (mem (i + 1 + k)))) = fun i κ => (ad (i + (k + 1)), zEl ad cs κ (mem (i + (k + 1)))) := by
      funext i κ
      rw [show i + 1 + k = i + (k + 1) by omega]
    show (ad (0 + k), zEl ad cs κ (mem (0 + k))) :: (r.mapIdx fun (i : Nat) (κ : zC) => (ad (i + 1 + k), zEl ad cs κ (mem (i + 1 + k)))) = (ad k, zEl ad cs κ (mem k)) :: zWg ad cs mem r (k + 1)
    rw [e, ih (k + 1), Nat.zero_add]
theorem zWd_g {ad : Nat → Nat} {cs : Nat → ClassId} {mem : zM} {Λ : List zC} : zWd Λ ad cs mem = zWg ad cs mem Λ 0 := zWg_eq Λ 0
def zFg (ad : Nat → Nat) (f : Nat → Int) : List (Nat × Nat) → Nat → List Value
  | [], _ => []
  | t :: r, k => zF ad t (f k) :: zFg ad f r (k + 1)
theorem zFg_eq {ad : Nat → Nat} {f : Nat → Int} : ∀ (l : List (Nat × Nat)) (k : Nat), (l.mapIdx fun i t => zF ad t (f (i + k))) = zFg ad f l k := by
  intro l
  induction l with
  | nil => intro k; rfl
  | cons t r ih =>
    intro k
    rw [List.mapIdx_cons]
    have e : (fun (i : Nat) (t : Nat × Nat) => zF ad t (f (i + 1 + k))) = fun i t => zF ad t (f (i + (k + 1))) := by
      funext i t
      rw [show i + 1 + k = i + (k + 1) by omega]
    show zF ad t (f (0 + k)) :: (r.mapIdx fun (i : Nat) (t : Nat × Nat) => zF ad t (f (i + 1 + k))) = zF ad t (f k) :: zFg ad f r (k + 1)
    rw [e, ih (k + 1), Nat.zero_add]
theorem zlc {ad : Nat → Nat} {cs : Nat → ClassId} {mem : zM} {κ : zC} {r : List zC} {id j a : Nat} {e : va_E} {t : va_W} (hj : id + 1 = j) (h1 : a = ad id) (h2 : e = zEl ad cs κ (mem id)) (h3 : t = zWg ad cs mem r j) : (a, e) :: t = zWg ad cs mem (κ :: r) id := by
  subst hj h1 h2 h3
  rfl
section ZE0
variable {ad : Nat → Nat} {cs : Nat → ClassId} {f : Nat → Int} {n : Nat} {l : List (Nat × Nat)}
theorem ze_o {ci : Nat} {fs : List Value} (h : fs = zFg ad f l 0) : (.inr (ci, fs) : va_E) = zEl ad cs (0, ci, l) f := by
  rw [h, ← zFg_eq l 0]; rfl
theorem z32_0 : (0 : Int32) = Int32.ofInt 0 := by decide
theorem z64_0 : (0 : Int64) = Int64.ofInt 0 := by decide
theorem ze_1 (h : f = fun _ => 0) : (.inl (cs 0, n, .inl fun _ => 0) : va_E) = zEl ad cs (1, n, l) f := by
  subst h; rw [z32_0]; rfl
theorem ze_2 (h : f = fun _ => 0) : (.inl (cs 1, n, .inr (.inl fun _ => 0)) : va_E) = zEl ad cs (2, n, l) f := by
  subst h; rw [z64_0]; rfl
theorem ze_3 (h : f = fun _ => 0) : (.inl (cs 2, n, .inl fun _ => 0) : va_E) = zEl ad cs (3, n, l) f := by
  subst h; rw [z32_0]; rfl
theorem ze_4 (h : f = fun _ => 0) : (.inl (cs 3, n, .inl fun _ => 0) : va_E) = zEl ad cs (4, n, l) f := by
  subst h; rw [z32_0]; rfl
theorem ze_f {g : Nat → Int32} (h : g = fun i => Int32.ofInt (f i)) : (.inl (cs 0, n, .inl g) : va_E) = zEl ad cs (1, n, l) f := by
  subst h; rfl
end ZE0
theorem zf22 : (upd (upd (upd (upd (upd (upd (upd (upd (fun _ => 0) 0 0) 1 0) 2 0) 3 30) 4 1) 5 3) 6 0) 7 2) = fun i => Int32.ofInt (zm22 i) := by
  funext i
  match i with
  | 0 => decide
  | 1 => decide
  | 2 => decide
  | 3 => decide
  | 4 => decide
  | 5 => decide
  | 6 => decide
  | 7 => decide
  | j + 8 =>
    have e : zm22 (j + 8) = 0 := by
      unfold zm22
      rw [if_neg (by omega), if_neg (by omega), if_neg (by omega), if_neg (by omega)]
    rw [e, ← z32_0]
    show (if j + 8 = 7 then 2 else if j + 8 = 6 then 0 else if j + 8 = 5 then 3 else if j + 8 = 4 then 1 else if j + 8 = 3 then 30 else if j + 8 = 2 then 0 else if j + 8 = 1 then 0 else if j + 8 = 0 then 0 else (0 : Int32)) = 0
    rw [if_neg (by omega), if_neg (by omega), if_neg (by omega), if_neg (by omega), if_neg (by omega), if_neg (by omega), if_neg (by omega), if_neg (by omega)]
theorem zf81 : (upd (upd (upd (upd (upd (upd (upd (fun _ => 0) 3 30) 4 1) 5 3) 7 2) 8 1) 10 (-1)) 14 (-1)) = fun i => Int32.ofInt (zm81 i) := by
  funext i
  match i with
  | 0 => decide
  | 1 => decide
  | 2 => decide
  | 3 => decide
  | 4 => decide
  | 5 => decide
  | 6 => decide
  | 7 => decide
  | 8 => decide
  | 9 => decide
  | 10 => decide
  | 11 => decide
  | 12 => decide
  | 13 => decide
  | 14 => decide
  | j + 15 =>
    have e : zm81 (j + 15) = 0 := by
      unfold zm81
      rw [if_neg (by omega), if_neg (by omega), if_neg (by omega), if_neg (by omega), if_neg (by omega), if_neg (by omega), if_neg (by omega)]
    rw [e, ← z32_0]
    show (if j + 15 = 14 then (-1) else if j + 15 = 10 then (-1) else if j + 15 = 8 then 1 else if j + 15 = 7 then 2 else if j + 15 = 5 then 3 else if j + 15 = 4 then 1 else if j + 15 = 3 then 30 else (0 : Int32)) = 0
    rw [if_neg (by omega), if_neg (by omega), if_neg (by omega), if_neg (by omega), if_neg (by omega), if_neg (by omega), if_neg (by omega)]
theorem ze_55 {ad : Nat → Nat} {cs : Nat → ClassId} {f : Nat → Int} {a0 a1 a2 a3 : Nat} (h0 : a0 = ad 64) (h1 : a1 = ad 68) (h2 : a2 = ad 72) (h3 : a3 = ad 76) : (.inl (cs 4, 4, .inr (.inr (.inr (.inr (va_up (va_up (va_up (va_up zNo 0 (some a0)) 1 (some a1)) 2 (some a2)) 3 (some a3)))))) : va_E) = zEl ad cs (5, 4, [(2, 64), (2, 68), (2, 72), (2, 76)]) f := by
  have e : (va_up (va_up (va_up (va_up zNo 0 (some a0)) 1 (some a1)) 2 (some a2)) 3 (some a3)) = fun i : Nat => (([(2, 64), (2, 68), (2, 72), (2, 76)] : List (Nat × Nat))[i]?).map fun t => ad t.2 := by
    subst h0 h1 h2 h3
    funext i
    match i with
    | 0 => rfl
    | 1 => rfl
    | 2 => rfl
    | 3 => rfl
    | j + 4 =>
      show (if j + 4 = 3 then some (ad 76) else if j + 4 = 2 then some (ad 72) else if j + 4 = 1 then some (ad 68) else if j + 4 = 0 then some (ad 64) else none) = none
      rw [if_neg (by omega), if_neg (by omega), if_neg (by omega), if_neg (by omega)]
  rw [e]
  rfl
set_option maxHeartbeats 8000000 in
set_option maxRecDepth 100000 in
theorem zst_list (cs : Nat → ClassId) (q0 q1 q2 : Nat) (w0 w1 : Nat → Nat) : (((([] ++ FX10 cs q0 w0) ++ FX11 cs q1 w1) ++ [(q2, (.inl (cs 1, (1, .inr (.inl fun _ => 0))) : va_E))]) : va_W) = zWd zLay (zAd q0 q1 q2 w0 w1) cs zM0 := by
  rw [zWd_g]
  unfold zLay
  simp only [FX10, FX9, FX0, FX8, FX1, FX2, FX3, FX4, FX5, FX6, FX7, FX11, List.nil_append, List.cons_append, List.append_assoc]
  refine zlc (j := 1) rfl rfl (ze_o rfl) ?_
  refine zlc (j := 2) rfl rfl (ze_o rfl) ?_
  refine zlc (j := 3) rfl rfl (ze_o rfl) ?_
  refine zlc (j := 4) rfl rfl (ze_1 rfl) ?_
  refine zlc (j := 5) rfl rfl (ze_1 rfl) ?_
  refine zlc (j := 6) rfl rfl (ze_o rfl) ?_
  refine zlc (j := 7) rfl rfl (ze_1 rfl) ?_
  refine zlc (j := 8) rfl rfl (ze_1 rfl) ?_
  refine zlc (j := 9) rfl rfl (ze_1 rfl) ?_
  refine zlc (j := 10) rfl rfl (ze_1 rfl) ?_
  refine zlc (j := 11) rfl rfl (ze_1 rfl) ?_
  refine zlc (j := 12) rfl rfl (ze_1 rfl) ?_
  refine zlc (j := 13) rfl rfl (ze_o rfl) ?_
  refine zlc (j := 14) rfl rfl (ze_1 rfl) ?_
  refine zlc (j := 15) rfl rfl (ze_1 rfl) ?_
  refine zlc (j := 16) rfl rfl (ze_1 rfl) ?_
  refine zlc (j := 17) rfl rfl (ze_o rfl) ?_
  refine zlc (j := 18) rfl rfl (ze_1 rfl) ?_
  refine zlc (j := 19) rfl rfl (ze_1 rfl) ?_
  refine zlc (j := 20) rfl rfl (ze_1 rfl) ?_
  refine zlc (j := 21) rfl rfl (ze_1 rfl) ?_
  refine zlc (j := 22) rfl rfl (ze_3 rfl) ?_
  refine zlc (j := 23) rfl rfl (ze_f zf22) ?_
  refine zlc (j := 24) rfl rfl (ze_o rfl) ?_
  refine zlc (j := 25) rfl rfl (ze_o rfl) ?_
  refine zlc (j := 26) rfl rfl (ze_1 rfl) ?_
  refine zlc (j := 27) rfl rfl (ze_1 rfl) ?_
  refine zlc (j := 28) rfl rfl (ze_o rfl) ?_
  refine zlc (j := 29) rfl rfl (ze_1 rfl) ?_
  refine zlc (j := 30) rfl rfl (ze_1 rfl) ?_
  refine zlc (j := 31) rfl rfl (ze_1 rfl) ?_
  refine zlc (j := 32) rfl rfl (ze_1 rfl) ?_
  refine zlc (j := 33) rfl rfl (ze_1 rfl) ?_
  refine zlc (j := 34) rfl rfl (ze_1 rfl) ?_
  refine zlc (j := 35) rfl rfl (ze_o rfl) ?_
  refine zlc (j := 36) rfl rfl (ze_1 rfl) ?_
  refine zlc (j := 37) rfl rfl (ze_1 rfl) ?_
  refine zlc (j := 38) rfl rfl (ze_1 rfl) ?_
  refine zlc (j := 39) rfl rfl (ze_o rfl) ?_
  refine zlc (j := 40) rfl rfl (ze_1 rfl) ?_
  refine zlc (j := 41) rfl rfl (ze_1 rfl) ?_
  refine zlc (j := 42) rfl rfl (ze_1 rfl) ?_
  refine zlc (j := 43) rfl rfl (ze_1 rfl) ?_
  refine zlc (j := 44) rfl rfl (ze_3 rfl) ?_
  refine zlc (j := 45) rfl rfl (ze_f zf22) ?_
  refine zlc (j := 46) rfl rfl (ze_o rfl) ?_
  refine zlc (j := 47) rfl rfl (ze_1 rfl) ?_
  refine zlc (j := 48) rfl rfl (ze_1 rfl) ?_
  refine zlc (j := 49) rfl rfl (ze_o rfl) ?_
  refine zlc (j := 50) rfl rfl (ze_o rfl) ?_
  refine zlc (j := 51) rfl rfl (ze_1 rfl) ?_
  refine zlc (j := 52) rfl rfl (ze_1 rfl) ?_
  refine zlc (j := 53) rfl rfl (ze_1 rfl) ?_
  refine zlc (j := 54) rfl rfl (ze_o rfl) ?_
  refine zlc (j := 55) rfl rfl (ze_1 rfl) ?_
  refine zlc (j := 56) rfl rfl (ze_55 rfl rfl rfl rfl) ?_
  refine zlc (j := 57) rfl rfl (ze_o rfl) ?_
  refine zlc (j := 58) rfl rfl (ze_1 rfl) ?_
  refine zlc (j := 59) rfl rfl (ze_1 rfl) ?_
  refine zlc (j := 60) rfl rfl (ze_o rfl) ?_
  refine zlc (j := 61) rfl rfl (ze_2 rfl) ?_
  refine zlc (j := 62) rfl rfl (ze_1 rfl) ?_
  refine zlc (j := 63) rfl rfl (ze_3 rfl) ?_
  refine zlc (j := 64) rfl rfl (ze_2 rfl) ?_
  refine zlc (j := 65) rfl rfl (ze_o rfl) ?_
  refine zlc (j := 66) rfl rfl (ze_1 rfl) ?_
  refine zlc (j := 67) rfl rfl (ze_1 rfl) ?_
  refine zlc (j := 68) rfl rfl (ze_1 rfl) ?_
  refine zlc (j := 69) rfl rfl (ze_o rfl) ?_
  refine zlc (j := 70) rfl rfl (ze_1 rfl) ?_
  refine zlc (j := 71) rfl rfl (ze_1 rfl) ?_
  refine zlc (j := 72) rfl rfl (ze_1 rfl) ?_
  refine zlc (j := 73) rfl rfl (ze_o rfl) ?_
  refine zlc (j := 74) rfl rfl (ze_1 rfl) ?_
  refine zlc (j := 75) rfl rfl (ze_1 rfl) ?_
  refine zlc (j := 76) rfl rfl (ze_1 rfl) ?_
  refine zlc (j := 77) rfl rfl (ze_o rfl) ?_
  refine zlc (j := 78) rfl rfl (ze_1 rfl) ?_
  refine zlc (j := 79) rfl rfl (ze_1 rfl) ?_
  refine zlc (j := 80) rfl rfl (ze_1 rfl) ?_
  refine zlc (j := 81) rfl rfl (ze_o rfl) ?_
  refine zlc (j := 82) rfl rfl (ze_f zf81) ?_
  refine zlc (j := 83) rfl rfl (ze_1 rfl) ?_
  refine zlc (j := 84) rfl rfl (ze_4 rfl) ?_
  refine zlc (j := 85) rfl rfl (ze_1 rfl) ?_
  refine zlc (j := 86) rfl rfl (ze_1 rfl) ?_
  refine zlc (j := 87) rfl rfl (ze_3 rfl) ?_
  refine zlc (j := 88) rfl rfl (ze_1 rfl) ?_
  refine zlc (j := 89) rfl rfl (ze_1 rfl) ?_
  refine zlc (j := 90) rfl rfl (ze_1 rfl) ?_
  refine zlc (j := 91) rfl rfl (ze_2 rfl) ?_
  refine zlc (j := 92) rfl rfl (ze_3 rfl) ?_
  refine zlc (j := 93) rfl rfl (ze_3 rfl) ?_
  refine zlc (j := 94) rfl rfl (ze_1 rfl) ?_
  refine zlc (j := 95) rfl rfl (ze_2 rfl) ?_
  rfl
