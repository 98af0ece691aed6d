/-! ===== the texts at the law's start (a draft: not yet compiled) ===== -/
theorem zst_ne : (List.range 26).all (fun i => (List.range 26).all (fun j => decide (i = j) || (!(decide ((zTx.map List.length).getD i 0 = (zTx.map List.length).getD j 0)) || (List.range ((zTx.map List.length).getD i 0)).any (fun q => !(decide (((zTx.map (·.map Int32.ofInt)).getD i []).getD q 0 = ((zTx.map (·.map Int32.ofInt)).getD j []).getD q 0)))))) = true := by decide +kernel
theorem zst_i8 : ∀ a, a < 8 → ∀ b, b < 8 → Int32.ofNat a = Int32.ofNat b → a = b := by decide
theorem zst_T {args : Array Value} {s : State} {A : Nat → Prop} (hn : narrow_1.before args s = true) (hA : ∀ a : Nat, a < s.heap.size → ¬ A a) : ∃ adK adV : Nat → Nat, vk_S zTx.length (zTx.map List.length) (zTx.map (·.map Int32.ofInt)) adK adV A s s.heap ∧ ∀ i : Nat, i < 26 → (zTm i).eval args s none [] s = some (.ref (adK i)) := by
  have h0 : ∀ i : Nat, ∃ q : Nat × Nat, i < 26 → (zTm i).eval args s none [] s = some (.ref q.1) ∧ va_O "java/lang/String" q.1 A s s.heap ∧ va_OF "java/lang/String" "coder" "B" (.int 0) q.1 A s s.heap ∧ va_OF "java/lang/String" "value" "[B" (.ref q.2) q.1 A s s.heap ∧ va_T .byte q.2 ((zTx.map List.length).getD i 0) (fun j => .int (((zTx.map (·.map Int32.ofInt)).getD i []).getD j 0)) A s s.heap := by
    intro i
    by_cases hi : i < 26
    · obtain ⟨adK, adV, hS, hE⟩ := vk_Sof (args := args) (s := s) (N := 1) (tm := fun _ => zTm i) (len := [(zTx.map List.length).getD i 0]) (byt := [(zTx.map (·.map Int32.ofInt)).getD i []]) (A := A)
        (fun k hk => by
          obtain rfl : k = 0 := by omega
          have := zTl_b i
          show (zTx.map List.length).getD i 0 < 2 ^ 31
          omega)
        (fun k hk => zNr_b hn (zrange zst_c1 hi)) (fun k hk => zNr_b hn (zrange zst_c2 hi)) (fun k hk => zNr_b hn (zrange zst_c3 hi))
        (fun k hk => by
          obtain rfl : k = 0 := by omega
          exact zNr_b hn (zrange zst_c4 hi))
        (fun k hk j hj => by
          obtain rfl : k = 0 := by omega
          exact zNr_b hn (zrange (zrange zst_c5 hi) hj))
        (fun k j h1 h2 h3 => absurd (show k = j by omega) h3) hA
      have q := hS.1 0 (by decide)
      exact ⟨(adK 0, adV 0), fun _ => ⟨hE 0 (by decide), q.1, q.2.1, q.2.2.1, q.2.2.2⟩⟩
    · exact ⟨(0, 0), fun h => absurd h hi⟩
  obtain ⟨ad, had⟩ := Classical.axiomOfChoice h0
  refine ⟨fun i => (ad i).1, fun i => (ad i).2, ⟨fun i hi => (had i hi).2, fun i j hi hj e => ?_⟩, fun i hi => (had i hi).1⟩
  have hi' : i < 26 := hi
  have hj' : j < 26 := hj
  have e' : (ad i).1 = (ad j).1 := e
  obtain ⟨-, -, -, v1, t1⟩ := had i hi'
  obtain ⟨-, -, -, v2, t2⟩ := had j hj'
  have ev : (ad i).2 = (ad j).2 := by
    obtain ⟨cf, k, fi, f, cell, g1, -, g2, -, g3, -⟩ := v1
    obtain ⟨cf', k', fi', f', cell', g1', -, g2', -, g3', -⟩ := v2
    rw [g1] at g1'
    cases g1'
    rw [e', g2'] at g2
    cases g2
    rw [g3'] at g3
    first | exact (Value.ref.inj (Option.some.inj g3)).symm | (simp only [Option.some.injEq, Slot.val.injEq, Value.ref.injEq] at g3; exact g3.symm)
  obtain ⟨c1, a1, -, -, -, a5, a6, -⟩ := t1
  obtain ⟨c2, b1, -, -, -, b5, b6, -⟩ := t2
  rw [ev, b1] at a1
  cases a1
  have hlen : (zTx.map List.length).getD i 0 = (zTx.map List.length).getD j 0 := zst_i8 _ (by have := zTl_b i; omega) _ (by have := zTl_b j; omega) (a5.symm.trans b5)
  have hh := zrange (zrange zst_ne hi') hj'
  simp only [Bool.or_eq_true, decide_eq_true_eq, Bool.not_eq_true', decide_eq_false_iff_not, List.any_eq_true, List.mem_range] at hh
  rcases hh with h | h | ⟨q, hq, h⟩
  · exact h
  · exact absurd hlen h
  · have x1 := a6 q hq
    have x2 := b6 q (by omega)
    rw [x2] at x1
    exact absurd (Value.int.inj (Option.some.inj x1)).symm h
