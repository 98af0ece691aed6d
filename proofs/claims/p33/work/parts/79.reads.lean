/-! ===== the class's reader: its rings, closed ===== -/
theorem zDeep4 {vs : List Int} {mem : zM} (hl : vs.length = 2) (h : zPr [48] (fun vs mem => match vs with | [_t, p] => (p = 7 ∧ 0 ≤ p ∧ p ≤ 6) | _ => False) vs mem) : False := by
  obtain ⟨a, b, rfl⟩ := zlen2 hl
  have h2 : b = 7 ∧ 0 ≤ b ∧ b ≤ 6 := h.2
  omega
theorem mCond4 (l : Launch) : ∀ (k : Nat) (d : Int), d + k = 7 →
    zMet l zLay yX4_readDenied cX4_readDenied 2 (some .boolean) (32 + 4 * k) (CX4_readDenied d).1 (CX4_readDenied d).2.1 (CX4_readDenied d).2.2.1 (CX4_readDenied d).2.2.2 ∧
    zMet l zLay yX4_readEither cX4_readEither 3 (some .boolean) (33 + 4 * k) (CX4_readEither d).1 (CX4_readEither d).2.1 (CX4_readEither d).2.2.1 (CX4_readEither d).2.2.2 := by
  intro k
  induction k with
  | zero =>
    intro d hd
    obtain rfl : d = 7 := by omega
    exact ⟨zMet_no (fun vs mem hl h => zDeep4 (mem := mem) hl h), zMet_no (fun vs mem hl h => zDeep4 (mem := mem) hl h)⟩
  | succ k ih =>
    intro d hd
    obtain ⟨h1, h2⟩ := ih (d + 1) (by omega)
    have a1 := mX4_readAtom l d (31 + 4 * (k + 1)) (by omega) (32 + 4 * k) (by omega) h1 (33 + 4 * k) (by omega) h2
    have a2 := mX4_readDenied l d (32 + 4 * (k + 1)) (by omega) (31 + 4 * (k + 1)) (by omega) a1
    have a3 := mX4_readBoth l d (32 + 4 * (k + 1)) (by omega) (31 + 4 * (k + 1)) (by omega) a1
    exact ⟨a2, mX4_readEither l d (33 + 4 * (k + 1)) (by omega) (32 + 4 * (k + 1)) (by omega) a3⟩
theorem mRow4 (l : Launch) : ∀ (k : Nat) (d : Int), d + k = 7 → zMet l zLay yX4_readRow cX4_readRow 3 (some .boolean) (73 + 5 * k) (CX4_readRow d).1 (CX4_readRow d).2.1 (CX4_readRow d).2.2.1 (CX4_readRow d).2.2.2 := by
  intro k
  induction k with
  | zero =>
    intro d hd
    obtain rfl : d = 7 := by omega
    exact zMet_no (fun vs mem hl h => zDeep4 (mem := mem) hl h)
  | succ k ih =>
    intro d hd
    have h1 := ih (d + 1) (by omega)
    have he := (mCond4 l (k + 1) d (by omega)).2
    have a0 := mX4_readBlock l d (70 + 5 * (k + 1)) (by omega) (73 + 5 * k) (by omega) h1
    have a1 := mX4_readAgain l d (71 + 5 * (k + 1)) (by omega) (70 + 5 * (k + 1)) (by omega) a0
    have a2 := mX4_readIf l d (71 + 5 * (k + 1)) (by omega) (33 + 4 * (k + 1)) (by omega) he (70 + 5 * (k + 1)) (by omega) a0
    have a3 := mX4_readWhile l d (71 + 5 * (k + 1)) (by omega) (33 + 4 * (k + 1)) (by omega) he (70 + 5 * (k + 1)) (by omega) a0
    have a4 := mX4_readOrder l d (72 + 5 * (k + 1)) (by omega) (71 + 5 * (k + 1)) (by omega) a1 (71 + 5 * (k + 1)) (by omega) a2 (71 + 5 * (k + 1)) (by omega) a3
    exact mX4_readRow l d (73 + 5 * (k + 1)) (by omega) (72 + 5 * (k + 1)) (by omega) a4
theorem mX4_readRow0 (l : Launch) : zMet l zLay yX4_readRow cX4_readRow 3 (some .boolean) 108 (CX4_readRow 0).1 (CX4_readRow 0).2.1 (CX4_readRow 0).2.2.1 (CX4_readRow 0).2.2.2 := mRow4 l 7 0 (by omega)
