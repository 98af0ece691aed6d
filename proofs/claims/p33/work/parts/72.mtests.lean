/-! ===== the ring of the tests, closed: by what is left of the depth ===== -/
theorem zMet_no {l : Launch} {Λ : List zC} {y : MethodName} {code : ByteArray} {maxL lv rt : Nat} {ret : Option FieldType} {tags : List Nat} {pre : List Int → zM → Prop} {post : List Int → zM → Int → zM → Prop} (h : ∀ vs mem, vs.length = tags.length → ¬ pre vs mem) : zMet l Λ y code maxL ret lv tags rt pre post :=
  fun _ _ _ _ _ _ vs mem hl _ _ hp => absurd hp (h vs mem hl)
theorem zDeep {vs : List Int} {mem : zM} (hl : vs.length = 1) (h : zPr [80] (fun vs mem => match vs with | [_t] => (zGd mem ∧ mem 80 9 = 7) | _ => False) vs mem) : False := by
  obtain ⟨a, rfl⟩ := zlen1 hl
  have h2 : zGd mem ∧ mem 80 9 = 7 := h.2
  have g := h2.1
  unfold zGd at g
  omega
theorem mTest (l : Launch) : ∀ (k : Nat) (d : Int), d + k = 7 →
    zMet l zLay yX11_readAtom cX11_readAtom 3 (some .boolean) (30 + 3 * k) (CX11_readAtom d).1 (CX11_readAtom d).2.1 (CX11_readAtom d).2.2.1 (CX11_readAtom d).2.2.2 ∧
    zMet l zLay yX11_readAllOf cX11_readAllOf 1 (some .boolean) (31 + 3 * k) (CX11_readAllOf d).1 (CX11_readAllOf d).2.1 (CX11_readAllOf d).2.2.1 (CX11_readAllOf d).2.2.2 ∧
    zMet l zLay yX11_readCond cX11_readCond 1 (some .boolean) (32 + 3 * k) (CX11_readCond d).1 (CX11_readCond d).2.1 (CX11_readCond d).2.2.1 (CX11_readCond d).2.2.2 := by
  intro k
  induction k with
  | zero =>
    intro d hd
    obtain rfl : d = 7 := by omega
    exact ⟨zMet_no (fun vs mem hl h => zDeep hl h), zMet_no (fun vs mem hl h => zDeep hl h), zMet_no (fun vs mem hl h => zDeep hl h)⟩
  | succ k ih =>
    intro d hd
    obtain ⟨h1, h2, h3⟩ := ih (d + 1) (by omega)
    have a1 := mX11_readAtom l d (30 + 3 * (k + 1)) (by omega) (32 + 3 * k) (by omega) h3 (30 + 3 * k) (by omega) h1
    have a2 := mX11_readAllOf l d (31 + 3 * (k + 1)) (by omega) (30 + 3 * (k + 1)) (by omega) a1
    exact ⟨a1, a2, mX11_readCond l d (32 + 3 * (k + 1)) (by omega) (31 + 3 * (k + 1)) (by omega) a2⟩
