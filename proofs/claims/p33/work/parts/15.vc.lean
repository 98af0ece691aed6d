/-! ===== unfolding, a stretch at a time ===== -/
theorem zi_iconst (Λ : List zC) (pl : zPo) (cv cS : Nat → Option zCt) (rt : Nat) (RP : Int → zM → Prop) (thr : Nat → Option Nat) (XP : Nat → zM → Prop) (nL : Nat) (x : Int) (n pc : Nat) (ls : zL) (st : List zV) (mem : zM) (J : zJ) (K : zL → List zV → zM → Prop) : zwI Λ pl cv cS rt RP thr XP nL (.iconst x) n pc ls st mem J K = (n = 1 ∧ (-1 ≤ x ∧ x ≤ 5) ∧ K ls ((0, x) :: st) mem) := rfl
theorem zi_bipush (Λ : List zC) (pl : zPo) (cv cS : Nat → Option zCt) (rt : Nat) (RP : Int → zM → Prop) (thr : Nat → Option Nat) (XP : Nat → zM → Prop) (nL : Nat) (x : Int) (n pc : Nat) (ls : zL) (st : List zV) (mem : zM) (J : zJ) (K : zL → List zV → zM → Prop) : zwI Λ pl cv cS rt RP thr XP nL (.bipush x) n pc ls st mem J K = (n = 2 ∧ (-128 ≤ x ∧ x ≤ 127) ∧ K ls ((0, x) :: st) mem) := rfl
theorem zi_sipush (Λ : List zC) (pl : zPo) (cv cS : Nat → Option zCt) (rt : Nat) (RP : Int → zM → Prop) (thr : Nat → Option Nat) (XP : Nat → zM → Prop) (nL : Nat) (x : Int) (n pc : Nat) (ls : zL) (st : List zV) (mem : zM) (J : zJ) (K : zL → List zV → zM → Prop) : zwI Λ pl cv cS rt RP thr XP nL (.sipush x) n pc ls st mem J K = (n = 3 ∧ (-32768 ≤ x ∧ x ≤ 32767) ∧ K ls ((0, x) :: st) mem) := rfl
theorem zi_lconst (Λ : List zC) (pl : zPo) (cv cS : Nat → Option zCt) (rt : Nat) (RP : Int → zM → Prop) (thr : Nat → Option Nat) (XP : Nat → zM → Prop) (nL : Nat) (x : Fin 2) (n pc : Nat) (ls : zL) (st : List zV) (mem : zM) (J : zJ) (K : zL → List zV → zM → Prop) : zwI Λ pl cv cS rt RP thr XP nL (.lconst x) n pc ls st mem J K = (n = 1 ∧ K ls ((1, ((x : Nat) : Int)) :: st) mem) := rfl
theorem zi_ldc (Λ : List zC) (pl : zPo) (cv cS : Nat → Option zCt) (rt : Nat) (RP : Int → zM → Prop) (thr : Nat → Option Nat) (XP : Nat → zM → Prop) (nL : Nat) (k : Nat) (n pc : Nat) (ls : zL) (st : List zV) (mem : zM) (J : zJ) (K : zL → List zV → zM → Prop) : zwI Λ pl cv cS rt RP thr XP nL (.ldc k) n pc ls st mem J K = (n = 2 ∧ (zpl pl k 1 (fun _ _ z => K ls ((0, z) :: st) mem) ∨ zpl pl k 3 (fun x _ _ => K ls ((3, ((3 + x : Nat) : Int)) :: st) mem))) := rfl
theorem zi_ldc_w (Λ : List zC) (pl : zPo) (cv cS : Nat → Option zCt) (rt : Nat) (RP : Int → zM → Prop) (thr : Nat → Option Nat) (XP : Nat → zM → Prop) (nL : Nat) (k : Nat) (n pc : Nat) (ls : zL) (st : List zV) (mem : zM) (J : zJ) (K : zL → List zV → zM → Prop) : zwI Λ pl cv cS rt RP thr XP nL (.ldc_w k) n pc ls st mem J K = (n = 3 ∧ zpl pl k 1 (fun _ _ z => K ls ((0, z) :: st) mem)) := rfl
theorem zi_ldc2_w (Λ : List zC) (pl : zPo) (cv cS : Nat → Option zCt) (rt : Nat) (RP : Int → zM → Prop) (thr : Nat → Option Nat) (XP : Nat → zM → Prop) (nL : Nat) (k : Nat) (n pc : Nat) (ls : zL) (st : List zV) (mem : zM) (J : zJ) (K : zL → List zV → zM → Prop) : zwI Λ pl cv cS rt RP thr XP nL (.ldc2_w k) n pc ls st mem J K = (n = 3 ∧ zpl pl k 2 (fun _ _ z => K ls ((1, z) :: st) mem)) := rfl
theorem zi_getstatic (Λ : List zC) (pl : zPo) (cv cS : Nat → Option zCt) (rt : Nat) (RP : Int → zM → Prop) (thr : Nat → Option Nat) (XP : Nat → zM → Prop) (nL : Nat) (k : Nat) (n pc : Nat) (ls : zL) (st : List zV) (mem : zM) (J : zJ) (K : zL → List zV → zM → Prop) : zwI Λ pl cv cS rt RP thr XP nL (.getstatic k) n pc ls st mem J K = (n = 3 ∧ zpl pl k 4 (fun x _ _ => K ls ((3, (x : Int)) :: st) mem)) := rfl
theorem zi_iload_n (Λ : List zC) (pl : zPo) (cv cS : Nat → Option zCt) (rt : Nat) (RP : Int → zM → Prop) (thr : Nat → Option Nat) (XP : Nat → zM → Prop) (nL : Nat) (k : Fin 4) (n pc : Nat) (ls : zL) (st : List zV) (mem : zM) (J : zJ) (K : zL → List zV → zM → Prop) : zwI Λ pl cv cS rt RP thr XP nL (.iload_n k) n pc ls st mem J K = (n = 1 ∧ (ls k.val).1 = 0 ∧ K ls (ls k.val :: st) mem) := rfl
theorem zi_iload (Λ : List zC) (pl : zPo) (cv cS : Nat → Option zCt) (rt : Nat) (RP : Int → zM → Prop) (thr : Nat → Option Nat) (XP : Nat → zM → Prop) (nL : Nat) (k : Nat) (n pc : Nat) (ls : zL) (st : List zV) (mem : zM) (J : zJ) (K : zL → List zV → zM → Prop) : zwI Λ pl cv cS rt RP thr XP nL (.iload k) n pc ls st mem J K = (n = 2 ∧ (ls k).1 = 0 ∧ K ls (ls k :: st) mem) := rfl
theorem zi_lload_n (Λ : List zC) (pl : zPo) (cv cS : Nat → Option zCt) (rt : Nat) (RP : Int → zM → Prop) (thr : Nat → Option Nat) (XP : Nat → zM → Prop) (nL : Nat) (k : Fin 4) (n pc : Nat) (ls : zL) (st : List zV) (mem : zM) (J : zJ) (K : zL → List zV → zM → Prop) : zwI Λ pl cv cS rt RP thr XP nL (.lload_n k) n pc ls st mem J K = (n = 1 ∧ (ls k.val).1 = 1 ∧ K ls (ls k.val :: st) mem) := rfl
theorem zi_lload (Λ : List zC) (pl : zPo) (cv cS : Nat → Option zCt) (rt : Nat) (RP : Int → zM → Prop) (thr : Nat → Option Nat) (XP : Nat → zM → Prop) (nL : Nat) (k : Nat) (n pc : Nat) (ls : zL) (st : List zV) (mem : zM) (J : zJ) (K : zL → List zV → zM → Prop) : zwI Λ pl cv cS rt RP thr XP nL (.lload k) n pc ls st mem J K = (n = 2 ∧ (ls k).1 = 1 ∧ K ls (ls k :: st) mem) := rfl
theorem zi_aload_n (Λ : List zC) (pl : zPo) (cv cS : Nat → Option zCt) (rt : Nat) (RP : Int → zM → Prop) (thr : Nat → Option Nat) (XP : Nat → zM → Prop) (nL : Nat) (k : Fin 4) (n pc : Nat) (ls : zL) (st : List zV) (mem : zM) (J : zJ) (K : zL → List zV → zM → Prop) : zwI Λ pl cv cS rt RP thr XP nL (.aload_n k) n pc ls st mem J K = (n = 1 ∧ ((ls k.val).1 = 2 ∨ (ls k.val).1 = 3) ∧ K ls (ls k.val :: st) mem) := rfl
theorem zi_aload (Λ : List zC) (pl : zPo) (cv cS : Nat → Option zCt) (rt : Nat) (RP : Int → zM → Prop) (thr : Nat → Option Nat) (XP : Nat → zM → Prop) (nL : Nat) (k : Nat) (n pc : Nat) (ls : zL) (st : List zV) (mem : zM) (J : zJ) (K : zL → List zV → zM → Prop) : zwI Λ pl cv cS rt RP thr XP nL (.aload k) n pc ls st mem J K = (n = 2 ∧ ((ls k).1 = 2 ∨ (ls k).1 = 3) ∧ K ls (ls k :: st) mem) := rfl
theorem zi_istore_n (Λ : List zC) (pl : zPo) (cv cS : Nat → Option zCt) (rt : Nat) (RP : Int → zM → Prop) (thr : Nat → Option Nat) (XP : Nat → zM → Prop) (nL : Nat) (k : Fin 4) (n pc : Nat) (ls : zL) (st : List zV) (mem : zM) (J : zJ) (K : zL → List zV → zM → Prop) : zwI Λ pl cv cS rt RP thr XP nL (.istore_n k) n pc ls st mem J K = (n = 1 ∧ k.val < nL ∧ zp1 0 st fun x r => K (zst ls k.val (0, x)) r mem) := rfl
theorem zi_istore (Λ : List zC) (pl : zPo) (cv cS : Nat → Option zCt) (rt : Nat) (RP : Int → zM → Prop) (thr : Nat → Option Nat) (XP : Nat → zM → Prop) (nL : Nat) (k : Nat) (n pc : Nat) (ls : zL) (st : List zV) (mem : zM) (J : zJ) (K : zL → List zV → zM → Prop) : zwI Λ pl cv cS rt RP thr XP nL (.istore k) n pc ls st mem J K = (n = 2 ∧ k < nL ∧ zp1 0 st fun x r => K (zst ls k (0, x)) r mem) := rfl
theorem zi_lstore_n (Λ : List zC) (pl : zPo) (cv cS : Nat → Option zCt) (rt : Nat) (RP : Int → zM → Prop) (thr : Nat → Option Nat) (XP : Nat → zM → Prop) (nL : Nat) (k : Fin 4) (n pc : Nat) (ls : zL) (st : List zV) (mem : zM) (J : zJ) (K : zL → List zV → zM → Prop) : zwI Λ pl cv cS rt RP thr XP nL (.lstore_n k) n pc ls st mem J K = (n = 1 ∧ k.val + 1 < nL ∧ zp1 1 st fun x r => K (zst2 ls k.val (1, x)) r mem) := rfl
theorem zi_lstore (Λ : List zC) (pl : zPo) (cv cS : Nat → Option zCt) (rt : Nat) (RP : Int → zM → Prop) (thr : Nat → Option Nat) (XP : Nat → zM → Prop) (nL : Nat) (k : Nat) (n pc : Nat) (ls : zL) (st : List zV) (mem : zM) (J : zJ) (K : zL → List zV → zM → Prop) : zwI Λ pl cv cS rt RP thr XP nL (.lstore k) n pc ls st mem J K = (n = 2 ∧ k + 1 < nL ∧ zp1 1 st fun x r => K (zst2 ls k (1, x)) r mem) := rfl
theorem zi_astore_n (Λ : List zC) (pl : zPo) (cv cS : Nat → Option zCt) (rt : Nat) (RP : Int → zM → Prop) (thr : Nat → Option Nat) (XP : Nat → zM → Prop) (nL : Nat) (k : Fin 4) (n pc : Nat) (ls : zL) (st : List zV) (mem : zM) (J : zJ) (K : zL → List zV → zM → Prop) : zwI Λ pl cv cS rt RP thr XP nL (.astore_n k) n pc ls st mem J K = (n = 1 ∧ k.val < nL ∧ zpv st fun v r => (v.1 = 2 ∨ v.1 = 3) ∧ K (zst ls k.val v) r mem) := rfl
theorem zi_astore (Λ : List zC) (pl : zPo) (cv cS : Nat → Option zCt) (rt : Nat) (RP : Int → zM → Prop) (thr : Nat → Option Nat) (XP : Nat → zM → Prop) (nL : Nat) (k : Nat) (n pc : Nat) (ls : zL) (st : List zV) (mem : zM) (J : zJ) (K : zL → List zV → zM → Prop) : zwI Λ pl cv cS rt RP thr XP nL (.astore k) n pc ls st mem J K = (n = 2 ∧ k < nL ∧ zpv st fun v r => (v.1 = 2 ∨ v.1 = 3) ∧ K (zst ls k v) r mem) := rfl
theorem zi_iinc (Λ : List zC) (pl : zPo) (cv cS : Nat → Option zCt) (rt : Nat) (RP : Int → zM → Prop) (thr : Nat → Option Nat) (XP : Nat → zM → Prop) (nL : Nat) (k : Nat) (x : Int) (n pc : Nat) (ls : zL) (st : List zV) (mem : zM) (J : zJ) (K : zL → List zV → zM → Prop) : zwI Λ pl cv cS rt RP thr XP nL (.iinc k x) n pc ls st mem J K = (n = 3 ∧ k < nL ∧ (ls k).1 = 0 ∧ K (zst ls k (0, zAdd (ls k).2 x)) st mem) := rfl
theorem zi_iadd (Λ : List zC) (pl : zPo) (cv cS : Nat → Option zCt) (rt : Nat) (RP : Int → zM → Prop) (thr : Nat → Option Nat) (XP : Nat → zM → Prop) (nL : Nat) (n pc : Nat) (ls : zL) (st : List zV) (mem : zM) (J : zJ) (K : zL → List zV → zM → Prop) : zwI Λ pl cv cS rt RP thr XP nL (.iadd) n pc ls st mem J K = (n = 1 ∧ zp1 0 st fun y r => zp1 0 r fun x r => K ls ((0, zAdd x y) :: r) mem) := rfl
theorem zi_isub (Λ : List zC) (pl : zPo) (cv cS : Nat → Option zCt) (rt : Nat) (RP : Int → zM → Prop) (thr : Nat → Option Nat) (XP : Nat → zM → Prop) (nL : Nat) (n pc : Nat) (ls : zL) (st : List zV) (mem : zM) (J : zJ) (K : zL → List zV → zM → Prop) : zwI Λ pl cv cS rt RP thr XP nL (.isub) n pc ls st mem J K = (n = 1 ∧ zp1 0 st fun y r => zp1 0 r fun x r => K ls ((0, zSub x y) :: r) mem) := rfl
theorem zi_imul (Λ : List zC) (pl : zPo) (cv cS : Nat → Option zCt) (rt : Nat) (RP : Int → zM → Prop) (thr : Nat → Option Nat) (XP : Nat → zM → Prop) (nL : Nat) (n pc : Nat) (ls : zL) (st : List zV) (mem : zM) (J : zJ) (K : zL → List zV → zM → Prop) : zwI Λ pl cv cS rt RP thr XP nL (.imul) n pc ls st mem J K = (n = 1 ∧ zp1 0 st fun y r => zp1 0 r fun x r => K ls ((0, zMul x y) :: r) mem) := rfl
theorem zi_idiv (Λ : List zC) (pl : zPo) (cv cS : Nat → Option zCt) (rt : Nat) (RP : Int → zM → Prop) (thr : Nat → Option Nat) (XP : Nat → zM → Prop) (nL : Nat) (n pc : Nat) (ls : zL) (st : List zV) (mem : zM) (J : zJ) (K : zL → List zV → zM → Prop) : zwI Λ pl cv cS rt RP thr XP nL (.idiv) n pc ls st mem J K = (n = 1 ∧ zp1 0 st fun y r => zp1 0 r fun x r => ¬ y = 0 ∧ K ls ((0, zDiv x y) :: r) mem) := rfl
theorem zi_irem (Λ : List zC) (pl : zPo) (cv cS : Nat → Option zCt) (rt : Nat) (RP : Int → zM → Prop) (thr : Nat → Option Nat) (XP : Nat → zM → Prop) (nL : Nat) (n pc : Nat) (ls : zL) (st : List zV) (mem : zM) (J : zJ) (K : zL → List zV → zM → Prop) : zwI Λ pl cv cS rt RP thr XP nL (.irem) n pc ls st mem J K = (n = 1 ∧ zp1 0 st fun y r => zp1 0 r fun x r => ¬ y = 0 ∧ K ls ((0, zRem x y) :: r) mem) := rfl
theorem zi_iand (Λ : List zC) (pl : zPo) (cv cS : Nat → Option zCt) (rt : Nat) (RP : Int → zM → Prop) (thr : Nat → Option Nat) (XP : Nat → zM → Prop) (nL : Nat) (n pc : Nat) (ls : zL) (st : List zV) (mem : zM) (J : zJ) (K : zL → List zV → zM → Prop) : zwI Λ pl cv cS rt RP thr XP nL (.iand) n pc ls st mem J K = (n = 1 ∧ zp1 0 st fun y r => zp1 0 r fun x r => K ls ((0, zAnd x y) :: r) mem) := rfl
theorem zi_ior (Λ : List zC) (pl : zPo) (cv cS : Nat → Option zCt) (rt : Nat) (RP : Int → zM → Prop) (thr : Nat → Option Nat) (XP : Nat → zM → Prop) (nL : Nat) (n pc : Nat) (ls : zL) (st : List zV) (mem : zM) (J : zJ) (K : zL → List zV → zM → Prop) : zwI Λ pl cv cS rt RP thr XP nL (.ior) n pc ls st mem J K = (n = 1 ∧ zp1 0 st fun y r => zp1 0 r fun x r => K ls ((0, zOr x y) :: r) mem) := rfl
theorem zi_ixor (Λ : List zC) (pl : zPo) (cv cS : Nat → Option zCt) (rt : Nat) (RP : Int → zM → Prop) (thr : Nat → Option Nat) (XP : Nat → zM → Prop) (nL : Nat) (n pc : Nat) (ls : zL) (st : List zV) (mem : zM) (J : zJ) (K : zL → List zV → zM → Prop) : zwI Λ pl cv cS rt RP thr XP nL (.ixor) n pc ls st mem J K = (n = 1 ∧ zp1 0 st fun y r => zp1 0 r fun x r => K ls ((0, zXor x y) :: r) mem) := rfl
theorem zi_ishl (Λ : List zC) (pl : zPo) (cv cS : Nat → Option zCt) (rt : Nat) (RP : Int → zM → Prop) (thr : Nat → Option Nat) (XP : Nat → zM → Prop) (nL : Nat) (n pc : Nat) (ls : zL) (st : List zV) (mem : zM) (J : zJ) (K : zL → List zV → zM → Prop) : zwI Λ pl cv cS rt RP thr XP nL (.ishl) n pc ls st mem J K = (n = 1 ∧ zp1 0 st fun y r => zp1 0 r fun x r => K ls ((0, zShl x y) :: r) mem) := rfl
theorem zi_ishr (Λ : List zC) (pl : zPo) (cv cS : Nat → Option zCt) (rt : Nat) (RP : Int → zM → Prop) (thr : Nat → Option Nat) (XP : Nat → zM → Prop) (nL : Nat) (n pc : Nat) (ls : zL) (st : List zV) (mem : zM) (J : zJ) (K : zL → List zV → zM → Prop) : zwI Λ pl cv cS rt RP thr XP nL (.ishr) n pc ls st mem J K = (n = 1 ∧ zp1 0 st fun y r => zp1 0 r fun x r => K ls ((0, zShr x y) :: r) mem) := rfl
theorem zi_iushr (Λ : List zC) (pl : zPo) (cv cS : Nat → Option zCt) (rt : Nat) (RP : Int → zM → Prop) (thr : Nat → Option Nat) (XP : Nat → zM → Prop) (nL : Nat) (n pc : Nat) (ls : zL) (st : List zV) (mem : zM) (J : zJ) (K : zL → List zV → zM → Prop) : zwI Λ pl cv cS rt RP thr XP nL (.iushr) n pc ls st mem J K = (n = 1 ∧ zp1 0 st fun y r => zp1 0 r fun x r => K ls ((0, zUsh x y) :: r) mem) := rfl
theorem zi_ineg (Λ : List zC) (pl : zPo) (cv cS : Nat → Option zCt) (rt : Nat) (RP : Int → zM → Prop) (thr : Nat → Option Nat) (XP : Nat → zM → Prop) (nL : Nat) (n pc : Nat) (ls : zL) (st : List zV) (mem : zM) (J : zJ) (K : zL → List zV → zM → Prop) : zwI Λ pl cv cS rt RP thr XP nL (.ineg) n pc ls st mem J K = (n = 1 ∧ zp1 0 st fun x r => K ls ((0, zNeg x) :: r) mem) := rfl
theorem zi_i2b (Λ : List zC) (pl : zPo) (cv cS : Nat → Option zCt) (rt : Nat) (RP : Int → zM → Prop) (thr : Nat → Option Nat) (XP : Nat → zM → Prop) (nL : Nat) (n pc : Nat) (ls : zL) (st : List zV) (mem : zM) (J : zJ) (K : zL → List zV → zM → Prop) : zwI Λ pl cv cS rt RP thr XP nL (.i2b) n pc ls st mem J K = (n = 1 ∧ zp1 0 st fun x r => K ls ((0, zI2b x) :: r) mem) := rfl
theorem zi_i2l (Λ : List zC) (pl : zPo) (cv cS : Nat → Option zCt) (rt : Nat) (RP : Int → zM → Prop) (thr : Nat → Option Nat) (XP : Nat → zM → Prop) (nL : Nat) (n pc : Nat) (ls : zL) (st : List zV) (mem : zM) (J : zJ) (K : zL → List zV → zM → Prop) : zwI Λ pl cv cS rt RP thr XP nL (.i2l) n pc ls st mem J K = (n = 1 ∧ zp1 0 st fun x r => K ls ((1, x) :: r) mem) := rfl
theorem zi_l2i (Λ : List zC) (pl : zPo) (cv cS : Nat → Option zCt) (rt : Nat) (RP : Int → zM → Prop) (thr : Nat → Option Nat) (XP : Nat → zM → Prop) (nL : Nat) (n pc : Nat) (ls : zL) (st : List zV) (mem : zM) (J : zJ) (K : zL → List zV → zM → Prop) : zwI Λ pl cv cS rt RP thr XP nL (.l2i) n pc ls st mem J K = (n = 1 ∧ zp1 1 st fun x r => K ls ((0, zL2i x) :: r) mem) := rfl
theorem zi_ladd (Λ : List zC) (pl : zPo) (cv cS : Nat → Option zCt) (rt : Nat) (RP : Int → zM → Prop) (thr : Nat → Option Nat) (XP : Nat → zM → Prop) (nL : Nat) (n pc : Nat) (ls : zL) (st : List zV) (mem : zM) (J : zJ) (K : zL → List zV → zM → Prop) : zwI Λ pl cv cS rt RP thr XP nL (.ladd) n pc ls st mem J K = (n = 1 ∧ zp1 1 st fun y r => zp1 1 r fun x r => K ls ((1, zLAdd x y) :: r) mem) := rfl
theorem zi_lmul (Λ : List zC) (pl : zPo) (cv cS : Nat → Option zCt) (rt : Nat) (RP : Int → zM → Prop) (thr : Nat → Option Nat) (XP : Nat → zM → Prop) (nL : Nat) (n pc : Nat) (ls : zL) (st : List zV) (mem : zM) (J : zJ) (K : zL → List zV → zM → Prop) : zwI Λ pl cv cS rt RP thr XP nL (.lmul) n pc ls st mem J K = (n = 1 ∧ zp1 1 st fun y r => zp1 1 r fun x r => K ls ((1, zLMul x y) :: r) mem) := rfl
theorem zi_ldiv (Λ : List zC) (pl : zPo) (cv cS : Nat → Option zCt) (rt : Nat) (RP : Int → zM → Prop) (thr : Nat → Option Nat) (XP : Nat → zM → Prop) (nL : Nat) (n pc : Nat) (ls : zL) (st : List zV) (mem : zM) (J : zJ) (K : zL → List zV → zM → Prop) : zwI Λ pl cv cS rt RP thr XP nL (.ldiv) n pc ls st mem J K = (n = 1 ∧ zp1 1 st fun y r => zp1 1 r fun x r => ¬ y = 0 ∧ K ls ((1, zLDiv x y) :: r) mem) := rfl
theorem zi_lrem (Λ : List zC) (pl : zPo) (cv cS : Nat → Option zCt) (rt : Nat) (RP : Int → zM → Prop) (thr : Nat → Option Nat) (XP : Nat → zM → Prop) (nL : Nat) (n pc : Nat) (ls : zL) (st : List zV) (mem : zM) (J : zJ) (K : zL → List zV → zM → Prop) : zwI Λ pl cv cS rt RP thr XP nL (.lrem) n pc ls st mem J K = (n = 1 ∧ zp1 1 st fun y r => zp1 1 r fun x r => ¬ y = 0 ∧ K ls ((1, zLRem x y) :: r) mem) := rfl
theorem zi_lcmp (Λ : List zC) (pl : zPo) (cv cS : Nat → Option zCt) (rt : Nat) (RP : Int → zM → Prop) (thr : Nat → Option Nat) (XP : Nat → zM → Prop) (nL : Nat) (n pc : Nat) (ls : zL) (st : List zV) (mem : zM) (J : zJ) (K : zL → List zV → zM → Prop) : zwI Λ pl cv cS rt RP thr XP nL (.lcmp) n pc ls st mem J K = (n = 1 ∧ zp1 1 st fun y r => zp1 1 r fun x r => K ls ((0, zLcmp x y) :: r) mem) := rfl
theorem zi_dup (Λ : List zC) (pl : zPo) (cv cS : Nat → Option zCt) (rt : Nat) (RP : Int → zM → Prop) (thr : Nat → Option Nat) (XP : Nat → zM → Prop) (nL : Nat) (n pc : Nat) (ls : zL) (st : List zV) (mem : zM) (J : zJ) (K : zL → List zV → zM → Prop) : zwI Λ pl cv cS rt RP thr XP nL (.dup) n pc ls st mem J K = (n = 1 ∧ zpv st fun v r => v.1 ≠ 1 ∧ K ls (v :: v :: r) mem) := rfl
theorem zi_pop (Λ : List zC) (pl : zPo) (cv cS : Nat → Option zCt) (rt : Nat) (RP : Int → zM → Prop) (thr : Nat → Option Nat) (XP : Nat → zM → Prop) (nL : Nat) (n pc : Nat) (ls : zL) (st : List zV) (mem : zM) (J : zJ) (K : zL → List zV → zM → Prop) : zwI Λ pl cv cS rt RP thr XP nL (.pop) n pc ls st mem J K = (n = 1 ∧ zpv st fun v r => v.1 ≠ 1 ∧ K ls r mem) := rfl
theorem zi_dup2 (Λ : List zC) (pl : zPo) (cv cS : Nat → Option zCt) (rt : Nat) (RP : Int → zM → Prop) (thr : Nat → Option Nat) (XP : Nat → zM → Prop) (nL : Nat) (n pc : Nat) (ls : zL) (st : List zV) (mem : zM) (J : zJ) (K : zL → List zV → zM → Prop) : zwI Λ pl cv cS rt RP thr XP nL (.dup2) n pc ls st mem J K = (n = 1 ∧ zpv st fun v r => v.1 ≠ 1 ∧ zpv r fun w r => w.1 ≠ 1 ∧ K ls (v :: w :: v :: w :: r) mem) := rfl
theorem zi_ifCond (Λ : List zC) (pl : zPo) (cv cS : Nat → Option zCt) (rt : Nat) (RP : Int → zM → Prop) (thr : Nat → Option Nat) (XP : Nat → zM → Prop) (nL : Nat) (c : ClassFile.Cond) (o : Int) (n pc : Nat) (ls : zL) (st : List zV) (mem : zM) (J : zJ) (K : zL → List zV → zM → Prop) : zwI Λ pl cv cS rt RP thr XP nL (.ifCond c o) n pc ls st mem J K = (n = 3 ∧ 0 ≤ (pc : Int) + o ∧ zp1 0 st fun x r => (zCmp c x 0 → J ((pc : Int) + o).toNat ls r mem) ∧ (¬ zCmp c x 0 → K ls r mem)) := rfl
theorem zi_if_icmp (Λ : List zC) (pl : zPo) (cv cS : Nat → Option zCt) (rt : Nat) (RP : Int → zM → Prop) (thr : Nat → Option Nat) (XP : Nat → zM → Prop) (nL : Nat) (c : ClassFile.Cond) (o : Int) (n pc : Nat) (ls : zL) (st : List zV) (mem : zM) (J : zJ) (K : zL → List zV → zM → Prop) : zwI Λ pl cv cS rt RP thr XP nL (.if_icmp c o) n pc ls st mem J K = (n = 3 ∧ 0 ≤ (pc : Int) + o ∧ zp1 0 st fun y r => zp1 0 r fun x r => (zCmp c x y → J ((pc : Int) + o).toNat ls r mem) ∧ (¬ zCmp c x y → K ls r mem)) := rfl
theorem zi_goto (Λ : List zC) (pl : zPo) (cv cS : Nat → Option zCt) (rt : Nat) (RP : Int → zM → Prop) (thr : Nat → Option Nat) (XP : Nat → zM → Prop) (nL : Nat) (o : Int) (n pc : Nat) (ls : zL) (st : List zV) (mem : zM) (J : zJ) (K : zL → List zV → zM → Prop) : zwI Λ pl cv cS rt RP thr XP nL (.goto o) n pc ls st mem J K = (n = 3 ∧ ztg pc o fun t => J t ls st mem) := rfl
theorem zi_ifnonnull (Λ : List zC) (pl : zPo) (cv cS : Nat → Option zCt) (rt : Nat) (RP : Int → zM → Prop) (thr : Nat → Option Nat) (XP : Nat → zM → Prop) (nL : Nat) (o : Int) (n pc : Nat) (ls : zL) (st : List zV) (mem : zM) (J : zJ) (K : zL → List zV → zM → Prop) : zwI Λ pl cv cS rt RP thr XP nL (.ifnonnull o) n pc ls st mem J K = (n = 3 ∧ zpv st fun v r => (v.1 = 2 ∨ v.1 = 3) ∧ ztg pc o fun t => J t ls r mem) := rfl
theorem zi_ifnull (Λ : List zC) (pl : zPo) (cv cS : Nat → Option zCt) (rt : Nat) (RP : Int → zM → Prop) (thr : Nat → Option Nat) (XP : Nat → zM → Prop) (nL : Nat) (o : Int) (n pc : Nat) (ls : zL) (st : List zV) (mem : zM) (J : zJ) (K : zL → List zV → zM → Prop) : zwI Λ pl cv cS rt RP thr XP nL (.ifnull o) n pc ls st mem J K = (n = 3 ∧ zpv st fun v r => (v.1 = 2 ∨ v.1 = 3) ∧ K ls r mem) := rfl
theorem zi_tableswitch (Λ : List zC) (pl : zPo) (cv cS : Nat → Option zCt) (rt : Nat) (RP : Int → zM → Prop) (thr : Nat → Option Nat) (XP : Nat → zM → Prop) (nL : Nat) (d : Int) (lo : Int) (hi : Int) (offs : Array Int) (n pc : Nat) (ls : zL) (st : List zV) (mem : zM) (J : zJ) (K : zL → List zV → zM → Prop) : zwI Λ pl cv cS rt RP thr XP nL (.tableswitch d lo hi offs) n pc ls st mem J K = (zp1 0 st fun x r => (offs.size : Int) = hi - lo + 1 ∧ ((x < lo ∨ hi < x) → ztg pc d fun t => J t ls r mem) ∧ zswT pc (fun t => J t ls r mem) x lo offs.toList) := rfl
theorem zi_lookupswitch (Λ : List zC) (pl : zPo) (cv cS : Nat → Option zCt) (rt : Nat) (RP : Int → zM → Prop) (thr : Nat → Option Nat) (XP : Nat → zM → Prop) (nL : Nat) (d : Int) (ps : Array (Int × Int)) (n pc : Nat) (ls : zL) (st : List zV) (mem : zM) (J : zJ) (K : zL → List zV → zM → Prop) : zwI Λ pl cv cS rt RP thr XP nL (.lookupswitch d ps) n pc ls st mem J K = (zp1 0 st fun x r => (ps.toList.zip (ps.toList.drop 1)).all (fun (a, next) => a.1 < next.1) = true ∧ zswL pc (fun t => J t ls r mem) x d ps.toList) := rfl
theorem zi_getfield (Λ : List zC) (pl : zPo) (cv cS : Nat → Option zCt) (rt : Nat) (RP : Int → zM → Prop) (thr : Nat → Option Nat) (XP : Nat → zM → Prop) (nL : Nat) (k : Nat) (n pc : Nat) (ls : zL) (st : List zV) (mem : zM) (J : zJ) (K : zL → List zV → zM → Prop) : zwI Λ pl cv cS rt RP thr XP nL (.getfield k) n pc ls st mem J K = (n = 3 ∧ zp1 2 st fun a r => zpl pl k 0 fun ci f _ => zob Λ a ci f fun t => (t.1 = 0 ∨ t.1 = 2 ∨ t.1 = 4) ∧ K ls (zFv t (mem a.toNat f) :: r) mem) := rfl
theorem zi_putfield (Λ : List zC) (pl : zPo) (cv cS : Nat → Option zCt) (rt : Nat) (RP : Int → zM → Prop) (thr : Nat → Option Nat) (XP : Nat → zM → Prop) (nL : Nat) (k : Nat) (n pc : Nat) (ls : zL) (st : List zV) (mem : zM) (J : zJ) (K : zL → List zV → zM → Prop) : zwI Λ pl cv cS rt RP thr XP nL (.putfield k) n pc ls st mem J K = (n = 3 ∧ zp1 0 st fun v r => zp1 2 r fun a r => zpl pl k 0 fun ci f w => zob Λ a ci f fun t => (t.1 = 0 ∧ w = 1 ∨ t.1 = 4 ∧ w = 2 ∧ (v = 0 ∨ v = 1)) ∧ K ls r (zset mem a.toNat f v)) := rfl
theorem zi_iaload (Λ : List zC) (pl : zPo) (cv cS : Nat → Option zCt) (rt : Nat) (RP : Int → zM → Prop) (thr : Nat → Option Nat) (XP : Nat → zM → Prop) (nL : Nat) (n pc : Nat) (ls : zL) (st : List zV) (mem : zM) (J : zJ) (K : zL → List zV → zM → Prop) : zwI Λ pl cv cS rt RP thr XP nL (.iaload) n pc ls st mem J K = (n = 1 ∧ zp1 0 st fun i r => zpv r fun a r => (a.1 = 2 ∧ zarr Λ 1 a.2 fun N _ => (0 ≤ i ∧ i < N) ∧ K ls ((0, mem a.2.toNat i.toNat) :: r) mem) ∨ (a.1 = 3 ∧ match zStV[a.2.toNat]? with
      | none => False
      | some vs => (0 ≤ i ∧ i < vs.length) ∧ K ls ((0, vs.getD i.toNat 0) :: r) mem)) := rfl
theorem zi_laload (Λ : List zC) (pl : zPo) (cv cS : Nat → Option zCt) (rt : Nat) (RP : Int → zM → Prop) (thr : Nat → Option Nat) (XP : Nat → zM → Prop) (nL : Nat) (n pc : Nat) (ls : zL) (st : List zV) (mem : zM) (J : zJ) (K : zL → List zV → zM → Prop) : zwI Λ pl cv cS rt RP thr XP nL (.laload) n pc ls st mem J K = (n = 1 ∧ zp1 0 st fun i r => zp1 2 r fun a r => zarr Λ 2 a fun N _ => (0 ≤ i ∧ i < N) ∧ K ls ((1, mem a.toNat i.toNat) :: r) mem) := rfl
theorem zi_baload (Λ : List zC) (pl : zPo) (cv cS : Nat → Option zCt) (rt : Nat) (RP : Int → zM → Prop) (thr : Nat → Option Nat) (XP : Nat → zM → Prop) (nL : Nat) (n pc : Nat) (ls : zL) (st : List zV) (mem : zM) (J : zJ) (K : zL → List zV → zM → Prop) : zwI Λ pl cv cS rt RP thr XP nL (.baload) n pc ls st mem J K = (n = 1 ∧ zp1 0 st fun i r => zp1 2 r fun a r => (zarr Λ 3 a fun N _ => (0 ≤ i ∧ i < N) ∧ K ls ((0, mem a.toNat i.toNat) :: r) mem) ∨ (zarr Λ 4 a fun N _ => (0 ≤ i ∧ i < N) ∧ K ls ((0, mem a.toNat i.toNat) :: r) mem)) := rfl
theorem zi_aaload (Λ : List zC) (pl : zPo) (cv cS : Nat → Option zCt) (rt : Nat) (RP : Int → zM → Prop) (thr : Nat → Option Nat) (XP : Nat → zM → Prop) (nL : Nat) (n pc : Nat) (ls : zL) (st : List zV) (mem : zM) (J : zJ) (K : zL → List zV → zM → Prop) : zwI Λ pl cv cS rt RP thr XP nL (.aaload) n pc ls st mem J K = (n = 1 ∧ zp1 0 st fun i r => zp1 2 r fun a r => zarr Λ 5 a fun N ts => (0 ≤ i ∧ i < N ∧ ts.length = N) ∧ zaa (fun t => K ls ((2, (t : Int)) :: r) mem) i 0 ts) := rfl
theorem zi_iastore (Λ : List zC) (pl : zPo) (cv cS : Nat → Option zCt) (rt : Nat) (RP : Int → zM → Prop) (thr : Nat → Option Nat) (XP : Nat → zM → Prop) (nL : Nat) (n pc : Nat) (ls : zL) (st : List zV) (mem : zM) (J : zJ) (K : zL → List zV → zM → Prop) : zwI Λ pl cv cS rt RP thr XP nL (.iastore) n pc ls st mem J K = (n = 1 ∧ zp1 0 st fun v r => zp1 0 r fun i r => zp1 2 r fun a r => zarr Λ 1 a fun N _ => (0 ≤ i ∧ i < N) ∧ K ls r (zset mem a.toNat i.toNat v)) := rfl
theorem zi_lastore (Λ : List zC) (pl : zPo) (cv cS : Nat → Option zCt) (rt : Nat) (RP : Int → zM → Prop) (thr : Nat → Option Nat) (XP : Nat → zM → Prop) (nL : Nat) (n pc : Nat) (ls : zL) (st : List zV) (mem : zM) (J : zJ) (K : zL → List zV → zM → Prop) : zwI Λ pl cv cS rt RP thr XP nL (.lastore) n pc ls st mem J K = (n = 1 ∧ zp1 1 st fun v r => zp1 0 r fun i r => zp1 2 r fun a r => zarr Λ 2 a fun N _ => (0 ≤ i ∧ i < N) ∧ K ls r (zset mem a.toNat i.toNat v)) := rfl
theorem zi_bastore (Λ : List zC) (pl : zPo) (cv cS : Nat → Option zCt) (rt : Nat) (RP : Int → zM → Prop) (thr : Nat → Option Nat) (XP : Nat → zM → Prop) (nL : Nat) (n pc : Nat) (ls : zL) (st : List zV) (mem : zM) (J : zJ) (K : zL → List zV → zM → Prop) : zwI Λ pl cv cS rt RP thr XP nL (.bastore) n pc ls st mem J K = (n = 1 ∧ zp1 0 st fun v r => zp1 0 r fun i r => zp1 2 r fun a r => (zarr Λ 3 a fun N _ => (0 ≤ i ∧ i < N) ∧ (v = 0 ∨ v = 1) ∧ K ls r (zset mem a.toNat i.toNat v)) ∨ (zarr Λ 4 a fun N _ => (0 ≤ i ∧ i < N) ∧ (-128 ≤ v ∧ v ≤ 127) ∧ K ls r (zset mem a.toNat i.toNat v))) := rfl
theorem zi_arraylength (Λ : List zC) (pl : zPo) (cv cS : Nat → Option zCt) (rt : Nat) (RP : Int → zM → Prop) (thr : Nat → Option Nat) (XP : Nat → zM → Prop) (nL : Nat) (n pc : Nat) (ls : zL) (st : List zV) (mem : zM) (J : zJ) (K : zL → List zV → zM → Prop) : zwI Λ pl cv cS rt RP thr XP nL (.arraylength) n pc ls st mem J K = (n = 1 ∧ zp1 2 st fun a r => (zarr Λ 1 a fun N _ => N ≤ 2147483647 ∧ K ls ((0, (N : Int)) :: r) mem) ∨ (zarr Λ 2 a fun N _ => N ≤ 2147483647 ∧ K ls ((0, (N : Int)) :: r) mem)) := rfl
theorem zi_invokevirtual (Λ : List zC) (pl : zPo) (cv cS : Nat → Option zCt) (rt : Nat) (RP : Int → zM → Prop) (thr : Nat → Option Nat) (XP : Nat → zM → Prop) (nL : Nat) (k : Nat) (n pc : Nat) (ls : zL) (st : List zV) (mem : zM) (J : zJ) (K : zL → List zV → zM → Prop) : zwI Λ pl cv cS rt RP thr XP nL (.invokevirtual k) n pc ls st mem J K = (n = 3 ∧ zinv Λ (cv k) st mem (K ls)) := rfl
theorem zi_invokestatic (Λ : List zC) (pl : zPo) (cv cS : Nat → Option zCt) (rt : Nat) (RP : Int → zM → Prop) (thr : Nat → Option Nat) (XP : Nat → zM → Prop) (nL : Nat) (k : Nat) (n pc : Nat) (ls : zL) (st : List zV) (mem : zM) (J : zJ) (K : zL → List zV → zM → Prop) : zwI Λ pl cv cS rt RP thr XP nL (.invokestatic k) n pc ls st mem J K = (n = 3 ∧ (zinv Λ (cS k) st mem (K ls) ∨ zpl pl k 6 fun _ _ _ => zp1 0 st fun N r => zp1 0 r fun dp r => zp1 2 r fun b r => zp1 0 r fun sp r => zp1 2 r fun a r => r = [] ∧ zarr Λ 1 a fun na _ => zarr Λ 1 b fun nb _ => (0 ≤ sp ∧ 0 ≤ dp ∧ 0 ≤ N ∧ sp + N ≤ na ∧ dp + N ≤ nb) ∧ K ls [] (zcopy mem a.toNat sp.toNat b.toNat dp.toNat N.toNat))) := rfl
theorem zi_ireturn (Λ : List zC) (pl : zPo) (cv cS : Nat → Option zCt) (rt : Nat) (RP : Int → zM → Prop) (thr : Nat → Option Nat) (XP : Nat → zM → Prop) (nL : Nat) (n pc : Nat) (ls : zL) (st : List zV) (mem : zM) (J : zJ) (K : zL → List zV → zM → Prop) : zwI Λ pl cv cS rt RP thr XP nL (.ireturn) n pc ls st mem J K = (n = 1 ∧ zp1 0 st fun v r => r = [] ∧ (rt = 0 ∨ rt = 4 ∧ (v = 0 ∨ v = 1)) ∧ RP v mem) := rfl
theorem zi_lreturn (Λ : List zC) (pl : zPo) (cv cS : Nat → Option zCt) (rt : Nat) (RP : Int → zM → Prop) (thr : Nat → Option Nat) (XP : Nat → zM → Prop) (nL : Nat) (n pc : Nat) (ls : zL) (st : List zV) (mem : zM) (J : zJ) (K : zL → List zV → zM → Prop) : zwI Λ pl cv cS rt RP thr XP nL (.lreturn) n pc ls st mem J K = (n = 1 ∧ zp1 1 st fun v r => r = [] ∧ rt = 1 ∧ RP v mem) := rfl
theorem zi_return_ (Λ : List zC) (pl : zPo) (cv cS : Nat → Option zCt) (rt : Nat) (RP : Int → zM → Prop) (thr : Nat → Option Nat) (XP : Nat → zM → Prop) (nL : Nat) (n pc : Nat) (ls : zL) (st : List zV) (mem : zM) (J : zJ) (K : zL → List zV → zM → Prop) : zwI Λ pl cv cS rt RP thr XP nL (.return_) n pc ls st mem J K = (n = 1 ∧ st = [] ∧ rt = 9 ∧ RP 0 mem) := rfl
theorem zi_new (Λ : List zC) (pl : zPo) (cv cS : Nat → Option zCt) (rt : Nat) (RP : Int → zM → Prop) (thr : Nat → Option Nat) (XP : Nat → zM → Prop) (nL : Nat) (k : Nat) (n pc : Nat) (ls : zL) (st : List zV) (mem : zM) (J : zJ) (K : zL → List zV → zM → Prop) : zwI Λ pl cv cS rt RP thr XP nL (.new k) n pc ls st mem J K = (st = [] ∧ match thr pc with
    | none => False
    | some E => XP E mem) := rfl
def zgo (Λ : List zC) (pl : zPo) (cv cS : Nat → Option zCt) (rt : Nat) (RP : Int → zM → Prop) (thr : Nat → Option Nat) (XP : Nat → zM → Prop) (nL : Nat) (B : Nat → List (Instr × Nat)) (X : Nat → Option (zL → List zV → zM → Prop)) (f : Nat) : zJ := fun pc ls st mem => match X pc with
  | some Jn => Jn ls st mem
  | none => zwp Λ pl cv cS rt RP thr XP nL B X f pc ls st mem
section ZW
variable (Λ : List zC) (pl : zPo) (cv cS : Nat → Option zCt) (rt : Nat) (RP : Int → zM → Prop) (thr : Nat → Option Nat) (XP : Nat → zM → Prop) (nL : Nat) (B : Nat → List (Instr × Nat))
theorem zwp_s (X : Nat → Option (zL → List zV → zM → Prop)) (f pc : Nat) (ls : zL) (st : List zV) (mem : zM) : zwp Λ pl cv cS rt RP thr XP nL B X (f + 1) pc ls st mem = zrun Λ pl cv cS rt RP thr XP nL (zgo Λ pl cv cS rt RP thr XP nL B X f) (B pc) pc ls st mem := rfl
theorem zrun_n (J : zJ) (pc : Nat) (ls : zL) (st : List zV) (mem : zM) : zrun Λ pl cv cS rt RP thr XP nL J [] pc ls st mem = J pc ls st mem := rfl
theorem zrun_c (J : zJ) (i : Instr) (n : Nat) (r : List (Instr × Nat)) (pc : Nat) (ls : zL) (st : List zV) (mem : zM) : zrun Λ pl cv cS rt RP thr XP nL J ((i, n) :: r) pc ls st mem = zwI Λ pl cv cS rt RP thr XP nL i n pc ls st mem J (fun ls' st' mem' => zrun Λ pl cv cS rt RP thr XP nL J r (pc + n) ls' st' mem') := rfl
def zgA (X : Nat → Option (zL → List zV → zM → Prop)) (f : Nat) : List (Nat × (Nat → zL → List zV → zM → Prop)) → zJ
  | [], pc, ls, st, mem => zwp Λ pl cv cS rt RP thr XP nL B X f pc ls st mem
  | q :: r, pc, ls, st, mem => if q.1 = pc then ∃ n', q.2 n' ls st mem else zgA X f r pc ls st mem
def zgB (n : Nat) (X : Nat → Option (zL → List zV → zM → Prop)) (f : Nat) : List (Nat × (Nat → zL → List zV → zM → Prop)) → zJ
  | [], pc, ls, st, mem => zwp Λ pl cv cS rt RP thr XP nL B X f pc ls st mem
  | q :: r, pc, ls, st, mem => if q.1 = pc then ∃ n', n' < n ∧ q.2 n' ls st mem else zgB n X f r pc ls st mem
theorem zgo_any (L : List (Nat × (Nat → zL → List zV → zM → Prop))) (f pc : Nat) (ls : zL) (st : List zV) (mem : zM) : zgo Λ pl cv cS rt RP thr XP nL B (zAny (zIf L)) f pc ls st mem = zgA Λ pl cv cS rt RP thr XP nL B (zAny (zIf L)) f L pc ls st mem := by
  unfold zgo
  generalize hX : zAny (zIf L) = X
  have hX' : X pc = zAny (zIf L) pc := by rw [hX]
  rw [hX']
  clear hX hX'
  induction L with
  | nil => rfl
  | cons q r ih =>
    by_cases h : q.1 = pc
    · have e : zAny (zIf (q :: r)) pc = some fun ls st mem => ∃ n', q.2 n' ls st mem := by simp [zAny, zIf, h]
      rw [e]
      simp [zgA, h]
    · have e : zAny (zIf (q :: r)) pc = zAny (zIf r) pc := by simp [zAny, zIf, h]
      rw [e, ih]
      simp [zgA, h]
theorem zgo_bel (n : Nat) (L : List (Nat × (Nat → zL → List zV → zM → Prop))) (f pc : Nat) (ls : zL) (st : List zV) (mem : zM) : zgo Λ pl cv cS rt RP thr XP nL B (zBelow (zIf L) n) f pc ls st mem = zgB Λ pl cv cS rt RP thr XP nL B n (zBelow (zIf L) n) f L pc ls st mem := by
  unfold zgo
  generalize hX : zBelow (zIf L) n = X
  have hX' : X pc = zBelow (zIf L) n pc := by rw [hX]
  rw [hX']
  clear hX hX'
  induction L with
  | nil => rfl
  | cons q r ih =>
    by_cases h : q.1 = pc
    · have e : zBelow (zIf (q :: r)) n pc = some fun ls st mem => ∃ n', n' < n ∧ q.2 n' ls st mem := by simp [zBelow, zIf, h]
      rw [e]
      simp [zgB, h]
    · have e : zBelow (zIf (q :: r)) n pc = zBelow (zIf r) n pc := by simp [zBelow, zIf, h]
      rw [e, ih]
      simp [zgB, h]
theorem zgA_n (X : Nat → Option (zL → List zV → zM → Prop)) (f pc : Nat) (ls : zL) (st : List zV) (mem : zM) : zgA Λ pl cv cS rt RP thr XP nL B X f [] pc ls st mem = zwp Λ pl cv cS rt RP thr XP nL B X f pc ls st mem := rfl
theorem zgA_c (X : Nat → Option (zL → List zV → zM → Prop)) (f k : Nat) (J : Nat → zL → List zV → zM → Prop) (r : List (Nat × (Nat → zL → List zV → zM → Prop))) (pc : Nat) (ls : zL) (st : List zV) (mem : zM) : zgA Λ pl cv cS rt RP thr XP nL B X f ((k, J) :: r) pc ls st mem = if k = pc then ∃ n', J n' ls st mem else zgA Λ pl cv cS rt RP thr XP nL B X f r pc ls st mem := rfl
theorem zgB_n (n : Nat) (X : Nat → Option (zL → List zV → zM → Prop)) (f pc : Nat) (ls : zL) (st : List zV) (mem : zM) : zgB Λ pl cv cS rt RP thr XP nL B n X f [] pc ls st mem = zwp Λ pl cv cS rt RP thr XP nL B X f pc ls st mem := rfl
theorem zgB_c (n : Nat) (X : Nat → Option (zL → List zV → zM → Prop)) (f k : Nat) (J : Nat → zL → List zV → zM → Prop) (r : List (Nat × (Nat → zL → List zV → zM → Prop))) (pc : Nat) (ls : zL) (st : List zV) (mem : zM) : zgB Λ pl cv cS rt RP thr XP nL B n X f ((k, J) :: r) pc ls st mem = if k = pc then ∃ n', n' < n ∧ J n' ls st mem else zgB Λ pl cv cS rt RP thr XP nL B n X f r pc ls st mem := rfl
end ZW
theorem zp1_c (t u : Nat) (x : Int) (r : List zV) (f : Int → List zV → Prop) : zp1 t ((u, x) :: r) f = (u = t ∧ f x r) := rfl
theorem zpv_c (v : zV) (r : List zV) (f : zV → List zV → Prop) : zpv (v :: r) f = f v r := rfl
theorem zpl_e {pl : zPo} {k : Nat} {q : Nat × Nat × Nat × Int} (h : pl k = some q) (kd : Nat) (F : Nat → Nat → Int → Prop) : zpl pl k kd F = (q.1 = kd ∧ F q.2.1 q.2.2.1 q.2.2.2) := by unfold zpl; rw [h]
theorem ztg_e (pc : Nat) (off : Int) (J : Nat → Prop) : ztg pc off J = (0 ≤ (pc : Int) + off ∧ J ((pc : Int) + off).toNat) := rfl
theorem zswT_n (pc : Nat) (J : Nat → Prop) (x k : Int) : zswT pc J x k [] = True := rfl
theorem zswT_c (pc : Nat) (J : Nat → Prop) (x k o : Int) (r : List Int) : zswT pc J x k (o :: r) = ((x = k → ztg pc o J) ∧ zswT pc J x (k + 1) r) := rfl
theorem zswL_n (pc : Nat) (J : Nat → Prop) (x d : Int) : zswL pc J x d [] = ztg pc d J := rfl
theorem zswL_c (pc : Nat) (J : Nat → Prop) (x d a o : Int) (r : List (Int × Int)) : zswL pc J x d ((a, o) :: r) = ((x = a → ztg pc o J) ∧ (¬ x = a → zswL pc J x d r)) := rfl
theorem zaa_n (K : Nat → Prop) (i k : Int) : zaa K i k [] = True := rfl
theorem zaa_c (K : Nat → Prop) (i k : Int) (a b : Nat) (r : List (Nat × Nat)) : zaa K i k ((a, b) :: r) = ((i = k → K b) ∧ zaa K i (k + 1) r) := rfl
theorem zFv_r (t : Nat) (x : Int) : zFv (2, t) x = (2, (t : Int)) := rfl
theorem zFv_i (t : Nat) (x : Int) : zFv (0, t) x = (0, x) := rfl
theorem zFv_z (t : Nat) (x : Int) : zFv (4, t) x = (0, x) := rfl
theorem zent_n (k j : Nat) : zent k [] j = (9, 0) := rfl
theorem zent_c (k : Nat) (t : Nat) (x : Int) (r : List zV) (j : Nat) : zent k ((t, x) :: r) j = if j = k then (t, x) else zent (if t = 1 then k + 2 else k + 1) r j := rfl
theorem zst_e (ls : zL) (i : Nat) (v : zV) (j : Nat) : zst ls i v j = if j = i then v else if j + 1 = i ∧ (ls j).1 = 1 then (9, 0) else ls j := rfl
theorem zst2_e (ls : zL) (i : Nat) (v : zV) (j : Nat) : zst2 ls i v j = if j = i then v else if j = i + 1 then (9, 0) else if j + 1 = i ∧ (ls j).1 = 1 then (9, 0) else ls j := rfl
theorem zset_e (mem : zM) (a k : Nat) (v : Int) (b j : Nat) : zset mem a k v b j = if b = a then (if j = k then v else mem b j) else mem b j := rfl
theorem zcopy_e (mem : zM) (a sp b dp n c j : Nat) : zcopy mem a sp b dp n c j = if c = b then (if dp ≤ j ∧ j < dp + n then mem a (sp + (j - dp)) else mem c j) else mem c j := rfl
/-- contracts: pure ones leave the cells as they are -/
def zpu (P : List Int → zM → Int → Prop) : List Int → zM → Int → zM → Prop := fun vs mem r mem' => mem' = mem ∧ P vs mem r
def zfu (f : List Int → zM → Int) : List Int → zM → Int → zM → Prop := fun vs mem r mem' => mem' = mem ∧ r = f vs mem
def zIV (Λ : List zC) (tags : List Nat) (rt : Nat) (pre : List Int → zM → Prop) (st : List zV) (mem : zM) (R : List Int → Prop) : Prop := (st.take tags.length).map (·.1) = tags.reverse ∧ zcats (st.drop tags.length) ≤ 8 ∧ pre ((st.take tags.length).map (·.2)).reverse mem ∧ R ((st.take tags.length).map (·.2)).reverse
theorem zinv_g (Λ : List zC) (tags : List Nat) (rt : Nat) (pre : List Int → zM → Prop) (post : List Int → zM → Int → zM → Prop) (st : List zV) (mem : zM) (K : List zV → zM → Prop) : zinv Λ (some (tags, rt, pre, post)) st mem K = zIV Λ tags rt pre st mem (fun vs => ∀ (r : Int) (mem' : zM), zrt rt r → zokM Λ mem' → post vs mem r mem' → K (zres rt r (st.drop tags.length)) mem') := rfl
theorem zinv_p (Λ : List zC) (tags : List Nat) (rt : Nat) (pre : List Int → zM → Prop) (P : List Int → zM → Int → Prop) (st : List zV) (mem : zM) (K : List zV → zM → Prop) : zinv Λ (some (tags, rt, pre, zpu P)) st mem K = zIV Λ tags rt pre st mem (fun vs => ∀ (r : Int), zrt rt r → zokM Λ mem → P vs mem r → K (zres rt r (st.drop tags.length)) mem) := by
  rw [zinv_g]
  congr 1
  funext vs
  apply propext
  constructor
  · intro h r h1 h2 h3; exact h r mem h1 h2 ⟨rfl, h3⟩
  · intro h r mem' h1 h2 h3; obtain ⟨rfl, h3⟩ := h3; exact h r h1 h2 h3
theorem zinv_f (Λ : List zC) (tags : List Nat) (rt : Nat) (pre : List Int → zM → Prop) (f : List Int → zM → Int) (st : List zV) (mem : zM) (K : List zV → zM → Prop) : zinv Λ (some (tags, rt, pre, zfu f)) st mem K = zIV Λ tags rt pre st mem (fun vs => zrt rt (f vs mem) → zokM Λ mem → K (zres rt (f vs mem) (st.drop tags.length)) mem) := by
  rw [zinv_g]
  congr 1
  funext vs
  apply propext
  constructor
  · intro h h1 h2; exact h _ mem h1 h2 ⟨rfl, rfl⟩
  · intro h r mem' h1 h2 h3; obtain ⟨rfl, rfl⟩ := h3; exact h h1 h2
theorem zIV_e (Λ : List zC) (tags : List Nat) (rt : Nat) (pre : List Int → zM → Prop) (st : List zV) (mem : zM) (R : List Int → Prop) : zIV Λ tags rt pre st mem R = ((st.take tags.length).map (·.1) = tags.reverse ∧ zcats (st.drop tags.length) ≤ 8 ∧ pre ((st.take tags.length).map (·.2)).reverse mem ∧ R ((st.take tags.length).map (·.2)).reverse) := rfl
theorem zres_0 (r : Int) (rest : List zV) : zres 0 r rest = (0, r) :: rest := rfl
theorem zres_4 (r : Int) (rest : List zV) : zres 4 r rest = (0, r) :: rest := rfl
theorem zres_1 (r : Int) (rest : List zV) : zres 1 r rest = (1, r) :: rest := rfl
theorem zres_9 (r : Int) (rest : List zV) : zres 9 r rest = rest := rfl
theorem zrt_0 (r : Int) : zrt 0 r = (-2147483648 ≤ r ∧ r ≤ 2147483647) := rfl
theorem zrt_4 (r : Int) : zrt 4 r = (-2147483648 ≤ r ∧ r ≤ 2147483647) := rfl
theorem zrt_1 (r : Int) : zrt 1 r = (-9223372036854775808 ≤ r ∧ r ≤ 9223372036854775807) := rfl
theorem zrt_9 (r : Int) : zrt 9 r = (r = 0) := rfl
theorem zcmp_eq (x y : Int) : zCmp .eq x y = (x = y) := rfl
theorem zcmp_ne (x y : Int) : zCmp .ne x y = (¬ x = y) := rfl
theorem zcmp_lt (x y : Int) : zCmp .lt x y = (x < y) := rfl
theorem zcmp_ge (x y : Int) : zCmp .ge x y = (y ≤ x) := rfl
theorem zcmp_gt (x y : Int) : zCmp .gt x y = (y < x) := rfl
theorem zcmp_le (x y : Int) : zCmp .le x y = (x ≤ y) := rfl
theorem zAdd_e (x y : Int) : zAdd x y = zw (x + y) := by rw [zAdd, Int32.toInt_add, Int32.toInt_ofInt, Int32.toInt_ofInt, show Int32.size = 4294967296 from rfl, show (2 : Nat) ^ 32 = 4294967296 from rfl, ← zw_bmod]; simp only [Int.bmod]; omega
theorem zSub_e (x y : Int) : zSub x y = zw (x - y) := by rw [zSub, Int32.toInt_sub, Int32.toInt_ofInt, Int32.toInt_ofInt, show Int32.size = 4294967296 from rfl, show (2 : Nat) ^ 32 = 4294967296 from rfl, ← zw_bmod]; simp only [Int.bmod]; omega
theorem zMul_e (x y : Int) : zMul x y = zw (x * y) := by rw [zMul, ← zw_bmod, Int32.toInt_mul, Int32.toInt_ofInt, Int32.toInt_ofInt, show Int32.size = 4294967296 from rfl, show (2 : Nat) ^ 32 = 4294967296 from rfl, Int.bmod_mul_bmod, Int.mul_bmod_bmod]
theorem zlen1 {vs : List Int} (h : vs.length = 1) : ∃ a, vs = [a] := by
  match vs, h with
  | [a], _ => exact ⟨a, rfl⟩
theorem zlen2 {vs : List Int} (h : vs.length = 2) : ∃ a b, vs = [a, b] := by
  match vs, h with
  | [a, b], _ => exact ⟨a, b, rfl⟩
theorem zlen3 {vs : List Int} (h : vs.length = 3) : ∃ a b c, vs = [a, b, c] := by
  match vs, h with
  | [a, b, c], _ => exact ⟨a, b, c, rfl⟩
theorem zlen4 {vs : List Int} (h : vs.length = 4) : ∃ a b c d, vs = [a, b, c, d] := by
  match vs, h with
  | [a, b, c, d], _ => exact ⟨a, b, c, d, rfl⟩
theorem zlen5 {vs : List Int} (h : vs.length = 5) : ∃ a b c d e, vs = [a, b, c, d, e] := by
  match vs, h with
  | [a, b, c, d, e], _ => exact ⟨a, b, c, d, e, rfl⟩
theorem zlen6 {vs : List Int} (h : vs.length = 6) : ∃ a b c d e f, vs = [a, b, c, d, e, f] := by
  match vs, h with
  | [a, b, c, d, e, f], _ => exact ⟨a, b, c, d, e, f, rfl⟩

theorem zo_0_0 (ci : Nat) (F : Nat × Nat → Prop) : zob zLay 0 ci 0 F = (10 = ci ∧ F (2, 1)) := propext ⟨fun h => ⟨h.2.1, h.2.2⟩, fun h => ⟨rfl, h.1, h.2⟩⟩
theorem zo_0_1 (ci : Nat) (F : Nat × Nat → Prop) : zob zLay 0 ci 1 F = (10 = ci ∧ F (2, 23)) := propext ⟨fun h => ⟨h.2.1, h.2.2⟩, fun h => ⟨rfl, h.1, h.2⟩⟩
theorem zo_0_2 (ci : Nat) (F : Nat × Nat → Prop) : zob zLay 0 ci 2 F = (10 = ci ∧ F (4, 0)) := propext ⟨fun h => ⟨h.2.1, h.2.2⟩, fun h => ⟨rfl, h.1, h.2⟩⟩
theorem zo_0_3 (ci : Nat) (F : Nat × Nat → Prop) : zob zLay 0 ci 3 F = (10 = ci ∧ F (2, 45)) := propext ⟨fun h => ⟨h.2.1, h.2.2⟩, fun h => ⟨rfl, h.1, h.2⟩⟩
theorem zo_0_4 (ci : Nat) (F : Nat × Nat → Prop) : zob zLay 0 ci 4 F = (10 = ci ∧ F (2, 48)) := propext ⟨fun h => ⟨h.2.1, h.2.2⟩, fun h => ⟨rfl, h.1, h.2⟩⟩
theorem zo_0_5 (ci : Nat) (F : Nat × Nat → Prop) : zob zLay 0 ci 5 F = (10 = ci ∧ F (2, 55)) := propext ⟨fun h => ⟨h.2.1, h.2.2⟩, fun h => ⟨rfl, h.1, h.2⟩⟩
theorem zo_0_6 (ci : Nat) (F : Nat × Nat → Prop) : zob zLay 0 ci 6 F = (10 = ci ∧ F (0, 0)) := propext ⟨fun h => ⟨h.2.1, h.2.2⟩, fun h => ⟨rfl, h.1, h.2⟩⟩
theorem zo_0_7 (ci : Nat) (F : Nat × Nat → Prop) : zob zLay 0 ci 7 F = (10 = ci ∧ F (2, 56)) := propext ⟨fun h => ⟨h.2.1, h.2.2⟩, fun h => ⟨rfl, h.1, h.2⟩⟩
theorem zo_0_8 (ci : Nat) (F : Nat × Nat → Prop) : zob zLay 0 ci 8 F = (10 = ci ∧ F (2, 59)) := propext ⟨fun h => ⟨h.2.1, h.2.2⟩, fun h => ⟨rfl, h.1, h.2⟩⟩
theorem zo_1_0 (ci : Nat) (F : Nat × Nat → Prop) : zob zLay 1 ci 0 F = (9 = ci ∧ F (2, 2)) := propext ⟨fun h => ⟨h.2.1, h.2.2⟩, fun h => ⟨rfl, h.1, h.2⟩⟩
theorem zo_1_1 (ci : Nat) (F : Nat × Nat → Prop) : zob zLay 1 ci 1 F = (9 = ci ∧ F (2, 5)) := propext ⟨fun h => ⟨h.2.1, h.2.2⟩, fun h => ⟨rfl, h.1, h.2⟩⟩
theorem zo_1_2 (ci : Nat) (F : Nat × Nat → Prop) : zob zLay 1 ci 2 F = (9 = ci ∧ F (2, 12)) := propext ⟨fun h => ⟨h.2.1, h.2.2⟩, fun h => ⟨rfl, h.1, h.2⟩⟩
theorem zo_1_3 (ci : Nat) (F : Nat × Nat → Prop) : zob zLay 1 ci 3 F = (9 = ci ∧ F (2, 16)) := propext ⟨fun h => ⟨h.2.1, h.2.2⟩, fun h => ⟨rfl, h.1, h.2⟩⟩
theorem zo_1_4 (ci : Nat) (F : Nat × Nat → Prop) : zob zLay 1 ci 4 F = (9 = ci ∧ F (2, 22)) := propext ⟨fun h => ⟨h.2.1, h.2.2⟩, fun h => ⟨rfl, h.1, h.2⟩⟩
theorem zo_1_5 (ci : Nat) (F : Nat × Nat → Prop) : zob zLay 1 ci 5 F = (9 = ci ∧ F (0, 0)) := propext ⟨fun h => ⟨h.2.1, h.2.2⟩, fun h => ⟨rfl, h.1, h.2⟩⟩
theorem zo_1_6 (ci : Nat) (F : Nat × Nat → Prop) : zob zLay 1 ci 6 F = (9 = ci ∧ F (0, 0)) := propext ⟨fun h => ⟨h.2.1, h.2.2⟩, fun h => ⟨rfl, h.1, h.2⟩⟩
theorem zo_1_7 (ci : Nat) (F : Nat × Nat → Prop) : zob zLay 1 ci 7 F = (9 = ci ∧ F (0, 0)) := propext ⟨fun h => ⟨h.2.1, h.2.2⟩, fun h => ⟨rfl, h.1, h.2⟩⟩
theorem zo_1_8 (ci : Nat) (F : Nat × Nat → Prop) : zob zLay 1 ci 8 F = (9 = ci ∧ F (0, 0)) := propext ⟨fun h => ⟨h.2.1, h.2.2⟩, fun h => ⟨rfl, h.1, h.2⟩⟩
theorem zo_1_9 (ci : Nat) (F : Nat × Nat → Prop) : zob zLay 1 ci 9 F = (9 = ci ∧ F (0, 0)) := propext ⟨fun h => ⟨h.2.1, h.2.2⟩, fun h => ⟨rfl, h.1, h.2⟩⟩
theorem zo_2_0 (ci : Nat) (F : Nat × Nat → Prop) : zob zLay 2 ci 0 F = (0 = ci ∧ F (2, 3)) := propext ⟨fun h => ⟨h.2.1, h.2.2⟩, fun h => ⟨rfl, h.1, h.2⟩⟩
theorem zo_2_1 (ci : Nat) (F : Nat × Nat → Prop) : zob zLay 2 ci 1 F = (0 = ci ∧ F (2, 4)) := propext ⟨fun h => ⟨h.2.1, h.2.2⟩, fun h => ⟨rfl, h.1, h.2⟩⟩
theorem zo_2_2 (ci : Nat) (F : Nat × Nat → Prop) : zob zLay 2 ci 2 F = (0 = ci ∧ F (0, 0)) := propext ⟨fun h => ⟨h.2.1, h.2.2⟩, fun h => ⟨rfl, h.1, h.2⟩⟩
theorem za_3 (kd : Nat) (F : Nat → List (Nat × Nat) → Prop) : zarr zLay kd 3 F = (1 = kd ∧ F 100 []) := rfl
theorem za_4 (kd : Nat) (F : Nat → List (Nat × Nat) → Prop) : zarr zLay kd 4 F = (1 = kd ∧ F 100 []) := rfl
theorem zo_5_0 (ci : Nat) (F : Nat × Nat → Prop) : zob zLay 5 ci 0 F = (8 = ci ∧ F (2, 6)) := propext ⟨fun h => ⟨h.2.1, h.2.2⟩, fun h => ⟨rfl, h.1, h.2⟩⟩
theorem zo_5_1 (ci : Nat) (F : Nat × Nat → Prop) : zob zLay 5 ci 1 F = (8 = ci ∧ F (2, 7)) := propext ⟨fun h => ⟨h.2.1, h.2.2⟩, fun h => ⟨rfl, h.1, h.2⟩⟩
theorem zo_5_2 (ci : Nat) (F : Nat × Nat → Prop) : zob zLay 5 ci 2 F = (8 = ci ∧ F (2, 8)) := propext ⟨fun h => ⟨h.2.1, h.2.2⟩, fun h => ⟨rfl, h.1, h.2⟩⟩
theorem zo_5_3 (ci : Nat) (F : Nat × Nat → Prop) : zob zLay 5 ci 3 F = (8 = ci ∧ F (2, 9)) := propext ⟨fun h => ⟨h.2.1, h.2.2⟩, fun h => ⟨rfl, h.1, h.2⟩⟩
theorem zo_5_4 (ci : Nat) (F : Nat × Nat → Prop) : zob zLay 5 ci 4 F = (8 = ci ∧ F (0, 0)) := propext ⟨fun h => ⟨h.2.1, h.2.2⟩, fun h => ⟨rfl, h.1, h.2⟩⟩
theorem zo_5_5 (ci : Nat) (F : Nat × Nat → Prop) : zob zLay 5 ci 5 F = (8 = ci ∧ F (2, 10)) := propext ⟨fun h => ⟨h.2.1, h.2.2⟩, fun h => ⟨rfl, h.1, h.2⟩⟩
theorem zo_5_6 (ci : Nat) (F : Nat × Nat → Prop) : zob zLay 5 ci 6 F = (8 = ci ∧ F (2, 11)) := propext ⟨fun h => ⟨h.2.1, h.2.2⟩, fun h => ⟨rfl, h.1, h.2⟩⟩
theorem zo_5_7 (ci : Nat) (F : Nat × Nat → Prop) : zob zLay 5 ci 7 F = (8 = ci ∧ F (0, 0)) := propext ⟨fun h => ⟨h.2.1, h.2.2⟩, fun h => ⟨rfl, h.1, h.2⟩⟩
theorem zo_5_8 (ci : Nat) (F : Nat × Nat → Prop) : zob zLay 5 ci 8 F = (8 = ci ∧ F (0, 0)) := propext ⟨fun h => ⟨h.2.1, h.2.2⟩, fun h => ⟨rfl, h.1, h.2⟩⟩
theorem za_6 (kd : Nat) (F : Nat → List (Nat × Nat) → Prop) : zarr zLay kd 6 F = (1 = kd ∧ F 16 []) := rfl
theorem za_7 (kd : Nat) (F : Nat → List (Nat × Nat) → Prop) : zarr zLay kd 7 F = (1 = kd ∧ F 16 []) := rfl
theorem za_8 (kd : Nat) (F : Nat → List (Nat × Nat) → Prop) : zarr zLay kd 8 F = (1 = kd ∧ F 16 []) := rfl
theorem za_9 (kd : Nat) (F : Nat → List (Nat × Nat) → Prop) : zarr zLay kd 9 F = (1 = kd ∧ F 16 []) := rfl
theorem za_10 (kd : Nat) (F : Nat → List (Nat × Nat) → Prop) : zarr zLay kd 10 F = (1 = kd ∧ F 16 []) := rfl
theorem za_11 (kd : Nat) (F : Nat → List (Nat × Nat) → Prop) : zarr zLay kd 11 F = (1 = kd ∧ F 16 []) := rfl
theorem zo_12_0 (ci : Nat) (F : Nat × Nat → Prop) : zob zLay 12 ci 0 F = (1 = ci ∧ F (2, 13)) := propext ⟨fun h => ⟨h.2.1, h.2.2⟩, fun h => ⟨rfl, h.1, h.2⟩⟩
theorem zo_12_1 (ci : Nat) (F : Nat × Nat → Prop) : zob zLay 12 ci 1 F = (1 = ci ∧ F (2, 14)) := propext ⟨fun h => ⟨h.2.1, h.2.2⟩, fun h => ⟨rfl, h.1, h.2⟩⟩
theorem zo_12_2 (ci : Nat) (F : Nat × Nat → Prop) : zob zLay 12 ci 2 F = (1 = ci ∧ F (2, 15)) := propext ⟨fun h => ⟨h.2.1, h.2.2⟩, fun h => ⟨rfl, h.1, h.2⟩⟩
theorem zo_12_3 (ci : Nat) (F : Nat × Nat → Prop) : zob zLay 12 ci 3 F = (1 = ci ∧ F (0, 0)) := propext ⟨fun h => ⟨h.2.1, h.2.2⟩, fun h => ⟨rfl, h.1, h.2⟩⟩
theorem za_13 (kd : Nat) (F : Nat → List (Nat × Nat) → Prop) : zarr zLay kd 13 F = (1 = kd ∧ F 4 []) := rfl
theorem za_14 (kd : Nat) (F : Nat → List (Nat × Nat) → Prop) : zarr zLay kd 14 F = (1 = kd ∧ F 4 []) := rfl
theorem za_15 (kd : Nat) (F : Nat → List (Nat × Nat) → Prop) : zarr zLay kd 15 F = (1 = kd ∧ F 4 []) := rfl
theorem zo_16_0 (ci : Nat) (F : Nat × Nat → Prop) : zob zLay 16 ci 0 F = (2 = ci ∧ F (2, 17)) := propext ⟨fun h => ⟨h.2.1, h.2.2⟩, fun h => ⟨rfl, h.1, h.2⟩⟩
theorem zo_16_1 (ci : Nat) (F : Nat × Nat → Prop) : zob zLay 16 ci 1 F = (2 = ci ∧ F (2, 18)) := propext ⟨fun h => ⟨h.2.1, h.2.2⟩, fun h => ⟨rfl, h.1, h.2⟩⟩
theorem zo_16_2 (ci : Nat) (F : Nat × Nat → Prop) : zob zLay 16 ci 2 F = (2 = ci ∧ F (2, 19)) := propext ⟨fun h => ⟨h.2.1, h.2.2⟩, fun h => ⟨rfl, h.1, h.2⟩⟩
theorem zo_16_3 (ci : Nat) (F : Nat × Nat → Prop) : zob zLay 16 ci 3 F = (2 = ci ∧ F (2, 20)) := propext ⟨fun h => ⟨h.2.1, h.2.2⟩, fun h => ⟨rfl, h.1, h.2⟩⟩
theorem zo_16_4 (ci : Nat) (F : Nat × Nat → Prop) : zob zLay 16 ci 4 F = (2 = ci ∧ F (0, 0)) := propext ⟨fun h => ⟨h.2.1, h.2.2⟩, fun h => ⟨rfl, h.1, h.2⟩⟩
theorem zo_16_5 (ci : Nat) (F : Nat × Nat → Prop) : zob zLay 16 ci 5 F = (2 = ci ∧ F (0, 0)) := propext ⟨fun h => ⟨h.2.1, h.2.2⟩, fun h => ⟨rfl, h.1, h.2⟩⟩
theorem zo_16_6 (ci : Nat) (F : Nat × Nat → Prop) : zob zLay 16 ci 6 F = (2 = ci ∧ F (2, 21)) := propext ⟨fun h => ⟨h.2.1, h.2.2⟩, fun h => ⟨rfl, h.1, h.2⟩⟩
theorem za_17 (kd : Nat) (F : Nat → List (Nat × Nat) → Prop) : zarr zLay kd 17 F = (1 = kd ∧ F 100 []) := rfl
theorem za_18 (kd : Nat) (F : Nat → List (Nat × Nat) → Prop) : zarr zLay kd 18 F = (1 = kd ∧ F 100 []) := rfl
theorem za_19 (kd : Nat) (F : Nat → List (Nat × Nat) → Prop) : zarr zLay kd 19 F = (1 = kd ∧ F 100 []) := rfl
theorem za_20 (kd : Nat) (F : Nat → List (Nat × Nat) → Prop) : zarr zLay kd 20 F = (1 = kd ∧ F 100 []) := rfl
theorem za_21 (kd : Nat) (F : Nat → List (Nat × Nat) → Prop) : zarr zLay kd 21 F = (3 = kd ∧ F 100 []) := rfl
theorem za_22 (kd : Nat) (F : Nat → List (Nat × Nat) → Prop) : zarr zLay kd 22 F = (1 = kd ∧ F 8 []) := rfl
theorem zo_23_0 (ci : Nat) (F : Nat × Nat → Prop) : zob zLay 23 ci 0 F = (9 = ci ∧ F (2, 24)) := propext ⟨fun h => ⟨h.2.1, h.2.2⟩, fun h => ⟨rfl, h.1, h.2⟩⟩
theorem zo_23_1 (ci : Nat) (F : Nat × Nat → Prop) : zob zLay 23 ci 1 F = (9 = ci ∧ F (2, 27)) := propext ⟨fun h => ⟨h.2.1, h.2.2⟩, fun h => ⟨rfl, h.1, h.2⟩⟩
theorem zo_23_2 (ci : Nat) (F : Nat × Nat → Prop) : zob zLay 23 ci 2 F = (9 = ci ∧ F (2, 34)) := propext ⟨fun h => ⟨h.2.1, h.2.2⟩, fun h => ⟨rfl, h.1, h.2⟩⟩
theorem zo_23_3 (ci : Nat) (F : Nat × Nat → Prop) : zob zLay 23 ci 3 F = (9 = ci ∧ F (2, 38)) := propext ⟨fun h => ⟨h.2.1, h.2.2⟩, fun h => ⟨rfl, h.1, h.2⟩⟩
theorem zo_23_4 (ci : Nat) (F : Nat × Nat → Prop) : zob zLay 23 ci 4 F = (9 = ci ∧ F (2, 44)) := propext ⟨fun h => ⟨h.2.1, h.2.2⟩, fun h => ⟨rfl, h.1, h.2⟩⟩
theorem zo_23_5 (ci : Nat) (F : Nat × Nat → Prop) : zob zLay 23 ci 5 F = (9 = ci ∧ F (0, 0)) := propext ⟨fun h => ⟨h.2.1, h.2.2⟩, fun h => ⟨rfl, h.1, h.2⟩⟩
theorem zo_23_6 (ci : Nat) (F : Nat × Nat → Prop) : zob zLay 23 ci 6 F = (9 = ci ∧ F (0, 0)) := propext ⟨fun h => ⟨h.2.1, h.2.2⟩, fun h => ⟨rfl, h.1, h.2⟩⟩
theorem zo_23_7 (ci : Nat) (F : Nat × Nat → Prop) : zob zLay 23 ci 7 F = (9 = ci ∧ F (0, 0)) := propext ⟨fun h => ⟨h.2.1, h.2.2⟩, fun h => ⟨rfl, h.1, h.2⟩⟩
theorem zo_23_8 (ci : Nat) (F : Nat × Nat → Prop) : zob zLay 23 ci 8 F = (9 = ci ∧ F (0, 0)) := propext ⟨fun h => ⟨h.2.1, h.2.2⟩, fun h => ⟨rfl, h.1, h.2⟩⟩
theorem zo_23_9 (ci : Nat) (F : Nat × Nat → Prop) : zob zLay 23 ci 9 F = (9 = ci ∧ F (0, 0)) := propext ⟨fun h => ⟨h.2.1, h.2.2⟩, fun h => ⟨rfl, h.1, h.2⟩⟩
theorem zo_24_0 (ci : Nat) (F : Nat × Nat → Prop) : zob zLay 24 ci 0 F = (0 = ci ∧ F (2, 25)) := propext ⟨fun h => ⟨h.2.1, h.2.2⟩, fun h => ⟨rfl, h.1, h.2⟩⟩
theorem zo_24_1 (ci : Nat) (F : Nat × Nat → Prop) : zob zLay 24 ci 1 F = (0 = ci ∧ F (2, 26)) := propext ⟨fun h => ⟨h.2.1, h.2.2⟩, fun h => ⟨rfl, h.1, h.2⟩⟩
theorem zo_24_2 (ci : Nat) (F : Nat × Nat → Prop) : zob zLay 24 ci 2 F = (0 = ci ∧ F (0, 0)) := propext ⟨fun h => ⟨h.2.1, h.2.2⟩, fun h => ⟨rfl, h.1, h.2⟩⟩
theorem za_25 (kd : Nat) (F : Nat → List (Nat × Nat) → Prop) : zarr zLay kd 25 F = (1 = kd ∧ F 100 []) := rfl
theorem za_26 (kd : Nat) (F : Nat → List (Nat × Nat) → Prop) : zarr zLay kd 26 F = (1 = kd ∧ F 100 []) := rfl
theorem zo_27_0 (ci : Nat) (F : Nat × Nat → Prop) : zob zLay 27 ci 0 F = (8 = ci ∧ F (2, 28)) := propext ⟨fun h => ⟨h.2.1, h.2.2⟩, fun h => ⟨rfl, h.1, h.2⟩⟩
theorem zo_27_1 (ci : Nat) (F : Nat × Nat → Prop) : zob zLay 27 ci 1 F = (8 = ci ∧ F (2, 29)) := propext ⟨fun h => ⟨h.2.1, h.2.2⟩, fun h => ⟨rfl, h.1, h.2⟩⟩
theorem zo_27_2 (ci : Nat) (F : Nat × Nat → Prop) : zob zLay 27 ci 2 F = (8 = ci ∧ F (2, 30)) := propext ⟨fun h => ⟨h.2.1, h.2.2⟩, fun h => ⟨rfl, h.1, h.2⟩⟩
theorem zo_27_3 (ci : Nat) (F : Nat × Nat → Prop) : zob zLay 27 ci 3 F = (8 = ci ∧ F (2, 31)) := propext ⟨fun h => ⟨h.2.1, h.2.2⟩, fun h => ⟨rfl, h.1, h.2⟩⟩
theorem zo_27_4 (ci : Nat) (F : Nat × Nat → Prop) : zob zLay 27 ci 4 F = (8 = ci ∧ F (0, 0)) := propext ⟨fun h => ⟨h.2.1, h.2.2⟩, fun h => ⟨rfl, h.1, h.2⟩⟩
theorem zo_27_5 (ci : Nat) (F : Nat × Nat → Prop) : zob zLay 27 ci 5 F = (8 = ci ∧ F (2, 32)) := propext ⟨fun h => ⟨h.2.1, h.2.2⟩, fun h => ⟨rfl, h.1, h.2⟩⟩
theorem zo_27_6 (ci : Nat) (F : Nat × Nat → Prop) : zob zLay 27 ci 6 F = (8 = ci ∧ F (2, 33)) := propext ⟨fun h => ⟨h.2.1, h.2.2⟩, fun h => ⟨rfl, h.1, h.2⟩⟩
theorem zo_27_7 (ci : Nat) (F : Nat × Nat → Prop) : zob zLay 27 ci 7 F = (8 = ci ∧ F (0, 0)) := propext ⟨fun h => ⟨h.2.1, h.2.2⟩, fun h => ⟨rfl, h.1, h.2⟩⟩
theorem zo_27_8 (ci : Nat) (F : Nat × Nat → Prop) : zob zLay 27 ci 8 F = (8 = ci ∧ F (0, 0)) := propext ⟨fun h => ⟨h.2.1, h.2.2⟩, fun h => ⟨rfl, h.1, h.2⟩⟩
theorem za_28 (kd : Nat) (F : Nat → List (Nat × Nat) → Prop) : zarr zLay kd 28 F = (1 = kd ∧ F 16 []) := rfl
theorem za_29 (kd : Nat) (F : Nat → List (Nat × Nat) → Prop) : zarr zLay kd 29 F = (1 = kd ∧ F 16 []) := rfl
theorem za_30 (kd : Nat) (F : Nat → List (Nat × Nat) → Prop) : zarr zLay kd 30 F = (1 = kd ∧ F 16 []) := rfl
theorem za_31 (kd : Nat) (F : Nat → List (Nat × Nat) → Prop) : zarr zLay kd 31 F = (1 = kd ∧ F 16 []) := rfl
theorem za_32 (kd : Nat) (F : Nat → List (Nat × Nat) → Prop) : zarr zLay kd 32 F = (1 = kd ∧ F 16 []) := rfl
theorem za_33 (kd : Nat) (F : Nat → List (Nat × Nat) → Prop) : zarr zLay kd 33 F = (1 = kd ∧ F 16 []) := rfl
theorem zo_34_0 (ci : Nat) (F : Nat × Nat → Prop) : zob zLay 34 ci 0 F = (1 = ci ∧ F (2, 35)) := propext ⟨fun h => ⟨h.2.1, h.2.2⟩, fun h => ⟨rfl, h.1, h.2⟩⟩
theorem zo_34_1 (ci : Nat) (F : Nat × Nat → Prop) : zob zLay 34 ci 1 F = (1 = ci ∧ F (2, 36)) := propext ⟨fun h => ⟨h.2.1, h.2.2⟩, fun h => ⟨rfl, h.1, h.2⟩⟩
theorem zo_34_2 (ci : Nat) (F : Nat × Nat → Prop) : zob zLay 34 ci 2 F = (1 = ci ∧ F (2, 37)) := propext ⟨fun h => ⟨h.2.1, h.2.2⟩, fun h => ⟨rfl, h.1, h.2⟩⟩
theorem zo_34_3 (ci : Nat) (F : Nat × Nat → Prop) : zob zLay 34 ci 3 F = (1 = ci ∧ F (0, 0)) := propext ⟨fun h => ⟨h.2.1, h.2.2⟩, fun h => ⟨rfl, h.1, h.2⟩⟩
theorem za_35 (kd : Nat) (F : Nat → List (Nat × Nat) → Prop) : zarr zLay kd 35 F = (1 = kd ∧ F 4 []) := rfl
theorem za_36 (kd : Nat) (F : Nat → List (Nat × Nat) → Prop) : zarr zLay kd 36 F = (1 = kd ∧ F 4 []) := rfl
theorem za_37 (kd : Nat) (F : Nat → List (Nat × Nat) → Prop) : zarr zLay kd 37 F = (1 = kd ∧ F 4 []) := rfl
theorem zo_38_0 (ci : Nat) (F : Nat × Nat → Prop) : zob zLay 38 ci 0 F = (2 = ci ∧ F (2, 39)) := propext ⟨fun h => ⟨h.2.1, h.2.2⟩, fun h => ⟨rfl, h.1, h.2⟩⟩
theorem zo_38_1 (ci : Nat) (F : Nat × Nat → Prop) : zob zLay 38 ci 1 F = (2 = ci ∧ F (2, 40)) := propext ⟨fun h => ⟨h.2.1, h.2.2⟩, fun h => ⟨rfl, h.1, h.2⟩⟩
theorem zo_38_2 (ci : Nat) (F : Nat × Nat → Prop) : zob zLay 38 ci 2 F = (2 = ci ∧ F (2, 41)) := propext ⟨fun h => ⟨h.2.1, h.2.2⟩, fun h => ⟨rfl, h.1, h.2⟩⟩
theorem zo_38_3 (ci : Nat) (F : Nat × Nat → Prop) : zob zLay 38 ci 3 F = (2 = ci ∧ F (2, 42)) := propext ⟨fun h => ⟨h.2.1, h.2.2⟩, fun h => ⟨rfl, h.1, h.2⟩⟩
theorem zo_38_4 (ci : Nat) (F : Nat × Nat → Prop) : zob zLay 38 ci 4 F = (2 = ci ∧ F (0, 0)) := propext ⟨fun h => ⟨h.2.1, h.2.2⟩, fun h => ⟨rfl, h.1, h.2⟩⟩
theorem zo_38_5 (ci : Nat) (F : Nat × Nat → Prop) : zob zLay 38 ci 5 F = (2 = ci ∧ F (0, 0)) := propext ⟨fun h => ⟨h.2.1, h.2.2⟩, fun h => ⟨rfl, h.1, h.2⟩⟩
theorem zo_38_6 (ci : Nat) (F : Nat × Nat → Prop) : zob zLay 38 ci 6 F = (2 = ci ∧ F (2, 43)) := propext ⟨fun h => ⟨h.2.1, h.2.2⟩, fun h => ⟨rfl, h.1, h.2⟩⟩
theorem za_39 (kd : Nat) (F : Nat → List (Nat × Nat) → Prop) : zarr zLay kd 39 F = (1 = kd ∧ F 100 []) := rfl
theorem za_40 (kd : Nat) (F : Nat → List (Nat × Nat) → Prop) : zarr zLay kd 40 F = (1 = kd ∧ F 100 []) := rfl
theorem za_41 (kd : Nat) (F : Nat → List (Nat × Nat) → Prop) : zarr zLay kd 41 F = (1 = kd ∧ F 100 []) := rfl
theorem za_42 (kd : Nat) (F : Nat → List (Nat × Nat) → Prop) : zarr zLay kd 42 F = (1 = kd ∧ F 100 []) := rfl
theorem za_43 (kd : Nat) (F : Nat → List (Nat × Nat) → Prop) : zarr zLay kd 43 F = (3 = kd ∧ F 100 []) := rfl
theorem za_44 (kd : Nat) (F : Nat → List (Nat × Nat) → Prop) : zarr zLay kd 44 F = (1 = kd ∧ F 8 []) := rfl
theorem zo_45_0 (ci : Nat) (F : Nat × Nat → Prop) : zob zLay 45 ci 0 F = (0 = ci ∧ F (2, 46)) := propext ⟨fun h => ⟨h.2.1, h.2.2⟩, fun h => ⟨rfl, h.1, h.2⟩⟩
theorem zo_45_1 (ci : Nat) (F : Nat × Nat → Prop) : zob zLay 45 ci 1 F = (0 = ci ∧ F (2, 47)) := propext ⟨fun h => ⟨h.2.1, h.2.2⟩, fun h => ⟨rfl, h.1, h.2⟩⟩
theorem zo_45_2 (ci : Nat) (F : Nat × Nat → Prop) : zob zLay 45 ci 2 F = (0 = ci ∧ F (0, 0)) := propext ⟨fun h => ⟨h.2.1, h.2.2⟩, fun h => ⟨rfl, h.1, h.2⟩⟩
theorem za_46 (kd : Nat) (F : Nat → List (Nat × Nat) → Prop) : zarr zLay kd 46 F = (1 = kd ∧ F 100 []) := rfl
theorem za_47 (kd : Nat) (F : Nat → List (Nat × Nat) → Prop) : zarr zLay kd 47 F = (1 = kd ∧ F 100 []) := rfl
theorem zo_48_0 (ci : Nat) (F : Nat × Nat → Prop) : zob zLay 48 ci 0 F = (4 = ci ∧ F (2, 49)) := propext ⟨fun h => ⟨h.2.1, h.2.2⟩, fun h => ⟨rfl, h.1, h.2⟩⟩
theorem zo_48_1 (ci : Nat) (F : Nat × Nat → Prop) : zob zLay 48 ci 1 F = (4 = ci ∧ F (2, 53)) := propext ⟨fun h => ⟨h.2.1, h.2.2⟩, fun h => ⟨rfl, h.1, h.2⟩⟩
theorem zo_48_2 (ci : Nat) (F : Nat × Nat → Prop) : zob zLay 48 ci 2 F = (4 = ci ∧ F (0, 0)) := propext ⟨fun h => ⟨h.2.1, h.2.2⟩, fun h => ⟨rfl, h.1, h.2⟩⟩
theorem zo_48_3 (ci : Nat) (F : Nat × Nat → Prop) : zob zLay 48 ci 3 F = (4 = ci ∧ F (0, 0)) := propext ⟨fun h => ⟨h.2.1, h.2.2⟩, fun h => ⟨rfl, h.1, h.2⟩⟩
theorem zo_48_4 (ci : Nat) (F : Nat × Nat → Prop) : zob zLay 48 ci 4 F = (4 = ci ∧ F (0, 0)) := propext ⟨fun h => ⟨h.2.1, h.2.2⟩, fun h => ⟨rfl, h.1, h.2⟩⟩
theorem zo_48_5 (ci : Nat) (F : Nat × Nat → Prop) : zob zLay 48 ci 5 F = (4 = ci ∧ F (0, 0)) := propext ⟨fun h => ⟨h.2.1, h.2.2⟩, fun h => ⟨rfl, h.1, h.2⟩⟩
theorem zo_49_0 (ci : Nat) (F : Nat × Nat → Prop) : zob zLay 49 ci 0 F = (3 = ci ∧ F (2, 50)) := propext ⟨fun h => ⟨h.2.1, h.2.2⟩, fun h => ⟨rfl, h.1, h.2⟩⟩
theorem zo_49_1 (ci : Nat) (F : Nat × Nat → Prop) : zob zLay 49 ci 1 F = (3 = ci ∧ F (2, 51)) := propext ⟨fun h => ⟨h.2.1, h.2.2⟩, fun h => ⟨rfl, h.1, h.2⟩⟩
theorem zo_49_2 (ci : Nat) (F : Nat × Nat → Prop) : zob zLay 49 ci 2 F = (3 = ci ∧ F (2, 52)) := propext ⟨fun h => ⟨h.2.1, h.2.2⟩, fun h => ⟨rfl, h.1, h.2⟩⟩
theorem zo_49_3 (ci : Nat) (F : Nat × Nat → Prop) : zob zLay 49 ci 3 F = (3 = ci ∧ F (0, 0)) := propext ⟨fun h => ⟨h.2.1, h.2.2⟩, fun h => ⟨rfl, h.1, h.2⟩⟩
theorem za_50 (kd : Nat) (F : Nat → List (Nat × Nat) → Prop) : zarr zLay kd 50 F = (1 = kd ∧ F 200 []) := rfl
theorem za_51 (kd : Nat) (F : Nat → List (Nat × Nat) → Prop) : zarr zLay kd 51 F = (1 = kd ∧ F 200 []) := rfl
theorem za_52 (kd : Nat) (F : Nat → List (Nat × Nat) → Prop) : zarr zLay kd 52 F = (1 = kd ∧ F 200 []) := rfl
theorem zo_53_0 (ci : Nat) (F : Nat × Nat → Prop) : zob zLay 53 ci 0 F = (7 = ci ∧ F (2, 54)) := propext ⟨fun h => ⟨h.2.1, h.2.2⟩, fun h => ⟨rfl, h.1, h.2⟩⟩
theorem zo_53_1 (ci : Nat) (F : Nat × Nat → Prop) : zob zLay 53 ci 1 F = (7 = ci ∧ F (0, 0)) := propext ⟨fun h => ⟨h.2.1, h.2.2⟩, fun h => ⟨rfl, h.1, h.2⟩⟩
theorem za_54 (kd : Nat) (F : Nat → List (Nat × Nat) → Prop) : zarr zLay kd 54 F = (1 = kd ∧ F 400 []) := rfl
theorem za_55 (kd : Nat) (F : Nat → List (Nat × Nat) → Prop) : zarr zLay kd 55 F = (5 = kd ∧ F 4 [(2, 64), (2, 68), (2, 72), (2, 76)]) := rfl
theorem zo_56_0 (ci : Nat) (F : Nat × Nat → Prop) : zob zLay 56 ci 0 F = (6 = ci ∧ F (2, 57)) := propext ⟨fun h => ⟨h.2.1, h.2.2⟩, fun h => ⟨rfl, h.1, h.2⟩⟩
theorem zo_56_1 (ci : Nat) (F : Nat × Nat → Prop) : zob zLay 56 ci 1 F = (6 = ci ∧ F (2, 58)) := propext ⟨fun h => ⟨h.2.1, h.2.2⟩, fun h => ⟨rfl, h.1, h.2⟩⟩
theorem zo_56_2 (ci : Nat) (F : Nat × Nat → Prop) : zob zLay 56 ci 2 F = (6 = ci ∧ F (0, 0)) := propext ⟨fun h => ⟨h.2.1, h.2.2⟩, fun h => ⟨rfl, h.1, h.2⟩⟩
theorem zo_56_3 (ci : Nat) (F : Nat × Nat → Prop) : zob zLay 56 ci 3 F = (6 = ci ∧ F (0, 0)) := propext ⟨fun h => ⟨h.2.1, h.2.2⟩, fun h => ⟨rfl, h.1, h.2⟩⟩
theorem zo_56_4 (ci : Nat) (F : Nat × Nat → Prop) : zob zLay 56 ci 4 F = (6 = ci ∧ F (0, 0)) := propext ⟨fun h => ⟨h.2.1, h.2.2⟩, fun h => ⟨rfl, h.1, h.2⟩⟩
theorem za_57 (kd : Nat) (F : Nat → List (Nat × Nat) → Prop) : zarr zLay kd 57 F = (1 = kd ∧ F 6 []) := rfl
theorem za_58 (kd : Nat) (F : Nat → List (Nat × Nat) → Prop) : zarr zLay kd 58 F = (1 = kd ∧ F 6 []) := rfl
theorem zo_59_0 (ci : Nat) (F : Nat × Nat → Prop) : zob zLay 59 ci 0 F = (5 = ci ∧ F (2, 60)) := propext ⟨fun h => ⟨h.2.1, h.2.2⟩, fun h => ⟨rfl, h.1, h.2⟩⟩
theorem zo_59_1 (ci : Nat) (F : Nat × Nat → Prop) : zob zLay 59 ci 1 F = (5 = ci ∧ F (2, 61)) := propext ⟨fun h => ⟨h.2.1, h.2.2⟩, fun h => ⟨rfl, h.1, h.2⟩⟩
theorem zo_59_2 (ci : Nat) (F : Nat × Nat → Prop) : zob zLay 59 ci 2 F = (5 = ci ∧ F (2, 62)) := propext ⟨fun h => ⟨h.2.1, h.2.2⟩, fun h => ⟨rfl, h.1, h.2⟩⟩
theorem zo_59_3 (ci : Nat) (F : Nat × Nat → Prop) : zob zLay 59 ci 3 F = (5 = ci ∧ F (2, 63)) := propext ⟨fun h => ⟨h.2.1, h.2.2⟩, fun h => ⟨rfl, h.1, h.2⟩⟩
theorem zo_59_4 (ci : Nat) (F : Nat × Nat → Prop) : zob zLay 59 ci 4 F = (5 = ci ∧ F (0, 0)) := propext ⟨fun h => ⟨h.2.1, h.2.2⟩, fun h => ⟨rfl, h.1, h.2⟩⟩
theorem zo_59_5 (ci : Nat) (F : Nat × Nat → Prop) : zob zLay 59 ci 5 F = (5 = ci ∧ F (0, 0)) := propext ⟨fun h => ⟨h.2.1, h.2.2⟩, fun h => ⟨rfl, h.1, h.2⟩⟩
theorem zo_59_6 (ci : Nat) (F : Nat × Nat → Prop) : zob zLay 59 ci 6 F = (5 = ci ∧ F (0, 0)) := propext ⟨fun h => ⟨h.2.1, h.2.2⟩, fun h => ⟨rfl, h.1, h.2⟩⟩
theorem zo_59_7 (ci : Nat) (F : Nat × Nat → Prop) : zob zLay 59 ci 7 F = (5 = ci ∧ F (0, 0)) := propext ⟨fun h => ⟨h.2.1, h.2.2⟩, fun h => ⟨rfl, h.1, h.2⟩⟩
theorem zo_59_8 (ci : Nat) (F : Nat × Nat → Prop) : zob zLay 59 ci 8 F = (5 = ci ∧ F (0, 0)) := propext ⟨fun h => ⟨h.2.1, h.2.2⟩, fun h => ⟨rfl, h.1, h.2⟩⟩
theorem za_60 (kd : Nat) (F : Nat → List (Nat × Nat) → Prop) : zarr zLay kd 60 F = (2 = kd ∧ F 6000 []) := rfl
theorem za_61 (kd : Nat) (F : Nat → List (Nat × Nat) → Prop) : zarr zLay kd 61 F = (1 = kd ∧ F 100 []) := rfl
theorem za_62 (kd : Nat) (F : Nat → List (Nat × Nat) → Prop) : zarr zLay kd 62 F = (3 = kd ∧ F 100 []) := rfl
theorem za_63 (kd : Nat) (F : Nat → List (Nat × Nat) → Prop) : zarr zLay kd 63 F = (2 = kd ∧ F 100 []) := rfl
theorem zo_64_0 (ci : Nat) (F : Nat × Nat → Prop) : zob zLay 64 ci 0 F = (3 = ci ∧ F (2, 65)) := propext ⟨fun h => ⟨h.2.1, h.2.2⟩, fun h => ⟨rfl, h.1, h.2⟩⟩
theorem zo_64_1 (ci : Nat) (F : Nat × Nat → Prop) : zob zLay 64 ci 1 F = (3 = ci ∧ F (2, 66)) := propext ⟨fun h => ⟨h.2.1, h.2.2⟩, fun h => ⟨rfl, h.1, h.2⟩⟩
theorem zo_64_2 (ci : Nat) (F : Nat × Nat → Prop) : zob zLay 64 ci 2 F = (3 = ci ∧ F (2, 67)) := propext ⟨fun h => ⟨h.2.1, h.2.2⟩, fun h => ⟨rfl, h.1, h.2⟩⟩
theorem zo_64_3 (ci : Nat) (F : Nat × Nat → Prop) : zob zLay 64 ci 3 F = (3 = ci ∧ F (0, 0)) := propext ⟨fun h => ⟨h.2.1, h.2.2⟩, fun h => ⟨rfl, h.1, h.2⟩⟩
theorem za_65 (kd : Nat) (F : Nat → List (Nat × Nat) → Prop) : zarr zLay kd 65 F = (1 = kd ∧ F 200 []) := rfl
theorem za_66 (kd : Nat) (F : Nat → List (Nat × Nat) → Prop) : zarr zLay kd 66 F = (1 = kd ∧ F 200 []) := rfl
theorem za_67 (kd : Nat) (F : Nat → List (Nat × Nat) → Prop) : zarr zLay kd 67 F = (1 = kd ∧ F 200 []) := rfl
theorem zo_68_0 (ci : Nat) (F : Nat × Nat → Prop) : zob zLay 68 ci 0 F = (3 = ci ∧ F (2, 69)) := propext ⟨fun h => ⟨h.2.1, h.2.2⟩, fun h => ⟨rfl, h.1, h.2⟩⟩
theorem zo_68_1 (ci : Nat) (F : Nat × Nat → Prop) : zob zLay 68 ci 1 F = (3 = ci ∧ F (2, 70)) := propext ⟨fun h => ⟨h.2.1, h.2.2⟩, fun h => ⟨rfl, h.1, h.2⟩⟩
theorem zo_68_2 (ci : Nat) (F : Nat × Nat → Prop) : zob zLay 68 ci 2 F = (3 = ci ∧ F (2, 71)) := propext ⟨fun h => ⟨h.2.1, h.2.2⟩, fun h => ⟨rfl, h.1, h.2⟩⟩
theorem zo_68_3 (ci : Nat) (F : Nat × Nat → Prop) : zob zLay 68 ci 3 F = (3 = ci ∧ F (0, 0)) := propext ⟨fun h => ⟨h.2.1, h.2.2⟩, fun h => ⟨rfl, h.1, h.2⟩⟩
theorem za_69 (kd : Nat) (F : Nat → List (Nat × Nat) → Prop) : zarr zLay kd 69 F = (1 = kd ∧ F 200 []) := rfl
theorem za_70 (kd : Nat) (F : Nat → List (Nat × Nat) → Prop) : zarr zLay kd 70 F = (1 = kd ∧ F 200 []) := rfl
theorem za_71 (kd : Nat) (F : Nat → List (Nat × Nat) → Prop) : zarr zLay kd 71 F = (1 = kd ∧ F 200 []) := rfl
theorem zo_72_0 (ci : Nat) (F : Nat × Nat → Prop) : zob zLay 72 ci 0 F = (3 = ci ∧ F (2, 73)) := propext ⟨fun h => ⟨h.2.1, h.2.2⟩, fun h => ⟨rfl, h.1, h.2⟩⟩
theorem zo_72_1 (ci : Nat) (F : Nat × Nat → Prop) : zob zLay 72 ci 1 F = (3 = ci ∧ F (2, 74)) := propext ⟨fun h => ⟨h.2.1, h.2.2⟩, fun h => ⟨rfl, h.1, h.2⟩⟩
theorem zo_72_2 (ci : Nat) (F : Nat × Nat → Prop) : zob zLay 72 ci 2 F = (3 = ci ∧ F (2, 75)) := propext ⟨fun h => ⟨h.2.1, h.2.2⟩, fun h => ⟨rfl, h.1, h.2⟩⟩
theorem zo_72_3 (ci : Nat) (F : Nat × Nat → Prop) : zob zLay 72 ci 3 F = (3 = ci ∧ F (0, 0)) := propext ⟨fun h => ⟨h.2.1, h.2.2⟩, fun h => ⟨rfl, h.1, h.2⟩⟩
theorem za_73 (kd : Nat) (F : Nat → List (Nat × Nat) → Prop) : zarr zLay kd 73 F = (1 = kd ∧ F 200 []) := rfl
theorem za_74 (kd : Nat) (F : Nat → List (Nat × Nat) → Prop) : zarr zLay kd 74 F = (1 = kd ∧ F 200 []) := rfl
theorem za_75 (kd : Nat) (F : Nat → List (Nat × Nat) → Prop) : zarr zLay kd 75 F = (1 = kd ∧ F 200 []) := rfl
theorem zo_76_0 (ci : Nat) (F : Nat × Nat → Prop) : zob zLay 76 ci 0 F = (3 = ci ∧ F (2, 77)) := propext ⟨fun h => ⟨h.2.1, h.2.2⟩, fun h => ⟨rfl, h.1, h.2⟩⟩
theorem zo_76_1 (ci : Nat) (F : Nat × Nat → Prop) : zob zLay 76 ci 1 F = (3 = ci ∧ F (2, 78)) := propext ⟨fun h => ⟨h.2.1, h.2.2⟩, fun h => ⟨rfl, h.1, h.2⟩⟩
theorem zo_76_2 (ci : Nat) (F : Nat × Nat → Prop) : zob zLay 76 ci 2 F = (3 = ci ∧ F (2, 79)) := propext ⟨fun h => ⟨h.2.1, h.2.2⟩, fun h => ⟨rfl, h.1, h.2⟩⟩
theorem zo_76_3 (ci : Nat) (F : Nat × Nat → Prop) : zob zLay 76 ci 3 F = (3 = ci ∧ F (0, 0)) := propext ⟨fun h => ⟨h.2.1, h.2.2⟩, fun h => ⟨rfl, h.1, h.2⟩⟩
theorem za_77 (kd : Nat) (F : Nat → List (Nat × Nat) → Prop) : zarr zLay kd 77 F = (1 = kd ∧ F 200 []) := rfl
theorem za_78 (kd : Nat) (F : Nat → List (Nat × Nat) → Prop) : zarr zLay kd 78 F = (1 = kd ∧ F 200 []) := rfl
theorem za_79 (kd : Nat) (F : Nat → List (Nat × Nat) → Prop) : zarr zLay kd 79 F = (1 = kd ∧ F 200 []) := rfl
theorem zo_80_0 (ci : Nat) (F : Nat × Nat → Prop) : zob zLay 80 ci 0 F = (11 = ci ∧ F (0, 0)) := propext ⟨fun h => ⟨h.2.1, h.2.2⟩, fun h => ⟨rfl, h.1, h.2⟩⟩
theorem zo_80_1 (ci : Nat) (F : Nat × Nat → Prop) : zob zLay 80 ci 1 F = (11 = ci ∧ F (2, 81)) := propext ⟨fun h => ⟨h.2.1, h.2.2⟩, fun h => ⟨rfl, h.1, h.2⟩⟩
theorem zo_80_2 (ci : Nat) (F : Nat × Nat → Prop) : zob zLay 80 ci 2 F = (11 = ci ∧ F (2, 82)) := propext ⟨fun h => ⟨h.2.1, h.2.2⟩, fun h => ⟨rfl, h.1, h.2⟩⟩
theorem zo_80_3 (ci : Nat) (F : Nat × Nat → Prop) : zob zLay 80 ci 3 F = (11 = ci ∧ F (4, 0)) := propext ⟨fun h => ⟨h.2.1, h.2.2⟩, fun h => ⟨rfl, h.1, h.2⟩⟩
theorem zo_80_4 (ci : Nat) (F : Nat × Nat → Prop) : zob zLay 80 ci 4 F = (11 = ci ∧ F (2, 83)) := propext ⟨fun h => ⟨h.2.1, h.2.2⟩, fun h => ⟨rfl, h.1, h.2⟩⟩
theorem zo_80_5 (ci : Nat) (F : Nat × Nat → Prop) : zob zLay 80 ci 5 F = (11 = ci ∧ F (0, 0)) := propext ⟨fun h => ⟨h.2.1, h.2.2⟩, fun h => ⟨rfl, h.1, h.2⟩⟩
theorem zo_80_6 (ci : Nat) (F : Nat × Nat → Prop) : zob zLay 80 ci 6 F = (11 = ci ∧ F (0, 0)) := propext ⟨fun h => ⟨h.2.1, h.2.2⟩, fun h => ⟨rfl, h.1, h.2⟩⟩
theorem zo_80_7 (ci : Nat) (F : Nat × Nat → Prop) : zob zLay 80 ci 7 F = (11 = ci ∧ F (0, 0)) := propext ⟨fun h => ⟨h.2.1, h.2.2⟩, fun h => ⟨rfl, h.1, h.2⟩⟩
theorem zo_80_8 (ci : Nat) (F : Nat × Nat → Prop) : zob zLay 80 ci 8 F = (11 = ci ∧ F (0, 0)) := propext ⟨fun h => ⟨h.2.1, h.2.2⟩, fun h => ⟨rfl, h.1, h.2⟩⟩
theorem zo_80_9 (ci : Nat) (F : Nat × Nat → Prop) : zob zLay 80 ci 9 F = (11 = ci ∧ F (0, 0)) := propext ⟨fun h => ⟨h.2.1, h.2.2⟩, fun h => ⟨rfl, h.1, h.2⟩⟩
theorem zo_80_10 (ci : Nat) (F : Nat × Nat → Prop) : zob zLay 80 ci 10 F = (11 = ci ∧ F (0, 0)) := propext ⟨fun h => ⟨h.2.1, h.2.2⟩, fun h => ⟨rfl, h.1, h.2⟩⟩
theorem zo_80_11 (ci : Nat) (F : Nat × Nat → Prop) : zob zLay 80 ci 11 F = (11 = ci ∧ F (2, 84)) := propext ⟨fun h => ⟨h.2.1, h.2.2⟩, fun h => ⟨rfl, h.1, h.2⟩⟩
theorem zo_80_12 (ci : Nat) (F : Nat × Nat → Prop) : zob zLay 80 ci 12 F = (11 = ci ∧ F (0, 0)) := propext ⟨fun h => ⟨h.2.1, h.2.2⟩, fun h => ⟨rfl, h.1, h.2⟩⟩
theorem zo_80_13 (ci : Nat) (F : Nat × Nat → Prop) : zob zLay 80 ci 13 F = (11 = ci ∧ F (0, 0)) := propext ⟨fun h => ⟨h.2.1, h.2.2⟩, fun h => ⟨rfl, h.1, h.2⟩⟩
theorem zo_80_14 (ci : Nat) (F : Nat × Nat → Prop) : zob zLay 80 ci 14 F = (11 = ci ∧ F (2, 85)) := propext ⟨fun h => ⟨h.2.1, h.2.2⟩, fun h => ⟨rfl, h.1, h.2⟩⟩
theorem zo_80_15 (ci : Nat) (F : Nat × Nat → Prop) : zob zLay 80 ci 15 F = (11 = ci ∧ F (2, 86)) := propext ⟨fun h => ⟨h.2.1, h.2.2⟩, fun h => ⟨rfl, h.1, h.2⟩⟩
theorem zo_80_16 (ci : Nat) (F : Nat × Nat → Prop) : zob zLay 80 ci 16 F = (11 = ci ∧ F (2, 87)) := propext ⟨fun h => ⟨h.2.1, h.2.2⟩, fun h => ⟨rfl, h.1, h.2⟩⟩
theorem zo_80_17 (ci : Nat) (F : Nat × Nat → Prop) : zob zLay 80 ci 17 F = (11 = ci ∧ F (2, 88)) := propext ⟨fun h => ⟨h.2.1, h.2.2⟩, fun h => ⟨rfl, h.1, h.2⟩⟩
theorem zo_80_18 (ci : Nat) (F : Nat × Nat → Prop) : zob zLay 80 ci 18 F = (11 = ci ∧ F (2, 89)) := propext ⟨fun h => ⟨h.2.1, h.2.2⟩, fun h => ⟨rfl, h.1, h.2⟩⟩
theorem zo_80_19 (ci : Nat) (F : Nat × Nat → Prop) : zob zLay 80 ci 19 F = (11 = ci ∧ F (2, 90)) := propext ⟨fun h => ⟨h.2.1, h.2.2⟩, fun h => ⟨rfl, h.1, h.2⟩⟩
theorem zo_80_20 (ci : Nat) (F : Nat × Nat → Prop) : zob zLay 80 ci 20 F = (11 = ci ∧ F (2, 91)) := propext ⟨fun h => ⟨h.2.1, h.2.2⟩, fun h => ⟨rfl, h.1, h.2⟩⟩
theorem zo_80_21 (ci : Nat) (F : Nat × Nat → Prop) : zob zLay 80 ci 21 F = (11 = ci ∧ F (2, 92)) := propext ⟨fun h => ⟨h.2.1, h.2.2⟩, fun h => ⟨rfl, h.1, h.2⟩⟩
theorem zo_80_22 (ci : Nat) (F : Nat × Nat → Prop) : zob zLay 80 ci 22 F = (11 = ci ∧ F (0, 0)) := propext ⟨fun h => ⟨h.2.1, h.2.2⟩, fun h => ⟨rfl, h.1, h.2⟩⟩
theorem zo_80_23 (ci : Nat) (F : Nat × Nat → Prop) : zob zLay 80 ci 23 F = (11 = ci ∧ F (0, 0)) := propext ⟨fun h => ⟨h.2.1, h.2.2⟩, fun h => ⟨rfl, h.1, h.2⟩⟩
theorem zo_80_24 (ci : Nat) (F : Nat × Nat → Prop) : zob zLay 80 ci 24 F = (11 = ci ∧ F (2, 93)) := propext ⟨fun h => ⟨h.2.1, h.2.2⟩, fun h => ⟨rfl, h.1, h.2⟩⟩
theorem za_81 (kd : Nat) (F : Nat → List (Nat × Nat) → Prop) : zarr zLay kd 81 F = (1 = kd ∧ F 5917 []) := rfl
theorem za_82 (kd : Nat) (F : Nat → List (Nat × Nat) → Prop) : zarr zLay kd 82 F = (1 = kd ∧ F 4856 []) := rfl
theorem za_83 (kd : Nat) (F : Nat → List (Nat × Nat) → Prop) : zarr zLay kd 83 F = (4 = kd ∧ F 400 []) := rfl
theorem za_84 (kd : Nat) (F : Nat → List (Nat × Nat) → Prop) : zarr zLay kd 84 F = (1 = kd ∧ F 5 []) := rfl
theorem za_85 (kd : Nat) (F : Nat → List (Nat × Nat) → Prop) : zarr zLay kd 85 F = (1 = kd ∧ F 16 []) := rfl
theorem za_86 (kd : Nat) (F : Nat → List (Nat × Nat) → Prop) : zarr zLay kd 86 F = (3 = kd ∧ F 100 []) := rfl
theorem za_87 (kd : Nat) (F : Nat → List (Nat × Nat) → Prop) : zarr zLay kd 87 F = (1 = kd ∧ F 200 []) := rfl
theorem za_88 (kd : Nat) (F : Nat → List (Nat × Nat) → Prop) : zarr zLay kd 88 F = (1 = kd ∧ F 7 []) := rfl
theorem za_89 (kd : Nat) (F : Nat → List (Nat × Nat) → Prop) : zarr zLay kd 89 F = (1 = kd ∧ F 7 []) := rfl
theorem za_90 (kd : Nat) (F : Nat → List (Nat × Nat) → Prop) : zarr zLay kd 90 F = (2 = kd ∧ F 6100 []) := rfl
theorem za_91 (kd : Nat) (F : Nat → List (Nat × Nat) → Prop) : zarr zLay kd 91 F = (3 = kd ∧ F 100 []) := rfl
theorem za_92 (kd : Nat) (F : Nat → List (Nat × Nat) → Prop) : zarr zLay kd 92 F = (3 = kd ∧ F 100 []) := rfl
theorem za_93 (kd : Nat) (F : Nat → List (Nat × Nat) → Prop) : zarr zLay kd 93 F = (1 = kd ∧ F 100 []) := rfl
theorem za_94 (kd : Nat) (F : Nat → List (Nat × Nat) → Prop) : zarr zLay kd 94 F = (2 = kd ∧ F 1 []) := rfl
