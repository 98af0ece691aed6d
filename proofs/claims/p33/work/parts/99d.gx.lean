/-! ===== what throws want, at the law's start (a draft: not yet compiled) ===== -/
def zNcP : List ((String × String) × List Bool) := [(("java/lang/IllegalArgumentException", "java/lang/UnsupportedOperationException"), [false, false, false, false, true, false, true, false, true, true, false]),
  (("java/lang/IllegalArgumentException", "java/lang/IndexOutOfBoundsException"), [false, false, false, false, true, true, false, true, false, true, false]),
  (("java/lang/IllegalArgumentException", "java/util/NoSuchElementException"), [false, false, false, false, true, true, true, true, true, true, false]),
  (("java/lang/IllegalArgumentException", "java/lang/IllegalStateException"), [false, false, false, true, false, false, true, false, false, true, true]),
  (("java/lang/UnsupportedOperationException", "java/lang/IllegalArgumentException"), [false, false, false, false, true, false, false, false, false, false]),
  (("java/lang/UnsupportedOperationException", "java/lang/IndexOutOfBoundsException"), [false, false, false, false, true, true, false, true, false, true, true]),
  (("java/lang/UnsupportedOperationException", "java/util/NoSuchElementException"), [false, false, false, false, true, true, true, true, true, true, true]),
  (("java/lang/UnsupportedOperationException", "java/lang/IllegalStateException"), [false, false, false, true, false, false, true, false, true, false]),
  (("java/lang/IndexOutOfBoundsException", "java/lang/IllegalArgumentException"), [false, false, false, false, true, false, false, false, false, true, false]),
  (("java/lang/IndexOutOfBoundsException", "java/lang/UnsupportedOperationException"), [false, false, false, false, true, false, true, false, true, true, true]),
  (("java/lang/IndexOutOfBoundsException", "java/util/NoSuchElementException"), [false, false, false, true, false, false, false, false, false, false]),
  (("java/lang/IndexOutOfBoundsException", "java/lang/IllegalStateException"), [false, false, false, true, false, false, true, false, true, true, false]),
  (("java/util/NoSuchElementException", "java/lang/IllegalArgumentException"), [false, false, false, false, true, false, false, false, false, true, true]),
  (("java/util/NoSuchElementException", "java/lang/UnsupportedOperationException"), [false, false, false, false, true, false, true, true, false, false]),
  (("java/util/NoSuchElementException", "java/lang/IndexOutOfBoundsException"), [false, false, false, false, true, true, false, true, true, false]),
  (("java/util/NoSuchElementException", "java/lang/IllegalStateException"), [false, false, false, true, false, false, true, false, true, true, true]),
  (("java/lang/IllegalStateException", "java/lang/IllegalArgumentException"), [false, false, false, false, true, false, false, false, true, false]),
  (("java/lang/IllegalStateException", "java/lang/UnsupportedOperationException"), [false, false, false, false, true, false, true, true, false, true, false]),
  (("java/lang/IllegalStateException", "java/lang/IndexOutOfBoundsException"), [false, false, false, false, true, true, false, true, true, true, false]),
  (("java/lang/IllegalStateException", "java/util/NoSuchElementException"), [false, false, false, true, false, false, false, false, false, true, false])]
theorem zst_nc : zXn.all (fun x => zXn.all (fun y => decide (x = y) || zNr ((zNcP.lookup (x, y)).getD []) (.not (.castable x y)))) = true := by decide +kernel
def zXTP : List (Nat × (List Bool × Nat)) := [(89, ([false, false, true, true, false, true, false, false, true, true, true], 858)),
  (99, ([false, false, true, true, true, false, false, false, false, true, false], 894)),
  (127, ([false, false, true, true, true, true, true, true, false, true, true], 924)),
  (129, ([false, true, false, false, false, false, false, true, true, true, true], 931)),
  (142, ([false, true, false, false, false, true, false, false, false, true, true], 963)),
  (153, ([false, true, false, false, true, false, false, false, false, true, true], 964)),
  (159, ([false, true, false, false, true, true, true, true, false, true, true], 976)),
  (168, ([false, true, false, true, false, false, true, true, true, false, true], 977)),
  (176, ([false, true, false, true, true, false, true, false, true, false], 993)),
  (178, ([false, true, false, true, true, true, false, true, false, false], 994)),
  (185, ([false, true, false, true, true, true, true, true, true, false, true], 1018)),
  (192, ([false, true, true, false, false, false, true, false, false, true, true], 1033)),
  (199, ([false, true, true, false, false, true, true, false, false, true, false], 1047)),
  (227, ([false, true, true, false, true, false, false, true, true, true, true], 1068)),
  (233, ([false, true, true, false, true, true, false, true, true, false], 1079)),
  (241, ([false, true, true, true, false, true, false, false, false, false], 1164)),
  (243, ([false, true, true, true, true, false, false, false, false, false], 1172)),
  (248, ([false, true, true, true, true, false, true, false, true, false], 1196)),
  (254, ([false, true, true, true, true, true, true, true, false, true, false], 1213)),
  (259, ([true, false, false, false, false, false, true, false, true, true, true], 1230)),
  (264, ([true, false, false, false, true, false, false, false, false, true, false], 1246)),
  (266, ([true, false, false, false, true, true, false, false, false, true, true], 1254)),
  (112, ([true, false, false, true, false, false, false, false, true, true, false], 1263)),
  (115, ([true, false, false, true, false, false, true, true, true, false, true], 1264)),
  (213, ([true, false, false, true, false, true, true, true, true, true, false], 1317)),
  (274, ([true, false, false, true, true, false, true, false, false, true, true], 1318)),
  (288, ([true, false, true, false, false, false, false, false, false, true, false], 1341)),
  (290, ([true, false, true, false, true, false, false, false, false, true, false], 1342)),
  (296, ([true, false, true, false, true, true, false, false, true, false], 1418)),
  (205, ([true, false, true, true, false, true, false, false, false, true, true], 1430)),
  (218, ([true, false, true, true, true, false, false, false, false, true, false], 1443)),
  (325, ([true, false, true, true, true, true, false, false, true, false], 1463))]
theorem zst_xt : zXT.all (fun q => zNr (((zXTP.lookup q.1).getD ([], 0)).1) (.exactly (.string "SandRails" q.1) "java/lang/String") && zT (((zXTP.lookup q.1).getD ([], 0)).2) (.stringRef "SandRails" q.1 q.2)) = true := by decide +kernel
def zNgP : List Nat := [817, 887, 917, 1011, 1040, 819, 821, 823]
theorem zst_ng : zNg.all (fun w => zNgP.any (fun n => zT n w)) = true := by decide +kernel
theorem zst_X {args : Array Value} {s : State} {A : Nat → Prop} (hts : ∀ w ∈ lw_tbl, w.before args s = true) (hn : narrow_1.before args s = true) (hA : ∀ a : Nat, a < s.heap.size → ¬ A a) : zGx A s := by
  refine ⟨vx_Zqof (hts _ (zT_mem (n := 842) (by decide +kernel))) (hts _ (zT_mem (n := 132) (by decide +kernel))) (zNr_b (p := [false, false, false, false, false, false, false, true, false, true, false]) hn (by decide +kernel)) hA, vx_Zqof (hts _ (zT_mem (n := 844) (by decide +kernel))) (hts _ (zT_mem (n := 132) (by decide +kernel))) (zNr_b (p := [false, false, false, false, false, false, false, true, false, true, true]) hn (by decide +kernel)) hA, fun q hq => ?_, fun x hx y hy hne => ?_, fun w hw => ?_⟩
  · have h := List.all_eq_true.mp zst_xt q hq
    obtain ⟨h1, h2⟩ := Bool.and_eq_true_iff.mp h
    obtain ⟨a, c, cA, kA, q1, -⟩ := Cond.exactly_spec (args := args) (first := s) (o := none) (s := s) (idx := []) (t := .string "SandRails" q.1) (cls := "java/lang/String") (zNr_b hn h1)
    exact ⟨a, vk_R.of (A := args) (hts _ (zT_mem h2)) q1⟩
  · have h := List.all_eq_true.mp (List.all_eq_true.mp zst_nc x hx) y hy
    rw [Bool.or_eq_true] at h
    rcases h with h | h
    · exact absurd (of_decide_eq_true h) hne
    · exact va_Nc.of (zNr_b hn h)
  · obtain ⟨n, -, h⟩ := List.any_eq_true.mp (List.all_eq_true.mp zst_ng w hw)
    exact va_Nw.of (zNg_on w hw) (hts _ (zT_mem h))
