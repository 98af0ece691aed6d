/-! ===== the pools: (entry, kind, .. , place among the words) ===== -/
def PX0 : List (Nat × Nat × Nat × Nat × Int × Nat) := [(9, 0, 0, 0, 0, 162), (15, 0, 0, 1, 0, 163), (18, 0, 0, 2, 1, 164), (34, 1, 0, 0, 1103515245, 1158), (39, 6, 0, 0, 0, 598)]
theorem PX0_ok : zPlok RX0 (zPlf PX0) := zPlok_of (by decide +kernel)
theorem pX0_9 : zPlf PX0 9 = some (0, 0, 0, 0) := rfl
theorem pX0_15 : zPlf PX0 15 = some (0, 0, 1, 0) := rfl
theorem pX0_18 : zPlf PX0 18 = some (0, 0, 2, 1) := rfl
theorem pX0_34 : zPlf PX0 34 = some (1, 0, 0, 1103515245) := rfl
theorem pX0_39 : zPlf PX0 39 = some (6, 0, 0, 0) := rfl
def PX1 : List (Nat × Nat × Nat × Nat × Int × Nat) := [(9, 0, 1, 0, 0, 219), (15, 0, 1, 1, 0, 220), (18, 0, 1, 2, 0, 221), (21, 0, 1, 3, 1, 222), (29, 6, 0, 0, 0, 610)]
theorem PX1_ok : zPlok RX1 (zPlf PX1) := zPlok_of (by decide +kernel)
theorem pX1_9 : zPlf PX1 9 = some (0, 1, 0, 0) := rfl
theorem pX1_15 : zPlf PX1 15 = some (0, 1, 1, 0) := rfl
theorem pX1_18 : zPlf PX1 18 = some (0, 1, 2, 0) := rfl
theorem pX1_21 : zPlf PX1 21 = some (0, 1, 3, 1) := rfl
theorem pX1_29 : zPlf PX1 29 = some (6, 0, 0, 0) := rfl
def PX2 : List (Nat × Nat × Nat × Nat × Int × Nat) := [(9, 0, 2, 0, 0, 239), (15, 0, 2, 1, 0, 240), (18, 0, 2, 2, 0, 241), (21, 0, 2, 3, 0, 242), (24, 0, 2, 4, 1, 243), (28, 0, 2, 5, 1, 244), (31, 0, 2, 6, 0, 246), (49, 6, 0, 0, 0, 615)]
theorem PX2_ok : zPlok RX2 (zPlf PX2) := zPlok_of (by decide +kernel)
theorem pX2_9 : zPlf PX2 9 = some (0, 2, 0, 0) := rfl
theorem pX2_15 : zPlf PX2 15 = some (0, 2, 1, 0) := rfl
theorem pX2_18 : zPlf PX2 18 = some (0, 2, 2, 0) := rfl
theorem pX2_21 : zPlf PX2 21 = some (0, 2, 3, 0) := rfl
theorem pX2_24 : zPlf PX2 24 = some (0, 2, 4, 1) := rfl
theorem pX2_28 : zPlf PX2 28 = some (0, 2, 5, 1) := rfl
theorem pX2_31 : zPlf PX2 31 = some (0, 2, 6, 0) := rfl
theorem pX2_49 : zPlf PX2 49 = some (6, 0, 0, 0) := rfl
def PX3 : List (Nat × Nat × Nat × Nat × Int × Nat) := [(11, 0, 3, 0, 0, 322), (15, 0, 3, 1, 0, 323), (18, 0, 3, 2, 0, 324), (21, 0, 3, 3, 1, 325), (29, 6, 0, 0, 0, 905)]
theorem PX3_ok : zPlok RX3 (zPlf PX3) := zPlok_of (by decide +kernel)
theorem pX3_11 : zPlf PX3 11 = some (0, 3, 0, 0) := rfl
theorem pX3_15 : zPlf PX3 15 = some (0, 3, 1, 0) := rfl
theorem pX3_18 : zPlf PX3 18 = some (0, 3, 2, 0) := rfl
theorem pX3_21 : zPlf PX3 21 = some (0, 3, 3, 1) := rfl
theorem pX3_29 : zPlf PX3 29 = some (6, 0, 0, 0) := rfl
def PX4 : List (Nat × Nat × Nat × Nat × Int × Nat) := [(12, 0, 4, 0, 0, 350), (21, 0, 4, 1, 0, 352), (25, 0, 4, 2, 1, 354), (29, 0, 4, 3, 1, 355), (32, 0, 4, 4, 1, 356), (35, 0, 4, 5, 1, 357), (38, 0, 3, 3, 1, 326), (97, 3, 0, 0, 0, 0), (103, 3, 1, 0, 0, 1), (105, 3, 2, 0, 0, 2), (107, 3, 3, 0, 0, 3), (109, 3, 4, 0, 0, 4), (111, 3, 5, 0, 0, 5), (113, 3, 6, 0, 0, 6), (115, 3, 7, 0, 0, 7), (117, 3, 8, 0, 0, 8), (119, 3, 9, 0, 0, 9), (124, 3, 10, 0, 0, 10), (126, 3, 11, 0, 0, 11), (128, 3, 12, 0, 0, 12), (130, 3, 13, 0, 0, 13), (152, 3, 25, 0, 0, 25), (157, 3, 24, 0, 0, 24), (159, 3, 14, 0, 0, 14), (164, 3, 15, 0, 0, 15), (172, 3, 16, 0, 0, 16), (174, 3, 17, 0, 0, 17), (176, 3, 18, 0, 0, 18), (178, 3, 19, 0, 0, 19), (180, 3, 20, 0, 0, 20), (182, 3, 21, 0, 0, 21), (184, 3, 22, 0, 0, 22), (186, 3, 23, 0, 0, 23)]
theorem PX4_ok : zPlok RX4 (zPlf PX4) := zPlok_of (by decide +kernel)
theorem pX4_12 : zPlf PX4 12 = some (0, 4, 0, 0) := rfl
theorem pX4_21 : zPlf PX4 21 = some (0, 4, 1, 0) := rfl
theorem pX4_25 : zPlf PX4 25 = some (0, 4, 2, 1) := rfl
theorem pX4_29 : zPlf PX4 29 = some (0, 4, 3, 1) := rfl
theorem pX4_32 : zPlf PX4 32 = some (0, 4, 4, 1) := rfl
theorem pX4_35 : zPlf PX4 35 = some (0, 4, 5, 1) := rfl
theorem pX4_38 : zPlf PX4 38 = some (0, 3, 3, 1) := rfl
theorem pX4_97 : zPlf PX4 97 = some (3, 0, 0, 0) := rfl
theorem pX4_103 : zPlf PX4 103 = some (3, 1, 0, 0) := rfl
theorem pX4_105 : zPlf PX4 105 = some (3, 2, 0, 0) := rfl
theorem pX4_107 : zPlf PX4 107 = some (3, 3, 0, 0) := rfl
theorem pX4_109 : zPlf PX4 109 = some (3, 4, 0, 0) := rfl
theorem pX4_111 : zPlf PX4 111 = some (3, 5, 0, 0) := rfl
theorem pX4_113 : zPlf PX4 113 = some (3, 6, 0, 0) := rfl
theorem pX4_115 : zPlf PX4 115 = some (3, 7, 0, 0) := rfl
theorem pX4_117 : zPlf PX4 117 = some (3, 8, 0, 0) := rfl
theorem pX4_119 : zPlf PX4 119 = some (3, 9, 0, 0) := rfl
theorem pX4_124 : zPlf PX4 124 = some (3, 10, 0, 0) := rfl
theorem pX4_126 : zPlf PX4 126 = some (3, 11, 0, 0) := rfl
theorem pX4_128 : zPlf PX4 128 = some (3, 12, 0, 0) := rfl
theorem pX4_130 : zPlf PX4 130 = some (3, 13, 0, 0) := rfl
theorem pX4_152 : zPlf PX4 152 = some (3, 25, 0, 0) := rfl
theorem pX4_157 : zPlf PX4 157 = some (3, 24, 0, 0) := rfl
theorem pX4_159 : zPlf PX4 159 = some (3, 14, 0, 0) := rfl
theorem pX4_164 : zPlf PX4 164 = some (3, 15, 0, 0) := rfl
theorem pX4_172 : zPlf PX4 172 = some (3, 16, 0, 0) := rfl
theorem pX4_174 : zPlf PX4 174 = some (3, 17, 0, 0) := rfl
theorem pX4_176 : zPlf PX4 176 = some (3, 18, 0, 0) := rfl
theorem pX4_178 : zPlf PX4 178 = some (3, 19, 0, 0) := rfl
theorem pX4_180 : zPlf PX4 180 = some (3, 20, 0, 0) := rfl
theorem pX4_182 : zPlf PX4 182 = some (3, 21, 0, 0) := rfl
theorem pX4_184 : zPlf PX4 184 = some (3, 22, 0, 0) := rfl
theorem pX4_186 : zPlf PX4 186 = some (3, 23, 0, 0) := rfl
def PX5 : List (Nat × Nat × Nat × Nat × Int × Nat) := [(11, 0, 5, 0, 0, 401), (15, 0, 5, 1, 0, 402), (19, 0, 5, 2, 0, 403), (23, 0, 5, 3, 0, 404), (26, 0, 5, 4, 1, 405), (30, 0, 5, 5, 1, 406), (33, 0, 5, 6, 1, 407), (36, 0, 5, 7, 1, 408), (39, 0, 5, 8, 1, 409), (50, 2, 0, 0, 4611686018427387904, 1363), (56, 2, 0, 0, 1048576, 1386), (61, 0, 9, 1, 0, 269), (101, 0, 9, 0, 0, 265), (142, 4, 0, 0, 0, 1409)]
theorem PX5_ok : zPlok RX5 (zPlf PX5) := zPlok_of (by decide +kernel)
theorem pX5_11 : zPlf PX5 11 = some (0, 5, 0, 0) := rfl
theorem pX5_15 : zPlf PX5 15 = some (0, 5, 1, 0) := rfl
theorem pX5_19 : zPlf PX5 19 = some (0, 5, 2, 0) := rfl
theorem pX5_23 : zPlf PX5 23 = some (0, 5, 3, 0) := rfl
theorem pX5_26 : zPlf PX5 26 = some (0, 5, 4, 1) := rfl
theorem pX5_30 : zPlf PX5 30 = some (0, 5, 5, 1) := rfl
theorem pX5_33 : zPlf PX5 33 = some (0, 5, 6, 1) := rfl
theorem pX5_36 : zPlf PX5 36 = some (0, 5, 7, 1) := rfl
theorem pX5_39 : zPlf PX5 39 = some (0, 5, 8, 1) := rfl
theorem pX5_50 : zPlf PX5 50 = some (2, 0, 0, 4611686018427387904) := rfl
theorem pX5_56 : zPlf PX5 56 = some (2, 0, 0, 1048576) := rfl
theorem pX5_61 : zPlf PX5 61 = some (0, 9, 1, 0) := rfl
theorem pX5_101 : zPlf PX5 101 = some (0, 9, 0, 0) := rfl
theorem pX5_142 : zPlf PX5 142 = some (4, 0, 0, 0) := rfl
def PX6 : List (Nat × Nat × Nat × Nat × Int × Nat) := [(9, 0, 6, 0, 0, 379), (15, 0, 6, 1, 0, 380), (18, 0, 6, 2, 1, 381), (22, 0, 6, 3, 1, 382), (25, 0, 6, 4, 1, 383), (28, 0, 9, 9, 1, 285), (33, 1, 0, 0, 1000000, 1269), (69, 0, 9, 1, 0, 268), (73, 0, 9, 0, 0, 264)]
theorem PX6_ok : zPlok RX6 (zPlf PX6) := zPlok_of (by decide +kernel)
theorem pX6_9 : zPlf PX6 9 = some (0, 6, 0, 0) := rfl
theorem pX6_15 : zPlf PX6 15 = some (0, 6, 1, 0) := rfl
theorem pX6_18 : zPlf PX6 18 = some (0, 6, 2, 1) := rfl
theorem pX6_22 : zPlf PX6 22 = some (0, 6, 3, 1) := rfl
theorem pX6_25 : zPlf PX6 25 = some (0, 6, 4, 1) := rfl
theorem pX6_28 : zPlf PX6 28 = some (0, 9, 9, 1) := rfl
theorem pX6_33 : zPlf PX6 33 = some (1, 0, 0, 1000000) := rfl
theorem pX6_69 : zPlf PX6 69 = some (0, 9, 1, 0) := rfl
theorem pX6_73 : zPlf PX6 73 = some (0, 9, 0, 0) := rfl
def PX7 : List (Nat × Nat × Nat × Nat × Int × Nat) := [(9, 0, 7, 0, 0, 342), (15, 0, 7, 1, 1, 343)]
theorem PX7_ok : zPlok RX7 (zPlf PX7) := zPlok_of (by decide +kernel)
theorem pX7_9 : zPlf PX7 9 = some (0, 7, 0, 0) := rfl
theorem pX7_15 : zPlf PX7 15 = some (0, 7, 1, 1) := rfl
def PX8 : List (Nat × Nat × Nat × Nat × Int × Nat) := [(9, 0, 8, 0, 0, 180), (15, 0, 8, 1, 0, 181), (18, 0, 8, 2, 0, 182), (21, 0, 8, 3, 0, 183), (24, 0, 8, 4, 1, 184), (28, 0, 8, 5, 0, 186), (31, 0, 8, 6, 0, 187), (34, 0, 8, 7, 1, 188), (37, 0, 8, 8, 1, 191), (88, 6, 0, 0, 0, 605)]
theorem PX8_ok : zPlok RX8 (zPlf PX8) := zPlok_of (by decide +kernel)
theorem pX8_9 : zPlf PX8 9 = some (0, 8, 0, 0) := rfl
theorem pX8_15 : zPlf PX8 15 = some (0, 8, 1, 0) := rfl
theorem pX8_18 : zPlf PX8 18 = some (0, 8, 2, 0) := rfl
theorem pX8_21 : zPlf PX8 21 = some (0, 8, 3, 0) := rfl
theorem pX8_24 : zPlf PX8 24 = some (0, 8, 4, 1) := rfl
theorem pX8_28 : zPlf PX8 28 = some (0, 8, 5, 0) := rfl
theorem pX8_31 : zPlf PX8 31 = some (0, 8, 6, 0) := rfl
theorem pX8_34 : zPlf PX8 34 = some (0, 8, 7, 1) := rfl
theorem pX8_37 : zPlf PX8 37 = some (0, 8, 8, 1) := rfl
theorem pX8_88 : zPlf PX8 88 = some (6, 0, 0, 0) := rfl
def PX9 : List (Nat × Nat × Nat × Nat × Int × Nat) := [(12, 0, 9, 0, 0, 263), (21, 0, 9, 1, 0, 267), (28, 0, 9, 2, 0, 271), (35, 0, 9, 3, 0, 273), (39, 0, 9, 4, 0, 275), (43, 0, 9, 5, 1, 276), (47, 0, 9, 6, 1, 278), (50, 0, 9, 7, 1, 280), (53, 0, 9, 8, 1, 282), (56, 0, 9, 9, 1, 284), (59, 4, 2, 0, 0, 1029), (62, 4, 1, 0, 0, 1031), (65, 0, 0, 2, 1, 165), (106, 0, 8, 8, 1, 192), (171, 0, 8, 7, 1, 189), (233, 6, 0, 0, 0, 616)]
theorem PX9_ok : zPlok RX9 (zPlf PX9) := zPlok_of (by decide +kernel)
theorem pX9_12 : zPlf PX9 12 = some (0, 9, 0, 0) := rfl
theorem pX9_21 : zPlf PX9 21 = some (0, 9, 1, 0) := rfl
theorem pX9_28 : zPlf PX9 28 = some (0, 9, 2, 0) := rfl
theorem pX9_35 : zPlf PX9 35 = some (0, 9, 3, 0) := rfl
theorem pX9_39 : zPlf PX9 39 = some (0, 9, 4, 0) := rfl
theorem pX9_43 : zPlf PX9 43 = some (0, 9, 5, 1) := rfl
theorem pX9_47 : zPlf PX9 47 = some (0, 9, 6, 1) := rfl
theorem pX9_50 : zPlf PX9 50 = some (0, 9, 7, 1) := rfl
theorem pX9_53 : zPlf PX9 53 = some (0, 9, 8, 1) := rfl
theorem pX9_56 : zPlf PX9 56 = some (0, 9, 9, 1) := rfl
theorem pX9_59 : zPlf PX9 59 = some (4, 2, 0, 0) := rfl
theorem pX9_62 : zPlf PX9 62 = some (4, 1, 0, 0) := rfl
theorem pX9_65 : zPlf PX9 65 = some (0, 0, 2, 1) := rfl
theorem pX9_106 : zPlf PX9 106 = some (0, 8, 8, 1) := rfl
theorem pX9_171 : zPlf PX9 171 = some (0, 8, 7, 1) := rfl
theorem pX9_233 : zPlf PX9 233 = some (6, 0, 0, 0) := rfl
def PX10 : List (Nat × Nat × Nat × Nat × Int × Nat) := [(10, 0, 10, 0, 0, 431), (16, 0, 10, 1, 0, 432), (19, 0, 10, 2, 2, 433), (26, 0, 10, 3, 0, 434), (33, 0, 10, 4, 0, 435), (39, 0, 10, 5, 0, 436), (43, 0, 10, 6, 1, 437), (50, 0, 10, 7, 0, 438), (57, 0, 10, 8, 0, 439), (62, 0, 4, 1, 0, 353), (76, 0, 7, 1, 1, 344), (94, 0, 9, 8, 1, 283), (102, 0, 4, 0, 0, 351), (121, 0, 9, 9, 1, 286), (135, 0, 9, 0, 0, 266), (144, 0, 9, 1, 0, 270), (148, 0, 8, 4, 1, 185), (161, 0, 9, 2, 0, 272), (165, 0, 1, 3, 1, 223), (271, 0, 9, 5, 1, 277), (316, 0, 9, 3, 0, 274), (340, 0, 8, 7, 1, 190), (341, 0, 8, 8, 1, 193), (344, 0, 9, 6, 1, 279), (350, 0, 2, 5, 1, 245), (351, 0, 9, 7, 1, 281)]
theorem PX10_ok : zPlok RX10 (zPlf PX10) := zPlok_of (by decide +kernel)
theorem pX10_10 : zPlf PX10 10 = some (0, 10, 0, 0) := rfl
theorem pX10_16 : zPlf PX10 16 = some (0, 10, 1, 0) := rfl
theorem pX10_19 : zPlf PX10 19 = some (0, 10, 2, 2) := rfl
theorem pX10_26 : zPlf PX10 26 = some (0, 10, 3, 0) := rfl
theorem pX10_33 : zPlf PX10 33 = some (0, 10, 4, 0) := rfl
theorem pX10_39 : zPlf PX10 39 = some (0, 10, 5, 0) := rfl
theorem pX10_43 : zPlf PX10 43 = some (0, 10, 6, 1) := rfl
theorem pX10_50 : zPlf PX10 50 = some (0, 10, 7, 0) := rfl
theorem pX10_57 : zPlf PX10 57 = some (0, 10, 8, 0) := rfl
theorem pX10_62 : zPlf PX10 62 = some (0, 4, 1, 0) := rfl
theorem pX10_76 : zPlf PX10 76 = some (0, 7, 1, 1) := rfl
theorem pX10_94 : zPlf PX10 94 = some (0, 9, 8, 1) := rfl
theorem pX10_102 : zPlf PX10 102 = some (0, 4, 0, 0) := rfl
theorem pX10_121 : zPlf PX10 121 = some (0, 9, 9, 1) := rfl
theorem pX10_135 : zPlf PX10 135 = some (0, 9, 0, 0) := rfl
theorem pX10_144 : zPlf PX10 144 = some (0, 9, 1, 0) := rfl
theorem pX10_148 : zPlf PX10 148 = some (0, 8, 4, 1) := rfl
theorem pX10_161 : zPlf PX10 161 = some (0, 9, 2, 0) := rfl
theorem pX10_165 : zPlf PX10 165 = some (0, 1, 3, 1) := rfl
theorem pX10_271 : zPlf PX10 271 = some (0, 9, 5, 1) := rfl
theorem pX10_316 : zPlf PX10 316 = some (0, 9, 3, 0) := rfl
theorem pX10_340 : zPlf PX10 340 = some (0, 8, 7, 1) := rfl
theorem pX10_341 : zPlf PX10 341 = some (0, 8, 8, 1) := rfl
theorem pX10_344 : zPlf PX10 344 = some (0, 9, 6, 1) := rfl
theorem pX10_350 : zPlf PX10 350 = some (0, 2, 5, 1) := rfl
theorem pX10_351 : zPlf PX10 351 = some (0, 9, 7, 1) := rfl
def PX11 : List (Nat × Nat × Nat × Nat × Int × Nat) := [(3, 0, 11, 0, 1, 1472), (13, 0, 11, 1, 0, 1473), (17, 0, 11, 2, 0, 1474), (20, 0, 11, 4, 0, 1476), (24, 0, 11, 10, 1, 1482), (27, 0, 11, 11, 0, 1483), (30, 0, 11, 14, 0, 1486), (33, 0, 11, 15, 0, 1487), (37, 0, 11, 16, 0, 1488), (40, 0, 11, 17, 0, 1489), (43, 0, 11, 18, 0, 1490), (46, 0, 11, 19, 0, 1491), (50, 0, 11, 20, 0, 1492), (53, 0, 11, 21, 0, 1493), (56, 0, 11, 24, 0, 1496), (59, 0, 11, 3, 2, 1475), (63, 0, 11, 5, 1, 1477), (66, 0, 11, 6, 1, 1478), (69, 0, 11, 7, 1, 1479), (76, 0, 11, 8, 1, 1480), (103, 0, 11, 12, 1, 1484), (110, 0, 11, 13, 1, 1485), (116, 0, 11, 9, 1, 1481), (127, 3, 16, 0, 0, 35), (129, 3, 17, 0, 0, 36), (131, 3, 18, 0, 0, 37), (133, 3, 19, 0, 0, 38), (135, 3, 20, 0, 0, 39), (137, 3, 21, 0, 0, 40), (139, 3, 22, 0, 0, 41), (141, 3, 23, 0, 0, 42), (149, 3, 14, 0, 0, 33), (160, 3, 15, 0, 0, 34), (168, 3, 24, 0, 0, 43), (173, 3, 25, 0, 0, 44), (175, 3, 10, 0, 0, 48), (177, 3, 11, 0, 0, 49), (179, 3, 12, 0, 0, 50), (181, 3, 13, 0, 0, 51), (193, 3, 0, 0, 0, 26), (195, 3, 2, 0, 0, 27), (197, 3, 3, 0, 0, 28), (199, 3, 4, 0, 0, 29), (201, 3, 5, 0, 0, 30), (203, 3, 7, 0, 0, 31), (208, 3, 8, 0, 0, 32), (214, 3, 9, 0, 0, 45), (216, 3, 6, 0, 0, 46), (217, 3, 1, 0, 0, 47), (294, 1, 0, 0, 1103515245, 1835), (386, 2, 0, 0, 1152921504606846976, 1974), (388, 2, 0, 0, 10000, 1979), (403, 2, 0, 0, 150000, 1981), (405, 0, 11, 22, 1, 1494), (408, 0, 11, 23, 1, 1495)]
theorem PX11_ok : zPlok RX11 (zPlf PX11) := zPlok_of (by decide +kernel)
theorem pX11_3 : zPlf PX11 3 = some (0, 11, 0, 1) := rfl
theorem pX11_13 : zPlf PX11 13 = some (0, 11, 1, 0) := rfl
theorem pX11_17 : zPlf PX11 17 = some (0, 11, 2, 0) := rfl
theorem pX11_20 : zPlf PX11 20 = some (0, 11, 4, 0) := rfl
theorem pX11_24 : zPlf PX11 24 = some (0, 11, 10, 1) := rfl
theorem pX11_27 : zPlf PX11 27 = some (0, 11, 11, 0) := rfl
theorem pX11_30 : zPlf PX11 30 = some (0, 11, 14, 0) := rfl
theorem pX11_33 : zPlf PX11 33 = some (0, 11, 15, 0) := rfl
theorem pX11_37 : zPlf PX11 37 = some (0, 11, 16, 0) := rfl
theorem pX11_40 : zPlf PX11 40 = some (0, 11, 17, 0) := rfl
theorem pX11_43 : zPlf PX11 43 = some (0, 11, 18, 0) := rfl
theorem pX11_46 : zPlf PX11 46 = some (0, 11, 19, 0) := rfl
theorem pX11_50 : zPlf PX11 50 = some (0, 11, 20, 0) := rfl
theorem pX11_53 : zPlf PX11 53 = some (0, 11, 21, 0) := rfl
theorem pX11_56 : zPlf PX11 56 = some (0, 11, 24, 0) := rfl
theorem pX11_59 : zPlf PX11 59 = some (0, 11, 3, 2) := rfl
theorem pX11_63 : zPlf PX11 63 = some (0, 11, 5, 1) := rfl
theorem pX11_66 : zPlf PX11 66 = some (0, 11, 6, 1) := rfl
theorem pX11_69 : zPlf PX11 69 = some (0, 11, 7, 1) := rfl
theorem pX11_76 : zPlf PX11 76 = some (0, 11, 8, 1) := rfl
theorem pX11_103 : zPlf PX11 103 = some (0, 11, 12, 1) := rfl
theorem pX11_110 : zPlf PX11 110 = some (0, 11, 13, 1) := rfl
theorem pX11_116 : zPlf PX11 116 = some (0, 11, 9, 1) := rfl
theorem pX11_127 : zPlf PX11 127 = some (3, 16, 0, 0) := rfl
theorem pX11_129 : zPlf PX11 129 = some (3, 17, 0, 0) := rfl
theorem pX11_131 : zPlf PX11 131 = some (3, 18, 0, 0) := rfl
theorem pX11_133 : zPlf PX11 133 = some (3, 19, 0, 0) := rfl
theorem pX11_135 : zPlf PX11 135 = some (3, 20, 0, 0) := rfl
theorem pX11_137 : zPlf PX11 137 = some (3, 21, 0, 0) := rfl
theorem pX11_139 : zPlf PX11 139 = some (3, 22, 0, 0) := rfl
theorem pX11_141 : zPlf PX11 141 = some (3, 23, 0, 0) := rfl
theorem pX11_149 : zPlf PX11 149 = some (3, 14, 0, 0) := rfl
theorem pX11_160 : zPlf PX11 160 = some (3, 15, 0, 0) := rfl
theorem pX11_168 : zPlf PX11 168 = some (3, 24, 0, 0) := rfl
theorem pX11_173 : zPlf PX11 173 = some (3, 25, 0, 0) := rfl
theorem pX11_175 : zPlf PX11 175 = some (3, 10, 0, 0) := rfl
theorem pX11_177 : zPlf PX11 177 = some (3, 11, 0, 0) := rfl
theorem pX11_179 : zPlf PX11 179 = some (3, 12, 0, 0) := rfl
theorem pX11_181 : zPlf PX11 181 = some (3, 13, 0, 0) := rfl
theorem pX11_193 : zPlf PX11 193 = some (3, 0, 0, 0) := rfl
theorem pX11_195 : zPlf PX11 195 = some (3, 2, 0, 0) := rfl
theorem pX11_197 : zPlf PX11 197 = some (3, 3, 0, 0) := rfl
theorem pX11_199 : zPlf PX11 199 = some (3, 4, 0, 0) := rfl
theorem pX11_201 : zPlf PX11 201 = some (3, 5, 0, 0) := rfl
theorem pX11_203 : zPlf PX11 203 = some (3, 7, 0, 0) := rfl
theorem pX11_208 : zPlf PX11 208 = some (3, 8, 0, 0) := rfl
theorem pX11_214 : zPlf PX11 214 = some (3, 9, 0, 0) := rfl
theorem pX11_216 : zPlf PX11 216 = some (3, 6, 0, 0) := rfl
theorem pX11_217 : zPlf PX11 217 = some (3, 1, 0, 0) := rfl
theorem pX11_294 : zPlf PX11 294 = some (1, 0, 0, 1103515245) := rfl
theorem pX11_386 : zPlf PX11 386 = some (2, 0, 0, 1152921504606846976) := rfl
theorem pX11_388 : zPlf PX11 388 = some (2, 0, 0, 10000) := rfl
theorem pX11_403 : zPlf PX11 403 = some (2, 0, 0, 150000) := rfl
theorem pX11_405 : zPlf PX11 405 = some (0, 11, 22, 1) := rfl
theorem pX11_408 : zPlf PX11 408 = some (0, 11, 23, 1) := rfl
