/-! CONSTANTS, and facts of the methods, read off. -/
section WSUP
variable {st : List Value}
theorem w_cn2b : q_op (.bipush (-2)) st = some (2, .int (-2 : Int32) :: st) := by
  show some (2, Value.int ((Int8.ofInt (-2)).toInt32) :: st) = _
  rw [show (Int8.ofInt (-2)).toInt32 = (-2 : Int32) from by decide]
theorem w_c6b : q_op (.bipush 6) st = some (2, .int (6 : Int32) :: st) := by
  show some (2, Value.int ((Int8.ofInt (6)).toInt32) :: st) = _
  rw [show (Int8.ofInt (6)).toInt32 = (6 : Int32) from by decide]
theorem w_c7b : q_op (.bipush 7) st = some (2, .int (7 : Int32) :: st) := by
  show some (2, Value.int ((Int8.ofInt (7)).toInt32) :: st) = _
  rw [show (Int8.ofInt (7)).toInt32 = (7 : Int32) from by decide]
theorem w_c8b : q_op (.bipush 8) st = some (2, .int (8 : Int32) :: st) := by
  show some (2, Value.int ((Int8.ofInt (8)).toInt32) :: st) = _
  rw [show (Int8.ofInt (8)).toInt32 = (8 : Int32) from by decide]
theorem w_c9b : q_op (.bipush 9) st = some (2, .int (9 : Int32) :: st) := by
  show some (2, Value.int ((Int8.ofInt (9)).toInt32) :: st) = _
  rw [show (Int8.ofInt (9)).toInt32 = (9 : Int32) from by decide]
theorem w_c10b : q_op (.bipush 10) st = some (2, .int (10 : Int32) :: st) := by
  show some (2, Value.int ((Int8.ofInt (10)).toInt32) :: st) = _
  rw [show (Int8.ofInt (10)).toInt32 = (10 : Int32) from by decide]
theorem w_c12b : q_op (.bipush 12) st = some (2, .int (12 : Int32) :: st) := by
  show some (2, Value.int ((Int8.ofInt (12)).toInt32) :: st) = _
  rw [show (Int8.ofInt (12)).toInt32 = (12 : Int32) from by decide]
theorem w_c14b : q_op (.bipush 14) st = some (2, .int (14 : Int32) :: st) := by
  show some (2, Value.int ((Int8.ofInt (14)).toInt32) :: st) = _
  rw [show (Int8.ofInt (14)).toInt32 = (14 : Int32) from by decide]
theorem w_c15b : q_op (.bipush 15) st = some (2, .int (15 : Int32) :: st) := by
  show some (2, Value.int ((Int8.ofInt (15)).toInt32) :: st) = _
  rw [show (Int8.ofInt (15)).toInt32 = (15 : Int32) from by decide]
theorem w_c16b : q_op (.bipush 16) st = some (2, .int (16 : Int32) :: st) := by
  show some (2, Value.int ((Int8.ofInt (16)).toInt32) :: st) = _
  rw [show (Int8.ofInt (16)).toInt32 = (16 : Int32) from by decide]
theorem w_c20b : q_op (.bipush 20) st = some (2, .int (20 : Int32) :: st) := by
  show some (2, Value.int ((Int8.ofInt (20)).toInt32) :: st) = _
  rw [show (Int8.ofInt (20)).toInt32 = (20 : Int32) from by decide]
theorem w_c24b : q_op (.bipush 24) st = some (2, .int (24 : Int32) :: st) := by
  show some (2, Value.int ((Int8.ofInt (24)).toInt32) :: st) = _
  rw [show (Int8.ofInt (24)).toInt32 = (24 : Int32) from by decide]
theorem w_c32b : q_op (.bipush 32) st = some (2, .int (32 : Int32) :: st) := by
  show some (2, Value.int ((Int8.ofInt (32)).toInt32) :: st) = _
  rw [show (Int8.ofInt (32)).toInt32 = (32 : Int32) from by decide]
theorem w_c33b : q_op (.bipush 33) st = some (2, .int (33 : Int32) :: st) := by
  show some (2, Value.int ((Int8.ofInt (33)).toInt32) :: st) = _
  rw [show (Int8.ofInt (33)).toInt32 = (33 : Int32) from by decide]
theorem w_c38b : q_op (.bipush 38) st = some (2, .int (38 : Int32) :: st) := by
  show some (2, Value.int ((Int8.ofInt (38)).toInt32) :: st) = _
  rw [show (Int8.ofInt (38)).toInt32 = (38 : Int32) from by decide]
theorem w_c40b : q_op (.bipush 40) st = some (2, .int (40 : Int32) :: st) := by
  show some (2, Value.int ((Int8.ofInt (40)).toInt32) :: st) = _
  rw [show (Int8.ofInt (40)).toInt32 = (40 : Int32) from by decide]
theorem w_c41b : q_op (.bipush 41) st = some (2, .int (41 : Int32) :: st) := by
  show some (2, Value.int ((Int8.ofInt (41)).toInt32) :: st) = _
  rw [show (Int8.ofInt (41)).toInt32 = (41 : Int32) from by decide]
theorem w_c42b : q_op (.bipush 42) st = some (2, .int (42 : Int32) :: st) := by
  show some (2, Value.int ((Int8.ofInt (42)).toInt32) :: st) = _
  rw [show (Int8.ofInt (42)).toInt32 = (42 : Int32) from by decide]
theorem w_c43b : q_op (.bipush 43) st = some (2, .int (43 : Int32) :: st) := by
  show some (2, Value.int ((Int8.ofInt (43)).toInt32) :: st) = _
  rw [show (Int8.ofInt (43)).toInt32 = (43 : Int32) from by decide]
theorem w_c44b : q_op (.bipush 44) st = some (2, .int (44 : Int32) :: st) := by
  show some (2, Value.int ((Int8.ofInt (44)).toInt32) :: st) = _
  rw [show (Int8.ofInt (44)).toInt32 = (44 : Int32) from by decide]
theorem w_c45b : q_op (.bipush 45) st = some (2, .int (45 : Int32) :: st) := by
  show some (2, Value.int ((Int8.ofInt (45)).toInt32) :: st) = _
  rw [show (Int8.ofInt (45)).toInt32 = (45 : Int32) from by decide]
theorem w_c46b : q_op (.bipush 46) st = some (2, .int (46 : Int32) :: st) := by
  show some (2, Value.int ((Int8.ofInt (46)).toInt32) :: st) = _
  rw [show (Int8.ofInt (46)).toInt32 = (46 : Int32) from by decide]
theorem w_c48b : q_op (.bipush 48) st = some (2, .int (48 : Int32) :: st) := by
  show some (2, Value.int ((Int8.ofInt (48)).toInt32) :: st) = _
  rw [show (Int8.ofInt (48)).toInt32 = (48 : Int32) from by decide]
theorem w_c50b : q_op (.bipush 50) st = some (2, .int (50 : Int32) :: st) := by
  show some (2, Value.int ((Int8.ofInt (50)).toInt32) :: st) = _
  rw [show (Int8.ofInt (50)).toInt32 = (50 : Int32) from by decide]
theorem w_c56b : q_op (.bipush 56) st = some (2, .int (56 : Int32) :: st) := by
  show some (2, Value.int ((Int8.ofInt (56)).toInt32) :: st) = _
  rw [show (Int8.ofInt (56)).toInt32 = (56 : Int32) from by decide]
theorem w_c57b : q_op (.bipush 57) st = some (2, .int (57 : Int32) :: st) := by
  show some (2, Value.int ((Int8.ofInt (57)).toInt32) :: st) = _
  rw [show (Int8.ofInt (57)).toInt32 = (57 : Int32) from by decide]
theorem w_c60b : q_op (.bipush 60) st = some (2, .int (60 : Int32) :: st) := by
  show some (2, Value.int ((Int8.ofInt (60)).toInt32) :: st) = _
  rw [show (Int8.ofInt (60)).toInt32 = (60 : Int32) from by decide]
theorem w_c61b : q_op (.bipush 61) st = some (2, .int (61 : Int32) :: st) := by
  show some (2, Value.int ((Int8.ofInt (61)).toInt32) :: st) = _
  rw [show (Int8.ofInt (61)).toInt32 = (61 : Int32) from by decide]
theorem w_c64b : q_op (.bipush 64) st = some (2, .int (64 : Int32) :: st) := by
  show some (2, Value.int ((Int8.ofInt (64)).toInt32) :: st) = _
  rw [show (Int8.ofInt (64)).toInt32 = (64 : Int32) from by decide]
theorem w_c95b : q_op (.bipush 95) st = some (2, .int (95 : Int32) :: st) := by
  show some (2, Value.int ((Int8.ofInt (95)).toInt32) :: st) = _
  rw [show (Int8.ofInt (95)).toInt32 = (95 : Int32) from by decide]
theorem w_c97b : q_op (.bipush 97) st = some (2, .int (97 : Int32) :: st) := by
  show some (2, Value.int ((Int8.ofInt (97)).toInt32) :: st) = _
  rw [show (Int8.ofInt (97)).toInt32 = (97 : Int32) from by decide]
theorem w_c100b : q_op (.bipush 100) st = some (2, .int (100 : Int32) :: st) := by
  show some (2, Value.int ((Int8.ofInt (100)).toInt32) :: st) = _
  rw [show (Int8.ofInt (100)).toInt32 = (100 : Int32) from by decide]
theorem w_c101b : q_op (.bipush 101) st = some (2, .int (101 : Int32) :: st) := by
  show some (2, Value.int ((Int8.ofInt (101)).toInt32) :: st) = _
  rw [show (Int8.ofInt (101)).toInt32 = (101 : Int32) from by decide]
theorem w_c120b : q_op (.bipush 120) st = some (2, .int (120 : Int32) :: st) := by
  show some (2, Value.int ((Int8.ofInt (120)).toInt32) :: st) = _
  rw [show (Int8.ofInt (120)).toInt32 = (120 : Int32) from by decide]
theorem w_c122b : q_op (.bipush 122) st = some (2, .int (122 : Int32) :: st) := by
  show some (2, Value.int ((Int8.ofInt (122)).toInt32) :: st) = _
  rw [show (Int8.ofInt (122)).toInt32 = (122 : Int32) from by decide]
theorem w_c123b : q_op (.bipush 123) st = some (2, .int (123 : Int32) :: st) := by
  show some (2, Value.int ((Int8.ofInt (123)).toInt32) :: st) = _
  rw [show (Int8.ofInt (123)).toInt32 = (123 : Int32) from by decide]
theorem w_c124b : q_op (.bipush 124) st = some (2, .int (124 : Int32) :: st) := by
  show some (2, Value.int ((Int8.ofInt (124)).toInt32) :: st) = _
  rw [show (Int8.ofInt (124)).toInt32 = (124 : Int32) from by decide]
theorem w_c125b : q_op (.bipush 125) st = some (2, .int (125 : Int32) :: st) := by
  show some (2, Value.int ((Int8.ofInt (125)).toInt32) :: st) = _
  rw [show (Int8.ofInt (125)).toInt32 = (125 : Int32) from by decide]
theorem w_c126b : q_op (.bipush 126) st = some (2, .int (126 : Int32) :: st) := by
  show some (2, Value.int ((Int8.ofInt (126)).toInt32) :: st) = _
  rw [show (Int8.ofInt (126)).toInt32 = (126 : Int32) from by decide]
theorem w_cn1i : q_op (.iconst (-1)) st = some (1, .int (-1 : Int32) :: st) := by
  show some (1, Value.int (Int32.ofInt (-1)) :: st) = _
  rw [show Int32.ofInt (-1) = (-1 : Int32) from by decide]
theorem w_c0i : q_op (.iconst 0) st = some (1, .int (0 : Int32) :: st) := by
  show some (1, Value.int (Int32.ofInt (0)) :: st) = _
  rw [show Int32.ofInt (0) = (0 : Int32) from by decide]
theorem w_c1i : q_op (.iconst 1) st = some (1, .int (1 : Int32) :: st) := by
  show some (1, Value.int (Int32.ofInt (1)) :: st) = _
  rw [show Int32.ofInt (1) = (1 : Int32) from by decide]
theorem w_c2i : q_op (.iconst 2) st = some (1, .int (2 : Int32) :: st) := by
  show some (1, Value.int (Int32.ofInt (2)) :: st) = _
  rw [show Int32.ofInt (2) = (2 : Int32) from by decide]
theorem w_c3i : q_op (.iconst 3) st = some (1, .int (3 : Int32) :: st) := by
  show some (1, Value.int (Int32.ofInt (3)) :: st) = _
  rw [show Int32.ofInt (3) = (3 : Int32) from by decide]
theorem w_c4i : q_op (.iconst 4) st = some (1, .int (4 : Int32) :: st) := by
  show some (1, Value.int (Int32.ofInt (4)) :: st) = _
  rw [show Int32.ofInt (4) = (4 : Int32) from by decide]
theorem w_c5i : q_op (.iconst 5) st = some (1, .int (5 : Int32) :: st) := by
  show some (1, Value.int (Int32.ofInt (5)) :: st) = _
  rw [show Int32.ofInt (5) = (5 : Int32) from by decide]
theorem w_c140s : q_op (.sipush 140) st = some (3, .int (140 : Int32) :: st) := by
  show some (3, Value.int ((Int16.ofInt (140)).toInt32) :: st) = _
  rw [show (Int16.ofInt (140)).toInt32 = (140 : Int32) from by decide]
theorem w_c200s : q_op (.sipush 200) st = some (3, .int (200 : Int32) :: st) := by
  show some (3, Value.int ((Int16.ofInt (200)).toInt32) :: st) = _
  rw [show (Int16.ofInt (200)).toInt32 = (200 : Int32) from by decide]
theorem w_c201s : q_op (.sipush 201) st = some (3, .int (201 : Int32) :: st) := by
  show some (3, Value.int ((Int16.ofInt (201)).toInt32) :: st) = _
  rw [show (Int16.ofInt (201)).toInt32 = (201 : Int32) from by decide]
theorem w_c202s : q_op (.sipush 202) st = some (3, .int (202 : Int32) :: st) := by
  show some (3, Value.int ((Int16.ofInt (202)).toInt32) :: st) = _
  rw [show (Int16.ofInt (202)).toInt32 = (202 : Int32) from by decide]
theorem w_c203s : q_op (.sipush 203) st = some (3, .int (203 : Int32) :: st) := by
  show some (3, Value.int ((Int16.ofInt (203)).toInt32) :: st) = _
  rw [show (Int16.ofInt (203)).toInt32 = (203 : Int32) from by decide]
theorem w_c204s : q_op (.sipush 204) st = some (3, .int (204 : Int32) :: st) := by
  show some (3, Value.int ((Int16.ofInt (204)).toInt32) :: st) = _
  rw [show (Int16.ofInt (204)).toInt32 = (204 : Int32) from by decide]
theorem w_c205s : q_op (.sipush 205) st = some (3, .int (205 : Int32) :: st) := by
  show some (3, Value.int ((Int16.ofInt (205)).toInt32) :: st) = _
  rw [show (Int16.ofInt (205)).toInt32 = (205 : Int32) from by decide]
theorem w_c255s : q_op (.sipush 255) st = some (3, .int (255 : Int32) :: st) := by
  show some (3, Value.int ((Int16.ofInt (255)).toInt32) :: st) = _
  rw [show (Int16.ofInt (255)).toInt32 = (255 : Int32) from by decide]
theorem w_c300s : q_op (.sipush 300) st = some (3, .int (300 : Int32) :: st) := by
  show some (3, Value.int ((Int16.ofInt (300)).toInt32) :: st) = _
  rw [show (Int16.ofInt (300)).toInt32 = (300 : Int32) from by decide]
theorem w_c301s : q_op (.sipush 301) st = some (3, .int (301 : Int32) :: st) := by
  show some (3, Value.int ((Int16.ofInt (301)).toInt32) :: st) = _
  rw [show (Int16.ofInt (301)).toInt32 = (301 : Int32) from by decide]
theorem w_c302s : q_op (.sipush 302) st = some (3, .int (302 : Int32) :: st) := by
  show some (3, Value.int ((Int16.ofInt (302)).toInt32) :: st) = _
  rw [show (Int16.ofInt (302)).toInt32 = (302 : Int32) from by decide]
theorem w_c303s : q_op (.sipush 303) st = some (3, .int (303 : Int32) :: st) := by
  show some (3, Value.int ((Int16.ofInt (303)).toInt32) :: st) = _
  rw [show (Int16.ofInt (303)).toInt32 = (303 : Int32) from by decide]
theorem w_c304s : q_op (.sipush 304) st = some (3, .int (304 : Int32) :: st) := by
  show some (3, Value.int ((Int16.ofInt (304)).toInt32) :: st) = _
  rw [show (Int16.ofInt (304)).toInt32 = (304 : Int32) from by decide]
theorem w_c305s : q_op (.sipush 305) st = some (3, .int (305 : Int32) :: st) := by
  show some (3, Value.int ((Int16.ofInt (305)).toInt32) :: st) = _
  rw [show (Int16.ofInt (305)).toInt32 = (305 : Int32) from by decide]
theorem w_c306s : q_op (.sipush 306) st = some (3, .int (306 : Int32) :: st) := by
  show some (3, Value.int ((Int16.ofInt (306)).toInt32) :: st) = _
  rw [show (Int16.ofInt (306)).toInt32 = (306 : Int32) from by decide]
theorem w_c307s : q_op (.sipush 307) st = some (3, .int (307 : Int32) :: st) := by
  show some (3, Value.int ((Int16.ofInt (307)).toInt32) :: st) = _
  rw [show (Int16.ofInt (307)).toInt32 = (307 : Int32) from by decide]
theorem w_c308s : q_op (.sipush 308) st = some (3, .int (308 : Int32) :: st) := by
  show some (3, Value.int ((Int16.ofInt (308)).toInt32) :: st) = _
  rw [show (Int16.ofInt (308)).toInt32 = (308 : Int32) from by decide]
theorem w_c309s : q_op (.sipush 309) st = some (3, .int (309 : Int32) :: st) := by
  show some (3, Value.int ((Int16.ofInt (309)).toInt32) :: st) = _
  rw [show (Int16.ofInt (309)).toInt32 = (309 : Int32) from by decide]
theorem w_c310s : q_op (.sipush 310) st = some (3, .int (310 : Int32) :: st) := by
  show some (3, Value.int ((Int16.ofInt (310)).toInt32) :: st) = _
  rw [show (Int16.ofInt (310)).toInt32 = (310 : Int32) from by decide]
theorem w_c312s : q_op (.sipush 312) st = some (3, .int (312 : Int32) :: st) := by
  show some (3, Value.int ((Int16.ofInt (312)).toInt32) :: st) = _
  rw [show (Int16.ofInt (312)).toInt32 = (312 : Int32) from by decide]
theorem w_c606s : q_op (.sipush 606) st = some (3, .int (606 : Int32) :: st) := by
  show some (3, Value.int ((Int16.ofInt (606)).toInt32) :: st) = _
  rw [show (Int16.ofInt (606)).toInt32 = (606 : Int32) from by decide]
theorem w_c707s : q_op (.sipush 707) st = some (3, .int (707 : Int32) :: st) := by
  show some (3, Value.int ((Int16.ofInt (707)).toInt32) :: st) = _
  rw [show (Int16.ofInt (707)).toInt32 = (707 : Int32) from by decide]
theorem w_c1045s : q_op (.sipush 1045) st = some (3, .int (1045 : Int32) :: st) := by
  show some (3, Value.int ((Int16.ofInt (1045)).toInt32) :: st) = _
  rw [show (Int16.ofInt (1045)).toInt32 = (1045 : Int32) from by decide]
end WSUP
theorem m0 : (q_mm 0).2.2.2.2.2.1 = 1 ∧ (q_mm 0).2.2.1 = 2 ∧ (q_mm 0).2.2.2.2.2.2.1 = 1 ∧ (q_mm 0).2.2.2.1 = none ∧ (q_mm 0).2.2.2.2.2.2.2 = [] := by decide +kernel
theorem m1 : (q_mm 1).2.2.2.2.2.1 = 1 ∧ (q_mm 1).2.2.1 = 1 ∧ (q_mm 1).2.2.2.2.2.2.1 = 2 ∧ (q_mm 1).2.2.2.1 = none ∧ (q_mm 1).2.2.2.2.2.2.2 = [] := by decide +kernel
theorem m2 : (q_mm 2).2.2.2.2.2.1 = 1 ∧ (q_mm 2).2.2.1 = 1 ∧ (q_mm 2).2.2.2.2.2.2.1 = 3 ∧ (q_mm 2).2.2.2.1 = none ∧ (q_mm 2).2.2.2.2.2.2.2 = [] := by decide +kernel
theorem m3 : (q_mm 3).2.2.2.2.2.1 = 1 ∧ (q_mm 3).2.2.1 = 2 ∧ (q_mm 3).2.2.2.2.2.2.1 = 4 ∧ (q_mm 3).2.2.2.1 = none ∧ (q_mm 3).2.2.2.2.2.2.2 = [] := by decide +kernel
theorem m4 : (q_mm 4).2.2.2.2.2.1 = 1 ∧ (q_mm 4).2.2.1 = 1 ∧ (q_mm 4).2.2.2.2.2.2.1 = 5 ∧ (q_mm 4).2.2.2.1 = none ∧ (q_mm 4).2.2.2.2.2.2.2 = [] := by decide +kernel
theorem m5 : (q_mm 5).2.2.2.2.2.1 = 2 ∧ (q_mm 5).2.2.1 = 2 ∧ (q_mm 5).2.2.2.2.2.2.1 = 6 ∧ (q_mm 5).2.2.2.1 = none ∧ (q_mm 5).2.2.2.2.2.2.2 = [] := by decide +kernel
theorem m6 : (q_mm 6).2.2.2.2.2.1 = 1 ∧ (q_mm 6).2.2.1 = 1 ∧ (q_mm 6).2.2.2.2.2.2.1 = 7 ∧ (q_mm 6).2.2.2.1 = none ∧ (q_mm 6).2.2.2.2.2.2.2 = [] := by decide +kernel
theorem m7 : (q_mm 7).2.2.2.2.2.1 = 3 ∧ (q_mm 7).2.2.1 = 3 ∧ (q_mm 7).2.2.2.2.2.2.1 = 8 ∧ (q_mm 7).2.2.2.1 = none ∧ (q_mm 7).2.2.2.2.2.2.2 = [] := by decide +kernel
theorem m8 : (q_mm 8).2.2.2.2.2.1 = 4 ∧ (q_mm 8).2.2.1 = 4 ∧ (q_mm 8).2.2.2.2.2.2.1 = 9 ∧ (q_mm 8).2.2.2.1 = none ∧ (q_mm 8).2.2.2.2.2.2.2 = [] := by decide +kernel
theorem m9 : (q_mm 9).2.2.2.2.2.1 = 1 ∧ (q_mm 9).2.2.1 = 1 ∧ (q_mm 9).2.2.2.2.2.2.1 = 1 ∧ (q_mm 9).2.2.2.1 = (some FieldType.int) ∧ (q_mm 9).2.2.2.2.2.2.2 = [] := by decide +kernel
theorem m10 : (q_mm 10).2.2.2.2.2.1 = 2 ∧ (q_mm 10).2.2.1 = 2 ∧ (q_mm 10).2.2.2.2.2.2.1 = 1 ∧ (q_mm 10).2.2.2.1 = (some FieldType.int) ∧ (q_mm 10).2.2.2.2.2.2.2 = [] := by decide +kernel
theorem m11 : (q_mm 11).2.2.2.2.2.1 = 2 ∧ (q_mm 11).2.2.1 = 2 ∧ (q_mm 11).2.2.2.2.2.2.1 = 0 ∧ (q_mm 11).2.2.2.1 = (some FieldType.boolean) ∧ (q_mm 11).2.2.2.2.2.2.2 = [] := by decide +kernel
theorem m12 : (q_mm 12).2.2.2.2.2.1 = 2 ∧ (q_mm 12).2.2.1 = 2 ∧ (q_mm 12).2.2.2.2.2.2.1 = 1 ∧ (q_mm 12).2.2.2.1 = (some FieldType.int) ∧ (q_mm 12).2.2.2.2.2.2.2 = [] := by decide +kernel
theorem m13 : (q_mm 13).2.2.2.2.2.1 = 1 ∧ (q_mm 13).2.2.1 = 3 ∧ (q_mm 13).2.2.2.2.2.2.1 = 1 ∧ (q_mm 13).2.2.2.1 = (some FieldType.int) ∧ (q_mm 13).2.2.2.2.2.2.2 = [] := by decide +kernel
theorem m14 : (q_mm 14).2.2.2.2.2.1 = 1 ∧ (q_mm 14).2.2.1 = 3 ∧ (q_mm 14).2.2.2.2.2.2.1 = 4 ∧ (q_mm 14).2.2.2.1 = (some FieldType.int) ∧ (q_mm 14).2.2.2.2.2.2.2 = [] := by decide +kernel
theorem m15 : (q_mm 15).2.2.2.2.2.1 = 2 ∧ (q_mm 15).2.2.1 = 2 ∧ (q_mm 15).2.2.2.2.2.2.1 = 4 ∧ (q_mm 15).2.2.2.1 = (some FieldType.boolean) ∧ (q_mm 15).2.2.2.2.2.2.2 = [] := by decide +kernel
theorem m16 : (q_mm 16).2.2.2.2.2.1 = 1 ∧ (q_mm 16).2.2.1 = 3 ∧ (q_mm 16).2.2.2.2.2.2.1 = 1 ∧ (q_mm 16).2.2.2.1 = (some FieldType.int) ∧ (q_mm 16).2.2.2.2.2.2.2 = [] := by decide +kernel
theorem m17 : (q_mm 17).2.2.2.2.2.1 = 2 ∧ (q_mm 17).2.2.1 = 3 ∧ (q_mm 17).2.2.2.2.2.2.1 = 1 ∧ (q_mm 17).2.2.2.1 = (some FieldType.int) ∧ (q_mm 17).2.2.2.2.2.2.2 = [] := by decide +kernel
theorem m18 : (q_mm 18).2.2.2.2.2.1 = 3 ∧ (q_mm 18).2.2.1 = 5 ∧ (q_mm 18).2.2.2.2.2.2.1 = 0 ∧ (q_mm 18).2.2.2.1 = (some FieldType.int) ∧ (q_mm 18).2.2.2.2.2.2.2 = [(0, 9, 12, 10), (0, 9, 16, 11)] := by decide +kernel
theorem m19 : (q_mm 19).2.2.2.2.2.1 = 2 ∧ (q_mm 19).2.2.1 = 6 ∧ (q_mm 19).2.2.2.2.2.2.1 = 1 ∧ (q_mm 19).2.2.2.1 = (some FieldType.int) ∧ (q_mm 19).2.2.2.2.2.2.2 = [] := by decide +kernel
theorem m20 : (q_mm 20).2.2.2.2.2.1 = 2 ∧ (q_mm 20).2.2.1 = 3 ∧ (q_mm 20).2.2.2.2.2.2.1 = 0 ∧ (q_mm 20).2.2.2.1 = (some FieldType.int) ∧ (q_mm 20).2.2.2.2.2.2.2 = [] := by decide +kernel
theorem m21 : (q_mm 21).2.2.2.2.2.1 = 2 ∧ (q_mm 21).2.2.1 = 2 ∧ (q_mm 21).2.2.2.2.2.2.1 = 1 ∧ (q_mm 21).2.2.2.1 = none ∧ (q_mm 21).2.2.2.2.2.2.2 = [] := by decide +kernel
theorem m22 : (q_mm 22).2.2.2.2.2.1 = 3 ∧ (q_mm 22).2.2.1 = 4 ∧ (q_mm 22).2.2.2.2.2.2.1 = 0 ∧ (q_mm 22).2.2.2.1 = (some FieldType.int) ∧ (q_mm 22).2.2.2.2.2.2.2 = [(0, 9, 12, 10)] := by decide +kernel
theorem m23 : (q_mm 23).2.2.2.2.2.1 = 2 ∧ (q_mm 23).2.2.1 = 3 ∧ (q_mm 23).2.2.2.2.2.2.1 = 1 ∧ (q_mm 23).2.2.2.1 = (some FieldType.int) ∧ (q_mm 23).2.2.2.2.2.2.2 = [] := by decide +kernel
theorem m24 : (q_mm 24).2.2.2.2.2.1 = 2 ∧ (q_mm 24).2.2.1 = 2 ∧ (q_mm 24).2.2.2.2.2.2.1 = 0 ∧ (q_mm 24).2.2.2.1 = none ∧ (q_mm 24).2.2.2.2.2.2.2 = [] := by decide +kernel
theorem m25 : (q_mm 25).2.2.2.2.2.1 = 4 ∧ (q_mm 25).2.2.1 = 4 ∧ (q_mm 25).2.2.2.2.2.2.1 = 6 ∧ (q_mm 25).2.2.2.1 = (some FieldType.int) ∧ (q_mm 25).2.2.2.2.2.2.2 = [] := by decide +kernel
theorem m26 : (q_mm 26).2.2.2.2.2.1 = 3 ∧ (q_mm 26).2.2.1 = 6 ∧ (q_mm 26).2.2.2.2.2.2.1 = 7 ∧ (q_mm 26).2.2.2.1 = none ∧ (q_mm 26).2.2.2.2.2.2.2 = [] := by decide +kernel
theorem m27 : (q_mm 27).2.2.2.2.2.1 = 2 ∧ (q_mm 27).2.2.1 = 2 ∧ (q_mm 27).2.2.2.2.2.2.1 = 0 ∧ (q_mm 27).2.2.2.1 = (some FieldType.int) ∧ (q_mm 27).2.2.2.2.2.2.2 = [] := by decide +kernel
theorem m28 : (q_mm 28).2.2.2.2.2.1 = 2 ∧ (q_mm 28).2.2.1 = 3 ∧ (q_mm 28).2.2.2.2.2.2.1 = 7 ∧ (q_mm 28).2.2.2.1 = (some FieldType.int) ∧ (q_mm 28).2.2.2.2.2.2.2 = [] := by decide +kernel
theorem m29 : (q_mm 29).2.2.2.2.2.1 = 2 ∧ (q_mm 29).2.2.1 = 4 ∧ (q_mm 29).2.2.2.2.2.2.1 = 7 ∧ (q_mm 29).2.2.2.1 = (some FieldType.int) ∧ (q_mm 29).2.2.2.2.2.2.2 = [] := by decide +kernel
theorem m30 : (q_mm 30).2.2.2.2.2.1 = 1 ∧ (q_mm 30).2.2.1 = 1 ∧ (q_mm 30).2.2.2.2.2.2.1 = 0 ∧ (q_mm 30).2.2.2.1 = (some FieldType.boolean) ∧ (q_mm 30).2.2.2.2.2.2.2 = [] := by decide +kernel
theorem m31 : (q_mm 31).2.2.2.2.2.1 = 2 ∧ (q_mm 31).2.2.1 = 4 ∧ (q_mm 31).2.2.2.2.2.2.1 = 7 ∧ (q_mm 31).2.2.2.1 = (some FieldType.int) ∧ (q_mm 31).2.2.2.2.2.2.2 = [] := by decide +kernel
theorem m32 : (q_mm 32).2.2.2.2.2.1 = 2 ∧ (q_mm 32).2.2.1 = 3 ∧ (q_mm 32).2.2.2.2.2.2.1 = 7 ∧ (q_mm 32).2.2.2.1 = (some FieldType.int) ∧ (q_mm 32).2.2.2.2.2.2.2 = [] := by decide +kernel
theorem m33 : (q_mm 33).2.2.2.2.2.1 = 3 ∧ (q_mm 33).2.2.1 = 5 ∧ (q_mm 33).2.2.2.2.2.2.1 = 7 ∧ (q_mm 33).2.2.2.1 = (some FieldType.int) ∧ (q_mm 33).2.2.2.2.2.2.2 = [] := by decide +kernel
theorem m34 : (q_mm 34).2.2.2.2.2.1 = 4 ∧ (q_mm 34).2.2.1 = 4 ∧ (q_mm 34).2.2.2.2.2.2.1 = 7 ∧ (q_mm 34).2.2.2.1 = none ∧ (q_mm 34).2.2.2.2.2.2.2 = [] := by decide +kernel
theorem m35 : (q_mm 35).2.2.2.2.2.1 = 2 ∧ (q_mm 35).2.2.1 = 6 ∧ (q_mm 35).2.2.2.2.2.2.1 = 7 ∧ (q_mm 35).2.2.2.1 = (some FieldType.int) ∧ (q_mm 35).2.2.2.2.2.2.2 = [] := by decide +kernel
theorem m36 : (q_mm 36).2.2.2.2.2.1 = 1 ∧ (q_mm 36).2.2.1 = 1 ∧ (q_mm 36).2.2.2.2.2.2.1 = 0 ∧ (q_mm 36).2.2.2.1 = (some FieldType.boolean) ∧ (q_mm 36).2.2.2.2.2.2.2 = [] := by decide +kernel
theorem m37 : (q_mm 37).2.2.2.2.2.1 = 2 ∧ (q_mm 37).2.2.1 = 3 ∧ (q_mm 37).2.2.2.2.2.2.1 = 7 ∧ (q_mm 37).2.2.2.1 = (some FieldType.int) ∧ (q_mm 37).2.2.2.2.2.2.2 = [] := by decide +kernel
theorem m38 : (q_mm 38).2.2.2.2.2.1 = 2 ∧ (q_mm 38).2.2.1 = 3 ∧ (q_mm 38).2.2.2.2.2.2.1 = 7 ∧ (q_mm 38).2.2.2.1 = (some FieldType.int) ∧ (q_mm 38).2.2.2.2.2.2.2 = [] := by decide +kernel
theorem m39 : (q_mm 39).2.2.2.2.2.1 = 3 ∧ (q_mm 39).2.2.1 = 4 ∧ (q_mm 39).2.2.2.2.2.2.1 = 0 ∧ (q_mm 39).2.2.2.1 = (some (FieldType.object "PolicyForge$Sign")) ∧ (q_mm 39).2.2.2.2.2.2.2 = [] := by decide +kernel
theorem m40 : (q_mm 40).2.2.2.2.2.1 = 4 ∧ (q_mm 40).2.2.1 = 5 ∧ (q_mm 40).2.2.2.2.2.2.1 = 16 ∧ (q_mm 40).2.2.2.1 = (some FieldType.boolean) ∧ (q_mm 40).2.2.2.2.2.2.2 = [] := by decide +kernel
theorem m41 : (q_mm 41).2.2.2.2.2.1 = 1 ∧ (q_mm 41).2.2.1 = 1 ∧ (q_mm 41).2.2.2.2.2.2.1 = 17 ∧ (q_mm 41).2.2.2.1 = (some FieldType.int) ∧ (q_mm 41).2.2.2.2.2.2.2 = [] := by decide +kernel
theorem m42 : (q_mm 42).2.2.2.2.2.1 = 1 ∧ (q_mm 42).2.2.1 = 1 ∧ (q_mm 42).2.2.2.2.2.2.1 = 17 ∧ (q_mm 42).2.2.2.1 = (some FieldType.byte) ∧ (q_mm 42).2.2.2.2.2.2.2 = [] := by decide +kernel
theorem m43 : (q_mm 43).2.2.2.2.2.1 = 2 ∧ (q_mm 43).2.2.1 = 2 ∧ (q_mm 43).2.2.2.2.2.2.1 = 17 ∧ (q_mm 43).2.2.2.1 = (some FieldType.char) ∧ (q_mm 43).2.2.2.2.2.2.2 = [] := by decide +kernel
theorem m44 : (q_mm 44).2.2.2.2.2.1 = 1 ∧ (q_mm 44).2.2.1 = 1 ∧ (q_mm 44).2.2.2.2.2.2.1 = 17 ∧ (q_mm 44).2.2.2.1 = (some FieldType.boolean) ∧ (q_mm 44).2.2.2.2.2.2.2 = [] := by decide +kernel
theorem m45 : (q_mm 45).2.2.2.2.2.1 = 2 ∧ (q_mm 45).2.2.1 = 2 ∧ (q_mm 45).2.2.2.2.2.2.1 = 0 ∧ (q_mm 45).2.2.2.1 = (some FieldType.char) ∧ (q_mm 45).2.2.2.2.2.2.2 = [] := by decide +kernel
theorem m46 : (q_mm 46).2.2.2.2.2.1 = 2 ∧ (q_mm 46).2.2.1 = 2 ∧ (q_mm 46).2.2.2.2.2.2.1 = 0 ∧ (q_mm 46).2.2.2.1 = none ∧ (q_mm 46).2.2.2.2.2.2.2 = [] := by decide +kernel
theorem m47 : (q_mm 47).2.2.2.2.2.1 = 3 ∧ (q_mm 47).2.2.1 = 3 ∧ (q_mm 47).2.2.2.2.2.2.1 = 0 ∧ (q_mm 47).2.2.2.1 = (some FieldType.int) ∧ (q_mm 47).2.2.2.2.2.2.2 = [] := by decide +kernel
theorem m48 : (q_mm 48).2.2.2.2.2.1 = 1 ∧ (q_mm 48).2.2.1 = 1 ∧ (q_mm 48).2.2.2.2.2.2.1 = 2 ∧ (q_mm 48).2.2.2.1 = none ∧ (q_mm 48).2.2.2.2.2.2.2 = [] := by decide +kernel
theorem m49 : (q_mm 49).2.2.2.2.2.1 = 1 ∧ (q_mm 49).2.2.1 = 1 ∧ (q_mm 49).2.2.2.2.2.2.1 = 6 ∧ (q_mm 49).2.2.2.1 = (some FieldType.boolean) ∧ (q_mm 49).2.2.2.2.2.2.2 = [] := by decide +kernel
theorem m50 : (q_mm 50).2.2.2.2.2.1 = 1 ∧ (q_mm 50).2.2.1 = 1 ∧ (q_mm 50).2.2.2.2.2.2.1 = 7 ∧ (q_mm 50).2.2.2.1 = (some (FieldType.object "PolicyForge$Sign")) ∧ (q_mm 50).2.2.2.2.2.2.2 = [] := by decide +kernel
theorem m51 : (q_mm 51).2.2.2.2.2.1 = 2 ∧ (q_mm 51).2.2.1 = 2 ∧ (q_mm 51).2.2.2.2.2.2.1 = 7 ∧ (q_mm 51).2.2.2.1 = (some FieldType.boolean) ∧ (q_mm 51).2.2.2.2.2.2.2 = [] := by decide +kernel
theorem m52 : (q_mm 52).2.2.2.2.2.1 = 1 ∧ (q_mm 52).2.2.1 = 1 ∧ (q_mm 52).2.2.2.2.2.2.1 = 7 ∧ (q_mm 52).2.2.2.1 = none ∧ (q_mm 52).2.2.2.2.2.2.2 = [] := by decide +kernel
theorem m53 : (q_mm 53).2.2.2.2.2.1 = 2 ∧ (q_mm 53).2.2.1 = 3 ∧ (q_mm 53).2.2.2.2.2.2.1 = 6 ∧ (q_mm 53).2.2.2.1 = (some FieldType.boolean) ∧ (q_mm 53).2.2.2.2.2.2.2 = [] := by decide +kernel
theorem m54 : (q_mm 54).2.2.2.2.2.1 = 3 ∧ (q_mm 54).2.2.1 = 3 ∧ (q_mm 54).2.2.2.2.2.2.1 = 3 ∧ (q_mm 54).2.2.2.1 = none ∧ (q_mm 54).2.2.2.2.2.2.2 = [] := by decide +kernel
theorem m55 : (q_mm 55).2.2.2.2.2.1 = 1 ∧ (q_mm 55).2.2.1 = 1 ∧ (q_mm 55).2.2.2.2.2.2.1 = 7 ∧ (q_mm 55).2.2.2.1 = (some FieldType.int) ∧ (q_mm 55).2.2.2.2.2.2.2 = [] := by decide +kernel
theorem m56 : (q_mm 56).2.2.2.2.2.1 = 1 ∧ (q_mm 56).2.2.1 = 1 ∧ (q_mm 56).2.2.2.2.2.2.1 = 6 ∧ (q_mm 56).2.2.2.1 = (some FieldType.boolean) ∧ (q_mm 56).2.2.2.2.2.2.2 = [] := by decide +kernel
theorem m57 : (q_mm 57).2.2.2.2.2.1 = 1 ∧ (q_mm 57).2.2.1 = 2 ∧ (q_mm 57).2.2.2.2.2.2.1 = 6 ∧ (q_mm 57).2.2.2.1 = (some FieldType.boolean) ∧ (q_mm 57).2.2.2.2.2.2.2 = [] := by decide +kernel
theorem m58 : (q_mm 58).2.2.2.2.2.1 = 1 ∧ (q_mm 58).2.2.1 = 4 ∧ (q_mm 58).2.2.2.2.2.2.1 = 6 ∧ (q_mm 58).2.2.2.1 = (some FieldType.boolean) ∧ (q_mm 58).2.2.2.2.2.2.2 = [] := by decide +kernel
theorem m59 : (q_mm 59).2.2.2.2.2.1 = 1 ∧ (q_mm 59).2.2.1 = 1 ∧ (q_mm 59).2.2.2.2.2.2.1 = 7 ∧ (q_mm 59).2.2.2.1 = (some FieldType.int) ∧ (q_mm 59).2.2.2.2.2.2.2 = [] := by decide +kernel
theorem m60 : (q_mm 60).2.2.2.2.2.1 = 3 ∧ (q_mm 60).2.2.1 = 6 ∧ (q_mm 60).2.2.2.2.2.2.1 = 6 ∧ (q_mm 60).2.2.2.1 = (some FieldType.int) ∧ (q_mm 60).2.2.2.2.2.2.2 = [] := by decide +kernel
theorem m61 : (q_mm 61).2.2.2.2.2.1 = 2 ∧ (q_mm 61).2.2.1 = 5 ∧ (q_mm 61).2.2.2.2.2.2.1 = 6 ∧ (q_mm 61).2.2.2.1 = (some FieldType.int) ∧ (q_mm 61).2.2.2.2.2.2.2 = [] := by decide +kernel
theorem m62 : (q_mm 62).2.2.2.2.2.1 = 2 ∧ (q_mm 62).2.2.1 = 5 ∧ (q_mm 62).2.2.2.2.2.2.1 = 6 ∧ (q_mm 62).2.2.2.1 = (some FieldType.int) ∧ (q_mm 62).2.2.2.2.2.2.2 = [] := by decide +kernel
theorem m63 : (q_mm 63).2.2.2.2.2.1 = 2 ∧ (q_mm 63).2.2.1 = 2 ∧ (q_mm 63).2.2.2.2.2.2.1 = 6 ∧ (q_mm 63).2.2.2.1 = (some FieldType.int) ∧ (q_mm 63).2.2.2.2.2.2.2 = [] := by decide +kernel
theorem m64 : (q_mm 64).2.2.2.2.2.1 = 1 ∧ (q_mm 64).2.2.1 = 1 ∧ (q_mm 64).2.2.2.2.2.2.1 = 16 ∧ (q_mm 64).2.2.2.1 = (some FieldType.int) ∧ (q_mm 64).2.2.2.2.2.2.2 = [] := by decide +kernel
theorem m65 : (q_mm 65).2.2.2.2.2.1 = 1 ∧ (q_mm 65).2.2.1 = 2 ∧ (q_mm 65).2.2.2.2.2.2.1 = 6 ∧ (q_mm 65).2.2.2.1 = (some FieldType.int) ∧ (q_mm 65).2.2.2.2.2.2.2 = [] := by decide +kernel
theorem m66 : (q_mm 66).2.2.2.2.2.1 = 6 ∧ (q_mm 66).2.2.1 = 6 ∧ (q_mm 66).2.2.2.2.2.2.1 = 2 ∧ (q_mm 66).2.2.2.1 = (some FieldType.int) ∧ (q_mm 66).2.2.2.2.2.2.2 = [] := by decide +kernel
theorem m67 : (q_mm 67).2.2.2.2.2.1 = 2 ∧ (q_mm 67).2.2.1 = 3 ∧ (q_mm 67).2.2.2.2.2.2.1 = 6 ∧ (q_mm 67).2.2.2.1 = (some FieldType.int) ∧ (q_mm 67).2.2.2.2.2.2.2 = [] := by decide +kernel
theorem m68 : (q_mm 68).2.2.2.2.2.1 = 4 ∧ (q_mm 68).2.2.1 = 5 ∧ (q_mm 68).2.2.2.2.2.2.1 = 6 ∧ (q_mm 68).2.2.2.1 = (some FieldType.int) ∧ (q_mm 68).2.2.2.2.2.2.2 = [] := by decide +kernel
theorem m69 : (q_mm 69).2.2.2.2.2.1 = 1 ∧ (q_mm 69).2.2.1 = 1 ∧ (q_mm 69).2.2.2.2.2.2.1 = 0 ∧ (q_mm 69).2.2.2.1 = (some FieldType.int) ∧ (q_mm 69).2.2.2.2.2.2.2 = [] := by decide +kernel
theorem m70 : (q_mm 70).2.2.2.2.2.1 = 4 ∧ (q_mm 70).2.2.1 = 7 ∧ (q_mm 70).2.2.2.2.2.2.1 = 6 ∧ (q_mm 70).2.2.2.1 = (some FieldType.int) ∧ (q_mm 70).2.2.2.2.2.2.2 = [] := by decide +kernel
theorem m71 : (q_mm 71).2.2.2.2.2.1 = 4 ∧ (q_mm 71).2.2.1 = 4 ∧ (q_mm 71).2.2.2.2.2.2.1 = 2 ∧ (q_mm 71).2.2.2.1 = (some FieldType.boolean) ∧ (q_mm 71).2.2.2.2.2.2.2 = [] := by decide +kernel
theorem m72 : (q_mm 72).2.2.2.2.2.1 = 1 ∧ (q_mm 72).2.2.1 = 1 ∧ (q_mm 72).2.2.2.2.2.2.1 = 7 ∧ (q_mm 72).2.2.2.1 = (some FieldType.int) ∧ (q_mm 72).2.2.2.2.2.2.2 = [] := by decide +kernel
theorem m73 : (q_mm 73).2.2.2.2.2.1 = 3 ∧ (q_mm 73).2.2.1 = 4 ∧ (q_mm 73).2.2.2.2.2.2.1 = 0 ∧ (q_mm 73).2.2.2.1 = (some FieldType.int) ∧ (q_mm 73).2.2.2.2.2.2.2 = [(0, 16, 19, 10)] := by decide +kernel
theorem m74 : (q_mm 74).2.2.2.2.2.1 = 2 ∧ (q_mm 74).2.2.1 = 3 ∧ (q_mm 74).2.2.2.2.2.2.1 = 1 ∧ (q_mm 74).2.2.2.1 = (some FieldType.boolean) ∧ (q_mm 74).2.2.2.2.2.2.2 = [] := by decide +kernel
theorem m75 : (q_mm 75).2.2.2.2.2.1 = 4 ∧ (q_mm 75).2.2.1 = 5 ∧ (q_mm 75).2.2.2.2.2.2.1 = 0 ∧ (q_mm 75).2.2.2.1 = (some FieldType.int) ∧ (q_mm 75).2.2.2.2.2.2.2 = [(0, 17, 20, 10)] := by decide +kernel
theorem m76 : (q_mm 76).2.2.2.2.2.1 = 3 ∧ (q_mm 76).2.2.1 = 4 ∧ (q_mm 76).2.2.2.2.2.2.1 = 1 ∧ (q_mm 76).2.2.2.1 = (some FieldType.boolean) ∧ (q_mm 76).2.2.2.2.2.2.2 = [] := by decide +kernel
theorem m77 : (q_mm 77).2.2.2.2.2.1 = 3 ∧ (q_mm 77).2.2.1 = 4 ∧ (q_mm 77).2.2.2.2.2.2.1 = 4 ∧ (q_mm 77).2.2.2.1 = none ∧ (q_mm 77).2.2.2.2.2.2.2 = [] := by decide +kernel
theorem m78 : (q_mm 78).2.2.2.2.2.1 = 5 ∧ (q_mm 78).2.2.1 = 5 ∧ (q_mm 78).2.2.2.2.2.2.1 = 4 ∧ (q_mm 78).2.2.2.1 = none ∧ (q_mm 78).2.2.2.2.2.2.2 = [] := by decide +kernel
theorem m79 : (q_mm 79).2.2.2.2.2.1 = 4 ∧ (q_mm 79).2.2.1 = 5 ∧ (q_mm 79).2.2.2.2.2.2.1 = 0 ∧ (q_mm 79).2.2.2.1 = (some FieldType.int) ∧ (q_mm 79).2.2.2.2.2.2.2 = [(0, 17, 20, 10), (0, 17, 24, 12), (0, 17, 28, 11)] := by decide +kernel
theorem m80 : (q_mm 80).2.2.2.2.2.1 = 3 ∧ (q_mm 80).2.2.1 = 3 ∧ (q_mm 80).2.2.2.2.2.2.1 = 1 ∧ (q_mm 80).2.2.2.1 = (some FieldType.boolean) ∧ (q_mm 80).2.2.2.2.2.2.2 = [] := by decide +kernel
theorem m81 : (q_mm 81).2.2.2.2.2.1 = 2 ∧ (q_mm 81).2.2.1 = 2 ∧ (q_mm 81).2.2.2.2.2.2.1 = 1 ∧ (q_mm 81).2.2.2.1 = none ∧ (q_mm 81).2.2.2.2.2.2.2 = [] := by decide +kernel
theorem m82 : (q_mm 82).2.2.2.2.2.1 = 3 ∧ (q_mm 82).2.2.1 = 5 ∧ (q_mm 82).2.2.2.2.2.2.1 = 4 ∧ (q_mm 82).2.2.2.1 = (some FieldType.boolean) ∧ (q_mm 82).2.2.2.2.2.2.2 = [] := by decide +kernel
theorem m83 : (q_mm 83).2.2.2.2.2.1 = 2 ∧ (q_mm 83).2.2.1 = 4 ∧ (q_mm 83).2.2.2.2.2.2.1 = 4 ∧ (q_mm 83).2.2.2.1 = (some FieldType.int) ∧ (q_mm 83).2.2.2.2.2.2.2 = [] := by decide +kernel
theorem m84 : (q_mm 84).2.2.2.2.2.1 = 3 ∧ (q_mm 84).2.2.1 = 4 ∧ (q_mm 84).2.2.2.2.2.2.1 = 4 ∧ (q_mm 84).2.2.2.1 = (some FieldType.boolean) ∧ (q_mm 84).2.2.2.2.2.2.2 = [] := by decide +kernel
theorem m85 : (q_mm 85).2.2.2.2.2.1 = 6 ∧ (q_mm 85).2.2.1 = 7 ∧ (q_mm 85).2.2.2.2.2.2.1 = 0 ∧ (q_mm 85).2.2.2.1 = (some FieldType.int) ∧ (q_mm 85).2.2.2.2.2.2.2 = [(0, 14, 17, 10), (0, 14, 21, 12)] := by decide +kernel
theorem m86 : (q_mm 86).2.2.2.2.2.1 = 5 ∧ (q_mm 86).2.2.1 = 6 ∧ (q_mm 86).2.2.2.2.2.2.1 = 1 ∧ (q_mm 86).2.2.2.1 = (some FieldType.int) ∧ (q_mm 86).2.2.2.2.2.2.2 = [] := by decide +kernel
theorem m87 : (q_mm 87).2.2.2.2.2.1 = 3 ∧ (q_mm 87).2.2.1 = 3 ∧ (q_mm 87).2.2.2.2.2.2.1 = 4 ∧ (q_mm 87).2.2.2.1 = (some FieldType.int) ∧ (q_mm 87).2.2.2.2.2.2.2 = [] := by decide +kernel
theorem m88 : (q_mm 88).2.2.2.2.2.1 = 6 ∧ (q_mm 88).2.2.1 = 7 ∧ (q_mm 88).2.2.2.2.2.2.1 = 0 ∧ (q_mm 88).2.2.2.1 = (some FieldType.int) ∧ (q_mm 88).2.2.2.2.2.2.2 = [(0, 11, 14, 10)] := by decide +kernel
theorem m89 : (q_mm 89).2.2.2.2.2.1 = 6 ∧ (q_mm 89).2.2.1 = 6 ∧ (q_mm 89).2.2.2.2.2.2.1 = 1 ∧ (q_mm 89).2.2.2.1 = none ∧ (q_mm 89).2.2.2.2.2.2.2 = [] := by decide +kernel
theorem m90 : (q_mm 90).2.2.2.2.2.1 = 1 ∧ (q_mm 90).2.2.1 = 1 ∧ (q_mm 90).2.2.2.2.2.2.1 = 0 ∧ (q_mm 90).2.2.2.1 = (some FieldType.int) ∧ (q_mm 90).2.2.2.2.2.2.2 = [] := by decide +kernel
theorem m91 : (q_mm 91).2.2.2.2.2.1 = 1 ∧ (q_mm 91).2.2.1 = 1 ∧ (q_mm 91).2.2.2.2.2.2.1 = 0 ∧ (q_mm 91).2.2.2.1 = (some FieldType.int) ∧ (q_mm 91).2.2.2.2.2.2.2 = [] := by decide +kernel
theorem m92 : (q_mm 92).2.2.2.2.2.1 = 5 ∧ (q_mm 92).2.2.1 = 5 ∧ (q_mm 92).2.2.2.2.2.2.1 = 5 ∧ (q_mm 92).2.2.2.1 = none ∧ (q_mm 92).2.2.2.2.2.2.2 = [] := by decide +kernel
theorem m93 : (q_mm 93).2.2.2.2.2.1 = 3 ∧ (q_mm 93).2.2.1 = 4 ∧ (q_mm 93).2.2.2.2.2.2.1 = 0 ∧ (q_mm 93).2.2.2.1 = (some FieldType.int) ∧ (q_mm 93).2.2.2.2.2.2.2 = [(0, 16, 19, 10)] := by decide +kernel
theorem m94 : (q_mm 94).2.2.2.2.2.1 = 2 ∧ (q_mm 94).2.2.1 = 3 ∧ (q_mm 94).2.2.2.2.2.2.1 = 1 ∧ (q_mm 94).2.2.2.1 = (some FieldType.boolean) ∧ (q_mm 94).2.2.2.2.2.2.2 = [] := by decide +kernel
theorem m95 : (q_mm 95).2.2.2.2.2.1 = 3 ∧ (q_mm 95).2.2.1 = 6 ∧ (q_mm 95).2.2.2.2.2.2.1 = 1 ∧ (q_mm 95).2.2.2.1 = (some FieldType.boolean) ∧ (q_mm 95).2.2.2.2.2.2.2 = [] := by decide +kernel
theorem m96 : (q_mm 96).2.2.2.2.2.1 = 2 ∧ (q_mm 96).2.2.1 = 2 ∧ (q_mm 96).2.2.2.2.2.2.1 = 4 ∧ (q_mm 96).2.2.2.1 = (some FieldType.int) ∧ (q_mm 96).2.2.2.2.2.2.2 = [] := by decide +kernel
theorem m97 : (q_mm 97).2.2.2.2.2.1 = 3 ∧ (q_mm 97).2.2.1 = 3 ∧ (q_mm 97).2.2.2.2.2.2.1 = 5 ∧ (q_mm 97).2.2.2.1 = (some FieldType.int) ∧ (q_mm 97).2.2.2.2.2.2.2 = [] := by decide +kernel
theorem m98 : (q_mm 98).2.2.2.2.2.1 = 3 ∧ (q_mm 98).2.2.1 = 3 ∧ (q_mm 98).2.2.2.2.2.2.1 = 5 ∧ (q_mm 98).2.2.2.1 = (some FieldType.boolean) ∧ (q_mm 98).2.2.2.2.2.2.2 = [] := by decide +kernel
theorem m99 : (q_mm 99).2.2.2.2.2.1 = 3 ∧ (q_mm 99).2.2.1 = 3 ∧ (q_mm 99).2.2.2.2.2.2.1 = 4 ∧ (q_mm 99).2.2.2.1 = (some FieldType.int) ∧ (q_mm 99).2.2.2.2.2.2.2 = [] := by decide +kernel
theorem m100 : (q_mm 100).2.2.2.2.2.1 = 2 ∧ (q_mm 100).2.2.1 = 2 ∧ (q_mm 100).2.2.2.2.2.2.1 = 4 ∧ (q_mm 100).2.2.2.1 = (some FieldType.int) ∧ (q_mm 100).2.2.2.2.2.2.2 = [] := by decide +kernel
theorem m101 : (q_mm 101).2.2.2.2.2.1 = 3 ∧ (q_mm 101).2.2.1 = 4 ∧ (q_mm 101).2.2.2.2.2.2.1 = 0 ∧ (q_mm 101).2.2.2.1 = (some FieldType.int) ∧ (q_mm 101).2.2.2.2.2.2.2 = [(0, 9, 12, 10), (0, 9, 15, 12)] := by decide +kernel
theorem m102 : (q_mm 102).2.2.2.2.2.1 = 2 ∧ (q_mm 102).2.2.1 = 2 ∧ (q_mm 102).2.2.2.2.2.2.1 = 1 ∧ (q_mm 102).2.2.2.1 = (some FieldType.int) ∧ (q_mm 102).2.2.2.2.2.2.2 = [] := by decide +kernel
theorem m103 : (q_mm 103).2.2.2.2.2.1 = 2 ∧ (q_mm 103).2.2.1 = 6 ∧ (q_mm 103).2.2.2.2.2.2.1 = 9 ∧ (q_mm 103).2.2.2.1 = (some FieldType.int) ∧ (q_mm 103).2.2.2.2.2.2.2 = [] := by decide +kernel
theorem m104 : (q_mm 104).2.2.2.2.2.1 = 4 ∧ (q_mm 104).2.2.1 = 9 ∧ (q_mm 104).2.2.2.2.2.2.1 = 9 ∧ (q_mm 104).2.2.2.1 = (some FieldType.int) ∧ (q_mm 104).2.2.2.2.2.2.2 = [] := by decide +kernel
theorem m105 : (q_mm 105).2.2.2.2.2.1 = 3 ∧ (q_mm 105).2.2.1 = 3 ∧ (q_mm 105).2.2.2.2.2.2.1 = 9 ∧ (q_mm 105).2.2.2.1 = (some FieldType.int) ∧ (q_mm 105).2.2.2.2.2.2.2 = [] := by decide +kernel
theorem m106 : (q_mm 106).2.2.2.2.2.1 = 2 ∧ (q_mm 106).2.2.1 = 2 ∧ (q_mm 106).2.2.2.2.2.2.1 = 9 ∧ (q_mm 106).2.2.2.1 = (some FieldType.int) ∧ (q_mm 106).2.2.2.2.2.2.2 = [] := by decide +kernel
theorem m107 : (q_mm 107).2.2.2.2.2.1 = 2 ∧ (q_mm 107).2.2.1 = 2 ∧ (q_mm 107).2.2.2.2.2.2.1 = 3 ∧ (q_mm 107).2.2.2.1 = (some FieldType.int) ∧ (q_mm 107).2.2.2.2.2.2.2 = [] := by decide +kernel
theorem m108 : (q_mm 108).2.2.2.2.2.1 = 4 ∧ (q_mm 108).2.2.1 = 5 ∧ (q_mm 108).2.2.2.2.2.2.1 = 9 ∧ (q_mm 108).2.2.2.1 = (some FieldType.int) ∧ (q_mm 108).2.2.2.2.2.2.2 = [] := by decide +kernel
theorem m109 : (q_mm 109).2.2.2.2.2.1 = 1 ∧ (q_mm 109).2.2.1 = 1 ∧ (q_mm 109).2.2.2.2.2.2.1 = 0 ∧ (q_mm 109).2.2.2.1 = (some FieldType.int) ∧ (q_mm 109).2.2.2.2.2.2.2 = [] := by decide +kernel
theorem m110 : (q_mm 110).2.2.2.2.2.1 = 1 ∧ (q_mm 110).2.2.1 = 1 ∧ (q_mm 110).2.2.2.2.2.2.1 = 0 ∧ (q_mm 110).2.2.2.1 = (some FieldType.int) ∧ (q_mm 110).2.2.2.2.2.2.2 = [] := by decide +kernel
theorem m111 : (q_mm 111).2.2.2.2.2.1 = 4 ∧ (q_mm 111).2.2.1 = 6 ∧ (q_mm 111).2.2.2.2.2.2.1 = 9 ∧ (q_mm 111).2.2.2.1 = (some FieldType.int) ∧ (q_mm 111).2.2.2.2.2.2.2 = [] := by decide +kernel
theorem m112 : (q_mm 112).2.2.2.2.2.1 = 3 ∧ (q_mm 112).2.2.1 = 4 ∧ (q_mm 112).2.2.2.2.2.2.1 = 5 ∧ (q_mm 112).2.2.2.1 = (some FieldType.boolean) ∧ (q_mm 112).2.2.2.2.2.2.2 = [] := by decide +kernel
theorem m113 : (q_mm 113).2.2.2.2.2.1 = 2 ∧ (q_mm 113).2.2.1 = 4 ∧ (q_mm 113).2.2.2.2.2.2.1 = 9 ∧ (q_mm 113).2.2.2.1 = (some FieldType.int) ∧ (q_mm 113).2.2.2.2.2.2.2 = [] := by decide +kernel
theorem m114 : (q_mm 114).2.2.2.2.2.1 = 3 ∧ (q_mm 114).2.2.1 = 6 ∧ (q_mm 114).2.2.2.2.2.2.1 = 5 ∧ (q_mm 114).2.2.2.1 = (some FieldType.int) ∧ (q_mm 114).2.2.2.2.2.2.2 = [] := by decide +kernel
theorem m115 : (q_mm 115).2.2.2.2.2.1 = 3 ∧ (q_mm 115).2.2.1 = 6 ∧ (q_mm 115).2.2.2.2.2.2.1 = 9 ∧ (q_mm 115).2.2.2.1 = (some FieldType.int) ∧ (q_mm 115).2.2.2.2.2.2.2 = [] := by decide +kernel
theorem m116 : (q_mm 116).2.2.2.2.2.1 = 3 ∧ (q_mm 116).2.2.1 = 5 ∧ (q_mm 116).2.2.2.2.2.2.1 = 0 ∧ (q_mm 116).2.2.2.1 = (some FieldType.int) ∧ (q_mm 116).2.2.2.2.2.2.2 = [] := by decide +kernel
theorem m117 : (q_mm 117).2.2.2.2.2.1 = 6 ∧ (q_mm 117).2.2.1 = 7 ∧ (q_mm 117).2.2.2.2.2.2.1 = 0 ∧ (q_mm 117).2.2.2.1 = (some FieldType.int) ∧ (q_mm 117).2.2.2.2.2.2.2 = [(0, 21, 24, 10), (0, 21, 28, 11), (0, 21, 32, 13), (0, 21, 36, 12), (0, 21, 40, 14)] := by decide +kernel
theorem m118 : (q_mm 118).2.2.2.2.2.1 = 5 ∧ (q_mm 118).2.2.1 = 6 ∧ (q_mm 118).2.2.2.2.2.2.1 = 1 ∧ (q_mm 118).2.2.2.1 = (some FieldType.boolean) ∧ (q_mm 118).2.2.2.2.2.2.2 = [] := by decide +kernel
theorem m119 : (q_mm 119).2.2.2.2.2.1 = 3 ∧ (q_mm 119).2.2.1 = 3 ∧ (q_mm 119).2.2.2.2.2.2.1 = 0 ∧ (q_mm 119).2.2.2.1 = none ∧ (q_mm 119).2.2.2.2.2.2.2 = [] := by decide +kernel
theorem m120 : (q_mm 120).2.2.2.2.2.1 = 5 ∧ (q_mm 120).2.2.1 = 8 ∧ (q_mm 120).2.2.2.2.2.2.1 = 8 ∧ (q_mm 120).2.2.2.1 = (some FieldType.int) ∧ (q_mm 120).2.2.2.2.2.2.2 = [] := by decide +kernel
theorem m121 : (q_mm 121).2.2.2.2.2.1 = 5 ∧ (q_mm 121).2.2.1 = 5 ∧ (q_mm 121).2.2.2.2.2.2.1 = 2 ∧ (q_mm 121).2.2.2.1 = (some FieldType.boolean) ∧ (q_mm 121).2.2.2.2.2.2.2 = [] := by decide +kernel
theorem m122 : (q_mm 122).2.2.2.2.2.1 = 3 ∧ (q_mm 122).2.2.1 = 3 ∧ (q_mm 122).2.2.2.2.2.2.1 = 3 ∧ (q_mm 122).2.2.2.1 = (some FieldType.boolean) ∧ (q_mm 122).2.2.2.2.2.2.2 = [] := by decide +kernel
theorem m123 : (q_mm 123).2.2.2.2.2.1 = 3 ∧ (q_mm 123).2.2.1 = 11 ∧ (q_mm 123).2.2.2.2.2.2.1 = 8 ∧ (q_mm 123).2.2.2.1 = (some FieldType.long) ∧ (q_mm 123).2.2.2.2.2.2.2 = [] := by decide +kernel
theorem m124 : (q_mm 124).2.2.2.2.2.1 = 1 ∧ (q_mm 124).2.2.1 = 1 ∧ (q_mm 124).2.2.2.2.2.2.1 = 0 ∧ (q_mm 124).2.2.2.1 = (some FieldType.long) ∧ (q_mm 124).2.2.2.2.2.2.2 = [] := by decide +kernel
theorem m125 : (q_mm 125).2.2.2.2.2.1 = 2 ∧ (q_mm 125).2.2.1 = 2 ∧ (q_mm 125).2.2.2.2.2.2.1 = 0 ∧ (q_mm 125).2.2.2.1 = (some FieldType.long) ∧ (q_mm 125).2.2.2.2.2.2.2 = [] := by decide +kernel
theorem m126 : (q_mm 126).2.2.2.2.2.1 = 2 ∧ (q_mm 126).2.2.1 = 2 ∧ (q_mm 126).2.2.2.2.2.2.1 = 8 ∧ (q_mm 126).2.2.2.1 = (some FieldType.long) ∧ (q_mm 126).2.2.2.2.2.2.2 = [] := by decide +kernel
theorem m127 : (q_mm 127).2.2.2.2.2.1 = 1 ∧ (q_mm 127).2.2.1 = 1 ∧ (q_mm 127).2.2.2.2.2.2.1 = 0 ∧ (q_mm 127).2.2.2.1 = (some FieldType.long) ∧ (q_mm 127).2.2.2.2.2.2.2 = [] := by decide +kernel
theorem m128 : (q_mm 128).2.2.2.2.2.1 = 1 ∧ (q_mm 128).2.2.1 = 2 ∧ (q_mm 128).2.2.2.2.2.2.1 = 0 ∧ (q_mm 128).2.2.2.1 = (some FieldType.boolean) ∧ (q_mm 128).2.2.2.2.2.2.2 = [] := by decide +kernel
theorem m129 : (q_mm 129).2.2.2.2.2.1 = 1 ∧ (q_mm 129).2.2.1 = 2 ∧ (q_mm 129).2.2.2.2.2.2.1 = 0 ∧ (q_mm 129).2.2.2.1 = (some FieldType.int) ∧ (q_mm 129).2.2.2.2.2.2.2 = [] := by decide +kernel
theorem m130 : (q_mm 130).2.2.2.2.2.1 = 3 ∧ (q_mm 130).2.2.1 = 5 ∧ (q_mm 130).2.2.2.2.2.2.1 = 8 ∧ (q_mm 130).2.2.2.1 = (some FieldType.long) ∧ (q_mm 130).2.2.2.2.2.2.2 = [] := by decide +kernel
theorem m131 : (q_mm 131).2.2.2.2.2.1 = 1 ∧ (q_mm 131).2.2.1 = 2 ∧ (q_mm 131).2.2.2.2.2.2.1 = 0 ∧ (q_mm 131).2.2.2.1 = (some FieldType.int) ∧ (q_mm 131).2.2.2.2.2.2.2 = [] := by decide +kernel
theorem m132 : (q_mm 132).2.2.2.2.2.1 = 1 ∧ (q_mm 132).2.2.1 = 2 ∧ (q_mm 132).2.2.2.2.2.2.1 = 0 ∧ (q_mm 132).2.2.2.1 = (some FieldType.long) ∧ (q_mm 132).2.2.2.2.2.2.2 = [] := by decide +kernel
theorem m133 : (q_mm 133).2.2.2.2.2.1 = 3 ∧ (q_mm 133).2.2.1 = 4 ∧ (q_mm 133).2.2.2.2.2.2.1 = 8 ∧ (q_mm 133).2.2.2.1 = (some FieldType.long) ∧ (q_mm 133).2.2.2.2.2.2.2 = [] := by decide +kernel
theorem m134 : (q_mm 134).2.2.2.2.2.1 = 2 ∧ (q_mm 134).2.2.1 = 3 ∧ (q_mm 134).2.2.2.2.2.2.1 = 0 ∧ (q_mm 134).2.2.2.1 = (some FieldType.boolean) ∧ (q_mm 134).2.2.2.2.2.2.2 = [] := by decide +kernel
theorem m135 : (q_mm 135).2.2.2.2.2.1 = 1 ∧ (q_mm 135).2.2.1 = 2 ∧ (q_mm 135).2.2.2.2.2.2.1 = 0 ∧ (q_mm 135).2.2.2.1 = (some FieldType.long) ∧ (q_mm 135).2.2.2.2.2.2.2 = [] := by decide +kernel
theorem m136 : (q_mm 136).2.2.2.2.2.1 = 4 ∧ (q_mm 136).2.2.1 = 6 ∧ (q_mm 136).2.2.2.2.2.2.1 = 8 ∧ (q_mm 136).2.2.2.1 = (some FieldType.long) ∧ (q_mm 136).2.2.2.2.2.2.2 = [] := by decide +kernel
theorem m137 : (q_mm 137).2.2.2.2.2.1 = 3 ∧ (q_mm 137).2.2.1 = 5 ∧ (q_mm 137).2.2.2.2.2.2.1 = 0 ∧ (q_mm 137).2.2.2.1 = (some FieldType.long) ∧ (q_mm 137).2.2.2.2.2.2.2 = [] := by decide +kernel
theorem m138 : (q_mm 138).2.2.2.2.2.1 = 5 ∧ (q_mm 138).2.2.1 = 6 ∧ (q_mm 138).2.2.2.2.2.2.1 = 0 ∧ (q_mm 138).2.2.2.1 = (some FieldType.int) ∧ (q_mm 138).2.2.2.2.2.2.2 = [(0, 19, 22, 10)] := by decide +kernel
theorem m139 : (q_mm 139).2.2.2.2.2.1 = 4 ∧ (q_mm 139).2.2.1 = 9 ∧ (q_mm 139).2.2.2.2.2.2.1 = 1 ∧ (q_mm 139).2.2.2.1 = (some FieldType.boolean) ∧ (q_mm 139).2.2.2.2.2.2.2 = [] := by decide +kernel
theorem m140 : (q_mm 140).2.2.2.2.2.1 = 4 ∧ (q_mm 140).2.2.1 = 5 ∧ (q_mm 140).2.2.2.2.2.2.1 = 0 ∧ (q_mm 140).2.2.2.1 = (some FieldType.int) ∧ (q_mm 140).2.2.2.2.2.2.2 = [(0, 17, 20, 10)] := by decide +kernel
theorem m141 : (q_mm 141).2.2.2.2.2.1 = 3 ∧ (q_mm 141).2.2.1 = 3 ∧ (q_mm 141).2.2.2.2.2.2.1 = 1 ∧ (q_mm 141).2.2.2.1 = (some FieldType.boolean) ∧ (q_mm 141).2.2.2.2.2.2.2 = [] := by decide +kernel
theorem m142 : (q_mm 142).2.2.2.2.2.1 = 1 ∧ (q_mm 142).2.2.1 = 1 ∧ (q_mm 142).2.2.2.2.2.2.1 = 10 ∧ (q_mm 142).2.2.2.1 = none ∧ (q_mm 142).2.2.2.2.2.2.2 = [] := by decide +kernel
theorem m143 : (q_mm 143).2.2.2.2.2.1 = 1 ∧ (q_mm 143).2.2.1 = 1 ∧ (q_mm 143).2.2.2.2.2.2.1 = 10 ∧ (q_mm 143).2.2.2.1 = (some FieldType.int) ∧ (q_mm 143).2.2.2.2.2.2.2 = [] := by decide +kernel
theorem m144 : (q_mm 144).2.2.2.2.2.1 = 2 ∧ (q_mm 144).2.2.1 = 6 ∧ (q_mm 144).2.2.2.2.2.2.1 = 10 ∧ (q_mm 144).2.2.2.1 = (some FieldType.int) ∧ (q_mm 144).2.2.2.2.2.2.2 = [] := by decide +kernel
theorem m145 : (q_mm 145).2.2.2.2.2.1 = 3 ∧ (q_mm 145).2.2.1 = 3 ∧ (q_mm 145).2.2.2.2.2.2.1 = 0 ∧ (q_mm 145).2.2.2.1 = (some FieldType.boolean) ∧ (q_mm 145).2.2.2.2.2.2.2 = [] := by decide +kernel
theorem m146 : (q_mm 146).2.2.2.2.2.1 = 2 ∧ (q_mm 146).2.2.1 = 2 ∧ (q_mm 146).2.2.2.2.2.2.1 = 10 ∧ (q_mm 146).2.2.2.1 = (some FieldType.int) ∧ (q_mm 146).2.2.2.2.2.2.2 = [] := by decide +kernel
theorem m147 : (q_mm 147).2.2.2.2.2.1 = 2 ∧ (q_mm 147).2.2.1 = 3 ∧ (q_mm 147).2.2.2.2.2.2.1 = 10 ∧ (q_mm 147).2.2.2.1 = (some FieldType.int) ∧ (q_mm 147).2.2.2.2.2.2.2 = [] := by decide +kernel
theorem m148 : (q_mm 148).2.2.2.2.2.1 = 1 ∧ (q_mm 148).2.2.1 = 2 ∧ (q_mm 148).2.2.2.2.2.2.1 = 10 ∧ (q_mm 148).2.2.2.1 = (some FieldType.boolean) ∧ (q_mm 148).2.2.2.2.2.2.2 = [] := by decide +kernel
theorem m149 : (q_mm 149).2.2.2.2.2.1 = 1 ∧ (q_mm 149).2.2.1 = 2 ∧ (q_mm 149).2.2.2.2.2.2.1 = 10 ∧ (q_mm 149).2.2.2.1 = none ∧ (q_mm 149).2.2.2.2.2.2.2 = [] := by decide +kernel
theorem m150 : (q_mm 150).2.2.2.2.2.1 = 2 ∧ (q_mm 150).2.2.1 = 8 ∧ (q_mm 150).2.2.2.2.2.2.1 = 10 ∧ (q_mm 150).2.2.2.1 = (some FieldType.int) ∧ (q_mm 150).2.2.2.2.2.2.2 = [] := by decide +kernel
theorem m151 : (q_mm 151).2.2.2.2.2.1 = 2 ∧ (q_mm 151).2.2.1 = 2 ∧ (q_mm 151).2.2.2.2.2.2.1 = 10 ∧ (q_mm 151).2.2.2.1 = (some FieldType.int) ∧ (q_mm 151).2.2.2.2.2.2.2 = [] := by decide +kernel
theorem m152 : (q_mm 152).2.2.2.2.2.1 = 1 ∧ (q_mm 152).2.2.1 = 1 ∧ (q_mm 152).2.2.2.2.2.2.1 = 0 ∧ (q_mm 152).2.2.2.1 = (some FieldType.boolean) ∧ (q_mm 152).2.2.2.2.2.2.2 = [] := by decide +kernel
theorem m153 : (q_mm 153).2.2.2.2.2.1 = 4 ∧ (q_mm 153).2.2.1 = 5 ∧ (q_mm 153).2.2.2.2.2.2.1 = 10 ∧ (q_mm 153).2.2.2.1 = none ∧ (q_mm 153).2.2.2.2.2.2.2 = [] := by decide +kernel
theorem m154 : (q_mm 154).2.2.2.2.2.1 = 2 ∧ (q_mm 154).2.2.1 = 7 ∧ (q_mm 154).2.2.2.2.2.2.1 = 10 ∧ (q_mm 154).2.2.2.1 = (some FieldType.int) ∧ (q_mm 154).2.2.2.2.2.2.2 = [] := by decide +kernel
theorem m155 : (q_mm 155).2.2.2.2.2.1 = 1 ∧ (q_mm 155).2.2.1 = 1 ∧ (q_mm 155).2.2.2.2.2.2.1 = 0 ∧ (q_mm 155).2.2.2.1 = (some FieldType.boolean) ∧ (q_mm 155).2.2.2.2.2.2.2 = [] := by decide +kernel
theorem m156 : (q_mm 156).2.2.2.2.2.1 = 1 ∧ (q_mm 156).2.2.1 = 1 ∧ (q_mm 156).2.2.2.2.2.2.1 = 10 ∧ (q_mm 156).2.2.2.1 = (some FieldType.boolean) ∧ (q_mm 156).2.2.2.2.2.2.2 = [] := by decide +kernel
theorem m157 : (q_mm 157).2.2.2.2.2.1 = 1 ∧ (q_mm 157).2.2.1 = 1 ∧ (q_mm 157).2.2.2.2.2.2.1 = 10 ∧ (q_mm 157).2.2.2.1 = (some FieldType.int) ∧ (q_mm 157).2.2.2.2.2.2.2 = [] := by decide +kernel
theorem m158 : (q_mm 158).2.2.2.2.2.1 = 1 ∧ (q_mm 158).2.2.1 = 1 ∧ (q_mm 158).2.2.2.2.2.2.1 = 10 ∧ (q_mm 158).2.2.2.1 = (some FieldType.boolean) ∧ (q_mm 158).2.2.2.2.2.2.2 = [] := by decide +kernel
theorem m159 : (q_mm 159).2.2.2.2.2.1 = 2 ∧ (q_mm 159).2.2.1 = 2 ∧ (q_mm 159).2.2.2.2.2.2.1 = 10 ∧ (q_mm 159).2.2.2.1 = (some FieldType.boolean) ∧ (q_mm 159).2.2.2.2.2.2.2 = [] := by decide +kernel
theorem m160 : (q_mm 160).2.2.2.2.2.1 = 2 ∧ (q_mm 160).2.2.1 = 4 ∧ (q_mm 160).2.2.2.2.2.2.1 = 10 ∧ (q_mm 160).2.2.2.1 = (some FieldType.boolean) ∧ (q_mm 160).2.2.2.2.2.2.2 = [] := by decide +kernel
theorem m161 : (q_mm 161).2.2.2.2.2.1 = 1 ∧ (q_mm 161).2.2.1 = 1 ∧ (q_mm 161).2.2.2.2.2.2.1 = 10 ∧ (q_mm 161).2.2.2.1 = (some FieldType.int) ∧ (q_mm 161).2.2.2.2.2.2.2 = [] := by decide +kernel
theorem m162 : (q_mm 162).2.2.2.2.2.1 = 1 ∧ (q_mm 162).2.2.1 = 2 ∧ (q_mm 162).2.2.2.2.2.2.1 = 10 ∧ (q_mm 162).2.2.2.1 = (some FieldType.boolean) ∧ (q_mm 162).2.2.2.2.2.2.2 = [] := by decide +kernel
theorem m163 : (q_mm 163).2.2.2.2.2.1 = 1 ∧ (q_mm 163).2.2.1 = 1 ∧ (q_mm 163).2.2.2.2.2.2.1 = 10 ∧ (q_mm 163).2.2.2.1 = (some FieldType.boolean) ∧ (q_mm 163).2.2.2.2.2.2.2 = [] := by decide +kernel
theorem m164 : (q_mm 164).2.2.2.2.2.1 = 3 ∧ (q_mm 164).2.2.1 = 3 ∧ (q_mm 164).2.2.2.2.2.2.1 = 10 ∧ (q_mm 164).2.2.2.1 = none ∧ (q_mm 164).2.2.2.2.2.2.2 = [] := by decide +kernel
theorem m165 : (q_mm 165).2.2.2.2.2.1 = 1 ∧ (q_mm 165).2.2.1 = 2 ∧ (q_mm 165).2.2.2.2.2.2.1 = 10 ∧ (q_mm 165).2.2.2.1 = (some FieldType.boolean) ∧ (q_mm 165).2.2.2.2.2.2.2 = [] := by decide +kernel
theorem m166 : (q_mm 166).2.2.2.2.2.1 = 1 ∧ (q_mm 166).2.2.1 = 4 ∧ (q_mm 166).2.2.2.2.2.2.1 = 10 ∧ (q_mm 166).2.2.2.1 = (some FieldType.boolean) ∧ (q_mm 166).2.2.2.2.2.2.2 = [] := by decide +kernel
theorem m167 : (q_mm 167).2.2.2.2.2.1 = 6 ∧ (q_mm 167).2.2.1 = 7 ∧ (q_mm 167).2.2.2.2.2.2.1 = 10 ∧ (q_mm 167).2.2.2.1 = (some FieldType.int) ∧ (q_mm 167).2.2.2.2.2.2.2 = [] := by decide +kernel
theorem m168 : (q_mm 168).2.2.2.2.2.1 = 2 ∧ (q_mm 168).2.2.1 = 2 ∧ (q_mm 168).2.2.2.2.2.2.1 = 10 ∧ (q_mm 168).2.2.2.1 = none ∧ (q_mm 168).2.2.2.2.2.2.2 = [] := by decide +kernel
theorem m169 : (q_mm 169).2.2.2.2.2.1 = 1 ∧ (q_mm 169).2.2.1 = 3 ∧ (q_mm 169).2.2.2.2.2.2.1 = 10 ∧ (q_mm 169).2.2.2.1 = (some FieldType.boolean) ∧ (q_mm 169).2.2.2.2.2.2.2 = [] := by decide +kernel
theorem m170 : (q_mm 170).2.2.2.2.2.1 = 1 ∧ (q_mm 170).2.2.1 = 4 ∧ (q_mm 170).2.2.2.2.2.2.1 = 10 ∧ (q_mm 170).2.2.2.1 = (some FieldType.boolean) ∧ (q_mm 170).2.2.2.2.2.2.2 = [] := by decide +kernel
theorem m171 : (q_mm 171).2.2.2.2.2.1 = 2 ∧ (q_mm 171).2.2.1 = 5 ∧ (q_mm 171).2.2.2.2.2.2.1 = 10 ∧ (q_mm 171).2.2.2.1 = (some FieldType.boolean) ∧ (q_mm 171).2.2.2.2.2.2.2 = [] := by decide +kernel
theorem m172 : (q_mm 172).2.2.2.2.2.1 = 2 ∧ (q_mm 172).2.2.1 = 2 ∧ (q_mm 172).2.2.2.2.2.2.1 = 0 ∧ (q_mm 172).2.2.2.1 = (some FieldType.boolean) ∧ (q_mm 172).2.2.2.2.2.2.2 = [] := by decide +kernel
theorem m173 : (q_mm 173).2.2.2.2.2.1 = 2 ∧ (q_mm 173).2.2.1 = 3 ∧ (q_mm 173).2.2.2.2.2.2.1 = 10 ∧ (q_mm 173).2.2.2.1 = none ∧ (q_mm 173).2.2.2.2.2.2.2 = [] := by decide +kernel
theorem m174 : (q_mm 174).2.2.2.2.2.1 = 1 ∧ (q_mm 174).2.2.1 = 1 ∧ (q_mm 174).2.2.2.2.2.2.1 = 10 ∧ (q_mm 174).2.2.2.1 = (some FieldType.int) ∧ (q_mm 174).2.2.2.2.2.2.2 = [] := by decide +kernel
theorem m175 : (q_mm 175).2.2.2.2.2.1 = 2 ∧ (q_mm 175).2.2.1 = 3 ∧ (q_mm 175).2.2.2.2.2.2.1 = 10 ∧ (q_mm 175).2.2.2.1 = (some FieldType.boolean) ∧ (q_mm 175).2.2.2.2.2.2.2 = [] := by decide +kernel
theorem m176 : (q_mm 176).2.2.2.2.2.1 = 3 ∧ (q_mm 176).2.2.1 = 5 ∧ (q_mm 176).2.2.2.2.2.2.1 = 10 ∧ (q_mm 176).2.2.2.1 = (some FieldType.boolean) ∧ (q_mm 176).2.2.2.2.2.2.2 = [] := by decide +kernel
theorem m177 : (q_mm 177).2.2.2.2.2.1 = 3 ∧ (q_mm 177).2.2.1 = 4 ∧ (q_mm 177).2.2.2.2.2.2.1 = 10 ∧ (q_mm 177).2.2.2.1 = (some FieldType.boolean) ∧ (q_mm 177).2.2.2.2.2.2.2 = [] := by decide +kernel
theorem m178 : (q_mm 178).2.2.2.2.2.1 = 2 ∧ (q_mm 178).2.2.1 = 5 ∧ (q_mm 178).2.2.2.2.2.2.1 = 10 ∧ (q_mm 178).2.2.2.1 = (some FieldType.int) ∧ (q_mm 178).2.2.2.2.2.2.2 = [] := by decide +kernel
theorem m179 : (q_mm 179).2.2.2.2.2.1 = 5 ∧ (q_mm 179).2.2.1 = 6 ∧ (q_mm 179).2.2.2.2.2.2.1 = 10 ∧ (q_mm 179).2.2.2.1 = (some FieldType.int) ∧ (q_mm 179).2.2.2.2.2.2.2 = [] := by decide +kernel
theorem m180 : (q_mm 180).2.2.2.2.2.1 = 6 ∧ (q_mm 180).2.2.1 = 6 ∧ (q_mm 180).2.2.2.2.2.2.1 = 10 ∧ (q_mm 180).2.2.2.1 = none ∧ (q_mm 180).2.2.2.2.2.2.2 = [] := by decide +kernel
theorem m181 : (q_mm 181).2.2.2.2.2.1 = 2 ∧ (q_mm 181).2.2.1 = 6 ∧ (q_mm 181).2.2.2.2.2.2.1 = 10 ∧ (q_mm 181).2.2.2.1 = (some FieldType.boolean) ∧ (q_mm 181).2.2.2.2.2.2.2 = [] := by decide +kernel
theorem m182 : (q_mm 182).2.2.2.2.2.1 = 3 ∧ (q_mm 182).2.2.1 = 3 ∧ (q_mm 182).2.2.2.2.2.2.1 = 10 ∧ (q_mm 182).2.2.2.1 = (some FieldType.boolean) ∧ (q_mm 182).2.2.2.2.2.2.2 = [] := by decide +kernel
theorem m183 : (q_mm 183).2.2.2.2.2.1 = 5 ∧ (q_mm 183).2.2.1 = 6 ∧ (q_mm 183).2.2.2.2.2.2.1 = 10 ∧ (q_mm 183).2.2.2.1 = (some FieldType.boolean) ∧ (q_mm 183).2.2.2.2.2.2.2 = [] := by decide +kernel
theorem m184 : (q_mm 184).2.2.2.2.2.1 = 3 ∧ (q_mm 184).2.2.1 = 3 ∧ (q_mm 184).2.2.2.2.2.2.1 = 0 ∧ (q_mm 184).2.2.2.1 = (some FieldType.boolean) ∧ (q_mm 184).2.2.2.2.2.2.2 = [] := by decide +kernel
theorem m185 : (q_mm 185).2.2.2.2.2.1 = 5 ∧ (q_mm 185).2.2.1 = 8 ∧ (q_mm 185).2.2.2.2.2.2.1 = 10 ∧ (q_mm 185).2.2.2.1 = (some FieldType.int) ∧ (q_mm 185).2.2.2.2.2.2.2 = [] := by decide +kernel
theorem m186 : (q_mm 186).2.2.2.2.2.1 = 4 ∧ (q_mm 186).2.2.1 = 6 ∧ (q_mm 186).2.2.2.2.2.2.1 = 10 ∧ (q_mm 186).2.2.2.1 = (some FieldType.boolean) ∧ (q_mm 186).2.2.2.2.2.2.2 = [] := by decide +kernel
theorem m187 : (q_mm 187).2.2.2.2.2.1 = 3 ∧ (q_mm 187).2.2.1 = 9 ∧ (q_mm 187).2.2.2.2.2.2.1 = 10 ∧ (q_mm 187).2.2.2.1 = (some FieldType.int) ∧ (q_mm 187).2.2.2.2.2.2.2 = [] := by decide +kernel
theorem m188 : (q_mm 188).2.2.2.2.2.1 = 2 ∧ (q_mm 188).2.2.1 = 2 ∧ (q_mm 188).2.2.2.2.2.2.1 = 10 ∧ (q_mm 188).2.2.2.1 = none ∧ (q_mm 188).2.2.2.2.2.2.2 = [] := by decide +kernel
theorem m189 : (q_mm 189).2.2.2.2.2.1 = 3 ∧ (q_mm 189).2.2.1 = 3 ∧ (q_mm 189).2.2.2.2.2.2.1 = 10 ∧ (q_mm 189).2.2.2.1 = none ∧ (q_mm 189).2.2.2.2.2.2.2 = [] := by decide +kernel
theorem m190 : (q_mm 190).2.2.2.2.2.1 = 3 ∧ (q_mm 190).2.2.1 = 3 ∧ (q_mm 190).2.2.2.2.2.2.1 = 10 ∧ (q_mm 190).2.2.2.1 = none ∧ (q_mm 190).2.2.2.2.2.2.2 = [] := by decide +kernel
theorem m191 : (q_mm 191).2.2.2.2.2.1 = 1 ∧ (q_mm 191).2.2.1 = 1 ∧ (q_mm 191).2.2.2.2.2.2.1 = 0 ∧ (q_mm 191).2.2.2.1 = (some FieldType.boolean) ∧ (q_mm 191).2.2.2.2.2.2.2 = [] := by decide +kernel
theorem m192 : (q_mm 192).2.2.2.2.2.1 = 3 ∧ (q_mm 192).2.2.1 = 6 ∧ (q_mm 192).2.2.2.2.2.2.1 = 10 ∧ (q_mm 192).2.2.2.1 = (some FieldType.int) ∧ (q_mm 192).2.2.2.2.2.2.2 = [] := by decide +kernel
theorem m193 : (q_mm 193).2.2.2.2.2.1 = 3 ∧ (q_mm 193).2.2.1 = 4 ∧ (q_mm 193).2.2.2.2.2.2.1 = 10 ∧ (q_mm 193).2.2.2.1 = (some FieldType.int) ∧ (q_mm 193).2.2.2.2.2.2.2 = [] := by decide +kernel
theorem m194 : (q_mm 194).2.2.2.2.2.1 = 2 ∧ (q_mm 194).2.2.1 = 3 ∧ (q_mm 194).2.2.2.2.2.2.1 = 10 ∧ (q_mm 194).2.2.2.1 = (some FieldType.int) ∧ (q_mm 194).2.2.2.2.2.2.2 = [] := by decide +kernel
theorem m195 : (q_mm 195).2.2.2.2.2.1 = 2 ∧ (q_mm 195).2.2.1 = 7 ∧ (q_mm 195).2.2.2.2.2.2.1 = 10 ∧ (q_mm 195).2.2.2.1 = (some FieldType.int) ∧ (q_mm 195).2.2.2.2.2.2.2 = [] := by decide +kernel
theorem m196 : (q_mm 196).2.2.2.2.2.1 = 4 ∧ (q_mm 196).2.2.1 = 7 ∧ (q_mm 196).2.2.2.2.2.2.1 = 10 ∧ (q_mm 196).2.2.2.1 = (some FieldType.boolean) ∧ (q_mm 196).2.2.2.2.2.2.2 = [] := by decide +kernel
theorem m197 : (q_mm 197).2.2.2.2.2.1 = 2 ∧ (q_mm 197).2.2.1 = 2 ∧ (q_mm 197).2.2.2.2.2.2.1 = 10 ∧ (q_mm 197).2.2.2.1 = (some FieldType.int) ∧ (q_mm 197).2.2.2.2.2.2.2 = [] := by decide +kernel
theorem m198 : (q_mm 198).2.2.2.2.2.1 = 2 ∧ (q_mm 198).2.2.1 = 9 ∧ (q_mm 198).2.2.2.2.2.2.1 = 10 ∧ (q_mm 198).2.2.2.1 = (some FieldType.int) ∧ (q_mm 198).2.2.2.2.2.2.2 = [] := by decide +kernel
theorem m199 : (q_mm 199).2.2.2.2.2.1 = 3 ∧ (q_mm 199).2.2.1 = 6 ∧ (q_mm 199).2.2.2.2.2.2.1 = 10 ∧ (q_mm 199).2.2.2.1 = (some FieldType.int) ∧ (q_mm 199).2.2.2.2.2.2.2 = [] := by decide +kernel
theorem m200 : (q_mm 200).2.2.2.2.2.1 = 4 ∧ (q_mm 200).2.2.1 = 7 ∧ (q_mm 200).2.2.2.2.2.2.1 = 10 ∧ (q_mm 200).2.2.2.1 = (some FieldType.boolean) ∧ (q_mm 200).2.2.2.2.2.2.2 = [] := by decide +kernel
theorem m201 : (q_mm 201).2.2.2.2.2.1 = 4 ∧ (q_mm 201).2.2.1 = 4 ∧ (q_mm 201).2.2.2.2.2.2.1 = 10 ∧ (q_mm 201).2.2.2.1 = none ∧ (q_mm 201).2.2.2.2.2.2.2 = [] := by decide +kernel
theorem m202 : (q_mm 202).2.2.2.2.2.1 = 4 ∧ (q_mm 202).2.2.1 = 6 ∧ (q_mm 202).2.2.2.2.2.2.1 = 10 ∧ (q_mm 202).2.2.2.1 = (some FieldType.int) ∧ (q_mm 202).2.2.2.2.2.2.2 = [] := by decide +kernel
theorem m203 : (q_mm 203).2.2.2.2.2.1 = 3 ∧ (q_mm 203).2.2.1 = 9 ∧ (q_mm 203).2.2.2.2.2.2.1 = 10 ∧ (q_mm 203).2.2.2.1 = (some FieldType.boolean) ∧ (q_mm 203).2.2.2.2.2.2.2 = [] := by decide +kernel
theorem m204 : (q_mm 204).2.2.2.2.2.1 = 2 ∧ (q_mm 204).2.2.1 = 4 ∧ (q_mm 204).2.2.2.2.2.2.1 = 10 ∧ (q_mm 204).2.2.2.1 = (some FieldType.int) ∧ (q_mm 204).2.2.2.2.2.2.2 = [] := by decide +kernel
theorem m205 : (q_mm 205).2.2.2.2.2.1 = 1 ∧ (q_mm 205).2.2.1 = 7 ∧ (q_mm 205).2.2.2.2.2.2.1 = 0 ∧ (q_mm 205).2.2.2.1 = (some FieldType.boolean) ∧ (q_mm 205).2.2.2.2.2.2.2 = [] := by decide +kernel
