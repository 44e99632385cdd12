/-! THE START: the old cells in the pure heap, and the words of the Statement that give them. The constants of the enum stand at 0 to 33, their texts at 300 on, the texts' bytes at 400 on, the array of all at 200, the switch's map at 201, the script at 999. -/
def q_lev : List Int32 := [-1, -1, -1, -1, -1, -1, -1, -1, -1, -1, -1, -1, -1, -1, -1, -1, -1, -1, -1, 0, 1, 2, 2, 2, 2, 2, 2, 3, 3, 4, -1, -1, -1, -1]
def q_spe : List Nat := [154, 160, 163, 166, 169, 172, 175, 178, 181, 184, 187, 190, 193, 196, 199, 202, 205, 208, 211, 214, 217, 220, 223, 226, 229, 232, 235, 238, 241, 244, 247, 247, 247, 247]
def q_swm : List Int32 := [0, 0, 0, 0, 5, 6, 8, 9, 1, 2, 3, 10, 0, 0, 0, 0, 0, 0, 11, 21, 20, 14, 15, 17, 18, 16, 13, 19, 12, 0, 4, 7, 0, 0]
def q_byt : List (List Int32) := [[112, 101, 114, 109, 105, 116], [102, 111, 114, 98, 105, 100], [119, 104, 101, 110], [117, 110, 108, 101, 115, 115], [116, 114, 117, 101], [102, 97, 108, 115, 101], [112], [114], [120], [121], [122], [40], [41], [123], [125], [44], [46], [95], [33], [124, 124], [38, 38], [61, 61], [33, 61], [60], [60, 61], [105, 110], [104, 97, 115], [43], [45], [42], [], [], [], []]
def q_S0 (L : Nat) (xs : Nat → Int32) : q_S :=
  (fun a => if a < 34 then (15, 3) else if a = 200 then (125, 34) else if a = 201 then (100, 34) else if 300 ≤ a ∧ a < 334 then (16, 2) else if 400 ≤ a ∧ a < 434 then (104, (q_byt.getD (a - 400) []).length) else if a = 999 then (100, L) else (99, 0),
   (1000, 0),
   fun a k => if a < 34 then (if k = 0 then Int32.ofNat a else q_lev.getD a 0) else if a = 201 then q_swm.getD k 0 else if 400 ≤ a ∧ a < 434 then (q_byt.getD (a - 400) []).getD k 0 else if a = 999 then xs k else 0,
   fun a k => if a < 34 then some (300 + a) else if a = 200 then some k else if 300 ≤ a ∧ a < 334 then some (a + 100) else none,
   fun _ _ => 0)
abbrev q_sg : String := "PolicyForge$Sign"
abbrev q_sgD : String := "LPolicyForge$Sign;"
abbrev q_tmC (i : Nat) : Term := .static q_sg (q_sd i).2.1 q_sgD
abbrev q_tmS (i : Nat) : Term := .string q_sg (q_spe.getD i 0)
abbrev q_tmV (i : Nat) : Term := .field (q_tmS i) "java/lang/String" "value" "[B"
abbrev q_tmA : Term := .static q_sg "ALL" "[LPolicyForge$Sign;"
abbrev q_tmM : Term := .static "PolicyForge$1" "$SwitchMap$PolicyForge$Sign" "[I"
def q_nw1 (i : Nat) : List Jvm.Cond := [.exactly (q_tmC i) q_sg, .eq (.field (q_tmC i) "java/lang/Enum" "ordinal" "I") (.int (Int32.ofNat i)), .eq (.field (q_tmC i) q_sg "spelling" "Ljava/lang/String;") (q_tmS i), .eq (.field (q_tmC i) q_sg "level" "I") (.int (q_lev.getD i 0)),
  .exactly (q_tmS i) "java/lang/String", .eq (.field (q_tmS i) "java/lang/String" "coder" "B") (.int 0), .arrayOf (q_tmV i) .byte, .eq (.length (q_tmV i)) (.int (Int32.ofNat (q_byt.getD i []).length)), .eq (.elem q_tmA (.int (Int32.ofNat i))) (q_tmC i), .eq (.elem q_tmM (.int (Int32.ofNat i))) (.int (q_swm.getD i 0))]
  ++ (List.range (q_byt.getD i []).length).map (fun j => .eq (.elem (q_tmV i) (.int (Int32.ofNat j))) (.int ((q_byt.getD i []).getD j 0)))
def q_nw2 : List Jvm.Cond := [.arrayOf q_tmA (.object q_sg), .eq (.length q_tmA) (.int 34), .arrayOf q_tmM .int, .eq (.length q_tmM) (.int 34), .eq (.static "java/lang/String" "COMPACT_STRINGS" "Z") (.int 1), .isRef (.static "jdk/internal/util/Preconditions" "SIOOBE_FORMATTER" "Ljava/util/function/BiFunction;"), .isRef (.static Bundle.tN "UNASSIGNED_STACK" Bundle.steD), .isRef (.static Bundle.tN "SUPPRESSED_SENTINEL" Bundle.listD)]
def q_nc1 (i : Nat) : Bool := (q_nw1 i).all (fun w => decide (w ∈ flatC narrow_1))
set_option maxRecDepth 100000 in
theorem q_n1_0 : q_nc1 0 = true := by decide +kernel
set_option maxRecDepth 100000 in
theorem q_n1_1 : q_nc1 1 = true := by decide +kernel
set_option maxRecDepth 100000 in
theorem q_n1_2 : q_nc1 2 = true := by decide +kernel
set_option maxRecDepth 100000 in
theorem q_n1_3 : q_nc1 3 = true := by decide +kernel
set_option maxRecDepth 100000 in
theorem q_n1_4 : q_nc1 4 = true := by decide +kernel
set_option maxRecDepth 100000 in
theorem q_n1_5 : q_nc1 5 = true := by decide +kernel
set_option maxRecDepth 100000 in
theorem q_n1_6 : q_nc1 6 = true := by decide +kernel
set_option maxRecDepth 100000 in
theorem q_n1_7 : q_nc1 7 = true := by decide +kernel
set_option maxRecDepth 100000 in
theorem q_n1_8 : q_nc1 8 = true := by decide +kernel
set_option maxRecDepth 100000 in
theorem q_n1_9 : q_nc1 9 = true := by decide +kernel
set_option maxRecDepth 100000 in
theorem q_n1_10 : q_nc1 10 = true := by decide +kernel
set_option maxRecDepth 100000 in
theorem q_n1_11 : q_nc1 11 = true := by decide +kernel
set_option maxRecDepth 100000 in
theorem q_n1_12 : q_nc1 12 = true := by decide +kernel
set_option maxRecDepth 100000 in
theorem q_n1_13 : q_nc1 13 = true := by decide +kernel
set_option maxRecDepth 100000 in
theorem q_n1_14 : q_nc1 14 = true := by decide +kernel
set_option maxRecDepth 100000 in
theorem q_n1_15 : q_nc1 15 = true := by decide +kernel
set_option maxRecDepth 100000 in
theorem q_n1_16 : q_nc1 16 = true := by decide +kernel
set_option maxRecDepth 100000 in
theorem q_n1_17 : q_nc1 17 = true := by decide +kernel
set_option maxRecDepth 100000 in
theorem q_n1_18 : q_nc1 18 = true := by decide +kernel
set_option maxRecDepth 100000 in
theorem q_n1_19 : q_nc1 19 = true := by decide +kernel
set_option maxRecDepth 100000 in
theorem q_n1_20 : q_nc1 20 = true := by decide +kernel
set_option maxRecDepth 100000 in
theorem q_n1_21 : q_nc1 21 = true := by decide +kernel
set_option maxRecDepth 100000 in
theorem q_n1_22 : q_nc1 22 = true := by decide +kernel
set_option maxRecDepth 100000 in
theorem q_n1_23 : q_nc1 23 = true := by decide +kernel
set_option maxRecDepth 100000 in
theorem q_n1_24 : q_nc1 24 = true := by decide +kernel
set_option maxRecDepth 100000 in
theorem q_n1_25 : q_nc1 25 = true := by decide +kernel
set_option maxRecDepth 100000 in
theorem q_n1_26 : q_nc1 26 = true := by decide +kernel
set_option maxRecDepth 100000 in
theorem q_n1_27 : q_nc1 27 = true := by decide +kernel
set_option maxRecDepth 100000 in
theorem q_n1_28 : q_nc1 28 = true := by decide +kernel
set_option maxRecDepth 100000 in
theorem q_n1_29 : q_nc1 29 = true := by decide +kernel
set_option maxRecDepth 100000 in
theorem q_n1_30 : q_nc1 30 = true := by decide +kernel
set_option maxRecDepth 100000 in
theorem q_n1_31 : q_nc1 31 = true := by decide +kernel
set_option maxRecDepth 100000 in
theorem q_n1_32 : q_nc1 32 = true := by decide +kernel
set_option maxRecDepth 100000 in
theorem q_n1_33 : q_nc1 33 = true := by decide +kernel
theorem q_n1h0 : ∀ m, m < 0 → q_nc1 m = true := lt_0
theorem q_n1h1 : ∀ m, m < 1 → q_nc1 m = true := lt_s q_n1h0 q_n1_0
theorem q_n1h2 : ∀ m, m < 2 → q_nc1 m = true := lt_s q_n1h1 q_n1_1
theorem q_n1h3 : ∀ m, m < 3 → q_nc1 m = true := lt_s q_n1h2 q_n1_2
theorem q_n1h4 : ∀ m, m < 4 → q_nc1 m = true := lt_s q_n1h3 q_n1_3
theorem q_n1h5 : ∀ m, m < 5 → q_nc1 m = true := lt_s q_n1h4 q_n1_4
theorem q_n1h6 : ∀ m, m < 6 → q_nc1 m = true := lt_s q_n1h5 q_n1_5
theorem q_n1h7 : ∀ m, m < 7 → q_nc1 m = true := lt_s q_n1h6 q_n1_6
theorem q_n1h8 : ∀ m, m < 8 → q_nc1 m = true := lt_s q_n1h7 q_n1_7
theorem q_n1h9 : ∀ m, m < 9 → q_nc1 m = true := lt_s q_n1h8 q_n1_8
theorem q_n1h10 : ∀ m, m < 10 → q_nc1 m = true := lt_s q_n1h9 q_n1_9
theorem q_n1h11 : ∀ m, m < 11 → q_nc1 m = true := lt_s q_n1h10 q_n1_10
theorem q_n1h12 : ∀ m, m < 12 → q_nc1 m = true := lt_s q_n1h11 q_n1_11
theorem q_n1h13 : ∀ m, m < 13 → q_nc1 m = true := lt_s q_n1h12 q_n1_12
theorem q_n1h14 : ∀ m, m < 14 → q_nc1 m = true := lt_s q_n1h13 q_n1_13
theorem q_n1h15 : ∀ m, m < 15 → q_nc1 m = true := lt_s q_n1h14 q_n1_14
theorem q_n1h16 : ∀ m, m < 16 → q_nc1 m = true := lt_s q_n1h15 q_n1_15
theorem q_n1h17 : ∀ m, m < 17 → q_nc1 m = true := lt_s q_n1h16 q_n1_16
theorem q_n1h18 : ∀ m, m < 18 → q_nc1 m = true := lt_s q_n1h17 q_n1_17
theorem q_n1h19 : ∀ m, m < 19 → q_nc1 m = true := lt_s q_n1h18 q_n1_18
theorem q_n1h20 : ∀ m, m < 20 → q_nc1 m = true := lt_s q_n1h19 q_n1_19
theorem q_n1h21 : ∀ m, m < 21 → q_nc1 m = true := lt_s q_n1h20 q_n1_20
theorem q_n1h22 : ∀ m, m < 22 → q_nc1 m = true := lt_s q_n1h21 q_n1_21
theorem q_n1h23 : ∀ m, m < 23 → q_nc1 m = true := lt_s q_n1h22 q_n1_22
theorem q_n1h24 : ∀ m, m < 24 → q_nc1 m = true := lt_s q_n1h23 q_n1_23
theorem q_n1h25 : ∀ m, m < 25 → q_nc1 m = true := lt_s q_n1h24 q_n1_24
theorem q_n1h26 : ∀ m, m < 26 → q_nc1 m = true := lt_s q_n1h25 q_n1_25
theorem q_n1h27 : ∀ m, m < 27 → q_nc1 m = true := lt_s q_n1h26 q_n1_26
theorem q_n1h28 : ∀ m, m < 28 → q_nc1 m = true := lt_s q_n1h27 q_n1_27
theorem q_n1h29 : ∀ m, m < 29 → q_nc1 m = true := lt_s q_n1h28 q_n1_28
theorem q_n1h30 : ∀ m, m < 30 → q_nc1 m = true := lt_s q_n1h29 q_n1_29
theorem q_n1h31 : ∀ m, m < 31 → q_nc1 m = true := lt_s q_n1h30 q_n1_30
theorem q_n1h32 : ∀ m, m < 32 → q_nc1 m = true := lt_s q_n1h31 q_n1_31
theorem q_n1h33 : ∀ m, m < 33 → q_nc1 m = true := lt_s q_n1h32 q_n1_32
theorem q_n1h34 : ∀ m, m < 34 → q_nc1 m = true := lt_s q_n1h33 q_n1_33
set_option maxRecDepth 100000 in
theorem q_n2_ok : q_nw2.all (fun w => decide (w ∈ flatC narrow_1)) = true := by decide +kernel
set_option maxRecDepth 100000 in
theorem q_n3_ok : (List.range 38).all (fun i => decide (Jvm.Cond.laysStatic (q_sd i).1 (q_sd i).2.1 (q_sd i).2.2.1 ∈ tables_1) && decide (Jvm.Cond.initialized (q_sd i).1 ∈ tables_1)) = true := by decide +kernel
theorem q_n4_ok : (List.range 34).all (fun i => decide (q_sd i = (q_sg, (q_sd i).2.1, q_sgD, .ref i))) = true := by decide +kernel
set_option maxRecDepth 100000 in
theorem q_n5_ok : (List.range 5).all (fun c => (List.range 5).all (fun d => decide (c = d) || decide (Jvm.Cond.not (.castable (q_cname (c + 10)) (q_cname (d + 10))) ∈ flatC narrow_1))) = true := by decide +kernel
set_option maxRecDepth 100000 in
theorem q_n6_ok : q_xw.all (fun w => decide (w ∈ tables_1)) = true ∧ q_tx.all (fun t => decide (Jvm.Cond.stringRef "PolicyForge" t.1 t.2 ∈ tables_1) && decide (Jvm.Cond.exactly (.string "PolicyForge" t.1) "java/lang/String" ∈ flatC narrow_1)) = true ∧ Jvm.Cond.arrayOver (.object "PolicyForge$Policy") ∈ tables_1 ∧ Jvm.Cond.arrayOver (.object "PolicyForge$Sign") ∈ tables_1 ∧ Jvm.Cond.laysStatic Bundle.tN "UNASSIGNED_STACK" Bundle.steD ∈ tables_1 ∧ Jvm.Cond.laysStatic Bundle.tN "SUPPRESSED_SENTINEL" Bundle.listD ∈ tables_1 := by decide +kernel
