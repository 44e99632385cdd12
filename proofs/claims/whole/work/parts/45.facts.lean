/-! FACTS OF THE TABLES, decided: the words on the classes' fields, their types, what a new object holds. -/
set_option maxRecDepth 100000 in
theorem q_fin0 : ∀ c, c < 5 → (u_ws (q_cname c) (q_T c) (q_nf c)).all (fun w => decide (w ∈ tables_1)) = true := by decide +kernel
set_option maxRecDepth 100000 in
theorem q_fin1 : ∀ c, c < 4 → (u_ws (q_cname (c + 5)) (q_T (c + 5)) (q_nf (c + 5))).all (fun w => decide (w ∈ tables_1)) = true := by decide +kernel
set_option maxRecDepth 100000 in
theorem q_fin2 : (u_ws (q_cname 9) (q_T 9) (q_nf 9)).all (fun w => decide (w ∈ tables_1)) = true := by decide +kernel
set_option maxRecDepth 100000 in
theorem q_fin3 : ∀ c, c < 5 → (u_ws (q_cname (c + 10)) (q_T (c + 10)) (q_nf (c + 10))).all (fun w => decide (w ∈ tables_1)) = true := by decide +kernel
theorem q_fin {c : Nat} (h : c < 15) : ∀ w ∈ u_ws (q_cname c) (q_T c) (q_nf c), w ∈ lw_tbl := by
  have key : (u_ws (q_cname c) (q_T c) (q_nf c)).all (fun w => decide (w ∈ tables_1)) = true := by
    rcases Nat.lt_or_ge c 5 with h1 | h1
    · exact q_fin0 c h1
    · rcases Nat.lt_or_ge c 9 with h2 | h2
      · have := q_fin1 (c - 5) (by omega)
        rwa [show c - 5 + 5 = c by omega] at this
      · by_cases h3 : c = 9
        · rw [h3]; exact q_fin2
        · have := q_fin3 (c - 10) (by omega)
          rwa [show c - 10 + 10 = c by omega] at this
  intro w hw
  exact List.mem_append_right _ (of_decide_eq_true (List.all_eq_true.mp key w hw))
set_option maxRecDepth 100000 in
theorem q_ftyB : (List.range 15).all (fun c => (List.range (q_nf c)).all (fun k => decide (parseFieldDescriptor (q_T c k).2.2.1 = some (q_tyf c k)))) = true := by decide +kernel
theorem q_fty {c : Nat} (h : c < 15) : ∀ k, k < q_nf c → parseFieldDescriptor (q_T c k).2.2.1 = some (q_tyf c k) := fun k hk =>
  of_decide_eq_true (List.all_eq_true.mp (List.all_eq_true.mp q_ftyB c (List.mem_range.mpr h)) k (List.mem_range.mpr hk))
set_option maxRecDepth 100000 in
theorem q_fnmB : (List.range 15).all (fun c => (List.range (q_nf c)).all (fun a => (List.range (q_nf c)).all (fun b => decide (a = b) || decide ((q_T c a).2.1 ≠ (q_T c b).2.1)))) = true := by decide +kernel
theorem q_fnm {c : Nat} (h : c < 15) : ∀ a, a < q_nf c → ∀ b, b < q_nf c → a ≠ b → (q_T c a).2.1 ≠ (q_T c b).2.1 := fun a ha b hb hab => by
  have := List.all_eq_true.mp (List.all_eq_true.mp (List.all_eq_true.mp q_fnmB c (List.mem_range.mpr h)) a (List.mem_range.mpr ha)) b (List.mem_range.mpr hb)
  rw [Bool.or_eq_true] at this
  rcases this with h | h
  · exact absurd (of_decide_eq_true h) hab
  · exact of_decide_eq_true h
set_option maxRecDepth 100000 in
theorem q_fdfB : (List.range 10).all (fun c => (List.range (q_nf c)).all (fun k => decide (defaultValue (q_tyf c k) = if q_kf c k = 0 then .int 0 else .null))) = true := by decide +kernel
theorem q_fdf {c : Nat} (h : c < 10) : ∀ k, k < q_nf c → defaultValue (q_tyf c k) = if q_kf c k = 0 then .int 0 else .null := fun k hk =>
  of_decide_eq_true (List.all_eq_true.mp (List.all_eq_true.mp q_fdfB c (List.mem_range.mpr h)) k (List.mem_range.mpr hk))
set_option maxRecDepth 100000 in
theorem q_instB : (List.range 15).all (fun c => decide (Jvm.Cond.instantiable (q_cname c) (q_nf c) ∈ tables_1) && decide (Jvm.Cond.initialized (q_cname c) ∈ tables_1)) = true := by decide +kernel
theorem q_inst {c : Nat} (h : c < 15) : Jvm.Cond.instantiable (q_cname c) (q_nf c) ∈ lw_tbl ∧ Jvm.Cond.initialized (q_cname c) ∈ lw_tbl := by
  have := List.all_eq_true.mp q_instB c (List.mem_range.mpr h)
  rw [Bool.and_eq_true] at this
  exact ⟨List.mem_append_right _ (of_decide_eq_true this.1), List.mem_append_right _ (of_decide_eq_true this.2)⟩
set_option maxRecDepth 100000 in
theorem q_flkB : q_fl.all (fun e => decide (e.2.2.1 / 128 < 17) && (decide (e.2.2.1 / 2 % 64 < q_nf (e.2.2.1 / 128)) && (decide (e.2.2.1 % 2 = q_kf (e.2.2.1 / 128) (e.2.2.1 / 2 % 64)) && decide (e.2.2.1 / 128 < 10 ∨ 15 ≤ e.2.2.1 / 128)))) = true := by decide +kernel
theorem q_flink {own x r : Nat} (h : q_in3 q_fl own x r = true) : (∃ nest : Bool, (if nest = true then Jvm.Cond.fieldLinkNest (q_cname own) x (q_fd r).1 (q_fd r).2.1 (q_fd r).2.2.1 "PolicyForge" else Jvm.Cond.fieldLink (q_cname own) x (q_fd r).1 (q_fd r).2.1 (q_fd r).2.2.1) ∈ tables_1) ∧ r / 128 < 17 ∧ r / 2 % 64 < q_nf (r / 128) ∧ r % 2 = q_kf (r / 128) (r / 2 % 64) ∧ (r / 128 < 10 ∨ 15 ≤ r / 128) := by
  obtain ⟨⟨o, x', r', nest, p⟩, he, hh⟩ := List.any_eq_true.mp h
  simp only [Bool.and_eq_true, beq_iff_eq] at hh
  obtain ⟨rfl, rfl, rfl⟩ := hh
  have h1 := of_decide_eq_true (List.all_eq_true.mp q_fl_ok _ he)
  have h2 := List.all_eq_true.mp q_flkB _ he
  simp only [Bool.and_eq_true, decide_eq_true_eq] at h2
  exact ⟨⟨nest, List.mem_of_getElem? h1⟩, h2⟩
theorem q_slink {own x r : Nat} (h : q_in3 q_sl own x r = true) : ∃ nest : Bool, (if nest = true then Jvm.Cond.fieldLinkNest (q_cname own) x (q_sd r).1 (q_sd r).2.1 (q_sd r).2.2.1 "PolicyForge" else Jvm.Cond.fieldLink (q_cname own) x (q_sd r).1 (q_sd r).2.1 (q_sd r).2.2.1) ∈ tables_1 := by
  obtain ⟨⟨o, x', r', nest, p⟩, he, hh⟩ := List.any_eq_true.mp h
  simp only [Bool.and_eq_true, beq_iff_eq] at hh
  obtain ⟨rfl, rfl, rfl⟩ := hh
  have h1 := of_decide_eq_true (List.all_eq_true.mp q_sl_ok _ he)
  exact ⟨nest, List.mem_of_getElem? h1⟩
theorem q_nlink {own x r : Nat} (h : q_in4 q_nl own x r = true) : Jvm.Cond.classLink (q_cname own) x (q_cname r) ∈ tables_1 := by
  obtain ⟨⟨o, x', r', p⟩, he, hh⟩ := List.any_eq_true.mp h
  simp only [Bool.and_eq_true, beq_iff_eq] at hh
  obtain ⟨rfl, rfl, rfl⟩ := hh
  exact List.mem_of_getElem? (of_decide_eq_true (List.all_eq_true.mp q_nl_ok _ he))
theorem q_alink {own x r : Nat} (h : q_in4 q_al own x r = true) : Jvm.Cond.classLink (q_cname own) x (q_cname (r - 110)) ∈ tables_1 ∧ (r = 111 ∨ r = 125) := by
  obtain ⟨⟨o, x', r', p⟩, he, hh⟩ := List.any_eq_true.mp h
  simp only [Bool.and_eq_true, beq_iff_eq] at hh
  obtain ⟨rfl, rfl, rfl⟩ := hh
  have h2 : q_al.all (fun e => decide (e.2.2.1 = 111 ∨ e.2.2.1 = 125)) = true := by decide +kernel
  exact ⟨List.mem_of_getElem? (of_decide_eq_true (List.all_eq_true.mp q_al_ok _ he)), of_decide_eq_true (List.all_eq_true.mp h2 _ he)⟩
theorem q_jlink {own x r : Nat} (h : q_in4 q_jl own x r = true) : Jvm.Cond.constantLong (q_cname own) x (q_longs.getD r 0) ∈ tables_1 := by
  obtain ⟨⟨o, x', r', p⟩, he, hh⟩ := List.any_eq_true.mp h
  simp only [Bool.and_eq_true, beq_iff_eq] at hh
  obtain ⟨rfl, rfl, rfl⟩ := hh
  exact List.mem_of_getElem? (of_decide_eq_true (List.all_eq_true.mp q_jl_ok _ he))
