/-! ALL THAT HOLDS AT THE LAW'S ENTRY, in the pure machine's words. -/
section QLAID
variable {p : Program} {s : State} {m : MethodId} {meth : Method} {c : Code} {b L : Nat} {xs : Nat → Int32}
def q_cv0 (base b aA aM : Nat) (ad : Nat → Nat × Nat × Nat) (a : Nat) : Nat :=
  if 1000 ≤ a then base + (a - 1000) else if a < 34 then (ad a).1 else if a = 200 then aA else if a = 201 then aM else if 300 ≤ a ∧ a < 334 then (ad (a - 300)).2.1 else if 400 ≤ a ∧ a < 434 then (ad (a - 400)).2.2 else b
theorem q_cv0_s {base b aA aM : Nat} {ad : Nat → Nat × Nat × Nat} {i : Nat} (h : i < 34) : q_cv0 base b aA aM ad i = (ad i).1 := by
  unfold q_cv0; rw [if_neg (by omega), if_pos h]
theorem q_cv0_t {base b aA aM : Nat} {ad : Nat → Nat × Nat × Nat} {i : Nat} (h : i < 34) : q_cv0 base b aA aM ad (300 + i) = (ad i).2.1 := by
  unfold q_cv0; rw [if_neg (by omega), if_neg (by omega), if_neg (by omega), if_neg (by omega), if_pos (by omega), show 300 + i - 300 = i by omega]
theorem q_cv0_v {base b aA aM : Nat} {ad : Nat → Nat × Nat × Nat} {i : Nat} (h : i < 34) : q_cv0 base b aA aM ad (400 + i) = (ad i).2.2 := by
  unfold q_cv0; rw [if_neg (by omega), if_neg (by omega), if_neg (by omega), if_neg (by omega), if_neg (by omega), if_pos (by omega), show 400 + i - 400 = i by omega]
theorem q_ref_rf {v : Value} (h : v.isRef = true) : ∃ o : Option Nat, v = va_rf o := by
  cases v <;> first | (cases h; done) | exact ⟨none, rfl⟩ | exact ⟨some _, rfl⟩
theorem q_arrcls (hts : ∀ w ∈ lw_tbl, w.before #[Value.ref b] s = true) : ∃ cA : Nat → ClassId, ∀ t ty, q_ty t = some ty → ArrOfT s (cA t) ty ∧ va_RA s (cA t) ty := by
  have key : ∀ t : Nat, ∃ x : ClassId, ∀ ty, q_ty t = some ty → ArrOfT s x ty ∧ va_RA s x ty := by
    intro t
    have prim : ∀ ty : FieldType, Jvm.Cond.arrayClass ty ∈ tables_1 → ∃ x, ArrOfT s x ty ∧ s.vm.findClass ("[" ++ ty.toString) = some x := by
      intro ty h
      obtain ⟨x, k, comp, h1, h2, h3⟩ := Cond.arrayClass_spec (hts _ (List.mem_append_right _ h))
      exact ⟨x, fun n z => ⟨(fun k h => by cases h), k, h2, comp, h3⟩, h1⟩
    have objs : ∀ n : String, Jvm.Cond.arrayOver (.object n) ∈ tables_1 → ∃ x, ArrOfT s x (.object n) ∧ va_RA s x (.object n) := by
      intro n h
      obtain ⟨comp, x, k, h1, h2, h3, h4, h5⟩ := Cond.arrayOver_spec (hts _ (List.mem_append_right _ h))
      exact ⟨x, fun n z => ⟨(fun k h => by cases h), k, h3, comp, h4⟩, k, comp, h3, h4, h1, h5⟩
    obtain ⟨a1, a2, a3, a4, a5⟩ := q_arrB
    unfold q_ty
    by_cases h0 : t = 100
    · obtain ⟨x, x1, x2⟩ := prim _ a1
      exact ⟨x, fun ty h => by rw [if_pos h0] at h; cases h; exact ⟨x1, x2⟩⟩
    by_cases h1 : t = 101
    · obtain ⟨x, x1, x2⟩ := prim _ a2
      exact ⟨x, fun ty h => by rw [if_neg h0, if_pos h1] at h; cases h; exact ⟨x1, x2⟩⟩
    by_cases h2 : t = 102
    · obtain ⟨x, x1, x2⟩ := prim _ a3
      exact ⟨x, fun ty h => by rw [if_neg h0, if_neg h1, if_pos h2] at h; cases h; exact ⟨x1, x2⟩⟩
    by_cases h3 : t = 103
    · obtain ⟨x, x1, x2⟩ := prim _ a4
      exact ⟨x, fun ty h => by rw [if_neg h0, if_neg h1, if_neg h2, if_pos h3] at h; cases h; exact ⟨x1, x2⟩⟩
    by_cases h4 : t = 104
    · obtain ⟨x, x1, x2⟩ := prim _ a5
      exact ⟨x, fun ty h => by rw [if_neg h0, if_neg h1, if_neg h2, if_neg h3, if_pos h4] at h; cases h; exact ⟨x1, x2⟩⟩
    by_cases h5 : t = 111
    · obtain ⟨x, x1, x2⟩ := objs _ q_n6_ok.2.2.1
      exact ⟨x, fun ty h => by rw [if_neg h0, if_neg h1, if_neg h2, if_neg h3, if_neg h4, if_pos h5] at h; cases h; exact ⟨x1, x2⟩⟩
    by_cases h6 : t = 125
    · obtain ⟨x, x1, x2⟩ := objs _ q_n6_ok.2.2.2.1
      exact ⟨x, fun ty h => by rw [if_neg h0, if_neg h1, if_neg h2, if_neg h3, if_neg h4, if_neg h5, if_pos h6] at h; cases h; exact ⟨x1, x2⟩⟩
    · exact ⟨0, fun ty h => by rw [if_neg h0, if_neg h1, if_neg h2, if_neg h3, if_neg h4, if_neg h5, if_neg h6] at h; cases h⟩
  exact Classical.axiomOfChoice key
theorem q_classes (hts : ∀ w ∈ lw_tbl, w.before #[Value.ref b] s = true) : ∃ D : va_G, va_K D q_cls [] s := by
  have key : ∀ c : Nat, ∃ q : ClassId × (Nat → Nat), c < 15 → u_Kn s (q_cname c) (q_T c) (q_nf c) q.1 q.2 := by
    intro c
    by_cases h : c < 15
    · obtain ⟨x, iS, hx⟩ := u_known hts (q_fin h) (hts _ (q_inst h).1)
      exact ⟨(x, iS), fun _ => hx⟩
    · exact ⟨(0, fun _ => 0), fun z => absurd z h⟩
  obtain ⟨f, hf⟩ := Classical.axiomOfChoice key
  refine ⟨(fun c => (f c).1, fun c => (f c).2), fun c q hq => ?_, fun k q hq => by cases hq⟩
  have hc : c < 15 := by
    have := (List.getElem?_eq_some_iff.mp hq).1
    simpa [q_cls] using this
  cases (q_cls_at hc).symm.trans hq
  exact hf c hc
theorem q_laid (C0 : lw_At p s m meth c b L xs) (hL : L ≤ 3072) : ∃ (D : va_G) (cA : Nat → ClassId) (cv : q_M), q_E D cA cv s.heap.size (q_S0 L xs) s s.heap ∧ q_cvk cv s.heap.size ∧ (∀ x y, q_cm x = true → q_cm y = true → cv.1 x = cv.1 y → x = y) ∧ cv.1 999 = b ∧ q_R D cA cv s.heap.size (q_S0 L xs) s.heap := by
  obtain ⟨-, -, -, -, -, hts, hX, hbl, -, hgv⟩ := C0
  have hA : ∀ a : Nat, a < s.heap.size → ¬ q_A s.heap.size a := fun a h z => absurd h (Nat.not_lt.mpr z)
  obtain ⟨ad, had⟩ := q_signs (A := q_A s.heap.size) hts hgv hA
  obtain ⟨cA, hcA⟩ := q_arrcls hts
  obtain ⟨D, hD⟩ := q_classes hts
  have lay : ∀ i, i < 38 → (Jvm.Cond.laysStatic (q_sd i).1 (q_sd i).2.1 (q_sd i).2.2.1).before #[Value.ref b] s = true ∧ (Jvm.Cond.initialized (q_sd i).1).before #[Value.ref b] s = true := by
    intro i hi
    have n3 := List.all_eq_true.mp q_n3_ok i (List.mem_range.mpr hi)
    rw [Bool.and_eq_true] at n3
    exact ⟨hts _ (List.mem_append_right _ (of_decide_eq_true n3.1)), hts _ (List.mem_append_right _ (of_decide_eq_true n3.2))⟩
  obtain ⟨aA, hA1, hA2⟩ := va_Tof (f := fun j => .ref (ad j).1) (A := q_A s.heap.size) (N := 34) (by decide) (q_wn2 hgv (w := .arrayOf q_tmA (.object q_sg)) (by simp [q_nw2])) (va_eqt (q_wn2 hgv (w := .eq (.length q_tmA) (.int 34)) (by simp [q_nw2]))) (fun j hj => va_eqv (q_wn1 hgv hj (w := .eq (.elem q_tmA (.int (Int32.ofNat j))) (q_tmC j)) (by simp [q_nw1])) (had j hj).1) hA
  obtain ⟨aM, hM1, hM2⟩ := va_Tof (f := fun j => .int (q_swm.getD j 0)) (A := q_A s.heap.size) (N := 34) (by decide) (q_wn2 hgv (w := .arrayOf q_tmM .int) (by simp [q_nw2])) (va_eqt (q_wn2 hgv (w := .eq (.length q_tmM) (.int 34)) (by simp [q_nw2]))) (fun j hj => va_eqt (q_wn1 hgv hj (w := .eq (.elem q_tmM (.int (Int32.ofNat j))) (.int (q_swm.getD j 0))) (by simp [q_nw1]))) hA
  obtain ⟨vF, hF1, hF2⟩ := Cond.isRef_spec (q_wn2 hgv (w := .isRef (.static "jdk/internal/util/Preconditions" "SIOOBE_FORMATTER" "Ljava/util/function/BiFunction;")) (by simp [q_nw2]))
  obtain ⟨oF, rfl⟩ := q_ref_rf hF2
  refine ⟨D, cA, (q_cv0 s.heap.size b aA aM ad, oF), ⟨⟨?_, ?_, ⟨va_AO.of (hts _ (List.mem_append_right _ q_n6_ok.2.2.1)), va_AO.of (hts _ (List.mem_append_right _ q_n6_ok.2.2.2.1))⟩, hD, hcA, ?_, ?_⟩, ?_, ?_, ?_, ?_, ?_⟩, ?_, ?_, ?_, ?_⟩
  · exact fun w hw hg X => word_at (State.WarmedH.refl s) (good_of_word hg) (hts w hw)
  · exact fun w hw hn X => va_any (by cases w <;> first | (cases hn; done) | rfl) (hts w (List.mem_append_right _ hw))
  · intro a ha
    by_cases h1 : a < 34
    · have hsh : q_sh (q_S0 L xs) a = (15, 3) := if_pos h1
      obtain ⟨g0, g1, g2, g3, g4, g5, g6, g7, g8, g9, g10⟩ := had a h1
      have ec : (q_cv0 s.heap.size b aA aM ad, oF).1 a = (ad a).1 := q_cv0_s h1
      refine ⟨fun _ => ?_, (fun ty hty => by rw [hsh] at hty; cases hty)⟩
      rw [hsh]
      show va_O "PolicyForge$Sign" (q_cv0 s.heap.size b aA aM ad a) _ s s.heap ∧ _
      rw [q_cv0_s h1]
      refine ⟨g3, fun k hk => ?_⟩
      have hk' : k = 0 ∨ k = 1 ∨ k = 2 := by have : k < 3 := hk; omega
      unfold q_fv
      rw [hsh]
      rcases hk' with rfl | rfl | rfl
      · have e : q_iv (q_S0 L xs) a 0 = Int32.ofNat a := by show (if a < 34 then _ else _) = _; rw [if_pos h1]; rfl
        show va_OF "java/lang/Enum" "ordinal" "I" (.int (q_iv (q_S0 L xs) a 0)) _ _ s s.heap
        rw [e]
        rw [ec]
        exact g4
      · have e : q_rv (q_S0 L xs) a 1 = some (300 + a) := by show (if a < 34 then _ else _) = _; rw [if_pos h1]
        show va_OF "PolicyForge$Sign" "spelling" "Ljava/lang/String;" (va_rf ((q_rv (q_S0 L xs) a 1).map (q_cv0 s.heap.size b aA aM ad))) _ _ s s.heap
        rw [e, Option.map_some, q_cv0_t h1]
        rw [ec]
        exact g5
      · have e : q_iv (q_S0 L xs) a 2 = q_lev.getD a 0 := by show (if a < 34 then _ else _) = _; rw [if_pos h1]; rfl
        show va_OF "PolicyForge$Sign" "level" "I" (.int (q_iv (q_S0 L xs) a 2)) _ _ s s.heap
        rw [e]
        rw [ec]
        exact g6
    by_cases h2 : a = 200
    · subst h2
      have hsh : q_sh (q_S0 L xs) 200 = (125, 34) := rfl
      refine ⟨(fun z => by rw [hsh] at z; have z2 : (125 : Nat) = 15 ∨ (125 : Nat) = 16 := z; omega), (fun ty hty => ?_)⟩
      rw [hsh] at hty ⊢
      cases hty
      refine ⟨?_, by decide⟩
      obtain ⟨cell, c1, c2, c3, c4, c5, c6, c7⟩ := hA2
      refine ⟨cell, c1, c2, c3, c4, c5, fun j hj => ?_, c7⟩
      rw [c6 j hj]
      show some (Value.ref (ad j).1) = some (va_rf ((some j).map (q_cv0 s.heap.size b aA aM ad)))
      rw [Option.map_some, q_cv0_s hj]
      rfl
    by_cases h3 : a = 201
    · subst h3
      have hsh : q_sh (q_S0 L xs) 201 = (100, 34) := rfl
      refine ⟨(fun z => by rw [hsh] at z; have z2 : (100 : Nat) = 15 ∨ (100 : Nat) = 16 := z; omega), (fun ty hty => ?_)⟩
      rw [hsh] at hty ⊢
      cases hty
      exact ⟨hM2, by decide⟩
    by_cases h4 : 300 ≤ a ∧ a < 334
    · obtain ⟨i, rfl⟩ : ∃ i, a = 300 + i := ⟨a - 300, by omega⟩
      have hi : i < 34 := by omega
      have hsh : q_sh (q_S0 L xs) (300 + i) = (16, 2) := by show (if _ then _ else if _ then _ else if _ then _ else if _ then _ else _) = _; rw [if_neg h1, if_neg h2, if_neg h3, if_pos h4]
      obtain ⟨g0, g1, g2, g3, g4, g5, g6, g7, g8, g9, g10⟩ := had i hi
      have ec : (q_cv0 s.heap.size b aA aM ad, oF).1 (300 + i) = (ad i).2.1 := q_cv0_t hi
      refine ⟨fun _ => ?_, (fun ty hty => by rw [hsh] at hty; cases hty)⟩
      rw [hsh]
      show va_O "java/lang/String" (q_cv0 s.heap.size b aA aM ad (300 + i)) _ s s.heap ∧ _
      rw [q_cv0_t hi]
      refine ⟨g7, fun k hk => ?_⟩
      have hk' : k = 0 ∨ k = 1 := by have : k < 2 := hk; omega
      unfold q_fv
      rw [hsh]
      rcases hk' with rfl | rfl
      · have e : q_rv (q_S0 L xs) (300 + i) 0 = some (400 + i) := by
          show (if _ then _ else if _ then _ else if _ then _ else _) = _
          rw [if_neg h1, if_neg h2, if_pos h4, show 300 + i + 100 = 400 + i by omega]
        show va_OF "java/lang/String" "value" "[B" (va_rf ((q_rv (q_S0 L xs) (300 + i) 0).map (q_cv0 s.heap.size b aA aM ad))) _ _ s s.heap
        rw [e, Option.map_some, q_cv0_v hi]
        rw [ec]
        exact g8
      · have e : q_iv (q_S0 L xs) (300 + i) 1 = 0 := by
          show (if _ then _ else if _ then _ else if _ then _ else if _ then _ else _) = _
          rw [if_neg h1, if_neg h3, if_neg (by omega), if_neg (by omega)]
        show va_OF "java/lang/String" "coder" "B" (.int (q_iv (q_S0 L xs) (300 + i) 1)) _ _ s s.heap
        rw [e]
        rw [ec]
        exact g9
    by_cases h5 : 400 ≤ a ∧ a < 434
    · obtain ⟨i, rfl⟩ : ∃ i, a = 400 + i := ⟨a - 400, by omega⟩
      have hi : i < 34 := by omega
      have hsh : q_sh (q_S0 L xs) (400 + i) = (104, (q_byt.getD i []).length) := by
        show (if _ then _ else if _ then _ else if _ then _ else if _ then _ else if _ then _ else _) = _
        rw [if_neg h1, if_neg h2, if_neg h3, if_neg h4, if_pos h5, show 400 + i - 400 = i by omega]
      obtain ⟨g0, g1, g2, g3, g4, g5, g6, g7, g8, g9, g10⟩ := had i hi
      refine ⟨(fun z => by rw [hsh] at z; have z2 : (104 : Nat) = 15 ∨ (104 : Nat) = 16 := z; omega), (fun ty hty => ?_)⟩
      rw [hsh] at hty ⊢
      cases hty
      refine ⟨?_, (fun z => by have z2 : (104 : Nat) = 103 := z; omega)⟩
      show va_T .byte (q_cv0 s.heap.size b aA aM ad (400 + i)) _ _ _ s s.heap
      rw [q_cv0_v hi]
      obtain ⟨cell, c1, c2, c3, c4, c5, c6, c7⟩ := g10
      refine ⟨cell, c1, c2, c3, c4, c5, fun j hj => ?_, c7⟩
      rw [c6 j hj]
      have e : q_iv (q_S0 L xs) (400 + i) j = (q_byt.getD i []).getD j 0 := by
        show (if _ then _ else if _ then _ else if _ then _ else _) = _
        rw [if_neg h1, if_neg h3, if_pos h5, show 400 + i - 400 = i by omega]
      show some (Value.int ((q_byt.getD i []).getD j 0)) = some (Value.int (q_iv (q_S0 L xs) (400 + i) j))
      rw [e]
    by_cases h6 : a = 999
    · subst h6
      have hsh : q_sh (q_S0 L xs) 999 = (100, L) := rfl
      refine ⟨(fun z => by rw [hsh] at z; have z2 : (100 : Nat) = 15 ∨ (100 : Nat) = 16 := z; omega), (fun ty hty => ?_)⟩
      rw [hsh] at hty ⊢
      cases hty
      refine ⟨?_, (fun z => by have z2 : (100 : Nat) = 103 := z; omega)⟩
      obtain ⟨scr, x1, x2, x3, x4, x5⟩ := hX
      exact ⟨scr, x1, x2, x3, (by rw [x4]; exact Nat.le_refl _), (by rw [x4]), (fun j hj => x5 j hj), hA b hbl⟩
    · have hsh : q_sh (q_S0 L xs) a = (99, 0) := by
        show (if _ then _ else if _ then _ else if _ then _ else if _ then _ else if _ then _ else if _ then _ else _) = _
        rw [if_neg h1, if_neg h2, if_neg h3, if_neg h4, if_neg h5, if_neg h6]
      exact ⟨(fun z => by rw [hsh] at z; have z2 : (99 : Nat) = 15 ∨ (99 : Nat) = 16 := z; omega), (fun ty hty => by rw [hsh] at hty; cases hty)⟩
  · intro r v hv
    have hr : r < 38 := by
      unfold q_sv at hv
      obtain ⟨q, hq, -⟩ := Option.map_eq_some_iff.mp hv
      exact (List.getElem?_eq_some_iff.mp hq).1
    have hvd : v = (q_sd r).2.2.2 := by
      unfold q_sv at hv
      obtain ⟨q, hq, he⟩ := Option.map_eq_some_iff.mp hv
      unfold q_sd
      rw [List.getD_eq_getElem?_getD, hq]
      exact he.symm
    subst hvd
    by_cases h34 : r < 34
    · have n4 := of_decide_eq_true (List.all_eq_true.mp q_n4_ok r (List.mem_range.mpr h34))
      have z : (q_sd r).2.2.2 = .ref r := by rw [n4]
      rw [z]
      show va_Z _ _ _ (.ref (q_cv0 s.heap.size b aA aM ad r)) _ s s.heap
      rw [q_cv0_s h34]
      exact (had r h34).2.2.1
    · obtain ⟨y1, y2⟩ := lay r hr
      have : r = 34 ∨ r = 35 ∨ r = 36 ∨ r = 37 := by omega
      rcases this with rfl | rfl | rfl | rfl
      · exact va_Zref y1 y2 hA1 hA
      · exact va_Zref y1 y2 hM1 hA
      · exact va_Zof y1 y2 (va_eqt (q_wn2 hgv (w := .eq (.static "java/lang/String" "COMPACT_STRINGS" "Z") (.int 1)) (by simp [q_nw2]))) hA
      · exact va_Zof y1 y2 hF1 hA
  · exact fun w hw => va_any (by
      have hon := List.all_eq_true.mp q_xw_on w hw
      rw [Bool.and_eq_true] at hon
      exact hon.1) (hts w (List.mem_append_right _ (of_decide_eq_true (List.all_eq_true.mp q_n6_ok.1 w hw))))
  · intro x y h1 h2 h3 h4 h5
    have hm := List.all_eq_true.mp (List.all_eq_true.mp q_n5_ok (x - 10) (List.mem_range.mpr (by omega))) (y - 10) (List.mem_range.mpr (by omega))
    rw [Bool.or_eq_true, show x - 10 + 10 = x by omega, show y - 10 + 10 = y by omega] at hm
    rcases hm with hm | hm
    · have := of_decide_eq_true hm; omega
    · have hw := q_w1 hgv (of_decide_eq_true hm)
      have hv := Cond.holds_not_iff.mp hw
      have f1 := (hD.1 x _ (q_cls_at h2)).2.1
      have f2 := (hD.1 y _ (q_cls_at h4)).2.1
      dsimp only at f1 f2
      simp only [Cond.value, f1, f2] at hv
      exact ⟨_, _, f1, f2, Option.some.inj hv⟩
  · exact q_LSof (hts _ (List.mem_append_right _ q_n6_ok.2.2.2.2.1)) (q_wn2 hgv (w := .isRef (.static Bundle.tN "UNASSIGNED_STACK" Bundle.steD)) (by simp [q_nw2])) hA
  · exact q_LSof (hts _ (List.mem_append_right _ q_n6_ok.2.2.2.2.2)) (q_wn2 hgv (w := .isRef (.static Bundle.tN "SUPPRESSED_SENTINEL" Bundle.listD)) (by simp [q_nw2])) hA
  · intro t ht
    have hm := List.all_eq_true.mp q_n6_ok.2.1 t ht
    rw [Bool.and_eq_true] at hm
    obtain ⟨a1, c1, cl1, k1, p1, -⟩ := Cond.exactly_spec (args := #[Value.ref b]) (first := s) (o := none) (s := s) (idx := []) (q_w1 hgv (of_decide_eq_true hm.2))
    exact ⟨a1, vk_R.of (hts _ (List.mem_append_right _ (of_decide_eq_true hm.1))) p1⟩
  · intro a ha
    show q_cv0 _ _ _ _ _ a = _
    unfold q_cv0
    rw [if_pos ha]
  · intro x y hx hy he
    have he : q_cv0 s.heap.size b aA aM ad x = q_cv0 s.heap.size b aA aM ad y := he
    unfold q_cm at hx hy
    rw [Bool.or_eq_true, decide_eq_true_eq, decide_eq_true_eq] at hx hy
    rcases hx with hx | hx <;> rcases hy with hy | hy
    · rw [q_cv0_s hx, q_cv0_s hy] at he
      have o1 := (had x hx).2.2.2.2.1
      have o2 := (had y hy).2.2.2.2.1
      rw [he] at o1
      have := q_OF_inj o1 o2
      have hi : Int32.ofNat x = Int32.ofNat y := by injection this
      have : ∀ x, x < 34 → ∀ y, y < 34 → Int32.ofNat x = Int32.ofNat y → x = y := by decide +kernel
      exact this x hx y hy hi
    · rw [q_cv0_s hx] at he
      have h1 := (had x hx).2.1
      unfold q_cv0 at he
      rw [if_pos hy] at he
      omega
    · rw [q_cv0_s hy] at he
      have h1 := (had y hy).2.1
      unfold q_cv0 at he
      rw [if_pos hx] at he
      omega
    · unfold q_cv0 at he
      rw [if_pos hx, if_pos hy] at he
      omega
  · rfl
  · refine ⟨Nat.le_refl _, rfl, fun a h1 h2 => absurd h2 (Nat.not_lt.mpr h1), fun a h => ?_⟩
    have h : 1000 ≤ a := h
    show (if _ then _ else if _ then _ else if _ then _ else if _ then _ else if _ then _ else if _ then _ else ((99 : Nat), (0 : Nat))).1 = 99
    rw [if_neg (by omega), if_neg (by omega), if_neg (by omega), if_neg (by omega), if_neg (by omega), if_neg (by omega)]
end QLAID
