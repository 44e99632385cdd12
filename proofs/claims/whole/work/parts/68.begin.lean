/-! THE START, laid: the addresses of the old cells, the classes, and all that holds of them. -/
section QBEG
variable {s : State} {b L : Nat} {xs : Nat → Int32}
theorem q_w1 (hgv : (Jvm.Cond.and given_1 narrow_1).before #[Value.ref b] s = true) {w : Jvm.Cond} (h : w ∈ flatC narrow_1) : w.before #[Value.ref b] s = true := by
  have hh : (Jvm.Cond.and given_1 narrow_1).before #[Value.ref b] s = true := hgv
  rw [Cond.before_and, Bool.and_eq_true] at hh
  exact flat_of_before _ hh.2 w h
theorem q_wn1 (hgv : (Jvm.Cond.and given_1 narrow_1).before #[Value.ref b] s = true) {i : Nat} (hi : i < 34) {w : Jvm.Cond} (h : w ∈ q_nw1 i) : w.before #[Value.ref b] s = true :=
  q_w1 hgv (of_decide_eq_true (List.all_eq_true.mp (q_n1h34 i hi) w h))
theorem q_wn2 (hgv : (Jvm.Cond.and given_1 narrow_1).before #[Value.ref b] s = true) {w : Jvm.Cond} (h : w ∈ q_nw2) : w.before #[Value.ref b] s = true :=
  q_w1 hgv (of_decide_eq_true (List.all_eq_true.mp q_n2_ok w h))
/-- a static of Throwable at the start -/
theorem q_LSof {n d : String} {A : Nat → Prop} (hl : (Jvm.Cond.laysStatic Bundle.tN n d).before #[Value.ref b] s = true) (hr : (Jvm.Cond.isRef (.static Bundle.tN n d)).before #[Value.ref b] s = true) (hA : ∀ a : Nat, a < s.heap.size → ¬ A a) : q_LS n d A s s.heap := by
  obtain ⟨c, k, i, f, a, cell, g1, g2, g3, g4, g5, g6, g7, g8, g9⟩ := Cond.laysStatic_spec hl
  obtain ⟨v, hv, hvr⟩ := Cond.isRef_spec hr
  obtain ⟨-, a', cell', ha', hcell', -, hslot⟩ := Term.static_spec g2 hv
  cases g4.symm.trans ha'
  cases g5.symm.trans hcell'
  exact ⟨c, k, i, f, a, cell, v, g1, g2, g3, g4, g5, g6, g7, g8, g9, hslot, hvr, hA a (Array.getElem?_eq_some_iff.mp g5).1⟩
/-- the constants of the enum and their texts -/
theorem q_signs (hts : ∀ w ∈ lw_tbl, w.before #[Value.ref b] s = true) (hgv : (Jvm.Cond.and given_1 narrow_1).before #[Value.ref b] s = true) {A : Nat → Prop} (hA : ∀ a : Nat, a < s.heap.size → ¬ A a) :
    ∃ ad : Nat → Nat × Nat × Nat, ∀ i, i < 34 → (q_tmC i).eval #[Value.ref b] s none [] s = some (.ref (ad i).1) ∧ (ad i).1 < s.heap.size ∧ va_Z (q_sd i).1 (q_sd i).2.1 (q_sd i).2.2.1 (.ref (ad i).1) A s s.heap ∧ va_O q_sg (ad i).1 A s s.heap ∧ va_OF "java/lang/Enum" "ordinal" "I" (.int (Int32.ofNat i)) (ad i).1 A s s.heap ∧ va_OF q_sg "spelling" "Ljava/lang/String;" (.ref (ad i).2.1) (ad i).1 A s s.heap ∧ va_OF q_sg "level" "I" (.int (q_lev.getD i 0)) (ad i).1 A s s.heap ∧
      va_O "java/lang/String" (ad i).2.1 A s s.heap ∧ va_OF "java/lang/String" "value" "[B" (.ref (ad i).2.2) (ad i).2.1 A s s.heap ∧ va_OF "java/lang/String" "coder" "B" (.int 0) (ad i).2.1 A s s.heap ∧ va_T .byte (ad i).2.2 (q_byt.getD i []).length (fun j => .int ((q_byt.getD i []).getD j 0)) A s s.heap := by
  refine Classical.axiomOfChoice (r := fun (i : Nat) (q : Nat × Nat × Nat) => i < 34 → (q_tmC i).eval #[Value.ref b] s none [] s = some (.ref q.1) ∧ q.1 < s.heap.size ∧ va_Z (q_sd i).1 (q_sd i).2.1 (q_sd i).2.2.1 (.ref q.1) A s s.heap ∧ va_O q_sg q.1 A s s.heap ∧ va_OF "java/lang/Enum" "ordinal" "I" (.int (Int32.ofNat i)) q.1 A s s.heap ∧ va_OF q_sg "spelling" "Ljava/lang/String;" (.ref q.2.1) q.1 A s s.heap ∧ va_OF q_sg "level" "I" (.int (q_lev.getD i 0)) q.1 A s s.heap ∧
      va_O "java/lang/String" q.2.1 A s s.heap ∧ va_OF "java/lang/String" "value" "[B" (.ref q.2.2) q.2.1 A s s.heap ∧ va_OF "java/lang/String" "coder" "B" (.int 0) q.2.1 A s s.heap ∧ va_T .byte q.2.2 (q_byt.getD i []).length (fun j => .int ((q_byt.getD i []).getD j 0)) A s s.heap) ?_
  intro i
  by_cases hi : i < 34
  · have W : ∀ w ∈ q_nw1 i, w.before #[Value.ref b] s = true := fun w h => q_wn1 hgv hi h
    have e1 := W (.exactly (q_tmC i) q_sg) (by simp [q_nw1])
    have e2 := W (.exactly (q_tmS i) "java/lang/String") (by simp [q_nw1])
    obtain ⟨a1, c1, cl1, k1, p1, p2, p3, p4, p5, p6, -⟩ := Cond.exactly_spec (args := #[Value.ref b]) (first := s) (o := none) (s := s) (idx := []) e1
    obtain ⟨a2, c2, cl2, k2, r1, r2, r3, r4, r5, r6, -⟩ := Cond.exactly_spec (args := #[Value.ref b]) (first := s) (o := none) (s := s) (idx := []) e2
    have hlen : (q_byt.getD i []).length < 2 ^ 31 := by
      have : ∀ i, i < 34 → (q_byt.getD i []).length < 2 ^ 31 := by decide +kernel
      exact this i hi
    obtain ⟨t, ht, hT⟩ := va_Tof (f := fun j => .int ((q_byt.getD i []).getD j 0)) (A := A) hlen (W (.arrayOf (q_tmV i) .byte) (by simp [q_nw1])) (va_eqt (W (.eq (.length (q_tmV i)) (.int (Int32.ofNat (q_byt.getD i []).length))) (by simp [q_nw1]))) (fun j hj => va_eqt (W (.eq (.elem (q_tmV i) (.int (Int32.ofNat j))) (.int ((q_byt.getD i []).getD j 0))) (List.mem_append_right _ (List.mem_map.mpr ⟨j, List.mem_range.mpr hj, rfl⟩)))) hA
    have n3 := List.all_eq_true.mp q_n3_ok i (List.mem_range.mpr (by omega))
    rw [Bool.and_eq_true] at n3
    have n4 := of_decide_eq_true (List.all_eq_true.mp q_n4_ok i (List.mem_range.mpr hi))
    have z1 : (q_sd i).1 = q_sg := by rw [n4]
    have z2 : (q_sd i).2.2.1 = q_sgD := by rw [n4]
    have hlay := hts _ (List.mem_append_right _ (of_decide_eq_true n3.1))
    have hini := hts _ (List.mem_append_right _ (of_decide_eq_true n3.2))
    rw [z1] at hlay hini
    rw [z2] at hlay
    refine ⟨(a1, a2, t), fun _ => ⟨p1, (Array.getElem?_eq_some_iff.mp p3).1, ?_, va_Oof e1 p1 hA, vk_OFof p1 (va_eqt (W (.eq (.field (q_tmC i) "java/lang/Enum" "ordinal" "I") (.int (Int32.ofNat i))) (by simp [q_nw1]))) hA, vk_OFof p1 (va_eqv (W (.eq (.field (q_tmC i) q_sg "spelling" "Ljava/lang/String;") (q_tmS i)) (by simp [q_nw1])) r1) hA, vk_OFof p1 (va_eqt (W (.eq (.field (q_tmC i) q_sg "level" "I") (.int (q_lev.getD i 0))) (by simp [q_nw1]))) hA, va_Oof e2 r1 hA, vk_OFof r1 ht hA, vk_OFof r1 (va_eqt (W (.eq (.field (q_tmS i) "java/lang/String" "coder" "B") (.int 0)) (by simp [q_nw1]))) hA, hT⟩⟩
    rw [z1, z2]
    exact va_Zref hlay hini p1 hA
  · exact ⟨(0, 0, 0), fun h => absurd h hi⟩
theorem q_OF_inj {o n d : String} {v w : Value} {t : Nat} {A : Nat → Prop} {U : State} {H : Heap} (h1 : va_OF o n d v t A U H) (h2 : va_OF o n d w t A U H) : v = w := by
  obtain ⟨cf, k, i, f, cell, a1, a2, a3, a4, a5, -⟩ := h1
  obtain ⟨cf', k', i', f', cell', b1, b2, b3, b4, b5, -⟩ := h2
  cases a1.symm.trans b1
  cases a3.symm.trans b3
  exact Option.some.inj (a5.symm.trans b5)
end QBEG
