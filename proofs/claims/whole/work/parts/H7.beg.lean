/-! THE LAW'S BEGINNING: the world stands, class and reference stand alike. -/
section CBG
variable {A1 A3 A4 : q_S} {L d n m : Nat} {xs : Nat → Int32} {as : List Value} {S S' : q_S} {o : Outcome} {Q : Outcome → q_S → Prop}
theorem c_wX (h : q_exec d n m as S = some (o, S')) (k : Q o S') : w_X d m as S Q := by
  cases d with
  | zero => exact ⟨n, o, S', h, k⟩
  | succ d => exact ⟨n, o, S', h, k⟩
theorem c_t0 : 1000 ≤ q_tp c_A0 := by
  show 1000 ≤ 1000 + 1
  omega
theorem c_t2 (t1 : q_tp A1 = 1097) : 1000 ≤ q_tp (q_new A1 (9, q_nf 9) (q_nf 9)) := by
  show 1000 ≤ q_tp A1 + 1
  omega
theorem c_start (e1 : c_exec 2047 400 0 [.ref 1000] c_A0 = some (.returned none, A1)) (t1 : q_tp A1 = 1097) (e3 : c_exec 2047 400 142 [.ref 1097] (q_new A1 (9, q_nf 9) (q_nf 9)) = some (.returned none, A3)) (t3 : q_tp A3 = 1139) (k : w_R 2048 205 23 [(0, .ref 999), (1, .ref 1000), (2, .ref 1097), (3, .ref 1139), (4, .int (nI 0))] [] (c_T L xs (q_new A3 (103, 1) 1)) Q) : w_R 2048 205 0 [(0, .ref 999)] [] (q_S0 L xs) Q := by
  have x1 := (c_exec_T (L := L) (xs := xs) 2047 400 0 [.ref 1000] c_A0 none A1 c_t0 e1).1
  have x3 := (c_exec_T (L := L) (xs := xs) 2047 400 142 [.ref 1097] (q_new A1 (9, q_nf 9) (q_nf 9)) none A3 (c_t2 t1) e3).1
  clear e1 e3
  rw [← c_T0]
  refine w_new f205_0 (by decide) rfl rfl ?_
  rw [c_new (show (1000 : Nat) ≠ 999 by decide)]
  refine w_op f205_3 rfl rfl rfl ?_
  refine w_call (d := 2047) f205_4 rfl rfl rfl m0.1 (as := [.ref 1000]) (rest := [.ref 1000]) rfl rfl (w_ccR m0 (by decide) (show 1 ≤ 2 from by decide) (show 1 ≤ 8 from by decide) (show 1 ≤ 2 from by decide) rfl ⟨rfl, (show (1000 ≤ 1000 ↔ 0 < 10) from by decide)⟩) ?_
  refine c_wX x1 ?_
  show w_R 2048 205 7 [(0, .ref 999)] [.ref 1000] (c_T L xs A1) Q
  refine w_wr f205_7 rfl rfl rfl ?_
  refine w_new f205_8 (by decide) rfl rfl ?_
  rw [c_new (show q_tp A1 ≠ 999 by omega), show q_tp (c_T L xs A1) = 1097 from t1]
  refine w_op f205_11 rfl rfl rfl ?_
  have hs : q_sh (q_new A1 (9, q_nf 9) (q_nf 9)) 1097 = (9, q_nf 9) := by
    show q_u1 (q_sh A1) (q_tp A1) (9, q_nf 9) 1097 = _
    unfold q_u1
    rw [if_pos t1.symm]
  refine w_call (d := 2047) f205_12 rfl rfl rfl m142.1 (as := [.ref 1097]) (rest := [.ref 1097]) rfl rfl (w_ccR m142 (by decide) (show 1 ≤ 2 from by decide) (show 1 ≤ 8 from by decide) (show 1 ≤ 1 from by decide) rfl ⟨by
    rw [c_sh (by decide), hs], by decide⟩) ?_
  refine c_wX x3 ?_
  show w_R 2048 205 15 [(1, .ref 1000), (0, .ref 999)] [.ref 1097] (c_T L xs A3) Q
  refine w_wr f205_15 rfl rfl rfl ?_
  refine w_op f205_16 rfl w_c1i rfl ?_
  refine w_newa f205_17 rfl (by decide) (by decide) (n := 1) rfl (by decide) rfl ?_
  rw [c_new (show q_tp A3 ≠ 999 by omega), show q_tp (c_T L xs A3) = 1139 from t3]
  refine w_wr f205_19 rfl rfl rfl ?_
  refine w_op f205_20 rfl w_c0i rfl ?_
  refine w_wr f205_21 rfl rfl rfl ?_
  exact w_re (l := [(0, .ref 999), (1, .ref 1000), (2, .ref 1097), (3, .ref 1139), (4, .int (nI 0))]) rfl (And.intro rfl (And.intro rfl (And.intro rfl (And.intro rfl (And.intro rfl trivial))))) k
theorem c_allR {k : Nat} {f : Nat → Bool} (h : (List.range k).all f = true) {i : Nat} (hi : i < k) : f i = true := List.all_eq_true.mp h i (List.mem_range.mpr hi)
theorem c_and {a b : Bool} (h : (a && b) = true) : a = true ∧ b = true := Bool.and_eq_true_iff.mp h
theorem c_BA (e1 : c_exec 2047 400 0 [.ref 1000] c_A0 = some (.returned none, A1)) (t1 : q_tp A1 = 1097) (e3 : c_exec 2047 400 142 [.ref 1097] (q_new A1 (9, q_nf 9) (q_nf 9)) = some (.returned none, A3)) (t3 : q_tp A3 = 1139) : c_B (q_S0 0 (fun _ => 0)) (q_new A3 (103, 1) 1) := by
  have h0 : c_B (q_S0 0 (fun _ => 0)) c_A0 := c_BN (show 1000 ≤ 1000 by decide)
  have h1 : c_B c_A0 A1 := (c_exec_T (L := 0) (xs := fun _ => 0) 2047 400 0 [.ref 1000] c_A0 none A1 c_t0 e1).2
  have h2 : c_B A1 (q_new A1 (9, q_nf 9) (q_nf 9)) := c_BN (by omega)
  have h3 : c_B (q_new A1 (9, q_nf 9) (q_nf 9)) A3 := (c_exec_T (L := 0) (xs := fun _ => 0) 2047 400 142 [.ref 1097] (q_new A1 (9, q_nf 9) (q_nf 9)) none A3 (c_t2 t1) e3).2
  have h4 : c_B A3 (q_new A3 (103, 1) 1) := c_BN (by omega)
  exact (((h0.trans h1).trans h2).trans h3).trans h4
theorem c_W (hB : c_B (q_S0 0 (fun _ => 0)) A4) (t4 : q_tp A4 = 1140) (hF : c_F A4 = true) : w_W (q_S0 L xs) (c_T L xs A4) := by
  refine ⟨fun i hi => ?_, ?_, fun q hq => ?_, fun a ha => ?_⟩
  · rw [c_sh (by omega)]
    exact of_decide_eq_true (c_allR (c_and hF).1 hi)
  · show 1140 ≤ q_tp A4
    omega
  · exact of_decide_eq_true (List.all_eq_true.mp (c_and (c_and hF).2).1 q hq)
  · obtain ⟨b1, b2, b3, b4⟩ := hB.2 a ha
    rw [← c_T0 (L := L) (xs := xs)]
    refine ⟨?_, ?_, b3, b4⟩
    · show (if a = 999 then (100, L) else q_sh A4 a) = if a = 999 then (100, L) else q_sh (q_S0 0 (fun _ => 0)) a
      rw [b1]
    · funext k
      show (if a = 999 then xs k else q_iv A4 a k) = if a = 999 then xs k else q_iv (q_S0 0 (fun _ => 0)) a k
      rw [b2]
theorem c_J (hF : c_F A4 = true) : u_J (c_T L xs A4) := by
  have h := (c_and (c_and hF).2).2
  obtain ⟨h16, h⟩ := c_and h
  obtain ⟨h18, h⟩ := c_and h
  obtain ⟨h9, h⟩ := c_and h
  obtain ⟨h6, h⟩ := c_and h
  obtain ⟨g1, h⟩ := c_and h
  obtain ⟨g2, h⟩ := c_and h
  obtain ⟨g3, h⟩ := c_and h
  obtain ⟨g4, g5⟩ := c_and h
  have iv : ∀ a k, a ≠ 999 → q_iv (c_T L xs A4) a k = q_iv A4 a k := fun a k ha => c_iv ha
  have e16 : ∀ e, e < 16 → q_iv A4 1016 e = -2 ∧ q_iv A4 1117 e = 0 ∧ q_iv A4 1017 e = 0 ∧ q_iv A4 1119 e = 0 := fun e he => by
    obtain ⟨x1, x⟩ := c_and (c_allR h16 he)
    obtain ⟨x2, x⟩ := c_and x
    obtain ⟨x3, x4⟩ := c_and x
    exact ⟨of_decide_eq_true x1, of_decide_eq_true x2, of_decide_eq_true x3, of_decide_eq_true x4⟩
  have e9 : ∀ e, e < 9 → q_iv A4 1021 e = 0 ∧ q_iv A4 1122 e = 0 ∧ q_iv A4 1022 e = 0 ∧ q_iv A4 1124 e = 0 := fun e he => by
    obtain ⟨x1, x⟩ := c_and (c_allR h9 he)
    obtain ⟨x2, x⟩ := c_and x
    obtain ⟨x3, x4⟩ := c_and x
    exact ⟨of_decide_eq_true x1, of_decide_eq_true x2, of_decide_eq_true x3, of_decide_eq_true x4⟩
  have e6 : ∀ i, i < 6 → q_iv A4 1003 i = 0 ∧ q_iv A4 1125 i = 0 ∧ q_rv A4 1002 i = some (1031 + 11 * i) ∧ q_iv A4 (1031 + 11 * i) 0 = 0 ∧ q_iv A4 1109 i = 0 := fun e he => by
    obtain ⟨x1, x⟩ := c_and (c_allR h6 he)
    obtain ⟨x2, x⟩ := c_and x
    obtain ⟨x3, x⟩ := c_and x
    obtain ⟨x4, x5⟩ := c_and x
    exact ⟨of_decide_eq_true x1, of_decide_eq_true x2, of_decide_eq_true x3, of_decide_eq_true x4, of_decide_eq_true x5⟩
  refine ⟨⟨0, fun _ => 0, by decide, ?_, ?_, fun j hj => absurd hj (by omega)⟩, ?_, ⟨fun e he => ?_, fun e he => ?_, fun e a he ha => ?_⟩, fun k a hk ha => ?_, ⟨fun _ => 0, fun i hi => ?_, ?_⟩, ⟨fun i => 1031 + 11 * i, 1004, fun i hi => ?_, ?_, ?_, fun i hi => ?_⟩⟩
  · rw [iv _ _ (by decide)]
    exact of_decide_eq_true g1
  · rw [iv _ _ (by decide)]
    exact of_decide_eq_true g2
  · rw [iv _ _ (by decide), iv _ _ (by decide)]
    exact of_decide_eq_true g3
  · rw [iv _ _ (by decide), iv _ _ (by decide)]
    exact Or.inl ⟨(e16 e he).1, (e16 e he).2.1⟩
  · rw [iv _ _ (by decide), iv _ _ (by decide), (e16 e he).2.2.1, (e16 e he).2.2.2]
    exact ⟨rfl, fun k _ => v_b_0 k⟩
  · refine ⟨0, by decide, ?_, fun _ => rfl, fun z => absurd ?_ z, fun z => absurd rfl z, (fun z => by cases z), (fun z => by cases z)⟩
    · rw [iv _ _ (by decide)]
      exact of_decide_eq_true (c_allR h18 (by omega))
    · rw [iv _ _ (by decide)]
      exact (e16 e he).2.1
  · rw [iv _ _ (by decide), iv _ _ (by decide), iv _ _ (by decide), iv _ _ (by decide), iv _ _ (by decide)]
    obtain ⟨x1, x2, x3, x4⟩ := e9 (3 * k + a) (by omega)
    exact ⟨⟨0, by unfold u_dv; decide, x1, x2, fun z => absurd z (by decide)⟩, false, x3, x4⟩
  · rw [iv _ _ (by decide), iv _ _ (by decide)]
    exact ⟨(show 0 < 7 by decide), (e6 i hi).1, (e6 i hi).2.1⟩
  · rw [iv _ _ (by decide)]
    exact of_decide_eq_true g4
  · refine ⟨(e6 i hi).2.2.1, ?_, ?_, fun j hj hji => ?_⟩
    · obtain rfl | rfl | rfl | rfl | rfl | rfl : i = 0 ∨ i = 1 ∨ i = 2 ∨ i = 3 ∨ i = 4 ∨ i = 5 := by omega
      all_goals (unfold w_P; decide +kernel)
    · show 1031 + 11 * i ≠ 1004
      omega
    · show 1031 + 11 * j ≠ 1031 + 11 * i
      omega
  · exact of_decide_eq_true g5
  · unfold w_P
    decide +kernel
  · refine ⟨false, ?_, ?_, fun z => by cases z⟩
    · show q_iv (c_T L xs A4) (1031 + 11 * i) 0 = 0
      rw [iv _ _ (by omega)]
      exact (e6 i hi).2.2.2.1
    · rw [iv _ _ (by decide)]
      exact (e6 i hi).2.2.2.2
end CBG
