/-! ONE CALL: parent, drop. -/
section JO3
variable {d L p : Nat} {xs : Nat → Int32} {S : q_S} {Q : Outcome → q_S → Prop}
def j_pS (S : q_S) (n k : Nat) (y : Int64) : q_S := q_sJ (q_sI S 1017 n ((q_iv S 1017 n) ||| ((1 : Int32) <<< ((nI k) &&& 31)))) 1139 0 y
def j_pT (S : q_S) (n k : Nat) : q_S := q_sI (q_sI S 1097 0 (0 : Int32)) 1119 n ((q_iv S 1119 n) ||| ((1 : Int32) <<< ((nI k) &&& 31)))
theorem j_pS_W {n k : Nat} {y : Int64} (hW : w_W (q_S0 L xs) S) : w_W (q_S0 L xs) (j_pS S n k y) := (hW.sI (by decide)).sJ (by decide)
theorem j_pT_W {n k : Nat} (hW : w_W (q_S0 L xs) S) : w_W (q_S0 L xs) (j_pT S n k) := (hW.sI (by decide)).sI (by decide)
theorem j_p_f {n k : Nat} {y : Int64} : u_f 0 (j_X 1017 1017 1119 1119) S (j_pT (j_pS S n k y) n k) := (((u_f.refl.sI (by decide)).sJ (by decide)).sI (by decide)).sI (by decide)
theorem j_p_E {n k : Nat} {y : Int64} (hn : n < 16) (hk : k < 16) (hE : u_JE S) : u_JE (j_pT (j_pS S n k y) n k) := by
  have r17 : ∀ j, q_iv (j_pT (j_pS S n k y) n k) 1017 j = if j = n then (q_iv S 1017 n) ||| ((1 : Int32) <<< ((nI k) &&& 31)) else q_iv S 1017 j := fun j => by simp [j_pT, j_pS, j_rI, j_rJ]
  have r119 : ∀ j, q_iv (j_pT (j_pS S n k y) n k) 1119 j = if j = n then (q_iv S 1119 n) ||| ((1 : Int32) <<< ((nI k) &&& 31)) else q_iv S 1119 j := fun j => by simp [j_pT, j_pS, j_rI, j_rJ]
  have f : ∀ a, j_u a = true → a ≠ 1017 → a ≠ 1119 → q_iv (j_pT (j_pS S n k y) n k) a = q_iv S a := fun a h1 h2 h3 => (j_keep (j_p_f (n := n) (k := k) (y := y)) h1 (by omega) (by omega)).1
  refine ⟨fun e he => ?_, fun e he => ?_, fun e a he ha => ?_⟩
  · rw [f 1016 (by decide) (by decide) (by decide), f 1117 (by decide) (by decide) (by decide), f 1118 (by decide) (by decide) (by decide)]
    exact hE.1 e he
  · rw [r17, r119]
    by_cases h : e = n
    · rw [if_pos h, if_pos h]
      refine ⟨by rw [(hE.2.1 n hn).1], fun i hi => ?_⟩
      rw [v_b_or, (hE.2.1 n hn).2 i hi, v_one_lo k hk i hi]
      rfl
    · rw [if_neg h, if_neg h]
      exact hE.2.1 e he
  · rw [f 1018 (by decide) (by decide) (by decide), f 1019 (by decide) (by decide) (by decide), f 1117 (by decide) (by decide) (by decide), f 1120 (by decide) (by decide) (by decide), f 1121 (by decide) (by decide) (by decide)]
    exact hE.2.2 e a he ha
theorem j_p_J {n k : Nat} {y : Int64} (hn : n < 16) (hk : k < 16) (hJ : u_J S) : u_J (j_pT (j_pS S n k y) n k) :=
  ⟨j_T j_p_f (by decide) (by decide) (by omega) (by omega) rfl hJ.1, j_W j_p_f (by decide) (by decide) (by omega) rfl hJ.2.1, j_p_E hn hk hJ.2.2.1, j_D j_p_f (by decide) (by decide) (by omega) (by omega) hJ.2.2.2.1, j_V j_p_f (by decide) (by decide) (by omega) (by omega) rfl hJ.2.2.2.2.1, j_P j_p_f (by decide) (by decide) (by omega) (by omega) (by omega) (by omega) (by omega) hJ.2.2.2.2.2⟩
theorem j_b01 {b : Bool} : (if b = true then (1 : Int32) else 0) = 0 ↔ b = false := by cases b <;> decide
theorem j_parent (hW : w_W (q_S0 L xs) S) (hJ : u_J S) (hpL : p + 6 ≤ L) (hL : L ≤ 3072) (hk : j_K (d + 300) L p xs S Q) : w_R (d + 300 + 1) 205 411 [(0, .ref 999), (1, .ref 1000), (2, .ref 1097), (3, .ref 1139), (4, .int (nI p))] [] S Q := by
  have hE := hJ.2.2.1
  have hlo : ∀ j, j < 16 → v_lo (q_iv S 1119 j) := fun j hj => (hE.2.1 j hj).2
  have hlN : ∀ c : Nat, ∀ j, j < 16 → v_lo (q_iv (q_new S (c, 6) 6) 1119 j) := fun c j hj => by
    rw [j_nw hW (by decide)]
    exact hlo j hj
  refine l205_parent_a hW hpL hL ?_
  rcases j_r16 (xs (p + 1)) with ⟨n, hn, hx⟩ | ⟨ho, hp⟩
  · rcases j_r16 (xs (p + 2)) with ⟨k, hk', hy⟩ | ⟨ho, hp⟩
    · rcases hE.1 n hn with ⟨h1, h2⟩ | ⟨ka, hka, h1, h2, _⟩
      · have C := l205_parent_c2 (d := d + 300) (b := 0) (S := q_sI (q_new S (12, 6) 6) 1097 0 (2 : Int32)) (hW.new.sI (by decide)) hpL hL rfl (j_thr hW hJ hk)
        have B : w_X (d + 300) 177 [.ref 1097, .int (xs (p + 1)), .int (xs (p + 2))] (q_new S (12, 6) 6) (w_k (d + 300 + 1) 205 443 [(0, .ref 999), (1, .ref 1000), (2, .ref 1097), (3, .ref 1139), (4, .int (nI p)), (5, .int 2)] [] Q) := by
          rw [hx, hy]
          exact m177d hW.new hn hk' (hlN _) (by omega) (by omega) (by omega) (by omega) (by rw [j_nw hW (by decide)]; exact h2) C
        rw [hx, hy]
        exact h79d hW hn hk' (by omega) (by omega) (by omega) (by omega) (by omega) h1 (l205_parent_b hW.new hpL hL B)
      · rcases hE.1 k hk' with ⟨g1, g2⟩ | ⟨kb, hkb, g1, g2, _⟩
        · have C := l205_parent_c2 (d := d + 300) (b := 0) (S := q_sI (q_new S (12, 6) 6) 1097 0 (2 : Int32)) (hW.new.sI (by decide)) hpL hL rfl (j_thr hW hJ hk)
          have B : w_X (d + 300) 177 [.ref 1097, .int (xs (p + 1)), .int (xs (p + 2))] (q_new S (12, 6) 6) (w_k (d + 300 + 1) 205 443 [(0, .ref 999), (1, .ref 1000), (2, .ref 1097), (3, .ref 1139), (4, .int (nI p)), (5, .int 2)] [] Q) := by
            rw [hx, hy]
            exact m177e hW.new hn hk' (hlN _) (by omega) (by omega) (by omega) (by omega) (by rw [j_nw hW (by decide)]; exact h2) (by rw [j_nw hW (by decide)]; exact g2) C
          rw [hx, hy]
          exact h79e hW hn hk' (by omega) (by omega) (by omega) (by omega) (by omega) hka h1 g1 (l205_parent_b hW.new hpL hL B)
        · have hup : v_up (q_iv S 1119) k = v_up (q_iv S 1017) k := v_up_congr (fun j hj => ((hE.2.1 j hj).1).symm) k
          have h17 := (hE.2.1 n hn).1
          have fin : ∀ y : Int64, w_R (d + 300 + 1) 205 23 [(0, .ref 999), (1, .ref 1000), (2, .ref 1097), (3, .ref 1139), (4, .int (nI (p + 6)))] [] (j_pT (j_pS S n k y) n k) Q := fun y => hk _ (j_pT_W (j_pS_W hW)) (j_p_J hn hk' hJ) (j_all j_p_f (by decide))
          have hW1 : ∀ y : Int64, w_W (q_S0 L xs) (j_pS S n k y) := fun y => j_pS_W hW
          have hW2 : ∀ y : Int64, w_W (q_S0 L xs) (j_pT (j_pS S n k y) n k) := fun y => j_pT_W (hW1 y)
          have g0 := fin (lN 0)
          have g1' := fin (lN 1)
          by_cases hU : v_b (v_up (q_iv S 1017) k) n = true
          · have cU : ¬ ((if v_b (v_up (q_iv S 1017) k) n = true then (1 : Int32) else 0) = (0 : Int32)) := fun z => by
              rw [hU] at z
              revert z
              decide
            have C := l205_parent_c3 (d := d + 300) (b := 0) (S := q_sI (q_new S (11, 6) 6) 1097 0 (3 : Int32)) (hW.new.sI (by decide)) hpL hL rfl (j_thr hW hJ hk)
            have B : w_X (d + 300) 177 [.ref 1097, .int (xs (p + 1)), .int (xs (p + 2))] (q_new S (11, 6) 6) (w_k (d + 300 + 1) 205 443 [(0, .ref 999), (1, .ref 1000), (2, .ref 1097), (3, .ref 1139), (4, .int (nI p)), (5, .int 3)] [] Q) := by
              have cT : (((v_up (q_iv (q_new S (11, 6) 6) 1119) k) >>> ((nI n) &&& 31)) &&& (1 : Int32)) = (1 : Int32) := (v_tst1 _ (by omega)).mpr (by
                rw [j_nw hW (by decide), hup]
                exact hU)
              rw [hx, hy]
              exact m177g hW.new hn hk' (hlN _) (by omega) (by omega) (by omega) (by omega) (by rw [j_nw hW (by decide)]; exact h2) (by rw [j_nw hW (by decide)]; exact g2) (fun z => absurd cT z) (fun z => absurd cT z) (fun _ => C)
            rw [hx, hy]
            exact h79g hW hn hk' (by omega) (by omega) (by omega) (by omega) (by omega) hka h1 hkb g1 (fun z => absurd z cU) (fun z => absurd z cU) (fun _ => l205_parent_b hW.new hpL hL B)
          · have hU' : v_b (v_up (q_iv S 1017) k) n = false := by
              cases z : v_b (v_up (q_iv S 1017) k) n
              · rfl
              · exact absurd z hU
            have cU : ((if v_b (v_up (q_iv S 1017) k) n = true then (1 : Int32) else 0) = (0 : Int32)) := by rw [hU']; rfl
            have cT : ¬ ((((v_up (q_iv S 1119) k) >>> ((nI n) &&& 31)) &&& (1 : Int32)) = (1 : Int32)) := fun z => hU (by
              rw [← hup]
              exact (v_tst1 _ (by omega)).mp z)
            by_cases hB : v_b (q_iv S 1017 n) k = true
            · have cB : ¬ ((((q_iv S 1017 n) >>> ((nI k) &&& 31)) &&& (1 : Int32)) = (0 : Int32)) := fun z => by
                have := (v_tst0 _ (by omega)).mp z
                rw [hB] at this
                cases this
              have cV : (((q_iv S 1119 n) >>> ((nI k) &&& 31)) &&& (1 : Int32)) = (1 : Int32) := (v_tst1 _ (by omega)).mpr (by rw [← h17]; exact hB)
              have B : w_X (d + 300) 177 [.ref 1097, .int (xs (p + 1)), .int (xs (p + 2))] (j_pS S n k (lN 0)) (w_k (d + 300 + 1) 205 443 [(0, .ref 999), (1, .ref 1000), (2, .ref 1097), (3, .ref 1139), (4, .int (nI p)), (5, .int 0)] [] Q) := by
                rw [hx, hy]
                exact m177g (hW1 _) hn hk' hlo (by omega) (by omega) (by omega) (by omega) h2 g2 (fun _ z => absurd cV z) (fun _ _ => l205_parent_z0 (hW2 _) hpL hL rfl (fun _ => g0) (fun z => absurd ((v_lg0 _ _).mpr rfl) z)) (fun z => absurd z cT)
              rw [hx, hy]
              exact h79g hW hn hk' (by omega) (by omega) (by omega) (by omega) (by omega) hka h1 hkb g1 (fun _ _ => l205_parent_b (hW1 _) hpL hL B) (fun _ z => absurd z cB) (fun z => absurd cU z)
            · have hB' : v_b (q_iv S 1017 n) k = false := by
                cases z : v_b (q_iv S 1017 n) k
                · rfl
                · exact absurd z hB
              have cB : (((q_iv S 1017 n) >>> ((nI k) &&& 31)) &&& (1 : Int32)) = (0 : Int32) := (v_tst0 _ (by omega)).mpr hB'
              have cV : ¬ ((((q_iv S 1119 n) >>> ((nI k) &&& 31)) &&& (1 : Int32)) = (1 : Int32)) := fun z => hB (by
                rw [h17]
                exact (v_tst1 _ (by omega)).mp z)
              have B : w_X (d + 300) 177 [.ref 1097, .int (xs (p + 1)), .int (xs (p + 2))] (j_pS S n k (lN 1)) (w_k (d + 300 + 1) 205 443 [(0, .ref 999), (1, .ref 1000), (2, .ref 1097), (3, .ref 1139), (4, .int (nI p)), (5, .int 0)] [] Q) := by
                rw [hx, hy]
                exact m177g (hW1 _) hn hk' hlo (by omega) (by omega) (by omega) (by omega) h2 g2 (fun _ _ => l205_parent_z1 (hW2 _) hpL hL rfl (fun _ => g1') (fun z => absurd ((v_lg0 _ _).mpr rfl) z)) (fun _ z => absurd z cV) (fun z => absurd z cT)
              rw [hx, hy]
              exact h79g hW hn hk' (by omega) (by omega) (by omega) (by omega) (by omega) hka h1 hkb g1 (fun _ z => absurd cB z) (fun _ _ => l205_parent_b (hW1 _) hpL hL B) (fun z => absurd cU z)
    · have C := l205_parent_c1 (d := d + 300) (b := 0) (S := q_sI (q_new S (10, 6) 6) 1097 0 (1 : Int32)) (hW.new.sI (by decide)) hpL hL rfl (j_thr hW hJ hk)
      have B : w_X (d + 300) 177 [.ref 1097, .int (xs (p + 1)), .int (xs (p + 2))] (q_new S (10, 6) 6) (w_k (d + 300 + 1) 205 443 [(0, .ref 999), (1, .ref 1000), (2, .ref 1097), (3, .ref 1139), (4, .int (nI p)), (5, .int 1)] [] Q) := by
        rw [hx]
        exact m177c hW.new ho hp hn (hlN _) (by omega) (by omega) (fun _ => C) (fun _ => C)
      rw [hx]
      exact h79c hW ho hp hn (by omega) (by omega) (by omega) (fun _ => l205_parent_b hW.new hpL hL B) (fun _ => l205_parent_b hW.new hpL hL B)
  · have C := l205_parent_c1 (d := d + 300) (b := 0) (S := q_sI (q_new S (10, 6) 6) 1097 0 (1 : Int32)) (hW.new.sI (by decide)) hpL hL rfl (j_thr hW hJ hk)
    have B : w_X (d + 300) 177 [.ref 1097, .int (xs (p + 1)), .int (xs (p + 2))] (q_new S (10, 6) 6) (w_k (d + 300 + 1) 205 443 [(0, .ref 999), (1, .ref 1000), (2, .ref 1097), (3, .ref 1139), (4, .int (nI p)), (5, .int 1)] [] Q) := by
      exact m177b hW.new ho hp (hlN _) (fun _ => C) (fun _ => C)
    exact h79b hW ho hp (by omega) (fun _ => l205_parent_b hW.new hpL hL B) (fun _ => l205_parent_b hW.new hpL hL B)
def j_dS (S : q_S) (P : Nat) (y : Int64) : q_S := q_sJ (q_sI S P 0 (0 : Int32)) 1139 0 y
def j_dT (S : q_S) (n : Nat) : q_S := q_sI (q_sI S 1097 0 (0 : Int32)) 1109 n (0 : Int32)
theorem j_dS_W {P : Nat} {y : Int64} (hP : w_P P) (hW : w_W (q_S0 L xs) S) : w_W (q_S0 L xs) (j_dS S P y) := (hW.sI (by have := hP.ge; omega)).sJ (by decide)
theorem j_dT_W {n : Nat} (hW : w_W (q_S0 L xs) S) : w_W (q_S0 L xs) (j_dT S n) := (hW.sI (by decide)).sI (by decide)
theorem j_d_f {P n : Nat} {y : Int64} : u_f 0 (j_X P P 1109 1109) S (j_dT (j_dS S P y) n) := (((u_f.refl.sI (by simp [j_X])).sJ (by simp [j_X, j_u])).sI (by simp [j_X, j_u])).sI (by simp [j_X])
theorem j_d_P {n P : Nat} {y : Int64} (hn : n < 6) (hP : q_rv S 1002 n = some P) (hJ : u_JP S) : u_JP (j_dT (j_dS S P y) n) := by
  obtain ⟨π, sp, a1, a2, a3, a4⟩ := hJ
  have hPn : P = π n := by
    have := (a1 n hn).1
    rw [hP] at this
    exact Option.some.inj this
  have hPP : w_P P := by
    rw [hPn]
    exact (a1 n hn).2.1
  have hr := hPP.rng
  refine ⟨π, sp, a1, a2, a3, fun i hi => ?_⟩
  by_cases h : i = n
  · refine ⟨false, ?_, ?_, fun z => by cases z⟩
    · rw [h, ← hPn]
      exact (v_aI (by omega)).trans ((v_aI (by omega)).trans v_hI)
    · rw [h]
      exact v_hI
  · obtain ⟨b, b1, b2, b3⟩ := a4 i hi
    have hne : π i ≠ P := by
      rw [hPn]
      exact (a1 n hn).2.2.2 i hi h
    have hr' := (a1 i hi).2.1.rng
    have hdj := (a1 i hi).2.1.dj hPP hne
    refine ⟨b, ?_, ?_, fun hb => ?_⟩
    · exact ((v_aI (by omega)).trans ((v_aI (by omega)).trans (v_aI hne))).trans b1
    · exact ((v_kI h).trans ((v_aI (by decide)).trans (v_aI (by omega)))).trans b2
    · obtain ⟨hd, ns, cs, T, hR⟩ := b3 hb
      have hf := j_d_f (S := S) (P := P) (n := n) (y := y)
      exact ⟨hd, ns, cs, T, hR.cg (fun k x1 x2 => (j_keep hf (j_u_i (by omega)) (by omega) (by omega)).1) (fun k _ => by rw [(j_keep hf (a := π i) (j_u_i (by omega)) (by omega) (by omega)).1]) (j_keep hf (j_u_i (by omega)) (by omega) (by omega)).2 (fun a x1 x2 x3 => (j_keep hf (j_u_i (by omega)) (by omega) (by omega)).1)⟩
theorem j_d_J {n P : Nat} {y : Int64} (hn : n < 6) (hP : q_rv S 1002 n = some P) (hw : w_P P) (hJ : u_J S) : u_J (j_dT (j_dS S P y) n) := by
  have hf := j_d_f (S := S) (P := P) (n := n) (y := y)
  have hr := hw.rng
  exact ⟨j_T hf (by omega) (by decide) (by omega) (by omega) ((v_aI (by decide)).trans ((v_kI (by decide)).trans (v_aI (by omega)))) hJ.1, j_W hf (by omega) (by decide) (by omega) ((v_aI (by decide)).trans ((v_kI (by decide)).trans (v_aI (by omega)))) hJ.2.1, j_E hf (by omega) (by decide) (by omega) (by omega) hJ.2.2.1, j_D hf (by omega) (by decide) (by omega) (by omega) hJ.2.2.2.1, j_V hf (by omega) (by decide) (by omega) (by omega) ((v_aI (by decide)).trans ((v_kI (by decide)).trans (v_aI (by omega)))) hJ.2.2.2.2.1, j_d_P hn hP hJ.2.2.2.2.2⟩
theorem j_drop (hW : w_W (q_S0 L xs) S) (hJ : u_J S) (hpL : p + 6 ≤ L) (hL : L ≤ 3072) (hk : j_K (d + 300) L p xs S Q) : w_R (d + 300 + 1) 205 273 [(0, .ref 999), (1, .ref 1000), (2, .ref 1097), (3, .ref 1139), (4, .int (nI p))] [] S Q := by
  refine l205_drop_a hW hpL hL ?_
  rcases j_r6 (xs (p + 1)) with ⟨n, hn, hx⟩ | ⟨ho, hp⟩
  · obtain ⟨π, sp, a1, a2, a3, a4⟩ := id hJ.2.2.2.2.2
    have hP := (a1 n hn).1
    have hw := (a1 n hn).2.1
    have hr := hw.rng
    obtain ⟨b, b1, b2, _⟩ := a4 n hn
    have fin : ∀ y : Int64, w_R (d + 300 + 1) 205 23 [(0, .ref 999), (1, .ref 1000), (2, .ref 1097), (3, .ref 1139), (4, .int (nI (p + 6)))] [] (j_dT (j_dS S (π n) y) n) Q := fun y => hk _ (j_dT_W (j_dS_W hw hW)) (j_d_J hn hP hw hJ) (j_all j_d_f (by decide))
    have e9 : ∀ y : Int64, q_iv (j_dS S (π n) y) 1109 n = q_iv S 1109 n := fun y => v_aI (by omega)
    have g0 := fin (lN 0)
    have g1 := fin (lN 1)
    cases b with
    | false =>
      have B : w_X (d + 300) 175 [.ref 1097, .int (xs (p + 1))] (j_dS S (π n) (lN 0)) (w_k (d + 300 + 1) 205 293 [(0, .ref 999), (1, .ref 1000), (2, .ref 1097), (3, .ref 1139), (4, .int (nI p)), (5, .int 0)] [] Q) := by
        rw [hx]
        exact m175g0 (j_dS_W hw hW) hn (by omega) (by omega) ((e9 _).trans b2) (l205_drop_z0 (j_dT_W (j_dS_W hw hW)) hpL hL rfl (fun _ => g0) (fun z => absurd ((v_lg0 _ _).mpr rfl) z))
      rw [hx]
      exact h73g0 hW hn (by omega) (by omega) hw hP b1 (l205_drop_b (j_dS_W hw hW) hpL hL B)
    | true =>
      have B : w_X (d + 300) 175 [.ref 1097, .int (xs (p + 1))] (j_dS S (π n) (lN 1)) (w_k (d + 300 + 1) 205 293 [(0, .ref 999), (1, .ref 1000), (2, .ref 1097), (3, .ref 1139), (4, .int (nI p)), (5, .int 0)] [] Q) := by
        rw [hx]
        exact m175g1 (j_dS_W hw hW) hn (by omega) (by omega) ((e9 _).trans b2) (l205_drop_z1 (j_dT_W (j_dS_W hw hW)) hpL hL rfl (fun _ => g1) (fun z => absurd ((v_lg0 _ _).mpr rfl) z))
      rw [hx]
      exact h73g1 hW hn (by omega) (by omega) hw hP b1 (l205_drop_b (j_dS_W hw hW) hpL hL B)
  · have C := l205_drop_c1 (d := d + 300) (b := 0) (S := q_sI (q_new S (10, 6) 6) 1097 0 (1 : Int32)) (hW.new.sI (by decide)) hpL hL rfl (j_thr hW hJ hk)
    have B : w_X (d + 300) 175 [.ref 1097, .int (xs (p + 1))] (q_new S (10, 6) 6) (w_k (d + 300 + 1) 205 293 [(0, .ref 999), (1, .ref 1000), (2, .ref 1097), (3, .ref 1139), (4, .int (nI p)), (5, .int 1)] [] Q) := by
      exact m175b hW.new ho hp (fun _ => C) (fun _ => C)
    exact h73b hW ho hp (by omega) (fun _ => l205_drop_b hW.new hpL hL B) (fun _ => l205_drop_b hW.new hpL hL B)
end JO3
