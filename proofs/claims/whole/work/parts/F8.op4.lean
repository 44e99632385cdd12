/-! ONE CALL: set, declare. -/
section JO4
variable {d L p : Nat} {xs : Nat → Int32} {S : q_S} {Q : Outcome → q_S → Prop}
def j_sS (S : q_S) (n k : Nat) (s w : Int32) (z : Int64) : q_S := q_sJ (q_sI (q_sI S 1018 (n * 3 + k) s) 1019 (n * 3 + k) w) 1139 0 z
def j_sT (S : q_S) (n k : Nat) (s w : Int32) : q_S := q_sI (q_sI (q_sI S 1097 0 (0 : Int32)) 1120 (3 * n + k) s) 1121 (3 * n + k) w
theorem j_sS_W {n k : Nat} {s w : Int32} {z : Int64} (hW : w_W (q_S0 L xs) S) : w_W (q_S0 L xs) (j_sS S n k s w z) := ((hW.sI (by decide)).sI (by decide)).sJ (by decide)
theorem j_sT_W {n k : Nat} {s w : Int32} (hW : w_W (q_S0 L xs) S) : w_W (q_S0 L xs) (j_sT S n k s w) := ((hW.sI (by decide)).sI (by decide)).sI (by decide)
theorem j_s_f {n k : Nat} {s w s' w' : Int32} {z : Int64} : u_f 0 (j_X 1018 1019 1120 1121) S (j_sT (j_sS S n k s w z) n k s' w') := (((((u_f.refl.sI (by decide)).sI (by decide)).sJ (by decide)).sI (by decide)).sI (by decide)).sI (by decide)
theorem j_s_E {n k : Nat} {w : Int32} {z : Int64} (hn : n < 16) (hk : k < 3) (ht : q_iv S 1117 n = 1) (s : Nat) (hs : s < 4) (h2 : s = 2 → w = 0 ∨ w = 1) (h3 : s = 3 → ∃ f, f < 16 ∧ w = nI f) (hE : u_JE S) : u_JE (j_sT (j_sS S n k (nI s) w z) n k (nI s) w) := by
  have r18 : ∀ j, q_iv (j_sT (j_sS S n k (nI s) w z) n k (nI s) w) 1018 j = if j = n * 3 + k then nI s else q_iv S 1018 j := fun j => by simp [j_sT, j_sS, j_rI, j_rJ]
  have r19 : ∀ j, q_iv (j_sT (j_sS S n k (nI s) w z) n k (nI s) w) 1019 j = if j = n * 3 + k then w else q_iv S 1019 j := fun j => by simp [j_sT, j_sS, j_rI, j_rJ]
  have r120 : ∀ j, q_iv (j_sT (j_sS S n k (nI s) w z) n k (nI s) w) 1120 j = if j = 3 * n + k then nI s else q_iv S 1120 j := fun j => by simp [j_sT, j_sS, j_rI, j_rJ]
  have r121 : ∀ j, q_iv (j_sT (j_sS S n k (nI s) w z) n k (nI s) w) 1121 j = if j = 3 * n + k then w else q_iv S 1121 j := fun j => by simp [j_sT, j_sS, j_rI, j_rJ]
  have f : ∀ a, j_u a = true → (a < 1018 ∨ 1019 < a) → (a < 1120 ∨ 1121 < a) → q_iv (j_sT (j_sS S n k (nI s) w z) n k (nI s) w) a = q_iv S a := fun a h1 h2 h3 => (j_keep (j_s_f (S := S) (n := n) (k := k) (s := nI s) (w := w) (s' := nI s) (w' := w) (z := z)) h1 h2 h3).1
  refine ⟨fun e he => ?_, fun e he => ?_, fun e a he ha => ?_⟩
  · rw [f 1016 (by decide) (by decide) (by decide), f 1117 (by decide) (by decide) (by decide), f 1118 (by decide) (by decide) (by decide)]
    exact hE.1 e he
  · rw [f 1017 (by decide) (by decide) (by decide), f 1119 (by decide) (by decide) (by decide)]
    exact hE.2.1 e he
  · rw [f 1117 (by decide) (by decide) (by decide), r18, r19, r120, r121]
    by_cases h : e = n ∧ a = k
    · obtain ⟨rfl, rfl⟩ := h
      rw [if_pos rfl, if_pos rfl, if_pos rfl, if_pos rfl]
      exact ⟨s, hs, rfl, fun z => absurd (ht.symm.trans z) (by decide), fun _ => rfl, fun _ => rfl, h2, h3⟩
    · rw [if_neg (by omega), if_neg (by omega), if_neg (by omega), if_neg (by omega)]
      exact hE.2.2 e a he ha
theorem j_s_J {n k : Nat} {w : Int32} {z : Int64} (hn : n < 16) (hk : k < 3) (ht : q_iv S 1117 n = 1) (s : Nat) (hs : s < 4) (h2 : s = 2 → w = 0 ∨ w = 1) (h3 : s = 3 → ∃ f, f < 16 ∧ w = nI f) (hJ : u_J S) : u_J (j_sT (j_sS S n k (nI s) w z) n k (nI s) w) :=
  ⟨j_T j_s_f (by decide) (by decide) (by omega) (by omega) rfl hJ.1, j_W j_s_f (by decide) (by decide) (by omega) rfl hJ.2.1, j_s_E hn hk ht s hs h2 h3 hJ.2.2.1, j_D j_s_f (by decide) (by decide) (by omega) (by omega) hJ.2.2.2.1, j_V j_s_f (by decide) (by decide) (by omega) (by omega) rfl hJ.2.2.2.2.1, j_P j_s_f (by decide) (by decide) (by omega) (by omega) (by omega) (by omega) (by omega) hJ.2.2.2.2.2⟩
theorem j_set (hW : w_W (q_S0 L xs) S) (hJ : u_J S) (hpL : p + 6 ≤ L) (hL : L ≤ 3072) (hk : j_K (d + 300) L p xs S Q) : w_R (d + 300 + 1) 205 486 [(0, .ref 999), (1, .ref 1000), (2, .ref 1097), (3, .ref 1139), (4, .int (nI p))] [] S Q := by
  have hE := hJ.2.2.1
  refine l205_set_a hW hpL hL ?_
  rcases j_r16 (xs (p + 1)) with ⟨n, hn, hx⟩ | ⟨ho, hp⟩
  · rcases j_r3 (xs (p + 2)) with ⟨k, hk3, hy⟩ | ⟨ho, hp⟩
    · rcases j_r4 (xs (p + 3)) with ⟨s, hs4, hz⟩ | ⟨ho, hp⟩
      · obtain rfl | rfl | rfl | rfl : s = 0 ∨ s = 1 ∨ s = 2 ∨ s = 3 := by omega
        · replace hz : xs (p + 3) = (0 : Int32) := hz
          rcases hE.1 n hn with ⟨h1, h2⟩ | ⟨ka, hka, h1, h2, _⟩
          · have C := l205_set_c2 (d := d + 300) (b := 0) (S := q_sI (q_new S (12, 6) 6) 1097 0 (2 : Int32)) (hW.new.sI (by decide)) hpL hL rfl (j_thr hW hJ hk)
            have B : w_X (d + 300) 179 [.ref 1097, .int (xs (p + 1)), .int (xs (p + 2)), .int (xs (p + 3)), .int (xs (p + 4))] (q_new S (12, 6) 6) (w_k (d + 300 + 1) 205 542 [(0, .ref 999), (1, .ref 1000), (2, .ref 1097), (3, .ref 1139), (4, .int (nI p)), (5, .int 2)] [] Q) := by
              rw [hx, hy, hz]
              exact m179g00 hW.new hn hk3  (by omega) (by omega) (by omega) (by omega) (by rw [j_nw hW (by decide)]; exact h2) C
            rw [hx, hy, hz]
            exact h85g00 hW hn hk3  (by omega) (by omega) (by omega) (by omega) (by omega) h1 (l205_set_b hW.new hpL hL B)
          · have eqs : q_iv S 1018 (n * 3 + k) = q_iv S 1120 (3 * n + k) := by
              obtain ⟨s0, _, e1, _, e3, _⟩ := hE.2.2 n k hn hk3
              rw [e1, e3 (by rw [h2]; decide)]
            have fin := hk _ (j_sT_W (j_sS_W hW)) (j_s_J (S := S) (n := n) (k := k) (z := (q_iv S 1018 (n * 3 + k)).toInt64) (w := (xs (p + 4))) hn hk3 h2 0 (by decide) (fun z => by cases z) (fun z => by cases z) hJ) (j_all j_s_f (by decide))
            have B : w_X (d + 300) 179 [.ref 1097, .int (xs (p + 1)), .int (xs (p + 2)), .int (xs (p + 3)), .int (xs (p + 4))] (j_sS S n k (nI 0) (xs (p + 4)) (q_iv S 1018 (n * 3 + k)).toInt64) (w_k (d + 300 + 1) 205 542 [(0, .ref 999), (1, .ref 1000), (2, .ref 1097), (3, .ref 1139), (4, .int (nI p)), (5, .int 0)] [] Q) := by
              rw [hx, hy, hz]
              exact m179g01 (j_sS_W hW) hn hk3  (by omega) (by omega) (by omega) (by omega) h2 (l205_set_z (j_sT_W (j_sS_W hW)) hpL hL rfl (fun _ => fin) (fun z => absurd ((v_lg0 _ _).mpr (congrArg Int32.toInt64 eqs)) z))
            rw [hx, hy, hz]
            exact h85g01 hW hn hk3  (by omega) (by omega) (by omega) (by omega) hka h1 (l205_set_b (j_sS_W hW) hpL hL B)
        · replace hz : xs (p + 3) = (1 : Int32) := hz
          rcases hE.1 n hn with ⟨h1, h2⟩ | ⟨ka, hka, h1, h2, _⟩
          · have C := l205_set_c2 (d := d + 300) (b := 0) (S := q_sI (q_new S (12, 6) 6) 1097 0 (2 : Int32)) (hW.new.sI (by decide)) hpL hL rfl (j_thr hW hJ hk)
            have B : w_X (d + 300) 179 [.ref 1097, .int (xs (p + 1)), .int (xs (p + 2)), .int (xs (p + 3)), .int (xs (p + 4))] (q_new S (12, 6) 6) (w_k (d + 300 + 1) 205 542 [(0, .ref 999), (1, .ref 1000), (2, .ref 1097), (3, .ref 1139), (4, .int (nI p)), (5, .int 2)] [] Q) := by
              rw [hx, hy, hz]
              exact m179g10 hW.new hn hk3  (by omega) (by omega) (by omega) (by omega) (by rw [j_nw hW (by decide)]; exact h2) C
            rw [hx, hy, hz]
            exact h85g10 hW hn hk3  (by omega) (by omega) (by omega) (by omega) (by omega) h1 (l205_set_b hW.new hpL hL B)
          · have eqs : q_iv S 1018 (n * 3 + k) = q_iv S 1120 (3 * n + k) := by
              obtain ⟨s0, _, e1, _, e3, _⟩ := hE.2.2 n k hn hk3
              rw [e1, e3 (by rw [h2]; decide)]
            have fin := hk _ (j_sT_W (j_sS_W hW)) (j_s_J (S := S) (n := n) (k := k) (z := (q_iv S 1018 (n * 3 + k)).toInt64) (w := (xs (p + 4))) hn hk3 h2 1 (by decide) (fun z => by cases z) (fun z => by cases z) hJ) (j_all j_s_f (by decide))
            have B : w_X (d + 300) 179 [.ref 1097, .int (xs (p + 1)), .int (xs (p + 2)), .int (xs (p + 3)), .int (xs (p + 4))] (j_sS S n k (nI 1) (xs (p + 4)) (q_iv S 1018 (n * 3 + k)).toInt64) (w_k (d + 300 + 1) 205 542 [(0, .ref 999), (1, .ref 1000), (2, .ref 1097), (3, .ref 1139), (4, .int (nI p)), (5, .int 0)] [] Q) := by
              rw [hx, hy, hz]
              exact m179g11 (j_sS_W hW) hn hk3  (by omega) (by omega) (by omega) (by omega) h2 (l205_set_z (j_sT_W (j_sS_W hW)) hpL hL rfl (fun _ => fin) (fun z => absurd ((v_lg0 _ _).mpr (congrArg Int32.toInt64 eqs)) z))
            rw [hx, hy, hz]
            exact h85g11 hW hn hk3  (by omega) (by omega) (by omega) (by omega) hka h1 (l205_set_b (j_sS_W hW) hpL hL B)
        · replace hz : xs (p + 3) = (2 : Int32) := hz
          rcases hE.1 n hn with ⟨h1, h2⟩ | ⟨ka, hka, h1, h2, _⟩
          · have C := l205_set_c2 (d := d + 300) (b := 0) (S := q_sI (q_new S (12, 6) 6) 1097 0 (2 : Int32)) (hW.new.sI (by decide)) hpL hL rfl (j_thr hW hJ hk)
            have B : w_X (d + 300) 179 [.ref 1097, .int (xs (p + 1)), .int (xs (p + 2)), .int (xs (p + 3)), .int (xs (p + 4))] (q_new S (12, 6) 6) (w_k (d + 300 + 1) 205 542 [(0, .ref 999), (1, .ref 1000), (2, .ref 1097), (3, .ref 1139), (4, .int (nI p)), (5, .int 2)] [] Q) := by
              rw [hx, hy, hz]
              exact m179g20 hW.new hn hk3  (by omega) (by omega) (by omega) (by omega) (by rw [j_nw hW (by decide)]; exact h2) C
            rw [hx, hy, hz]
            exact h85g20 hW hn hk3  (by omega) (by omega) (by omega) (by omega) (by omega) h1 (l205_set_b hW.new hpL hL B)
          · have eqs : q_iv S 1018 (n * 3 + k) = q_iv S 1120 (3 * n + k) := by
              obtain ⟨s0, _, e1, _, e3, _⟩ := hE.2.2 n k hn hk3
              rw [e1, e3 (by rw [h2]; decide)]
            by_cases hv : xs (p + 4) = 0
            · have fin := hk _ (j_sT_W (j_sS_W hW)) (j_s_J (S := S) (n := n) (k := k) (z := (q_iv S 1018 (n * 3 + k)).toInt64) (w := (0 : Int32)) hn hk3 h2 2 (by decide) (fun _ => Or.inl rfl) (fun z => by cases z) hJ) (j_all j_s_f (by decide))
              have B : w_X (d + 300) 179 [.ref 1097, .int (xs (p + 1)), .int (xs (p + 2)), .int (xs (p + 3)), .int (xs (p + 4))] (j_sS S n k (nI 2) (0 : Int32) (q_iv S 1018 (n * 3 + k)).toInt64) (w_k (d + 300 + 1) 205 542 [(0, .ref 999), (1, .ref 1000), (2, .ref 1097), (3, .ref 1139), (4, .int (nI p)), (5, .int 0)] [] Q) := by
                rw [hx, hy, hz, hv]
                exact m179g21 (j_sS_W hW) hn hk3  (by omega) (by omega) (by omega) (by omega) h2 (fun _ => l205_set_z (j_sT_W (j_sS_W hW)) hpL hL rfl (fun _ => fin) (fun z => absurd ((v_lg0 _ _).mpr (congrArg Int32.toInt64 eqs)) z)) (fun z => absurd rfl z)
              rw [hx, hy, hz, hv]
              exact h85g21 hW hn hk3  (by omega) (by omega) (by omega) (by omega) hka h1 (fun _ => l205_set_b (j_sS_W hW) hpL hL B) (fun z => absurd rfl z)
            · have fin := hk _ (j_sT_W (j_sS_W hW)) (j_s_J (S := S) (n := n) (k := k) (z := (q_iv S 1018 (n * 3 + k)).toInt64) (w := (1 : Int32)) hn hk3 h2 2 (by decide) (fun _ => Or.inr rfl) (fun z => by cases z) hJ) (j_all j_s_f (by decide))
              have B : w_X (d + 300) 179 [.ref 1097, .int (xs (p + 1)), .int (xs (p + 2)), .int (xs (p + 3)), .int (xs (p + 4))] (j_sS S n k (nI 2) (1 : Int32) (q_iv S 1018 (n * 3 + k)).toInt64) (w_k (d + 300 + 1) 205 542 [(0, .ref 999), (1, .ref 1000), (2, .ref 1097), (3, .ref 1139), (4, .int (nI p)), (5, .int 0)] [] Q) := by
                rw [hx, hy, hz]
                exact m179g21 (j_sS_W hW) hn hk3  (by omega) (by omega) (by omega) (by omega) h2 (fun z => absurd z hv) (fun _ => l205_set_z (j_sT_W (j_sS_W hW)) hpL hL rfl (fun _ => fin) (fun z => absurd ((v_lg0 _ _).mpr (congrArg Int32.toInt64 eqs)) z))
              rw [hx, hy, hz]
              exact h85g21 hW hn hk3  (by omega) (by omega) (by omega) (by omega) hka h1 (fun z => absurd z hv) (fun _ => l205_set_b (j_sS_W hW) hpL hL B)
        · replace hz : xs (p + 3) = (3 : Int32) := hz
          rcases j_r16 (xs (p + 4)) with ⟨f, hf, hv⟩ | ⟨ho, hp⟩
          · rcases hE.1 n hn with ⟨h1, h2⟩ | ⟨ka, hka, h1, h2, _⟩
            · have C := l205_set_c2 (d := d + 300) (b := 0) (S := q_sI (q_new S (12, 6) 6) 1097 0 (2 : Int32)) (hW.new.sI (by decide)) hpL hL rfl (j_thr hW hJ hk)
              have B : w_X (d + 300) 179 [.ref 1097, .int (xs (p + 1)), .int (xs (p + 2)), .int (xs (p + 3)), .int (xs (p + 4))] (q_new S (12, 6) 6) (w_k (d + 300 + 1) 205 542 [(0, .ref 999), (1, .ref 1000), (2, .ref 1097), (3, .ref 1139), (4, .int (nI p)), (5, .int 2)] [] Q) := by
                rw [hx, hy, hz, hv]
                exact m179g30 hW.new hn hk3 hf (by omega) (by omega) (by omega) (by omega) (by omega) (by omega) (by rw [j_nw hW (by decide)]; exact h2) C
              rw [hx, hy, hz, hv]
              exact h85g30 hW hn hk3 hf (by omega) (by omega) (by omega) (by omega) (by omega) (by omega) (by omega) h1 (l205_set_b hW.new hpL hL B)
            · have eqs : q_iv S 1018 (n * 3 + k) = q_iv S 1120 (3 * n + k) := by
                obtain ⟨s0, _, e1, _, e3, _⟩ := hE.2.2 n k hn hk3
                rw [e1, e3 (by rw [h2]; decide)]
              have fin := hk _ (j_sT_W (j_sS_W hW)) (j_s_J (S := S) (n := n) (k := k) (z := (q_iv S 1018 (n * 3 + k)).toInt64) (w := (nI f)) hn hk3 h2 3 (by decide) (fun z => by cases z) (fun _ => ⟨f, hf, rfl⟩) hJ) (j_all j_s_f (by decide))
              have B : w_X (d + 300) 179 [.ref 1097, .int (xs (p + 1)), .int (xs (p + 2)), .int (xs (p + 3)), .int (xs (p + 4))] (j_sS S n k (nI 3) (nI f) (q_iv S 1018 (n * 3 + k)).toInt64) (w_k (d + 300 + 1) 205 542 [(0, .ref 999), (1, .ref 1000), (2, .ref 1097), (3, .ref 1139), (4, .int (nI p)), (5, .int 0)] [] Q) := by
                rw [hx, hy, hz, hv]
                exact m179g31 (j_sS_W hW) hn hk3 hf (by omega) (by omega) (by omega) (by omega) (by omega) (by omega) h2 (l205_set_z (j_sT_W (j_sS_W hW)) hpL hL rfl (fun _ => fin) (fun z => absurd ((v_lg0 _ _).mpr (congrArg Int32.toInt64 eqs)) z))
              rw [hx, hy, hz, hv]
              exact h85g31 hW hn hk3 hf (by omega) (by omega) (by omega) (by omega) (by omega) (by omega) hka h1 (l205_set_b (j_sS_W hW) hpL hL B)
          · have C := l205_set_c1 (d := d + 300) (b := 0) (S := q_sI (q_new S (10, 6) 6) 1097 0 (1 : Int32)) (hW.new.sI (by decide)) hpL hL rfl (j_thr hW hJ hk)
            have B : w_X (d + 300) 179 [.ref 1097, .int (xs (p + 1)), .int (xs (p + 2)), .int (xs (p + 3)), .int (xs (p + 4))] (q_new S (10, 6) 6) (w_k (d + 300 + 1) 205 542 [(0, .ref 999), (1, .ref 1000), (2, .ref 1097), (3, .ref 1139), (4, .int (nI p)), (5, .int 1)] [] Q) := by
              rw [hx, hy, hz]
              exact m179e hW.new ho hp hn hk3 (by omega) (by omega) (by omega) (by omega) (fun _ => C) (fun _ => C)
            rw [hx, hy, hz]
            exact h85e hW ho hp hn hk3 (by omega) (by omega) (by omega) (by omega) (by omega) (fun _ => l205_set_b hW.new hpL hL B) (fun _ => l205_set_b hW.new hpL hL B)
      · have C := l205_set_c1 (d := d + 300) (b := 0) (S := q_sI (q_new S (10, 6) 6) 1097 0 (1 : Int32)) (hW.new.sI (by decide)) hpL hL rfl (j_thr hW hJ hk)
        have B : w_X (d + 300) 179 [.ref 1097, .int (xs (p + 1)), .int (xs (p + 2)), .int (xs (p + 3)), .int (xs (p + 4))] (q_new S (10, 6) 6) (w_k (d + 300 + 1) 205 542 [(0, .ref 999), (1, .ref 1000), (2, .ref 1097), (3, .ref 1139), (4, .int (nI p)), (5, .int 1)] [] Q) := by
          rw [hx, hy]
          exact m179d hW.new ho hp hn hk3 (by omega) (by omega) (by omega) (by omega) (fun _ => C) (fun _ => C)
        rw [hx, hy]
        exact h85d hW ho hp hn hk3 (by omega) (by omega) (by omega) (by omega) (by omega) (fun _ => l205_set_b hW.new hpL hL B) (fun _ => l205_set_b hW.new hpL hL B)
    · have C := l205_set_c1 (d := d + 300) (b := 0) (S := q_sI (q_new S (10, 6) 6) 1097 0 (1 : Int32)) (hW.new.sI (by decide)) hpL hL rfl (j_thr hW hJ hk)
      have B : w_X (d + 300) 179 [.ref 1097, .int (xs (p + 1)), .int (xs (p + 2)), .int (xs (p + 3)), .int (xs (p + 4))] (q_new S (10, 6) 6) (w_k (d + 300 + 1) 205 542 [(0, .ref 999), (1, .ref 1000), (2, .ref 1097), (3, .ref 1139), (4, .int (nI p)), (5, .int 1)] [] Q) := by
        rw [hx]
        exact m179c hW.new ho hp hn (by omega) (by omega) (fun _ => C) (fun _ => C)
      rw [hx]
      exact h85c hW ho hp hn (by omega) (by omega) (by omega) (fun _ => l205_set_b hW.new hpL hL B) (fun _ => l205_set_b hW.new hpL hL B)
  · have C := l205_set_c1 (d := d + 300) (b := 0) (S := q_sI (q_new S (10, 6) 6) 1097 0 (1 : Int32)) (hW.new.sI (by decide)) hpL hL rfl (j_thr hW hJ hk)
    have B : w_X (d + 300) 179 [.ref 1097, .int (xs (p + 1)), .int (xs (p + 2)), .int (xs (p + 3)), .int (xs (p + 4))] (q_new S (10, 6) 6) (w_k (d + 300 + 1) 205 542 [(0, .ref 999), (1, .ref 1000), (2, .ref 1097), (3, .ref 1139), (4, .int (nI p)), (5, .int 1)] [] Q) := by
      exact m179b hW.new ho hp (fun _ => C) (fun _ => C)
    exact h85b hW ho hp (by omega) (fun _ => l205_set_b hW.new hpL hL B) (fun _ => l205_set_b hW.new hpL hL B)
def j_cS (S : q_S) (n k : Nat) (t u : Int32) : q_S := q_sI (q_sI S 1021 (n * 3 + k) t) 1022 (n * 3 + k) u
def j_cT (S : q_S) (n k : Nat) (q v u : Int32) : q_S := q_sI (q_sI (q_sI (q_sI S 1097 0 (0 : Int32)) 1122 (3 * n + k) q) 1123 (3 * n + k) v) 1124 (3 * n + k) u
theorem j_cS_W {n k : Nat} {t u : Int32} (hW : w_W (q_S0 L xs) S) : w_W (q_S0 L xs) (j_cS S n k t u) := (hW.sI (by decide)).sI (by decide)
theorem j_cT_W {n k : Nat} {q v u : Int32} (hW : w_W (q_S0 L xs) S) : w_W (q_S0 L xs) (j_cT S n k q v u) := (((hW.sI (by decide)).sI (by decide)).sI (by decide)).sI (by decide)
theorem j_c_f {n k : Nat} {t u q v u' : Int32} : u_f 0 (j_X 1021 1022 1122 1124) S (j_cT (j_cS S n k t u) n k q v u') := (((((u_f.refl.sI (by decide)).sI (by decide)).sI (by decide)).sI (by decide)).sI (by decide)).sI (by decide)
theorem j_c_D {n k : Nat} {t u q v : Int32} (hn : n < 3) (hk : k < 3) (tn : Nat) (hd : u_dv tn) (ht : t = nI tn) (hq : q = nI (tn % 4)) (hv : tn % 4 = 3 → v = nI (u_of tn)) (b : Bool) (hu : u = if b = true then 1 else 0) (hD : u_JD S) : u_JD (j_cT (j_cS S n k t u) n k q v u) := by
  have r21 : ∀ j, q_iv (j_cT (j_cS S n k t u) n k q v u) 1021 j = if j = n * 3 + k then t else q_iv S 1021 j := fun j => by simp [j_cT, j_cS, j_rI, j_rJ]
  have r22 : ∀ j, q_iv (j_cT (j_cS S n k t u) n k q v u) 1022 j = if j = n * 3 + k then u else q_iv S 1022 j := fun j => by simp [j_cT, j_cS, j_rI, j_rJ]
  have r122 : ∀ j, q_iv (j_cT (j_cS S n k t u) n k q v u) 1122 j = if j = 3 * n + k then q else q_iv S 1122 j := fun j => by simp [j_cT, j_cS, j_rI, j_rJ]
  have r123 : ∀ j, q_iv (j_cT (j_cS S n k t u) n k q v u) 1123 j = if j = 3 * n + k then v else q_iv S 1123 j := fun j => by simp [j_cT, j_cS, j_rI, j_rJ]
  have r124 : ∀ j, q_iv (j_cT (j_cS S n k t u) n k q v u) 1124 j = if j = 3 * n + k then u else q_iv S 1124 j := fun j => by simp [j_cT, j_cS, j_rI, j_rJ]
  intro e a he ha
  rw [r21, r22, r122, r123, r124]
  by_cases h : 3 * e + a = 3 * n + k
  · have h2 : 3 * e + a = n * 3 + k := by omega
    rw [if_pos h2, if_pos h, if_pos h, if_pos h2, if_pos h]
    exact ⟨⟨tn, hd, ht, hq, hv⟩, b, hu, hu⟩
  · have h2 : ¬ 3 * e + a = n * 3 + k := by omega
    rw [if_neg h2, if_neg h, if_neg h, if_neg h2, if_neg h]
    exact hD e a he ha
theorem j_c_J {n k : Nat} {t u q v : Int32} (hn : n < 3) (hk : k < 3) (tn : Nat) (hd : u_dv tn) (ht : t = nI tn) (hq : q = nI (tn % 4)) (hv : tn % 4 = 3 → v = nI (u_of tn)) (b : Bool) (hu : u = if b = true then 1 else 0) (hJ : u_J S) : u_J (j_cT (j_cS S n k t u) n k q v u) :=
  ⟨j_T j_c_f (by decide) (by decide) (by omega) (by omega) rfl hJ.1, j_W j_c_f (by decide) (by decide) (by omega) rfl hJ.2.1, j_E j_c_f (by decide) (by decide) (by omega) (by omega) hJ.2.2.1, j_c_D hn hk tn hd ht hq hv b hu hJ.2.2.2.1, j_V j_c_f (by decide) (by decide) (by omega) (by omega) rfl hJ.2.2.2.2.1, j_P j_c_f (by decide) (by decide) (by omega) (by omega) (by omega) (by omega) (by omega) hJ.2.2.2.2.2⟩
theorem j_decl0 (hW : w_W (q_S0 L xs) S) (hJ : u_J S) (hpL : p + 6 ≤ L) (hL : L ≤ 3072) (hk : j_K (d + 300) L p xs S Q) (h5 : xs (p + 5) = 0) : w_X (d + 300) 88 [.ref 1000, .int (xs (p + 1)), .int (xs (p + 2)), .int (xs (p + 3)), .int (xs (p + 4)), .int 0] S (w_k (d + 300 + 1) 205 617 [(0, .ref 999), (1, .ref 1000), (2, .ref 1097), (3, .ref 1139), (4, .int (nI p))] [] Q) := by
  rcases j_r3 (xs (p + 1)) with ⟨n, hn, hx⟩ | ⟨ho, hp⟩
  · rcases j_r3 (xs (p + 2)) with ⟨k, hk3, hy⟩ | ⟨ho, hp⟩
    · rcases j_r4 (xs (p + 3)) with ⟨s, hs4, hz⟩ | ⟨ho, hp⟩
      · obtain rfl | rfl | rfl | rfl : s = 0 ∨ s = 1 ∨ s = 2 ∨ s = 3 := by omega
        · replace hz : xs (p + 3) = (0 : Int32) := hz
          have fin := hk _ (j_cT_W (j_cS_W hW)) (j_c_J (S := S) (n := n) (k := k) (t := (0 : Int32)) (u := (0 : Int32)) (q := (0 : Int32)) (v := (xs (p + 4))) hn hk3 0 (by unfold u_dv; decide) rfl rfl (fun z => absurd z (by decide)) false rfl hJ) (j_all j_c_f (by decide))
          have B : w_X (d + 300) 180 [.ref 1097, .int (xs (p + 1)), .int (xs (p + 2)), .int (xs (p + 3)), .int (xs (p + 4)), .int 0] (j_cS S n k (0 : Int32) (0 : Int32)) (w_k (d + 300 + 1) 205 661 [(0, .ref 999), (1, .ref 1000), (2, .ref 1097), (3, .ref 1139), (4, .int (nI p)), (5, .int 0)] [] Q) := by
            rw [hx, hy, hz]
            exact m180g00 (j_cS_W hW) hn hk3 (by omega) (by omega) (by omega) (by omega) (l205_declare_z (j_cT_W (j_cS_W hW)) hpL hL rfl fin)
          rw [hx, hy, hz]
          exact h88g00 hW hn hk3 (by omega) (by omega) (by omega) (by omega) (l205_declare_b (j_cS_W hW) hpL hL (fun _ => B) (fun z => absurd h5 z))
        · replace hz : xs (p + 3) = (1 : Int32) := hz
          have fin := hk _ (j_cT_W (j_cS_W hW)) (j_c_J (S := S) (n := n) (k := k) (t := (1 : Int32)) (u := (0 : Int32)) (q := (1 : Int32)) (v := (xs (p + 4))) hn hk3 1 (by unfold u_dv; decide) rfl rfl (fun z => absurd z (by decide)) false rfl hJ) (j_all j_c_f (by decide))
          have B : w_X (d + 300) 180 [.ref 1097, .int (xs (p + 1)), .int (xs (p + 2)), .int (xs (p + 3)), .int (xs (p + 4)), .int 0] (j_cS S n k (1 : Int32) (0 : Int32)) (w_k (d + 300 + 1) 205 661 [(0, .ref 999), (1, .ref 1000), (2, .ref 1097), (3, .ref 1139), (4, .int (nI p)), (5, .int 0)] [] Q) := by
            rw [hx, hy, hz]
            exact m180g10 (j_cS_W hW) hn hk3 (by omega) (by omega) (by omega) (by omega) (l205_declare_z (j_cT_W (j_cS_W hW)) hpL hL rfl fin)
          rw [hx, hy, hz]
          exact h88g10 hW hn hk3 (by omega) (by omega) (by omega) (by omega) (l205_declare_b (j_cS_W hW) hpL hL (fun _ => B) (fun z => absurd h5 z))
        · replace hz : xs (p + 3) = (2 : Int32) := hz
          have fin := hk _ (j_cT_W (j_cS_W hW)) (j_c_J (S := S) (n := n) (k := k) (t := (2 : Int32)) (u := (0 : Int32)) (q := (2 : Int32)) (v := (xs (p + 4))) hn hk3 2 (by unfold u_dv; decide) rfl rfl (fun z => absurd z (by decide)) false rfl hJ) (j_all j_c_f (by decide))
          have B : w_X (d + 300) 180 [.ref 1097, .int (xs (p + 1)), .int (xs (p + 2)), .int (xs (p + 3)), .int (xs (p + 4)), .int 0] (j_cS S n k (2 : Int32) (0 : Int32)) (w_k (d + 300 + 1) 205 661 [(0, .ref 999), (1, .ref 1000), (2, .ref 1097), (3, .ref 1139), (4, .int (nI p)), (5, .int 0)] [] Q) := by
            rw [hx, hy, hz]
            exact m180g20 (j_cS_W hW) hn hk3 (by omega) (by omega) (by omega) (by omega) (l205_declare_z (j_cT_W (j_cS_W hW)) hpL hL rfl fin)
          rw [hx, hy, hz]
          exact h88g20 hW hn hk3 (by omega) (by omega) (by omega) (by omega) (l205_declare_b (j_cS_W hW) hpL hL (fun _ => B) (fun z => absurd h5 z))
        · replace hz : xs (p + 3) = (3 : Int32) := hz
          rcases j_r3 (xs (p + 4)) with ⟨f, hf, hv⟩ | ⟨ho, hp⟩
          · obtain rfl | rfl | rfl : f = 0 ∨ f = 1 ∨ f = 2 := by omega
            · replace hv : xs (p + 4) = (0 : Int32) := hv
              have fin := hk _ (j_cT_W (j_cS_W hW)) (j_c_J (S := S) (n := n) (k := k) (t := (7 : Int32)) (u := (0 : Int32)) (q := (3 : Int32)) (v := (0 : Int32)) hn hk3 7 (by unfold u_dv; decide) rfl rfl (fun _ => by decide) false rfl hJ) (j_all j_c_f (by decide))
              have B : w_X (d + 300) 180 [.ref 1097, .int (xs (p + 1)), .int (xs (p + 2)), .int (xs (p + 3)), .int (xs (p + 4)), .int 0] (j_cS S n k (7 : Int32) (0 : Int32)) (w_k (d + 300 + 1) 205 661 [(0, .ref 999), (1, .ref 1000), (2, .ref 1097), (3, .ref 1139), (4, .int (nI p)), (5, .int 0)] [] Q) := by
                rw [hx, hy, hz, hv]
                exact m180f00 (j_cS_W hW) hn hk3 (by omega) (by omega) (by omega) (by omega) (l205_declare_z (j_cT_W (j_cS_W hW)) hpL hL rfl fin)
              rw [hx, hy, hz, hv]
              exact h88f00 hW hn hk3 (by omega) (by omega) (by omega) (by omega) (l205_declare_b (j_cS_W hW) hpL hL (fun _ => B) (fun z => absurd h5 z))
            · replace hv : xs (p + 4) = (1 : Int32) := hv
              have fin := hk _ (j_cT_W (j_cS_W hW)) (j_c_J (S := S) (n := n) (k := k) (t := (11 : Int32)) (u := (0 : Int32)) (q := (3 : Int32)) (v := (1 : Int32)) hn hk3 11 (by unfold u_dv; decide) rfl rfl (fun _ => by decide) false rfl hJ) (j_all j_c_f (by decide))
              have B : w_X (d + 300) 180 [.ref 1097, .int (xs (p + 1)), .int (xs (p + 2)), .int (xs (p + 3)), .int (xs (p + 4)), .int 0] (j_cS S n k (11 : Int32) (0 : Int32)) (w_k (d + 300 + 1) 205 661 [(0, .ref 999), (1, .ref 1000), (2, .ref 1097), (3, .ref 1139), (4, .int (nI p)), (5, .int 0)] [] Q) := by
                rw [hx, hy, hz, hv]
                exact m180f10 (j_cS_W hW) hn hk3 (by omega) (by omega) (by omega) (by omega) (l205_declare_z (j_cT_W (j_cS_W hW)) hpL hL rfl fin)
              rw [hx, hy, hz, hv]
              exact h88f10 hW hn hk3 (by omega) (by omega) (by omega) (by omega) (l205_declare_b (j_cS_W hW) hpL hL (fun _ => B) (fun z => absurd h5 z))
            · replace hv : xs (p + 4) = (2 : Int32) := hv
              have fin := hk _ (j_cT_W (j_cS_W hW)) (j_c_J (S := S) (n := n) (k := k) (t := (19 : Int32)) (u := (0 : Int32)) (q := (3 : Int32)) (v := (2 : Int32)) hn hk3 19 (by unfold u_dv; decide) rfl rfl (fun _ => by decide) false rfl hJ) (j_all j_c_f (by decide))
              have B : w_X (d + 300) 180 [.ref 1097, .int (xs (p + 1)), .int (xs (p + 2)), .int (xs (p + 3)), .int (xs (p + 4)), .int 0] (j_cS S n k (19 : Int32) (0 : Int32)) (w_k (d + 300 + 1) 205 661 [(0, .ref 999), (1, .ref 1000), (2, .ref 1097), (3, .ref 1139), (4, .int (nI p)), (5, .int 0)] [] Q) := by
                rw [hx, hy, hz, hv]
                exact m180f20 (j_cS_W hW) hn hk3 (by omega) (by omega) (by omega) (by omega) (l205_declare_z (j_cT_W (j_cS_W hW)) hpL hL rfl fin)
              rw [hx, hy, hz, hv]
              exact h88f20 hW hn hk3 (by omega) (by omega) (by omega) (by omega) (l205_declare_b (j_cS_W hW) hpL hL (fun _ => B) (fun z => absurd h5 z))
          · have C := l205_declare_c1 (d := d + 300) (S := q_sI (q_new S (10, 6) 6) 1097 0 (1 : Int32)) (hW.new.sI (by decide)) hpL hL rfl (j_thr hW hJ hk)
            have B : w_X (d + 300) 180 [.ref 1097, .int (xs (p + 1)), .int (xs (p + 2)), .int (xs (p + 3)), .int (xs (p + 4)), .int 0] (q_new S (10, 6) 6) (w_k (d + 300 + 1) 205 661 [(0, .ref 999), (1, .ref 1000), (2, .ref 1097), (3, .ref 1139), (4, .int (nI p)), (5, .int 1)] [] Q) := by
              rw [hx, hy, hz]
              exact m180e hW.new ho hp hn hk3 (by omega) (by omega) (by omega) (by omega) (fun _ => C) (fun _ => C)
            rw [hx, hy, hz]
            exact h88e hW ho hp hn hk3 (by omega) (by omega) (by omega) (by omega) (by omega) (fun _ => (l205_declare_b hW.new hpL hL (fun _ => B) (fun z => absurd h5 z))) (fun _ => (l205_declare_b hW.new hpL hL (fun _ => B) (fun z => absurd h5 z)))
      · have C := l205_declare_c1 (d := d + 300) (S := q_sI (q_new S (10, 6) 6) 1097 0 (1 : Int32)) (hW.new.sI (by decide)) hpL hL rfl (j_thr hW hJ hk)
        have B : w_X (d + 300) 180 [.ref 1097, .int (xs (p + 1)), .int (xs (p + 2)), .int (xs (p + 3)), .int (xs (p + 4)), .int 0] (q_new S (10, 6) 6) (w_k (d + 300 + 1) 205 661 [(0, .ref 999), (1, .ref 1000), (2, .ref 1097), (3, .ref 1139), (4, .int (nI p)), (5, .int 1)] [] Q) := by
          rw [hx, hy]
          exact m180d hW.new ho hp hn hk3 (by omega) (by omega) (by omega) (by omega) (fun _ => C) (fun _ => C)
        rw [hx, hy]
        exact h88d hW ho hp hn hk3 (by omega) (by omega) (by omega) (by omega) (by omega) (fun _ => (l205_declare_b hW.new hpL hL (fun _ => B) (fun z => absurd h5 z))) (fun _ => (l205_declare_b hW.new hpL hL (fun _ => B) (fun z => absurd h5 z)))
    · have C := l205_declare_c1 (d := d + 300) (S := q_sI (q_new S (10, 6) 6) 1097 0 (1 : Int32)) (hW.new.sI (by decide)) hpL hL rfl (j_thr hW hJ hk)
      have B : w_X (d + 300) 180 [.ref 1097, .int (xs (p + 1)), .int (xs (p + 2)), .int (xs (p + 3)), .int (xs (p + 4)), .int 0] (q_new S (10, 6) 6) (w_k (d + 300 + 1) 205 661 [(0, .ref 999), (1, .ref 1000), (2, .ref 1097), (3, .ref 1139), (4, .int (nI p)), (5, .int 1)] [] Q) := by
        rw [hx]
        exact m180c hW.new ho hp hn (by omega) (by omega) (fun _ => C) (fun _ => C)
      rw [hx]
      exact h88c hW ho hp hn (by omega) (by omega) (by omega) (fun _ => (l205_declare_b hW.new hpL hL (fun _ => B) (fun z => absurd h5 z))) (fun _ => (l205_declare_b hW.new hpL hL (fun _ => B) (fun z => absurd h5 z)))
  · have C := l205_declare_c1 (d := d + 300) (S := q_sI (q_new S (10, 6) 6) 1097 0 (1 : Int32)) (hW.new.sI (by decide)) hpL hL rfl (j_thr hW hJ hk)
    have B : w_X (d + 300) 180 [.ref 1097, .int (xs (p + 1)), .int (xs (p + 2)), .int (xs (p + 3)), .int (xs (p + 4)), .int 0] (q_new S (10, 6) 6) (w_k (d + 300 + 1) 205 661 [(0, .ref 999), (1, .ref 1000), (2, .ref 1097), (3, .ref 1139), (4, .int (nI p)), (5, .int 1)] [] Q) := by
      exact m180b hW.new ho hp (fun _ => C) (fun _ => C)
    exact h88b hW ho hp (by omega) (fun _ => (l205_declare_b hW.new hpL hL (fun _ => B) (fun z => absurd h5 z))) (fun _ => (l205_declare_b hW.new hpL hL (fun _ => B) (fun z => absurd h5 z)))
theorem j_decl1 (hW : w_W (q_S0 L xs) S) (hJ : u_J S) (hpL : p + 6 ≤ L) (hL : L ≤ 3072) (hk : j_K (d + 300) L p xs S Q) (h5 : ¬ (xs (p + 5) = 0)) : w_X (d + 300) 88 [.ref 1000, .int (xs (p + 1)), .int (xs (p + 2)), .int (xs (p + 3)), .int (xs (p + 4)), .int 1] S (w_k (d + 300 + 1) 205 617 [(0, .ref 999), (1, .ref 1000), (2, .ref 1097), (3, .ref 1139), (4, .int (nI p))] [] Q) := by
  rcases j_r3 (xs (p + 1)) with ⟨n, hn, hx⟩ | ⟨ho, hp⟩
  · rcases j_r3 (xs (p + 2)) with ⟨k, hk3, hy⟩ | ⟨ho, hp⟩
    · rcases j_r4 (xs (p + 3)) with ⟨s, hs4, hz⟩ | ⟨ho, hp⟩
      · obtain rfl | rfl | rfl | rfl : s = 0 ∨ s = 1 ∨ s = 2 ∨ s = 3 := by omega
        · replace hz : xs (p + 3) = (0 : Int32) := hz
          have fin := hk _ (j_cT_W (j_cS_W hW)) (j_c_J (S := S) (n := n) (k := k) (t := (0 : Int32)) (u := (1 : Int32)) (q := (0 : Int32)) (v := (xs (p + 4))) hn hk3 0 (by unfold u_dv; decide) rfl rfl (fun z => absurd z (by decide)) true rfl hJ) (j_all j_c_f (by decide))
          have B : w_X (d + 300) 180 [.ref 1097, .int (xs (p + 1)), .int (xs (p + 2)), .int (xs (p + 3)), .int (xs (p + 4)), .int 1] (j_cS S n k (0 : Int32) (1 : Int32)) (w_k (d + 300 + 1) 205 661 [(0, .ref 999), (1, .ref 1000), (2, .ref 1097), (3, .ref 1139), (4, .int (nI p)), (5, .int 0)] [] Q) := by
            rw [hx, hy, hz]
            exact m180g01 (j_cS_W hW) hn hk3 (by omega) (by omega) (by omega) (by omega) (l205_declare_z (j_cT_W (j_cS_W hW)) hpL hL rfl fin)
          rw [hx, hy, hz]
          exact h88g01 hW hn hk3 (by omega) (by omega) (by omega) (by omega) (l205_declare_b (j_cS_W hW) hpL hL (fun z => absurd z h5) (fun _ => B))
        · replace hz : xs (p + 3) = (1 : Int32) := hz
          have fin := hk _ (j_cT_W (j_cS_W hW)) (j_c_J (S := S) (n := n) (k := k) (t := (1 : Int32)) (u := (1 : Int32)) (q := (1 : Int32)) (v := (xs (p + 4))) hn hk3 1 (by unfold u_dv; decide) rfl rfl (fun z => absurd z (by decide)) true rfl hJ) (j_all j_c_f (by decide))
          have B : w_X (d + 300) 180 [.ref 1097, .int (xs (p + 1)), .int (xs (p + 2)), .int (xs (p + 3)), .int (xs (p + 4)), .int 1] (j_cS S n k (1 : Int32) (1 : Int32)) (w_k (d + 300 + 1) 205 661 [(0, .ref 999), (1, .ref 1000), (2, .ref 1097), (3, .ref 1139), (4, .int (nI p)), (5, .int 0)] [] Q) := by
            rw [hx, hy, hz]
            exact m180g11 (j_cS_W hW) hn hk3 (by omega) (by omega) (by omega) (by omega) (l205_declare_z (j_cT_W (j_cS_W hW)) hpL hL rfl fin)
          rw [hx, hy, hz]
          exact h88g11 hW hn hk3 (by omega) (by omega) (by omega) (by omega) (l205_declare_b (j_cS_W hW) hpL hL (fun z => absurd z h5) (fun _ => B))
        · replace hz : xs (p + 3) = (2 : Int32) := hz
          have fin := hk _ (j_cT_W (j_cS_W hW)) (j_c_J (S := S) (n := n) (k := k) (t := (2 : Int32)) (u := (1 : Int32)) (q := (2 : Int32)) (v := (xs (p + 4))) hn hk3 2 (by unfold u_dv; decide) rfl rfl (fun z => absurd z (by decide)) true rfl hJ) (j_all j_c_f (by decide))
          have B : w_X (d + 300) 180 [.ref 1097, .int (xs (p + 1)), .int (xs (p + 2)), .int (xs (p + 3)), .int (xs (p + 4)), .int 1] (j_cS S n k (2 : Int32) (1 : Int32)) (w_k (d + 300 + 1) 205 661 [(0, .ref 999), (1, .ref 1000), (2, .ref 1097), (3, .ref 1139), (4, .int (nI p)), (5, .int 0)] [] Q) := by
            rw [hx, hy, hz]
            exact m180g21 (j_cS_W hW) hn hk3 (by omega) (by omega) (by omega) (by omega) (l205_declare_z (j_cT_W (j_cS_W hW)) hpL hL rfl fin)
          rw [hx, hy, hz]
          exact h88g21 hW hn hk3 (by omega) (by omega) (by omega) (by omega) (l205_declare_b (j_cS_W hW) hpL hL (fun z => absurd z h5) (fun _ => B))
        · replace hz : xs (p + 3) = (3 : Int32) := hz
          rcases j_r3 (xs (p + 4)) with ⟨f, hf, hv⟩ | ⟨ho, hp⟩
          · obtain rfl | rfl | rfl : f = 0 ∨ f = 1 ∨ f = 2 := by omega
            · replace hv : xs (p + 4) = (0 : Int32) := hv
              have fin := hk _ (j_cT_W (j_cS_W hW)) (j_c_J (S := S) (n := n) (k := k) (t := (7 : Int32)) (u := (1 : Int32)) (q := (3 : Int32)) (v := (0 : Int32)) hn hk3 7 (by unfold u_dv; decide) rfl rfl (fun _ => by decide) true rfl hJ) (j_all j_c_f (by decide))
              have B : w_X (d + 300) 180 [.ref 1097, .int (xs (p + 1)), .int (xs (p + 2)), .int (xs (p + 3)), .int (xs (p + 4)), .int 1] (j_cS S n k (7 : Int32) (1 : Int32)) (w_k (d + 300 + 1) 205 661 [(0, .ref 999), (1, .ref 1000), (2, .ref 1097), (3, .ref 1139), (4, .int (nI p)), (5, .int 0)] [] Q) := by
                rw [hx, hy, hz, hv]
                exact m180f01 (j_cS_W hW) hn hk3 (by omega) (by omega) (by omega) (by omega) (l205_declare_z (j_cT_W (j_cS_W hW)) hpL hL rfl fin)
              rw [hx, hy, hz, hv]
              exact h88f01 hW hn hk3 (by omega) (by omega) (by omega) (by omega) (l205_declare_b (j_cS_W hW) hpL hL (fun z => absurd z h5) (fun _ => B))
            · replace hv : xs (p + 4) = (1 : Int32) := hv
              have fin := hk _ (j_cT_W (j_cS_W hW)) (j_c_J (S := S) (n := n) (k := k) (t := (11 : Int32)) (u := (1 : Int32)) (q := (3 : Int32)) (v := (1 : Int32)) hn hk3 11 (by unfold u_dv; decide) rfl rfl (fun _ => by decide) true rfl hJ) (j_all j_c_f (by decide))
              have B : w_X (d + 300) 180 [.ref 1097, .int (xs (p + 1)), .int (xs (p + 2)), .int (xs (p + 3)), .int (xs (p + 4)), .int 1] (j_cS S n k (11 : Int32) (1 : Int32)) (w_k (d + 300 + 1) 205 661 [(0, .ref 999), (1, .ref 1000), (2, .ref 1097), (3, .ref 1139), (4, .int (nI p)), (5, .int 0)] [] Q) := by
                rw [hx, hy, hz, hv]
                exact m180f11 (j_cS_W hW) hn hk3 (by omega) (by omega) (by omega) (by omega) (l205_declare_z (j_cT_W (j_cS_W hW)) hpL hL rfl fin)
              rw [hx, hy, hz, hv]
              exact h88f11 hW hn hk3 (by omega) (by omega) (by omega) (by omega) (l205_declare_b (j_cS_W hW) hpL hL (fun z => absurd z h5) (fun _ => B))
            · replace hv : xs (p + 4) = (2 : Int32) := hv
              have fin := hk _ (j_cT_W (j_cS_W hW)) (j_c_J (S := S) (n := n) (k := k) (t := (19 : Int32)) (u := (1 : Int32)) (q := (3 : Int32)) (v := (2 : Int32)) hn hk3 19 (by unfold u_dv; decide) rfl rfl (fun _ => by decide) true rfl hJ) (j_all j_c_f (by decide))
              have B : w_X (d + 300) 180 [.ref 1097, .int (xs (p + 1)), .int (xs (p + 2)), .int (xs (p + 3)), .int (xs (p + 4)), .int 1] (j_cS S n k (19 : Int32) (1 : Int32)) (w_k (d + 300 + 1) 205 661 [(0, .ref 999), (1, .ref 1000), (2, .ref 1097), (3, .ref 1139), (4, .int (nI p)), (5, .int 0)] [] Q) := by
                rw [hx, hy, hz, hv]
                exact m180f21 (j_cS_W hW) hn hk3 (by omega) (by omega) (by omega) (by omega) (l205_declare_z (j_cT_W (j_cS_W hW)) hpL hL rfl fin)
              rw [hx, hy, hz, hv]
              exact h88f21 hW hn hk3 (by omega) (by omega) (by omega) (by omega) (l205_declare_b (j_cS_W hW) hpL hL (fun z => absurd z h5) (fun _ => B))
          · have C := l205_declare_c1 (d := d + 300) (S := q_sI (q_new S (10, 6) 6) 1097 0 (1 : Int32)) (hW.new.sI (by decide)) hpL hL rfl (j_thr hW hJ hk)
            have B : w_X (d + 300) 180 [.ref 1097, .int (xs (p + 1)), .int (xs (p + 2)), .int (xs (p + 3)), .int (xs (p + 4)), .int 1] (q_new S (10, 6) 6) (w_k (d + 300 + 1) 205 661 [(0, .ref 999), (1, .ref 1000), (2, .ref 1097), (3, .ref 1139), (4, .int (nI p)), (5, .int 1)] [] Q) := by
              rw [hx, hy, hz]
              exact m180e hW.new ho hp hn hk3 (by omega) (by omega) (by omega) (by omega) (fun _ => C) (fun _ => C)
            rw [hx, hy, hz]
            exact h88e hW ho hp hn hk3 (by omega) (by omega) (by omega) (by omega) (by omega) (fun _ => (l205_declare_b hW.new hpL hL (fun z => absurd z h5) (fun _ => B))) (fun _ => (l205_declare_b hW.new hpL hL (fun z => absurd z h5) (fun _ => B)))
      · have C := l205_declare_c1 (d := d + 300) (S := q_sI (q_new S (10, 6) 6) 1097 0 (1 : Int32)) (hW.new.sI (by decide)) hpL hL rfl (j_thr hW hJ hk)
        have B : w_X (d + 300) 180 [.ref 1097, .int (xs (p + 1)), .int (xs (p + 2)), .int (xs (p + 3)), .int (xs (p + 4)), .int 1] (q_new S (10, 6) 6) (w_k (d + 300 + 1) 205 661 [(0, .ref 999), (1, .ref 1000), (2, .ref 1097), (3, .ref 1139), (4, .int (nI p)), (5, .int 1)] [] Q) := by
          rw [hx, hy]
          exact m180d hW.new ho hp hn hk3 (by omega) (by omega) (by omega) (by omega) (fun _ => C) (fun _ => C)
        rw [hx, hy]
        exact h88d hW ho hp hn hk3 (by omega) (by omega) (by omega) (by omega) (by omega) (fun _ => (l205_declare_b hW.new hpL hL (fun z => absurd z h5) (fun _ => B))) (fun _ => (l205_declare_b hW.new hpL hL (fun z => absurd z h5) (fun _ => B)))
    · have C := l205_declare_c1 (d := d + 300) (S := q_sI (q_new S (10, 6) 6) 1097 0 (1 : Int32)) (hW.new.sI (by decide)) hpL hL rfl (j_thr hW hJ hk)
      have B : w_X (d + 300) 180 [.ref 1097, .int (xs (p + 1)), .int (xs (p + 2)), .int (xs (p + 3)), .int (xs (p + 4)), .int 1] (q_new S (10, 6) 6) (w_k (d + 300 + 1) 205 661 [(0, .ref 999), (1, .ref 1000), (2, .ref 1097), (3, .ref 1139), (4, .int (nI p)), (5, .int 1)] [] Q) := by
        rw [hx]
        exact m180c hW.new ho hp hn (by omega) (by omega) (fun _ => C) (fun _ => C)
      rw [hx]
      exact h88c hW ho hp hn (by omega) (by omega) (by omega) (fun _ => (l205_declare_b hW.new hpL hL (fun z => absurd z h5) (fun _ => B))) (fun _ => (l205_declare_b hW.new hpL hL (fun z => absurd z h5) (fun _ => B)))
  · have C := l205_declare_c1 (d := d + 300) (S := q_sI (q_new S (10, 6) 6) 1097 0 (1 : Int32)) (hW.new.sI (by decide)) hpL hL rfl (j_thr hW hJ hk)
    have B : w_X (d + 300) 180 [.ref 1097, .int (xs (p + 1)), .int (xs (p + 2)), .int (xs (p + 3)), .int (xs (p + 4)), .int 1] (q_new S (10, 6) 6) (w_k (d + 300 + 1) 205 661 [(0, .ref 999), (1, .ref 1000), (2, .ref 1097), (3, .ref 1139), (4, .int (nI p)), (5, .int 1)] [] Q) := by
      exact m180b hW.new ho hp (fun _ => C) (fun _ => C)
    exact h88b hW ho hp (by omega) (fun _ => (l205_declare_b hW.new hpL hL (fun z => absurd z h5) (fun _ => B))) (fun _ => (l205_declare_b hW.new hpL hL (fun z => absurd z h5) (fun _ => B)))
theorem j_declare (hW : w_W (q_S0 L xs) S) (hJ : u_J S) (hpL : p + 6 ≤ L) (hL : L ≤ 3072) (hk : j_K (d + 300) L p xs S Q) : w_R (d + 300 + 1) 205 578 [(0, .ref 999), (1, .ref 1000), (2, .ref 1097), (3, .ref 1139), (4, .int (nI p))] [] S Q := by
  exact l205_declare_a hW hpL hL (fun z => j_decl0 hW hJ hpL hL hk z) (fun z => j_decl1 hW hJ hpL hL hk z)
end JO4
