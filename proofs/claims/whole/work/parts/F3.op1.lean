/-! ONE CALL OF THE SCRIPT: what a call leaves, common rows. -/
theorem j_rng (x : Int32) {b : Nat} (hb : b < 1000) (h0 : 0 < b) : (∃ n, n < b ∧ x = nI n) ∨ ((x < 0 ∨ nI b ≤ x) ∧ (x < 0 ∨ nI (b - 1) < x)) := by
  have z0 : (0 : Int32).toInt = 0 := rfl
  have hb1 : (nI b).toInt = (b : Int) := nI_toInt (by omega)
  have hb2 : (nI (b - 1)).toInt = ((b - 1 : Nat) : Int) := nI_toInt (by omega)
  by_cases h : x < 0
  · exact Or.inr ⟨Or.inl h, Or.inl h⟩
  · have h' : 0 ≤ x.toInt := by
      rw [Int32.lt_iff_toInt_lt, z0] at h
      omega
    by_cases h2 : x.toInt < b
    · refine Or.inl ⟨x.toInt.toNat, by omega, ?_⟩
      apply Int32.toInt_inj.mp
      rw [nI_toInt (by omega)]
      omega
    · refine Or.inr ⟨Or.inr ?_, Or.inr ?_⟩
      · rw [Int32.le_iff_toInt_le, hb1]
        omega
      · rw [Int32.lt_iff_toInt_lt, hb2]
        omega
theorem j_r3 (x : Int32) : (∃ n, n < 3 ∧ x = nI n) ∨ ((x < 0 ∨ (3 : Int32) ≤ x) ∧ (x < 0 ∨ (2 : Int32) < x)) := j_rng x (b := 3) (by decide) (by decide)
theorem j_r4 (x : Int32) : (∃ n, n < 4 ∧ x = nI n) ∨ ((x < 0 ∨ (4 : Int32) ≤ x) ∧ (x < 0 ∨ (3 : Int32) < x)) := j_rng x (b := 4) (by decide) (by decide)
theorem j_r6 (x : Int32) : (∃ n, n < 6 ∧ x = nI n) ∨ ((x < 0 ∨ (6 : Int32) ≤ x) ∧ (x < 0 ∨ (5 : Int32) < x)) := j_rng x (b := 6) (by decide) (by decide)
theorem j_r10 (x : Int32) : (∃ n, n < 10 ∧ x = nI n) ∨ ((x < 0 ∨ (10 : Int32) ≤ x) ∧ (x < 0 ∨ (9 : Int32) < x)) := j_rng x (b := 10) (by decide) (by decide)
theorem j_r16 (x : Int32) : (∃ n, n < 16 ∧ x = nI n) ∨ ((x < 0 ∨ (16 : Int32) ≤ x) ∧ (x < 0 ∨ (15 : Int32) < x)) := j_rng x (b := 16) (by decide) (by decide)
/-- the cells that what holds between calls speaks of -/
def j_u (a : Nat) : Bool := decide ((1000 ≤ a ∧ a ≤ 1014) ∨ (1016 ≤ a ∧ a ≤ 1019) ∨ (1021 ≤ a ∧ a ≤ 1022) ∨ (1031 ≤ a ∧ a ≤ 1096) ∨ (1098 ≤ a ∧ a ≤ 1125))
theorem j_u_i {a : Nat} (h : (1000 ≤ a ∧ a ≤ 1014) ∨ (1016 ≤ a ∧ a ≤ 1019) ∨ (1021 ≤ a ∧ a ≤ 1022) ∨ (1031 ≤ a ∧ a ≤ 1096) ∨ (1098 ≤ a ∧ a ≤ 1125)) : j_u a = true := decide_eq_true h
def j_X (lo hi lo' hi' a : Nat) : Bool := decide (lo ≤ a ∧ a ≤ hi) || (decide (lo' ≤ a ∧ a ≤ hi') || !j_u a)
section JKP
variable {n a lo hi lo' hi' : Nat} {S S' : q_S}
theorem j_keep (h : u_f n (j_X lo hi lo' hi') S S') (hu : j_u a = true) (h1 : a < lo ∨ hi < a) (h2 : a < lo' ∨ hi' < a) : q_iv S' a = q_iv S a ∧ q_rv S' a = q_rv S a := by
  have hx : j_X lo hi lo' hi' a = false := by
    unfold j_X
    rw [decide_eq_false (by omega), decide_eq_false (by omega), hu]
    rfl
  have hl : a < 1140 := by
    have := of_decide_eq_true hu
    omega
  exact ⟨h.iv hl hx, h.rv hl hx⟩
theorem j_T (h : u_f n (j_X lo hi lo' hi') S S') (c : hi < 1097) (c' : 1097 < lo') (r : hi < 1000 ∨ 1001 < lo) (r' : hi' < 1098 ∨ 1098 < lo') (h3 : q_iv S' 1097 3 = q_iv S 1097 3) (hT : u_JT S) : u_JT S' :=
  hT.cg (by rw [(j_keep h (a := 1000) (by decide) (by omega) (by omega)).1]) h3 (j_keep h (a := 1001) (by decide) (by omega) (by omega)).1 (j_keep h (a := 1098) (by decide) (by omega) (by omega)).1
theorem j_W (h : u_f n (j_X lo hi lo' hi') S S') (c : hi < 1097) (c' : 1097 < lo') (r : hi < 1000 ∨ 1000 < lo) (h3 : q_iv S' 1097 1 = q_iv S 1097 1) (hT : q_iv S 1000 2 = q_iv S 1097 1) : q_iv S' 1000 2 = q_iv S' 1097 1 := by
  rw [(j_keep h (a := 1000) (by decide) (by omega) (by omega)).1, h3]
  exact hT
theorem j_E (h : u_f n (j_X lo hi lo' hi') S S') (c : hi < 1097) (c' : 1097 < lo') (r : hi < 1016 ∨ 1019 < lo) (r' : hi' < 1117 ∨ 1121 < lo') (hT : u_JE S) : u_JE S' :=
  hT.cg (fun a x y => (j_keep h (j_u_i (by omega)) (by omega) (by omega)).1) (fun a x y => (j_keep h (j_u_i (by omega)) (by omega) (by omega)).1)
theorem j_D (h : u_f n (j_X lo hi lo' hi') S S') (c : hi < 1097) (c' : 1097 < lo') (r : hi < 1021 ∨ 1022 < lo) (r' : hi' < 1122 ∨ 1124 < lo') (hT : u_JD S) : u_JD S' :=
  hT.cg (fun a x y => (j_keep h (j_u_i (by omega)) (by omega) (by omega)).1) (fun a x y => (j_keep h (j_u_i (by omega)) (by omega) (by omega)).1)
theorem j_V (h : u_f n (j_X lo hi lo' hi') S S') (c : hi < 1097) (c' : 1097 < lo') (r : hi < 1003 ∨ 1003 < lo) (r' : hi' < 1125 ∨ 1125 < lo') (h3 : q_iv S' 1097 31 = q_iv S 1097 31) (hT : u_JV S) : u_JV S' :=
  hT.cg (j_keep h (by decide) (by omega) (by omega)).1 (j_keep h (by decide) (by omega) (by omega)).1 h3
theorem j_P (h : u_f n (j_X lo hi lo' hi') S S') (c : hi < 1097) (c' : 1097 < lo') (r1 : hi < 1000 ∨ 1000 < lo) (r2 : hi < 1002 ∨ 1002 < lo) (r3 : hi < 1004 ∨ 1014 < lo) (r4 : hi < 1031 ∨ 1096 < lo) (r' : hi' < 1099 ∨ 1116 < lo') (hT : u_JP S) : u_JP S' :=
  hT.cg (j_keep h (by decide) (by omega) (by omega)).2 (by rw [(j_keep h (a := 1000) (by decide) (by omega) (by omega)).2]) (fun a hp => by
    have hp' : (1004 ≤ a ∧ a ≤ 1014) ∨ (1031 ≤ a ∧ a ≤ 1096) := by
      unfold u_pcl at hp
      simp only [Bool.or_eq_true, Bool.and_eq_true, decide_eq_true_eq] at hp
      exact hp
    exact j_keep h (j_u_i (by omega)) (by omega) (by omega)) (fun a x y => (j_keep h (j_u_i (by omega)) (by omega) (by omega)).1)
/-- nothing that is spoken of has changed -/
theorem j_same (h : u_f n (j_X 0 0 2000 2000) S S') (h1 : q_iv S' 1097 1 = q_iv S 1097 1) (h3 : q_iv S' 1097 3 = q_iv S 1097 3) (h31 : q_iv S' 1097 31 = q_iv S 1097 31) (hJ : u_J S) : u_J S' :=
  ⟨j_T h (by decide) (by decide) (by omega) (by omega) h3 hJ.1, j_W h (by decide) (by decide) (by omega) h1 hJ.2.1, j_E h (by decide) (by decide) (by omega) (by omega) hJ.2.2.1, j_D h (by decide) (by decide) (by omega) (by omega) hJ.2.2.2.1, j_V h (by decide) (by decide) (by omega) (by omega) h31 hJ.2.2.2.2.1, j_P h (by decide) (by decide) (by omega) (by omega) (by omega) (by omega) (by omega) hJ.2.2.2.2.2⟩
end JKP
/-- how a call goes on: the next one, from a state that is as it should -/
def j_K (d L p : Nat) (xs : Nat → Int32) (S : q_S) (Q : Outcome → q_S → Prop) : Prop := ∀ S', w_W (q_S0 L xs) S' → u_J S' → u_f 1 (fun _ => true) S S' → w_R (d + 1) 205 23 [(0, .ref 999), (1, .ref 1000), (2, .ref 1097), (3, .ref 1139), (4, .int (nI (p + 6)))] [] S' Q
section JOP
variable {d L p c : Nat} {xs : Nat → Int32} {S : q_S} {Q : Outcome → q_S → Prop} {k : Int32}
theorem j_nw (hW : w_W (q_S0 L xs) S) {a : Nat} (ha : a < 1140) : q_iv (q_new S (c, 6) 6) a = q_iv S a := ((u_f_new (c := c) (X := fun _ => false) hW).2.2 a ha rfl).2.1
theorem j_all {n : Nat} {X : Nat → Bool} {S' : q_S} (h : u_f n X S S') (hn : n ≤ 1) : u_f 1 (fun _ => true) S S' := h.mono hn (fun _ z => by cases z)
/-- both threw -/
theorem j_thr (hW : w_W (q_S0 L xs) S) (hJ : u_J S) (hk : j_K d L p xs S Q) : w_R (d + 1) 205 23 [(0, .ref 999), (1, .ref 1000), (2, .ref 1097), (3, .ref 1139), (4, .int (nI (p + 6)))] [] (q_sI (q_new S (c, 6) 6) 1097 0 k) Q := by
  have hf : u_f 1 (j_X 0 0 2000 2000) S (q_sI (q_new S (c, 6) 6) 1097 0 k) := (u_f_new hW).sI (by decide)
  have e : q_iv (q_new S (c, 6) 6) 1097 = q_iv S 1097 := j_nw hW (by decide)
  refine hk _ (hW.new.sI (by decide)) (j_same hf ?_ ?_ ?_ hJ) (j_all hf (Nat.le_refl _))
  · rw [v_kI (by decide), e]
  · rw [v_kI (by decide), e]
  · rw [v_kI (by decide), e]
/-- nothing changed but what is not spoken of -/
theorem j_no {S' : q_S} (hW : w_W (q_S0 L xs) S') (h : u_f 0 (j_X 0 0 2000 2000) S S') (h1 : q_iv S' 1097 1 = q_iv S 1097 1) (h3 : q_iv S' 1097 3 = q_iv S 1097 3) (h31 : q_iv S' 1097 31 = q_iv S 1097 31) (hJ : u_J S) (hk : j_K d L p xs S Q) : w_R (d + 1) 205 23 [(0, .ref 999), (1, .ref 1000), (2, .ref 1097), (3, .ref 1139), (4, .int (nI (p + 6)))] [] S' Q := hk _ hW (j_same h h1 h3 h31 hJ) (j_all h (by decide))
theorem j_where (hW : w_W (q_S0 L xs) S) (hJ : u_J S) (hpL : p + 6 ≤ L) (hL : L ≤ 3072) (hk : j_K d L p xs S Q) : w_R (d + 1) 205 260 [(0, .ref 999), (1, .ref 1000), (2, .ref 1097), (3, .ref 1139), (4, .int (nI p))] [] S Q :=
  l205_where hW hpL hL (fun _ => j_no (hW.sI (by decide)) (u_f.refl.sI (by decide)) (v_kI (by decide)) (v_kI (by decide)) (v_kI (by decide)) hJ hk) (fun z => absurd hJ.2.1 z)
theorem j_told (hW : w_W (q_S0 L xs) S) (hJ : u_J S) (hpL : p + 6 ≤ L) (hL : L ≤ 3072) (hk : j_K (d + 300) L p xs S Q) : w_R (d + 300 + 1) 205 983 [(0, .ref 999), (1, .ref 1000), (2, .ref 1097), (3, .ref 1139), (4, .int (nI p))] [] S Q := by
  have hW1 : w_W (q_S0 L xs) (q_sI S 1097 0 (0 : Int32)) := hW.sI (by decide)
  have key : w_R (d + 300 + 1) 205 23 [(0, .ref 999), (1, .ref 1000), (2, .ref 1097), (3, .ref 1139), (4, .int (nI (p + 6)))] [] (q_sI S 1097 0 (0 : Int32)) Q := j_no hW1 (u_f.refl.sI (by decide)) (v_kI (by decide)) (v_kI (by decide)) (v_kI (by decide)) hJ hk
  refine l205_told_a hW hpL hL ?_
  rcases j_r6 (xs (p + 1)) with ⟨n, hn, hx⟩ | ⟨ho, hp⟩
  · rw [hx]
    refine h10g hW hn (by omega) (by omega) (l205_told_b hW hpL hL ?_)
    rw [hx]
    refine m197g hW hn (by omega) (by omega) (l205_told_c hW1 hpL hL (fun _ => key) (fun z => absurd ?_ z))
    obtain ⟨f, hf, _⟩ := hJ.2.2.2.2.1
    rw [(hf n hn).2.1, (hf n hn).2.2]
  · have B : w_X (d + 300) 197 [.ref 1097, .int (xs (p + 1))] S (w_k (d + 300 + 1) 205 1000 [(0, .ref 999), (1, .ref 1000), (2, .ref 1097), (3, .ref 1139), (4, .int (nI p))] [.int (-1)] Q) := m197b hW ho hp (fun _ => l205_told_c hW1 hpL hL (fun _ => key) (fun z => absurd rfl z)) (fun _ => l205_told_c hW1 hpL hL (fun _ => key) (fun z => absurd rfl z))
    exact h10b hW ho hp (fun _ => l205_told_b hW hpL hL B) (fun _ => l205_told_b hW hpL hL B)
theorem j_isIn (hW : w_W (q_S0 L xs) S) (hJ : u_J S) (hpL : p + 6 ≤ L) (hL : L ≤ 3072) (hk : j_K (d + 300) L p xs S Q) : w_R (d + 300 + 1) 205 1008 [(0, .ref 999), (1, .ref 1000), (2, .ref 1097), (3, .ref 1139), (4, .int (nI p))] [] S Q := by
  have hE := hJ.2.2.1
  have hlo : ∀ j, j < 16 → v_lo (q_iv S 1119 j) := fun j hj => (hE.2.1 j hj).2
  refine l205_isIn_a hW hpL hL ?_
  rcases j_r16 (xs (p + 1)) with ⟨n, hn, hx⟩ | ⟨ho, hp⟩
  · rcases j_r16 (xs (p + 2)) with ⟨k, hk', hy⟩ | ⟨ho, hp⟩
    · rw [hx, hy]
      have hup : v_up (q_iv S 1119) n = v_up (q_iv S 1017) n := v_up_congr (fun j hj => ((hE.2.1 j hj).1).symm) n
      have hW1 : ∀ b : Int64, w_W (q_S0 L xs) (q_sJ S 1139 0 b) := fun b => hW.sJ (by decide)
      have hW2 : ∀ b : Int64, w_W (q_S0 L xs) (q_sI (q_sJ S 1139 0 b) 1097 0 (0 : Int32)) := fun b => (hW1 b).sI (by decide)
      have key : ∀ b : Int64, w_R (d + 300 + 1) 205 23 [(0, .ref 999), (1, .ref 1000), (2, .ref 1097), (3, .ref 1139), (4, .int (nI (p + 6)))] [] (q_sI (q_sJ S 1139 0 b) 1097 0 (0 : Int32)) Q := fun b => j_no (hW2 b) ((u_f.refl.sJ (by decide)).sI (by decide)) (v_kI (by decide)) (v_kI (by decide)) (v_kI (by decide)) hJ hk
      refine h140g hW hn hk' (by omega) (by omega) (by omega) (by omega) (v_nbr (by split <;> simp)) (fun c1 => ?_) (fun c1 => ?_)
      · have hb : ¬ v_b (v_up (q_iv S 1017) n) k = true := by
          intro z
          rw [if_pos z] at c1
          revert c1
          decide
        refine l205_isIn_b (hW1 _) hpL hL ?_
        rw [hx, hy]
        refine m182g (hW1 _) hn hk' hlo (by omega) (by omega) (by omega) (by omega) (fun _ => ?_) (fun c2 => absurd ((v_tst1 _ (by omega)).mp c2) (by
          show ¬ v_b (v_up (q_iv S 1119) n) k = true
          rw [hup]
          exact hb))
        exact l205_isIn_z0 (hW2 _) hpL hL rfl (fun _ => key _) (fun z => absurd ((v_lg0 _ _).mpr rfl) z)
      · have hb : v_b (v_up (q_iv S 1017) n) k = true := by
          by_cases z : v_b (v_up (q_iv S 1017) n) k = true
          · exact z
          · rw [if_neg z] at c1
            exact absurd rfl c1
        refine l205_isIn_b (hW1 _) hpL hL ?_
        rw [hx, hy]
        refine m182g (hW1 _) hn hk' hlo (by omega) (by omega) (by omega) (by omega) (fun c2 => absurd ((v_tst1 _ (by omega)).mpr (by
          show v_b (v_up (q_iv S 1119) n) k = true
          rw [hup]
          exact hb)) c2) (fun _ => ?_)
        exact l205_isIn_z1 (hW2 _) hpL hL rfl (fun _ => key _) (fun z => absurd ((v_lg0 _ _).mpr rfl) z)
    · rw [hx]
      have C := l205_isIn_c1 (b := 0) (S := q_sI (q_new S (10, 6) 6) 1097 0 (1 : Int32)) (hW.new.sI (by decide)) hpL hL rfl (j_thr hW hJ hk)
      have B : w_X (d + 300) 182 [.ref 1097, .int (xs (p + 1)), .int (xs (p + 2))] (q_new S (10, 6) 6) (w_k (d + 300 + 1) 205 1040 [(0, .ref 999), (1, .ref 1000), (2, .ref 1097), (3, .ref 1139), (4, .int (nI p)), (5, .int 1)] [] Q) := by
        rw [hx]
        exact m182c hW.new ho hp hn (fun j hj => by rw [j_nw hW (by decide)]; exact hlo j hj) (by omega) (by omega) (fun _ => C) (fun _ => C)
      exact h140c hW ho hp hn (by omega) (by omega) (by omega) (fun _ => l205_isIn_b hW.new hpL hL B) (fun _ => l205_isIn_b hW.new hpL hL B)
  · have C := l205_isIn_c1 (b := 0) (S := q_sI (q_new S (10, 6) 6) 1097 0 (1 : Int32)) (hW.new.sI (by decide)) hpL hL rfl (j_thr hW hJ hk)
    have B : w_X (d + 300) 182 [.ref 1097, .int (xs (p + 1)), .int (xs (p + 2))] (q_new S (10, 6) 6) (w_k (d + 300 + 1) 205 1040 [(0, .ref 999), (1, .ref 1000), (2, .ref 1097), (3, .ref 1139), (4, .int (nI p)), (5, .int 1)] [] Q) := m182b hW.new ho hp (fun j hj => by rw [j_nw hW (by decide)]; exact hlo j hj) (fun _ => C) (fun _ => C)
    exact h140b hW ho hp (by omega) (fun _ => l205_isIn_b hW.new hpL hL B) (fun _ => l205_isIn_b hW.new hpL hL B)
end JOP
