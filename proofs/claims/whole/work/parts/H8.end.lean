/-! THE LAW, WHOLE: call after call, then the end. -/
theorem j_and15 (x : Int32) : ∃ n, n < 16 ∧ x &&& (15 : Int32) = nI n := by
  have h : (x &&& (15 : Int32)).toBitVec.toNat < 16 := by
    rw [Int32.toBitVec_and, BitVec.toNat_and]
    exact Nat.lt_of_le_of_lt Nat.and_le_right (by decide)
  refine ⟨(x &&& (15 : Int32)).toBitVec.toNat, h, ?_⟩
  apply Int32.toBitVec_inj.mp
  apply BitVec.eq_of_toNat_eq
  exact (pk_tn (by omega)).symm
theorem j_mono {d m pc : Nat} {lv : List (Nat × Value)} {st : List Value} {S : q_S} {Q Q' : Outcome → q_S → Prop} (h : w_R d m pc lv st S Q) (hq : ∀ o S', Q o S' → Q' o S') : w_R d m pc lv st S Q' := by
  obtain ⟨n, o, S', h1, h2⟩ := h
  exact ⟨n, o, S', h1, hq _ _ h2⟩
def j_QQ (S : q_S) (m : Nat) : Outcome → q_S → Prop := fun o S' => o = .returned (some (.int 1)) ∧ q_tp S' ≤ q_tp S + m ∧ q_sm S' ≤ q_sm S + 6 * m
theorem j_call {L p : Nat} {xs : Nat → Int32} {S : q_S} {Q : Outcome → q_S → Prop} (hW : w_W (q_S0 L xs) S) (hJ : u_J S) (hpL : p + 6 ≤ L) (hL : L ≤ 3072) (hk : j_K 2047 L p xs S Q) : w_R 2048 205 23 [(0, .ref 999), (1, .ref 1000), (2, .ref 1097), (3, .ref 1139), (4, .int (nI p))] [] S Q := by
  obtain ⟨c, hc, hx⟩ := j_and15 (xs p)
  obtain rfl | rfl | rfl | rfl | rfl | rfl | rfl | rfl | rfl | rfl | rfl | rfl | rfl | rfl | rfl | rfl : c = 0 ∨ c = 1 ∨ c = 2 ∨ c = 3 ∨ c = 4 ∨ c = 5 ∨ c = 6 ∨ c = 7 ∨ c = 8 ∨ c = 9 ∨ c = 10 ∨ c = 11 ∨ c = 12 ∨ c = 13 ∨ c = 14 ∨ c = 15 := by omega
  · exact l205_hd (t1 := 116) hW hpL hL (by omega) (by rw [hx]; decide +kernel) (j_text (d := 1747) hW hJ hpL hL hk)
  · exact l205_hd (t1 := 204) hW hpL hL (by omega) (by rw [hx]; decide +kernel) (j_policy (d := 1347) hW hJ hpL hL hk)
  · exact l205_hd (t1 := 260) hW hpL hL (by omega) (by rw [hx]; decide +kernel) (j_where (d := 2047) hW hJ hpL hL hk)
  · exact l205_hd (t1 := 273) hW hpL hL (by omega) (by rw [hx]; decide +kernel) (j_drop (d := 1747) hW hJ hpL hL hk)
  · exact l205_hd (t1 := 336) hW hpL hL (by omega) (by rw [hx]; decide +kernel) (j_entity (d := 1747) hW hJ hpL hL hk)
  · exact l205_hd (t1 := 411) hW hpL hL (by omega) (by rw [hx]; decide +kernel) (j_parent (d := 1747) hW hJ hpL hL hk)
  · exact l205_hd (t1 := 486) hW hpL hL (by omega) (by rw [hx]; decide +kernel) (j_set (d := 1747) hW hJ hpL hL hk)
  · exact l205_hd (t1 := 578) hW hpL hL (by omega) (by rw [hx]; decide +kernel) (j_declare (d := 1747) hW hJ hpL hL hk)
  · exact l205_hd (t1 := 678) hW hpL hL (by omega) (by rw [hx]; decide +kernel) (j_conforms (d := 1747) hW hJ hpL hL hk)
  · exact l205_hd (t1 := 741) hW hpL hL (by omega) (by rw [hx]; decide +kernel) (j_check (d := 1747) hW hJ hpL hL hk)
  · exact l205_hd (t1 := 797) hW hpL hL (by omega) (by rw [hx]; decide +kernel) (j_holds (d := 1747) hW hJ hpL hL hk)
  · exact l205_hd (t1 := 896) hW hpL hL (by omega) (by rw [hx]; decide +kernel) (j_ask (d := 1747) hW hJ hpL hL hk)
  · exact l205_hd (t1 := 983) hW hpL hL (by omega) (by rw [hx]; decide +kernel) (j_told (d := 1747) hW hJ hpL hL hk)
  · exact l205_hd (t1 := 1008) hW hpL hL (by omega) (by rw [hx]; decide +kernel) (j_isIn (d := 1747) hW hJ hpL hL hk)
  · exact l205_hd (t1 := 1083) hW hpL hL (by omega) (by rw [hx]; decide +kernel) (j_count (d := 1747) hW hJ hpL hL hk)
  · exact l205_hd (t1 := 1108) hW hpL hL (by omega) (by rw [hx]; decide +kernel) (l205_no hW hpL hL (hk S hW hJ (u_f.refl.mono (by decide) (fun _ h => h))))
theorem j_loop {L : Nat} {xs : Nat → Int32} (hL : L ≤ 3072) : ∀ m p S, p ≤ 3072 → L < p + 6 * (m + 1) → w_W (q_S0 L xs) S → u_J S → w_R 2048 205 23 [(0, .ref 999), (1, .ref 1000), (2, .ref 1097), (3, .ref 1139), (4, .int (nI p))] [] S (j_QQ S m) := by
  have ex : ∀ m p S, p ≤ 3072 → L < p + 6 → w_W (q_S0 L xs) S → w_R 2048 205 23 [(0, .ref 999), (1, .ref 1000), (2, .ref 1097), (3, .ref 1139), (4, .int (nI p))] [] S (j_QQ S m) := fun m p S hp hx hW => by
    have fin : j_QQ S m (.returned (some (.int 1))) S := ⟨rfl, by omega, by omega⟩
    by_cases h6 : 6 ≤ L
    · exact l205_ex hW h6 hL (by omega) (by omega) fin
    · refine l205_e0 hW (by omega) hL (by omega) ?_ fin
      have key : ∀ l, l < 6 → nI l - (6 : Int32) < 0 := by decide +kernel
      have h0 := key L (by omega)
      have hp0 : (0 : Int32) ≤ nI p := nI_pos' (by omega)
      rw [Int32.lt_iff_toInt_lt] at h0 ⊢
      rw [Int32.le_iff_toInt_le] at hp0
      omega
  intro m
  induction m with
  | zero => exact fun p S hp hx hW _ => ex 0 p S hp (by omega) hW
  | succ m ih =>
    intro p S hp hx hW hJ
    by_cases hpL : p + 6 ≤ L
    · refine j_call hW hJ hpL hL (fun S' hW' hJ' hf => j_mono (ih (p + 6) S' (by omega) (by omega) hW' hJ') (fun o S2 h => ⟨h.1, ?_, ?_⟩))
      · have h1 := h.2.1
        have h2 := hf.1
        omega
      · have h1 := h.2.2
        have h2 := hf.2.1
        omega
    · exact ex (m + 1) p S hp (by omega) hW
theorem q_pure : q_pureStmt := by
  intro L xs hL
  obtain ⟨A1, A3, e1, t1, e3, t3, m4, hF⟩ := c_all
  have t4 : q_tp (q_new A3 (103, 1) 1) = 1140 := by
    show q_tp A3 + 1 = 1140
    omega
  obtain ⟨n, o, S', h1, h2, h3, h4⟩ := c_start (L := L) (xs := xs) e1 t1 e3 t3 (j_loop hL 512 0 _ (by omega) (by omega) (c_W (c_BA e1 t1 e3 t3) t4 hF) (c_J hF))
  have t5 : q_tp (c_T L xs (q_new A3 (103, 1) 1)) = 1140 := t4
  have m5 : q_sm (c_T L xs (q_new A3 (103, 1) 1)) ≤ 20000 := m4
  rw [h2] at h1
  exact ⟨n, S', h1, by omega, by omega⟩
theorem i_vc : Claimed_1_1 ∧ Claimed_1_2 := q_whole q_pure
