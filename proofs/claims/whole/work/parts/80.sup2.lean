/-! WHAT THE SECOND PRINTER LEANS ON: numbers as nI, reads resolved, conditions on Nat. -/
section VSU3
variable {d m pc pc' r len a b k j n t x c : Nat} {i : Jvm.ClassFile.Instr} {lv : List (Nat × Value)} {st st' : List Value} {S S0 S' : q_S} {Q : Outcome → q_S → Prop} {y z w : Int32} {L : Nat} {xs : Nat → Int32} {p g kk : Nat}
theorem w_brn {P : Prop} {hP : Decidable (¬ P)} (hf : q_fetch m pc = some (i, 3, r)) (hk : q_kd i r = 1) (ho : q_br i st = some (@decide (¬ P) hP, st')) (hp : pc + 3 = pc') (k1 : ¬ P → w_R d m r lv st' S Q) (k2 : P → w_R d m pc' lv st' S Q) : w_R d m pc lv st S Q := by
  by_cases h : P
  · exact w_fall hf hk (by rw [ho, decide_eq_false (fun q => q h)]) hp (k2 h)
  · exact w_goto hf hk (by rw [ho, decide_eq_true h]) (k1 h)
theorem w_bi {P P' : Prop} {hP : Decidable P} (hf : q_fetch m pc = some (i, 3, r)) (hk : q_kd i r = 1) (ho : q_br i st = some (@decide P hP, st')) (hi : P ↔ P') (hp : pc + 3 = pc') (k1 : P' → w_R d m r lv st' S Q) (k2 : ¬ P' → w_R d m pc' lv st' S Q) : w_R d m pc lv st S Q := w_br hf hk ho hp (fun h => k1 (hi.mp h)) (fun h => k2 (fun h' => h (hi.mpr h')))
theorem w_bin {P P' : Prop} {hP : Decidable (¬ P)} (hf : q_fetch m pc = some (i, 3, r)) (hk : q_kd i r = 1) (ho : q_br i st = some (@decide (¬ P) hP, st')) (hi : P ↔ P') (hp : pc + 3 = pc') (k1 : ¬ P' → w_R d m r lv st' S Q) (k2 : P' → w_R d m pc' lv st' S Q) : w_R d m pc lv st S Q := w_brn hf hk ho hp (fun h => k1 (fun h' => h (hi.mpr h'))) (fun h => k2 (hi.mp h))
theorem w_getIv (hf : q_fetch m pc = some (.getfield x, 3, r)) (h2 : r % 2 = 0) (h8 : (r == 9998) = false) (hkk : r / 2 % 64 = kk) (hq : q_fk r a S = true) (hv : q_iv S a kk = y) (hp : pc + 3 = pc') (k : w_R d m pc' lv (.int y :: st) S Q) : w_R d m pc lv (.ref a :: st) S Q := by
  subst hv
  exact w_getI hf h2 h8 hkk hq hp k
theorem v_ix (h : j < n) (hn : n < 2 ^ 31) : q_ix (nI j) n = true := by
  unfold q_ix
  rw [decide_eq_true (nI_pos (by omega)), nI_clamp (by omega), decide_eq_true h]
  rfl
theorem w_ialv (hf : q_fetch m pc = some (.iaload, 1, r)) (h8 : (r == 9998) = false) (hs : q_sh S a = (100, n)) (hj : j < n) (hn : n < 2 ^ 31) (hv : q_iv S a j = y) (hp : pc + 1 = pc') (k : w_R d m pc' lv (.int y :: st) S Q) : w_R d m pc lv (.int (nI j) :: .ref a :: st) S Q := by
  subst hv
  exact w_ial hf h8 hs (v_ix hj hn) hp (by rw [nI_clamp (by omega)]; exact k)
theorem w_calv (hf : q_fetch m pc = some (.caload, 1, r)) (h8 : (r == 9998) = false) (hs : q_sh S a = (101, n)) (hj : j < n) (hn : n < 2 ^ 31) (hv : q_iv S a j = y) (hp : pc + 1 = pc') (k : w_R d m pc' lv (.int y :: st) S Q) : w_R d m pc lv (.int (nI j) :: .ref a :: st) S Q := by
  subst hv
  exact w_cal hf h8 hs (v_ix hj hn) hp (by rw [nI_clamp (by omega)]; exact k)
theorem w_balv (hf : q_fetch m pc = some (.baload, 1, r)) (h8 : (r == 9998) = false) (hs : q_sh S a = (102, n)) (hj : j < n) (hn : n < 2 ^ 31) (hv : q_iv S a j = y) (hp : pc + 1 = pc') (k : w_R d m pc' lv (.int y :: st) S Q) : w_R d m pc lv (.int (nI j) :: .ref a :: st) S Q := by
  subst hv
  exact w_bal hf h8 (Or.inl hs) (v_ix hj hn) hp (by rw [nI_clamp (by omega)]; exact k)
theorem w_lalv {y : Int64} (hf : q_fetch m pc = some (.laload, 1, r)) (h8 : (r == 9998) = false) (hs : q_sh S a = (103, n)) (hj : j < n) (hn : n < 2 ^ 31) (hv : q_jv S a j = y) (hp : pc + 1 = pc') (k : w_R d m pc' lv (.long y :: st) S Q) : w_R d m pc lv (.int (nI j) :: .ref a :: st) S Q := by
  subst hv
  exact w_lal hf h8 hs (v_ix hj hn) hp (by rw [nI_clamp (by omega)]; exact k)
theorem w_aalv (hf : q_fetch m pc = some (.aaload, 1, r)) (h8 : (r == 9998) = false) (hs : q_sh S a = (t, n)) (ht : q_tr t = true) (hj : j < n) (hn : n < 2 ^ 31) (hb : q_rv S a j = some b) (hp : pc + 1 = pc') (k : w_R d m pc' lv (.ref b :: st) S Q) : w_R d m pc lv (.int (nI j) :: .ref a :: st) S Q :=
  w_aal hf h8 hs ht (v_ix hj hn) (by rw [nI_clamp (by omega)]; exact hb) hp k
theorem w_iasv (hf : q_fetch m pc = some (.iastore, 1, r)) (h8 : (r == 9998) = false) (ha : 1000 ≤ a) (hs : q_sh S a = (100, n)) (hj : j < n) (hn : n < 2 ^ 31) (hp : pc + 1 = pc') (k : w_R d m pc' lv st (q_sI S a j y) Q) : w_R d m pc lv (.int y :: .int (nI j) :: .ref a :: st) S Q :=
  w_ias hf h8 ha hs (v_ix hj hn) hp (by rw [nI_clamp (by omega)]; exact k)
theorem w_casv (hf : q_fetch m pc = some (.castore, 1, r)) (h8 : (r == 9998) = false) (ha : 1000 ≤ a) (hs : q_sh S a = (101, n)) (hj : j < n) (hn : n < 2 ^ 31) (hy : vp_nar .char y = y) (hp : pc + 1 = pc') (k : w_R d m pc' lv st (q_sI S a j y) Q) : w_R d m pc lv (.int y :: .int (nI j) :: .ref a :: st) S Q :=
  w_cas hf h8 ha hs (v_ix hj hn) hp (by rw [nI_clamp (by omega), hy]; exact k)
theorem w_basv (hf : q_fetch m pc = some (.bastore, 1, r)) (h8 : (r == 9998) = false) (ha : 1000 ≤ a) (hs : q_sh S a = (102, n)) (hj : j < n) (hn : n < 2 ^ 31) (hy : vp_nar .boolean y = y) (hp : pc + 1 = pc') (k : w_R d m pc' lv st (q_sI S a j y) Q) : w_R d m pc lv (.int y :: .int (nI j) :: .ref a :: st) S Q :=
  w_bas hf h8 ha hs (v_ix hj hn) hp (by rw [nI_clamp (by omega), hy]; exact k)
theorem w_lasv {y : Int64} (hf : q_fetch m pc = some (.lastore, 1, r)) (h8 : (r == 9998) = false) (ha : 1000 ≤ a) (hs : q_sh S a = (103, n)) (hj : j < n) (hn : n < 2 ^ 31) (hp : pc + 1 = pc') (k : w_R d m pc' lv st (q_sJ S a j y) Q) : w_R d m pc lv (.long y :: .int (nI j) :: .ref a :: st) S Q :=
  w_las hf h8 ha hs (v_ix hj hn) hp (by rw [nI_clamp (by omega)]; exact k)
theorem w_aasv (hf : q_fetch m pc = some (.aastore, 1, r)) (h8 : (r == 9998) = false) (ha : 1000 ≤ a) (hs : q_sh S a = (t, n)) (ht : q_tr t = true) (hb : (q_sh S b).1 = t - 110) (hw : t = 111 ↔ 1000 ≤ b) (hj : j < n) (hn : n < 2 ^ 31) (hp : pc + 1 = pc') (k : w_R d m pc' lv st (q_sR S a j (some b)) Q) : w_R d m pc lv (.ref b :: .int (nI j) :: .ref a :: st) S Q :=
  w_aas hf h8 ha hs ht hb hw (v_ix hj hn) hp (by rw [nI_clamp (by omega)]; exact k)
theorem w_incN {y : Nat} (hf : q_fetch m pc = some (.iinc x (y : Int), 3, r)) (h1 : q_ld lv x = some (.int (nI n))) (hc : n + y = c) (hp : pc + 3 = pc') (k : w_R d m pc' (q_s1 lv x (.int (nI c))) st S Q) : w_R d m pc lv st S Q := by
  subst hc
  refine w_inc hf h1 hp ?_
  rw [show Int32.ofInt (y : Int) = nI y from Int32.ofInt_eq_ofNat, nI_add]
  exact k
theorem w_incL {t : Int} (hf : q_fetch m pc = some (.iinc x t, 3, r)) (h1 : q_ld lv x = some (.int y)) (hc : y + Int32.ofInt t = z) (hp : pc + 3 = pc') (k : w_R d m pc' (q_s1 lv x (.int z)) st S Q) : w_R d m pc lv st S Q := by
  subst hc
  exact w_inc hf h1 hp k
theorem v_opA (h : a + b = c) : q_op .iadd (.int (nI b) :: .int (nI a) :: st) = some (1, .int (nI c) :: st) := by
  show some (1, Value.int (nI a + nI b) :: st) = _
  rw [nI_add, h]
theorem v_opM : q_op .imul (.int (nI b) :: .int (nI a) :: st) = some (1, .int (nI (a * b)) :: st) := by
  show some (1, Value.int (nI a * nI b) :: st) = _
  rw [pk_mul]
theorem v_opS (h0 : b ≤ a) (h : a - b = c) : q_op .isub (.int (nI b) :: .int (nI a) :: st) = some (1, .int (nI c) :: st) := by
  show some (1, Value.int (nI a - nI b) :: st) = _
  rw [pk_sub h0, h]
theorem v_litA (h : y + z = w) : q_op .iadd (.int z :: .int y :: st) = some (1, .int w :: st) := by
  subst h; rfl
theorem v_litS (h : y - z = w) : q_op .isub (.int z :: .int y :: st) = some (1, .int w :: st) := by
  subst h; rfl
theorem v_litM (h : y * z = w) : q_op .imul (.int z :: .int y :: st) = some (1, .int w :: st) := by
  subst h; rfl
theorem v_neg1 (h : n < 2 ^ 31) : ¬ nI n = -1 := fun e => by
  have h1 := nI_toInt h
  rw [e] at h1
  have : (-1 : Int32).toInt = -1 := by decide
  omega
theorem v_neg2 (h : n < 2 ^ 31) : ¬ nI n = -2 := fun e => by
  have h1 := nI_toInt h
  rw [e] at h1
  have : (-2 : Int32).toInt = -2 := by decide
  omega
/-! reads behind writes -/
theorem v_hI : q_iv (q_sI S a k y) a k = y := if_pos ⟨rfl, rfl⟩
theorem v_aI (h : b ≠ a) : q_iv (q_sI S a k y) b j = q_iv S b j := if_neg (fun z => h z.1)
theorem v_kI (h : j ≠ k) : q_iv (q_sI S a k y) b j = q_iv S b j := if_neg (fun z => h z.2)
theorem v_hR {v : Option Nat} : q_rv (q_sR S a k v) a k = v := if_pos ⟨rfl, rfl⟩
theorem v_aR {v : Option Nat} (h : b ≠ a) : q_rv (q_sR S a k v) b j = q_rv S b j := if_neg (fun z => h z.1)
theorem v_kR {v : Option Nat} (h : j ≠ k) : q_rv (q_sR S a k v) b j = q_rv S b j := if_neg (fun z => h z.2)
theorem v_hJ {v : Int64} : q_jv (q_sJ S a k v) a k = v := if_pos ⟨rfl, rfl⟩
theorem v_aJ {v : Int64} (h : b ≠ a) : q_jv (q_sJ S a k v) b j = q_jv S b j := if_neg (fun z => h z.1)
theorem v_kJ {v : Int64} (h : j ≠ k) : q_jv (q_sJ S a k v) b j = q_jv S b j := if_neg (fun z => h z.2)
/-! what stood there before -/
theorem v_oI (hW : w_W S0 S) (h : a < 1000) : q_iv S a = q_iv S0 a := (hW.2.2.2 a h).2.1
theorem v_oR (hW : w_W S0 S) (h : a < 1000) : q_rv S a = q_rv S0 a := (hW.2.2.2 a h).2.2.1
theorem v_ord (hW : w_W (q_S0 L xs) S) (h : g < 34) : q_iv S g 0 = nI g := by
  rw [v_oI hW (by omega)]
  exact (if_pos h).trans (if_pos rfl)
theorem v_lev (hW : w_W (q_S0 L xs) S) (h : g < 34) : q_iv S g 2 = q_lev.getD g 0 := by
  rw [v_oI hW (by omega)]
  exact (if_pos h).trans (if_neg (by decide))
theorem v_all (hW : w_W (q_S0 L xs) S) : q_rv S 200 j = some j := by
  rw [v_oR hW (by decide)]
  rfl
theorem v_swm (hW : w_W (q_S0 L xs) S) (h : q_swm.getD j 0 = y) : q_iv S 201 j = y := by
  rw [v_oI hW (by decide)]
  exact h
theorem v_scr (hW : w_W (q_S0 L xs) S) : q_iv S 999 j = xs j := by
  rw [v_oI hW (by decide)]
  rfl
theorem v_fz (h : y = 0 ∨ y = 1) : q_fz r y = true := by
  unfold q_fz
  rcases h with rfl | rfl
  · rw [decide_eq_true (rfl : (0 : Int32) = 0), Bool.true_or, Bool.or_true]
  · rw [decide_eq_true (rfl : (1 : Int32) = 1), Bool.or_true, Bool.or_true]
theorem v_ncN (h : n < 65536) : vp_nar .char (nI n) = nI n := by
  rw [vp_nar_char]
  apply Int32.toBitVec_inj.mp
  apply BitVec.eq_of_toNat_eq
  have h1 : (nI n).toBitVec.toNat = n := pk_tn (by omega)
  have h2 : (nI n).toUInt32.toNat = n := h1
  show ((nI n).toUInt32.toUInt16.toUInt32).toNat = _
  rw [h1]
  simp [h2]
  omega
theorem v_nbo (h : y = 0 ∨ y = 1) : vp_nar .boolean y = y := by
  rcases h with rfl | rfl <;> decide
theorem v_nbr (h : y = 0 ∨ y = 1) : narrow .boolean (.int y) = .int y := by
  rcases h with rfl | rfl <;> decide
theorem w_P.rng (hp : w_P p) : p = 1004 ∨ (1031 ≤ p ∧ p ≤ 1086) := by
  have key : ∀ q ∈ w_PL, q = 1004 ∨ (1031 ≤ q ∧ q ≤ 1086) := by decide +kernel
  exact key p hp
theorem w_P.dj {p' : Nat} (hp : w_P p) (hp' : w_P p') (h : p ≠ p') : p + 10 < p' ∨ p' + 10 < p := by
  have key : ∀ q ∈ w_PL, ∀ q' ∈ w_PL, q ≠ q' → q + 10 < q' ∨ q' + 10 < q := by decide +kernel
  exact key p hp p' hp' h
end VSU3
/-! FRAMES: the same but at the cells X -/
def v_fr (X : Nat → Bool) (S S' : q_S) : Prop := q_tp S' = q_tp S ∧ q_sm S' = q_sm S ∧ ∀ a, X a = false → q_same S S' a
section VFR
variable {X Y : Nat → Bool} {S S1 S2 S3 : q_S} {a k : Nat} {x : Int32} {v : Option Nat} {y : Int64}
theorem v_fr.refl : v_fr X S S := ⟨rfl, rfl, fun _ _ => ⟨rfl, rfl, rfl, rfl⟩⟩
theorem v_fr.trans (h : v_fr X S1 S2) (h' : v_fr X S2 S3) : v_fr X S1 S3 := ⟨h'.1.trans h.1, h'.2.1.trans h.2.1, fun a ha => by
  obtain ⟨h1, h2, h3, h4⟩ := h.2.2 a ha
  obtain ⟨g1, g2, g3, g4⟩ := h'.2.2 a ha
  exact ⟨g1.trans h1, g2.trans h2, g3.trans h3, g4.trans h4⟩⟩
theorem v_fr.mono (h : v_fr X S1 S2) (hY : ∀ a, Y a = false → X a = false) : v_fr Y S1 S2 := ⟨h.1, h.2.1, fun a ha => h.2.2 a (hY a ha)⟩
theorem v_fr.iv (h : v_fr X S1 S2) (ha : X a = false) : q_iv S2 a = q_iv S1 a := (h.2.2 a ha).2.1
theorem v_fr.rv (h : v_fr X S1 S2) (ha : X a = false) : q_rv S2 a = q_rv S1 a := (h.2.2 a ha).2.2.1
theorem v_fr.jv (h : v_fr X S1 S2) (ha : X a = false) : q_jv S2 a = q_jv S1 a := (h.2.2 a ha).2.2.2
theorem v_fr.sI (h : v_fr X S1 S2) (ha : X a = true) : v_fr X S1 (q_sI S2 a k x) := h.trans ⟨rfl, rfl, fun b hb => q_sI_same (fun z => by rw [z, ha] at hb; cases hb)⟩
theorem v_fr.sR (h : v_fr X S1 S2) (ha : X a = true) : v_fr X S1 (q_sR S2 a k v) := h.trans ⟨rfl, rfl, fun b hb => q_sR_same (fun z => by rw [z, ha] at hb; cases hb)⟩
theorem v_fr.sJ (h : v_fr X S1 S2) (ha : X a = true) : v_fr X S1 (q_sJ S2 a k y) := h.trans ⟨rfl, rfl, fun b hb => q_sJ_same (fun z => by rw [z, ha] at hb; cases hb)⟩
end VFR
