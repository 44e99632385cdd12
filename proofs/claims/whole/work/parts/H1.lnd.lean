/-! ONE CALL: policy; the reference's landing. -/
def j_x7 (a : Nat) : Bool := decide (a = 1099 ∨ a = 1101 ∨ (1103 ≤ a ∧ a ≤ 1107))
def j_x2 (a : Nat) : Bool := decide (a = 1115 ∨ a = 1116)
def j_x1 (a : Nat) : Bool := decide (a = 1111 ∨ a = 1112)
def j_x5 (a : Nat) : Bool := decide (a = 1102 ∨ a = 1108 ∨ a = 1114 ∨ a = 1110 ∨ a = 1113)
def j_xl (a : Nat) : Bool := decide (1099 ≤ a ∧ a ≤ 1116)
def j_cp (P : Nat → Bool) (o s k : Nat) (S S' : q_S) : Prop := v_fr P S S' ∧ ∀ A, P A = true → ∀ x, q_iv S' A x = if o ≤ x ∧ x < o + k then q_iv S A (s + (x - o)) else q_iv S A x
def j_ld (n : Nat) (S S' : q_S) : Prop := v_fr j_xl S S' ∧ (∀ A, j_x7 A = true → ∀ x, q_iv S' A x = if 101 * n ≤ x ∧ x < 101 * n + 101 then q_iv S A (606 + (x - 101 * n)) else q_iv S A x) ∧ (∀ A, j_x2 A = true → ∀ x, q_iv S' A x = if 20 * n ≤ x ∧ x < 20 * n + 20 then q_iv S A (120 + (x - 20 * n)) else q_iv S A x) ∧ (∀ A, j_x1 A = true → ∀ x, q_iv S' A x = if 2 * n ≤ x ∧ x < 2 * n + 2 then q_iv S A (12 + (x - 2 * n)) else q_iv S A x) ∧ (∀ A, j_x5 A = true → ∀ x, q_iv S' A x = if x = n then q_iv S A 6 else q_iv S A x) ∧ ∀ x, q_iv S' 1109 x = if x = n then 1 else q_iv S 1109 x
section JOC
variable {d L n : Nat} {xs : Nat → Int32} {S : q_S} {Q : Outcome → q_S → Prop}
theorem j_cp0 {P : Nat → Bool} {o s : Nat} : j_cp P o s 0 S S := ⟨v_fr.refl, fun A _ x => by rw [if_neg (by omega)]⟩
theorem j_cps {P : Nat → Bool} {o s k : Nat} {S1 S2 : q_S} (h : j_cp P o s k S S1) (hf : v_fr P S1 S2) (hr : ∀ A, P A = true → ∀ x, q_iv S2 A x = if x = o + k then q_iv S1 A (s + k) else q_iv S1 A x) (hs : o + k ≤ s) : j_cp P o s (k + 1) S S2 := by
  refine ⟨h.1.trans hf, fun A hA x => ?_⟩
  rw [hr A hA x]
  by_cases hx : x = o + k
  · rw [if_pos hx, h.2 A hA, if_neg (by omega), if_pos (by omega)]
    congr 1
    omega
  · rw [if_neg hx, h.2 A hA]
    by_cases hc : o ≤ x ∧ x < o + k
    · rw [if_pos hc, if_pos (by omega)]
    · rw [if_neg hc, if_neg (by omega)]
theorem j_la (hn : n < 6) (kk : ∀ S', w_W (q_S0 L xs) S' → j_cp j_x7 (101 * n) 606 101 S S' → w_R d 173 163 [(0, .ref 1097), (1, .int (nI n)), (2, .int 0)] [] S' Q) : ∀ j k S', k + j = 101 → w_W (q_S0 L xs) S' → j_cp j_x7 (101 * n) 606 k S S' → w_R d 173 2 [(0, .ref 1097), (1, .int (nI n)), (2, .int (nI k))] [] S' Q := by
  intro j
  induction j with
  | zero =>
    intro k S' hk hW h
    obtain rfl : k = 101 := by omega
    exact m173ax hW hn (by omega) (by omega) (kk S' hW h)
  | succ j ih =>
    intro k S' hk hW h
    refine m173al hW hn (by omega) (by omega) (ih (k + 1) _ (by omega) (((((((hW.sI (by decide)).sI (by decide)).sI (by decide)).sI (by decide)).sI (by decide)).sI (by decide)).sI (by decide)) (j_cps h (((((((v_fr.refl.sI (by decide)).sI (by decide)).sI (by decide)).sI (by decide)).sI (by decide)).sI (by decide)).sI (by decide)) (fun A hA x => ?_) (by omega)))
    have hA' := of_decide_eq_true hA
    obtain rfl | rfl | rfl | rfl | rfl | rfl | rfl : A = 1099 ∨ A = 1101 ∨ A = 1103 ∨ A = 1104 ∨ A = 1105 ∨ A = 1106 ∨ A = 1107 := by omega
    all_goals simp [j_rI]
theorem j_lb (hn : n < 6) (kk : ∀ S', w_W (q_S0 L xs) S' → j_cp j_x2 (20 * n) 120 20 S S' → w_R d 173 217 [(0, .ref 1097), (1, .int (nI n)), (2, .int 0)] [] S' Q) : ∀ j k S', k + j = 20 → w_W (q_S0 L xs) S' → j_cp j_x2 (20 * n) 120 k S S' → w_R d 173 163 [(0, .ref 1097), (1, .int (nI n)), (2, .int (nI k))] [] S' Q := by
  intro j
  induction j with
  | zero =>
    intro k S' hk hW h
    obtain rfl : k = 20 := by omega
    exact m173bx hW hn (by omega) (by omega) (kk S' hW h)
  | succ j ih =>
    intro k S' hk hW h
    refine m173bl hW hn (by omega) (by omega) (ih (k + 1) _ (by omega) ((hW.sI (by decide)).sI (by decide)) (j_cps h ((v_fr.refl.sI (by decide)).sI (by decide)) (fun A hA x => ?_) (by omega)))
    have hA' := of_decide_eq_true hA
    obtain rfl | rfl : A = 1115 ∨ A = 1116 := by omega
    all_goals simp [j_rI]
theorem j_lc (hn : n < 6) (kk : ∀ S', w_W (q_S0 L xs) S' → j_cp j_x1 (2 * n) 12 2 S S' → w_R d 173 217 [(0, .ref 1097), (1, .int (nI n)), (2, .int (nI 2))] [] S' Q) : ∀ j k S', k + j = 2 → w_W (q_S0 L xs) S' → j_cp j_x1 (2 * n) 12 k S S' → w_R d 173 217 [(0, .ref 1097), (1, .int (nI n)), (2, .int (nI k))] [] S' Q := by
  intro j
  induction j with
  | zero =>
    intro k S' hk hW h
    obtain rfl : k = 2 := by omega
    exact kk S' hW h
  | succ j ih =>
    intro k S' hk hW h
    refine m173cl hW hn (by omega) (by omega) (ih (k + 1) _ (by omega) ((hW.sI (by decide)).sI (by decide)) (j_cps h ((v_fr.refl.sI (by decide)).sI (by decide)) (fun A hA x => ?_) (by omega)))
    have hA' := of_decide_eq_true hA
    obtain rfl | rfl : A = 1111 ∨ A = 1112 := by omega
    all_goals simp [j_rI]
theorem j_land (hW : w_W (q_S0 L xs) S) (hn : n < 6) (h10 : q_iv S 1110 6 = 0 ∨ q_iv S 1110 6 = 1) (kk : ∀ S', w_W (q_S0 L xs) S' → j_ld n S S' → Q (.returned none) S') : w_X d 173 [.ref 1097, .int (nI n)] S Q := by
  refine m173s hW hn (j_la hn (fun S1 hW1 h1 => ?_) 101 0 S rfl hW j_cp0)
  refine j_lb hn (fun S2 hW2 h2 => ?_) 20 0 S1 rfl hW1 j_cp0
  refine j_lc hn (fun S3 hW3 h3 => ?_) 2 0 S2 rfl hW2 j_cp0
  have e10 : ∀ a, j_x7 a = false → j_x2 a = false → j_x1 a = false → q_iv S3 a = q_iv S a := fun a x y z => by
    rw [h3.1.iv z, h2.1.iv y, h1.1.iv x]
  refine m173cx hW3 hn (by decide) (by decide) (v_nbo (by rw [e10 1110 (by decide) (by decide) (by decide)]; exact h10)) ?_
  have m7 : ∀ a, j_xl a = false → j_x7 a = false := fun a h => by
    have h' := of_decide_eq_false h
    exact decide_eq_false (by omega)
  have m2 : ∀ a, j_xl a = false → j_x2 a = false := fun a h => by
    have h' := of_decide_eq_false h
    exact decide_eq_false (by omega)
  have m1 : ∀ a, j_xl a = false → j_x1 a = false := fun a h => by
    have h' := of_decide_eq_false h
    exact decide_eq_false (by omega)
  have fl : v_fr j_xl S S3 := ((h1.1.mono m7).trans (h2.1.mono m2)).trans (h3.1.mono m1)
  · have f4 : v_fr (fun a => j_x5 a || decide (a = 1109)) S3 (q_sI (q_sI (q_sI (q_sI (q_sI (q_sI S3 1102 n (q_iv S3 1102 6)) 1108 n (q_iv S3 1108 6)) 1114 n (q_iv S3 1114 6)) 1110 n (q_iv S3 1110 6)) 1113 n (q_iv S3 1113 6)) 1109 n (1 : Int32)) := (((((v_fr.refl.sI (by decide)).sI (by decide)).sI (by decide)).sI (by decide)).sI (by decide)).sI (by decide)
    refine kk _ ((((((hW3.sI (by decide)).sI (by decide)).sI (by decide)).sI (by decide)).sI (by decide)).sI (by decide)) ⟨?_, fun A hA x => ?_, fun A hA x => ?_, fun A hA x => ?_, fun A hA x => ?_, fun x => ?_⟩
    · exact (((((fl.sI (by decide)).sI (by decide)).sI (by decide)).sI (by decide)).sI (by decide)).sI (by decide)
    · have hA' := of_decide_eq_true hA
      rw [f4.iv (by unfold j_x5; simp only [Bool.or_eq_false_iff, decide_eq_false_iff_not]; omega), h3.1.iv (decide_eq_false (by omega)), h2.1.iv (decide_eq_false (by omega))]
      exact h1.2 A hA x
    · have hA' := of_decide_eq_true hA
      rw [f4.iv (by unfold j_x5; simp only [Bool.or_eq_false_iff, decide_eq_false_iff_not]; omega), h3.1.iv (decide_eq_false (by omega)), h2.2 A hA x, h1.1.iv (decide_eq_false (by omega))]
    · have hA' := of_decide_eq_true hA
      rw [f4.iv (by unfold j_x5; simp only [Bool.or_eq_false_iff, decide_eq_false_iff_not]; omega), h3.2 A hA x, h2.1.iv (decide_eq_false (by omega)), h1.1.iv (decide_eq_false (by omega))]
    · have hA' := of_decide_eq_true hA
      rw [← e10 A (decide_eq_false (by omega)) (decide_eq_false (by omega)) (decide_eq_false (by omega))]
      obtain rfl | rfl | rfl | rfl | rfl : A = 1102 ∨ A = 1108 ∨ A = 1114 ∨ A = 1110 ∨ A = 1113 := hA'
      all_goals simp [j_rI]
    · rw [← e10 1109 (by decide) (by decide) (by decide)]
      simp [j_rI]
/-- the reference's half of a policy -/
def j_rf (S : q_S) (i : Nat) (hd : v_Hd) (ns : List v_Nd) (cs : List v_Cd) (T : List v_Tk) : Prop := v_MN S (101 * i) i ns ∧ v_MC S (20 * i) i cs ∧ v_MH S i hd ∧ v_MTk S (101 * i) i T
theorem j_ld_new {S' : q_S} {hd : v_Hd} {ns : List v_Nd} {cs : List v_Cd} {T : List v_Tk} (h : j_ld n S S') (l1 : ns.length ≤ 100) (l2 : cs.length ≤ 12) (l3 : T.length - 1 ≤ 100) (hN : v_MN S 606 6 ns) (hC : v_MC S 120 6 cs) (hH : v_MH S 6 hd) (hK : v_MTk S 606 6 T) : j_rf S' n hd ns cs T := by
  obtain ⟨_, r7, r2, r1, r5, _⟩ := h
  have e7 : ∀ A j, j_x7 A = true → j < 101 → q_iv S' A (101 * n + j) = q_iv S A (606 + j) := fun A j hA hj => by
    rw [r7 A hA, if_pos (by omega)]
    congr 1
    omega
  have e2 : ∀ A j, j_x2 A = true → j < 20 → q_iv S' A (20 * n + j) = q_iv S A (120 + j) := fun A j hA hj => by
    rw [r2 A hA, if_pos (by omega)]
    congr 1
    omega
  have e1 : ∀ A j, j_x1 A = true → j < 2 → q_iv S' A (2 * n + j) = q_iv S A (12 + j) := fun A j hA hj => by
    rw [r1 A hA, if_pos (by omega)]
    congr 1
    omega
  have e5 : ∀ A, j_x5 A = true → q_iv S' A n = q_iv S A 6 := fun A hA => by
    rw [r5 A hA, if_pos rfl]
  refine ⟨⟨?_, fun j s t x l r hj => ?_⟩, ⟨?_, fun j w t r hj => ?_⟩, ⟨?_, ?_, ?_, ?_, ?_, ?_⟩, ?_, fun j hj => ?_⟩
  · rw [e5 1108 (by decide)]
    exact hN.1
  · have hl := (List.getElem?_eq_some_iff.mp hj).1
    rw [e7 1103 j (by decide) (by omega), e7 1104 j (by decide) (by omega), e7 1105 j (by decide) (by omega), e7 1106 j (by decide) (by omega), e7 1107 j (by decide) (by omega)]
    exact hN.2 j s t x l r hj
  · rw [e5 1114 (by decide)]
    exact hC.1
  · have hl := (List.getElem?_eq_some_iff.mp hj).1
    rw [e2 1115 j (by decide) (by omega), e2 1116 j (by decide) (by omega)]
    exact hC.2 j w t r hj
  · rw [e5 1110 (by decide)]
    exact hH.1
  · exact (e1 1111 0 (by decide) (by decide)).trans hH.2.1
  · exact (e1 1112 0 (by decide) (by decide)).trans hH.2.2.1
  · rw [e5 1113 (by decide)]
    exact hH.2.2.2.1
  · exact (e1 1111 1 (by decide) (by decide)).trans hH.2.2.2.2.1
  · exact (e1 1112 1 (by decide) (by decide)).trans hH.2.2.2.2.2
  · rw [e5 1102 (by decide)]
    exact hK.1
  · rw [e7 1099 j (by decide) (by omega), e7 1101 j (by decide) (by omega)]
    exact hK.2 j hj
theorem j_rf_eq {S' : q_S} {i : Nat} {hd : v_Hd} {ns : List v_Nd} {cs : List v_Cd} {T : List v_Tk} (l1 : ns.length ≤ 100) (l2 : cs.length ≤ 12) (l3 : T.length - 1 ≤ 100) (e7 : ∀ A j, j_x7 A = true → j < 101 → q_iv S' A (101 * i + j) = q_iv S A (101 * i + j)) (e2 : ∀ A j, j_x2 A = true → j < 20 → q_iv S' A (20 * i + j) = q_iv S A (20 * i + j)) (e1 : ∀ A j, j_x1 A = true → j < 2 → q_iv S' A (2 * i + j) = q_iv S A (2 * i + j)) (e5 : ∀ A, j_x5 A = true → q_iv S' A i = q_iv S A i) (h : j_rf S i hd ns cs T) : j_rf S' i hd ns cs T := by
  obtain ⟨hN, hC, hH, hK⟩ := h
  refine ⟨⟨?_, fun j s t x l r hj => ?_⟩, ⟨?_, fun j w t r hj => ?_⟩, ⟨?_, ?_, ?_, ?_, ?_, ?_⟩, ?_, fun j hj => ?_⟩
  · rw [e5 1108 (by decide)]
    exact hN.1
  · have hl := (List.getElem?_eq_some_iff.mp hj).1
    rw [e7 1103 j (by decide) (by omega), e7 1104 j (by decide) (by omega), e7 1105 j (by decide) (by omega), e7 1106 j (by decide) (by omega), e7 1107 j (by decide) (by omega)]
    exact hN.2 j s t x l r hj
  · rw [e5 1114 (by decide)]
    exact hC.1
  · have hl := (List.getElem?_eq_some_iff.mp hj).1
    rw [e2 1115 j (by decide) (by omega), e2 1116 j (by decide) (by omega)]
    exact hC.2 j w t r hj
  · rw [e5 1110 (by decide)]
    exact hH.1
  · exact (e1 1111 0 (by decide) (by decide)).trans hH.2.1
  · exact (e1 1112 0 (by decide) (by decide)).trans hH.2.2.1
  · rw [e5 1113 (by decide)]
    exact hH.2.2.2.1
  · exact (e1 1111 1 (by decide) (by decide)).trans hH.2.2.2.2.1
  · exact (e1 1112 1 (by decide) (by decide)).trans hH.2.2.2.2.2
  · rw [e5 1102 (by decide)]
    exact hK.1
  · rw [e7 1099 j (by decide) (by omega), e7 1101 j (by decide) (by omega)]
    exact hK.2 j hj
end JOC
