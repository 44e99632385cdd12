/-! ONE CALL: count. -/
def j_ct (b : Nat → Bool) : Nat → Nat
  | 0 => 0
  | i + 1 => j_ct b i + if b i = true then 1 else 0
section JO9
variable {d L p : Nat} {xs : Nat → Int32} {S : q_S} {Q : Outcome → q_S → Prop} {b : Nat → Bool}
theorem j_ct_le (i : Nat) : j_ct b i ≤ i := by
  induction i with
  | zero => exact Nat.le_refl _
  | succ k ih =>
    show j_ct b k + (if b k = true then 1 else 0) ≤ k + 1
    split <;> omega
theorem j_cnt_le (f : Nat → Nat) (i : Nat) : u_cnt f i ≤ i := by
  induction i with
  | zero => exact Nat.le_refl _
  | succ k ih =>
    show u_cnt f k + (if 2 ≤ f k then 1 else 0) ≤ k + 1
    split <;> omega
theorem j_sw12 {x : Int32} (h : x.toInt < 0 ∨ 3 < x.toInt) : q_sw (.tableswitch (54) (0) (3) #[31, 36, 41, 49]) 1 x = some 55 := by
  show (if x.toInt < 0 ∨ 3 < x.toInt then q_pos ((1 : Nat) + 54) else _) = _
  rw [if_pos h]
  rfl
theorem j_13 (hW : w_W (q_S0 L xs) S) (hb : ∀ i, i < 6 → ∃ P, q_rv S 1002 i = some P ∧ w_P P ∧ q_iv S P 0 = if b i = true then 1 else 0) (kk : Q (.returned (some (.int (nI (j_ct b 6))))) S) : ∀ j i, i + j = 6 → w_R d 13 4 [(0, .ref 1000), (1, .int (nI (j_ct b i))), (2, .int (nI i))] [] S Q := by
  intro j
  induction j with
  | zero =>
    intro i hij
    obtain rfl : i = 6 := by omega
    have := j_ct_le (b := b) 6
    exact h13x hW (by omega) (by omega) (by omega) kk
  | succ j ih =>
    intro i hij
    have hl := j_ct_le (b := b) i
    obtain ⟨P, hP, hw, h0⟩ := hb i (by omega)
    have nx := ih (i + 1) (by omega)
    have hs : j_ct b (i + 1) = j_ct b i + if b i = true then 1 else 0 := rfl
    rw [hs] at nx
    cases hbi : b i with
    | false =>
      rw [hbi] at nx h0
      exact h13l0 hW (by omega) (by omega) (by omega) hw hP h0 nx
    | true =>
      rw [hbi] at nx h0
      exact h13l1 hW (by omega) (by omega) (by omega) hw hP h0 nx
theorem j_204a (hW : w_W (q_S0 L xs) S) (hb : ∀ i, i < 6 → q_iv S 1109 i = if b i = true then 1 else 0) (kk : Q (.returned (some (.int (nI (j_ct b 6))))) S) : ∀ j i, i + j = 6 → w_R d 204 71 [(0, .ref 1097), (2, .int (nI (j_ct b i))), (3, .int (nI i))] [] S Q := by
  intro j
  induction j with
  | zero =>
    intro i hij
    obtain rfl : i = 6 := by omega
    have := j_ct_le (b := b) 6
    exact m204x1 hW (by omega) (by omega) (by omega) kk
  | succ j ih =>
    intro i hij
    have hl := j_ct_le (b := b) i
    have h0 := hb i (by omega)
    have nx := ih (i + 1) (by omega)
    have hs : j_ct b (i + 1) = j_ct b i + if b i = true then 1 else 0 := rfl
    rw [hs] at nx
    cases hbi : b i with
    | false =>
      rw [hbi] at nx h0
      exact m204l10 hW (by omega) (by omega) (by omega) h0 nx
    | true =>
      rw [hbi] at nx h0
      exact m204l11 hW (by omega) (by omega) (by omega) h0 nx
theorem j_14 (hW : w_W (q_S0 L xs) S) (hb : ∀ i, i < 16 → (b i = false ∧ q_iv S 1016 i = -2) ∨ (b i = true ∧ ∃ k, k < 3 ∧ q_iv S 1016 i = nI k)) (kk : Q (.returned (some (.int (nI (j_ct b 16))))) S) : ∀ j i, i + j = 16 → w_R (d + 1) 14 4 [(0, .ref 1015), (1, .int (nI (j_ct b i))), (2, .int (nI i))] [] S Q := by
  intro j
  induction j with
  | zero =>
    intro i hij
    obtain rfl : i = 16 := by omega
    have := j_ct_le (b := b) 16
    exact h14x hW (by omega) (by omega) (by omega) kk
  | succ j ih =>
    intro i hij
    have hl := j_ct_le (b := b) i
    have nx := ih (i + 1) (by omega)
    have hs : j_ct b (i + 1) = j_ct b i + if b i = true then 1 else 0 := rfl
    rw [hs] at nx
    rcases hb i (by omega) with ⟨hbi, h0⟩ | ⟨hbi, k, hk, h0⟩
    · rw [hbi] at nx
      exact h14l0 hW (by omega) (by omega) (by omega) h0 nx
    · rw [hbi] at nx
      exact h14l1 hW (by omega) (by omega) (by omega) hk h0 nx
theorem j_204b (hW : w_W (q_S0 L xs) S) (hb : ∀ i, i < 16 → q_iv S 1117 i = if b i = true then 1 else 0) (kk : Q (.returned (some (.int (nI (j_ct b 16))))) S) : ∀ j i, i + j = 16 → w_R d 204 106 [(0, .ref 1097), (2, .int (nI (j_ct b i))), (3, .int (nI i))] [] S Q := by
  intro j
  induction j with
  | zero =>
    intro i hij
    obtain rfl : i = 16 := by omega
    have := j_ct_le (b := b) 16
    exact m204x2 hW (by omega) (by omega) (by omega) kk
  | succ j ih =>
    intro i hij
    have hl := j_ct_le (b := b) i
    have h0 := hb i (by omega)
    have nx := ih (i + 1) (by omega)
    have hs : j_ct b (i + 1) = j_ct b i + if b i = true then 1 else 0 := rfl
    rw [hs] at nx
    cases hbi : b i with
    | false =>
      rw [hbi] at nx h0
      exact m204l20 hW (by omega) (by omega) (by omega) h0 nx
    | true =>
      rw [hbi] at nx h0
      exact m204l21 hW (by omega) (by omega) (by omega) h0 nx
theorem j_16 {f : Nat → Nat} (hW : w_W (q_S0 L xs) S) (hb : ∀ i, i < 6 → f i < 7 ∧ q_iv S 1003 i = nI (f i)) (kk : Q (.returned (some (.int (nI (u_cnt f 6))))) S) : ∀ j i, i + j = 6 → w_R d 16 4 [(0, .ref 1000), (1, .int (nI (u_cnt f i))), (2, .int (nI i))] [] S Q := by
  intro j
  induction j with
  | zero =>
    intro i hij
    obtain rfl : i = 6 := by omega
    have := j_cnt_le f 6
    exact h16x hW (by omega) (by omega) (by omega) kk
  | succ j ih =>
    intro i hij
    have hl := j_cnt_le f i
    have nx := ih (i + 1) (by omega)
    have hs : u_cnt f (i + 1) = u_cnt f i + if 2 ≤ f i then 1 else 0 := rfl
    rw [hs] at nx
    refine h16l hW (by omega) (by omega) (by omega) (hb i (by omega)).1 (hb i (by omega)).2 (fun c => ?_) (fun c => ?_)
    · rw [if_neg (by omega)] at nx
      exact nx
    · rw [if_pos (by omega)] at nx
      exact nx
theorem j_count (hW : w_W (q_S0 L xs) S) (hJ : u_J S) (hpL : p + 6 ≤ L) (hL : L ≤ 3072) (hk : j_K (d + 300) L p xs S Q) : w_R (d + 300 + 1) 205 1083 [(0, .ref 999), (1, .ref 1000), (2, .ref 1097), (3, .ref 1139), (4, .int (nI p))] [] S Q := by
  have hW1 : w_W (q_S0 L xs) (q_sI S 1097 0 (0 : Int32)) := hW.sI (by decide)
  have key : w_R (d + 300 + 1) 205 23 [(0, .ref 999), (1, .ref 1000), (2, .ref 1097), (3, .ref 1139), (4, .int (nI (p + 6)))] [] (q_sI S 1097 0 (0 : Int32)) Q := j_no hW1 (u_f.refl.sI (by decide)) (v_kI (by decide)) (v_kI (by decide)) (v_kI (by decide)) hJ hk
  refine l205_count_a hW hpL hL ?_
  have fin : ∀ r : Int32, w_R (d + 300 + 1) 205 1103 [(0, .ref 999), (1, .ref 1000), (2, .ref 1097), (3, .ref 1139), (4, .int (nI p))] [.int r, .int r] (q_sI S 1097 0 (0 : Int32)) Q := fun r => l205_count_c hW1 hpL hL (fun _ => key) (fun z => absurd rfl z)
  have bB : ∀ r : Int32, w_X (d + 300) 204 [.ref 1097, .int (xs (p + 1))] S (w_k (d + 300 + 1) 205 1100 [(0, .ref 999), (1, .ref 1000), (2, .ref 1097), (3, .ref 1139), (4, .int (nI p))] [.int r] Q) → w_R (d + 300 + 1) 205 1093 [(0, .ref 999), (1, .ref 1000), (2, .ref 1097), (3, .ref 1139), (4, .int (nI p))] [.int r] S Q := fun r h => l205_count_b hW hpL hL h
  obtain ⟨π, sp, a1, a2, a3, a4⟩ := id hJ.2.2.2.2.2
  by_cases h0 : xs (p + 1) = (0 : Int32)
  · rw [h0]
    refine h12_0 hW (bB _ ?_)
    rw [h0]
    refine m204_0 hW ?_
    obtain ⟨n, c, _, n1, n2, _⟩ := hJ.1
    rw [n1, n2]
    exact fin _
  by_cases h1 : xs (p + 1) = (1 : Int32)
  · rw [h1]
    have hb9 : ∀ i, i < 6 → q_iv S 1109 i = if (fun i => decide (q_iv S 1109 i = 1)) i = true then 1 else 0 := fun i hi => by
      obtain ⟨b, b1, b2, _⟩ := a4 i hi
      show q_iv S 1109 i = if decide (q_iv S 1109 i = 1) = true then 1 else 0
      rw [b2]
      cases b <;> decide
    refine h12_1 hW (h13s hW (j_13 (b := fun i => decide (q_iv S 1109 i = 1)) hW (fun i hi => ⟨π i, (a1 i hi).1, (a1 i hi).2.1, ?_⟩) (h12_1r hW (bB _ ?_)) 6 0 rfl))
    · obtain ⟨b, b1, b2, _⟩ := a4 i hi
      show q_iv S (π i) 0 = if decide (q_iv S 1109 i = 1) = true then 1 else 0
      rw [b1, b2]
      cases b <;> decide
    · rw [h1]
      exact m204_1 hW (j_204a (b := fun i => decide (q_iv S 1109 i = 1)) hW1 hb9 (fin _) 6 0 rfl)
  by_cases h2 : xs (p + 1) = (2 : Int32)
  · rw [h2]
    have hb9 : ∀ i, i < 16 → q_iv S 1117 i = if (fun i => decide (q_iv S 1117 i = 1)) i = true then 1 else 0 := fun i hi => by
      show q_iv S 1117 i = if decide (q_iv S 1117 i = 1) = true then 1 else 0
      rcases hJ.2.2.1.1 i hi with ⟨_, g⟩ | ⟨_, _, _, g, _⟩
      · rw [g]; decide
      · rw [g]; decide
    refine h12_2 hW (h14s hW (j_14 (d := d + 298) (b := fun i => decide (q_iv S 1117 i = 1)) hW (fun i hi => ?_) (h12_2r hW (bB _ ?_)) 16 0 rfl))
    · rcases hJ.2.2.1.1 i hi with ⟨g0, g⟩ | ⟨k, hk3, g0, g, _⟩
      · refine Or.inl ⟨?_, g0⟩
        show decide (q_iv S 1117 i = 1) = false
        rw [g]
        decide
      · refine Or.inr ⟨?_, k, hk3, g0⟩
        show decide (q_iv S 1117 i = 1) = true
        rw [g]
        decide
    · rw [h2]
      exact m204_2 hW (j_204b (b := fun i => decide (q_iv S 1117 i = 1)) hW1 hb9 (fin _) 16 0 rfl)
  by_cases h3 : xs (p + 1) = (3 : Int32)
  · rw [h3]
    obtain ⟨f, hf, hc⟩ := hJ.2.2.2.2.1
    refine h12_3 hW (h16s hW (j_16 (f := f) hW (fun i hi => ⟨(hf i hi).1, (hf i hi).2.1⟩) (h12_3r hW (bB _ ?_)) 6 0 rfl))
    rw [h3]
    refine m204_3 hW ?_
    rw [hc]
    exact fin _
  have tI : ∀ (z : Int32) (t : Int), z.toInt = t → (xs (p + 1)).toInt = t → xs (p + 1) = z := fun z t hz ht => Int32.toInt_inj.mp (ht.trans hz.symm)
  have hsw : q_sw (.tableswitch (54) (0) (3) #[31, 36, 41, 49]) 1 (xs (p + 1)) = some 55 := j_sw12 (by
    by_cases c0 : (xs (p + 1)).toInt = 0
    · exact absurd (tI 0 0 rfl c0) h0
    by_cases c1 : (xs (p + 1)).toInt = 1
    · exact absurd (tI 1 1 rfl c1) h1
    by_cases c2 : (xs (p + 1)).toInt = 2
    · exact absurd (tI 2 2 rfl c2) h2
    by_cases c3 : (xs (p + 1)).toInt = 3
    · exact absurd (tI 3 3 rfl c3) h3
    omega)
  by_cases hl : xs (p + 1) < (10 : Int32)
  · exact h12d hW hsw (h12da hW hl (bB _ (m204da hW h0 h3 h1 h2 hl (fin _))))
  by_cases hm : xs (p + 1) < (16 : Int32)
  · have l10 : (10 : Int32).toInt = 10 := rfl
    have l16 : (16 : Int32).toInt = 16 := rfl
    have hl' : ¬ (xs (p + 1)).toInt < 10 := by
      rw [Int32.lt_iff_toInt_lt, l10] at hl
      exact hl
    have hm' : (xs (p + 1)).toInt < 16 := by
      rw [Int32.lt_iff_toInt_lt, l16] at hm
      exact hm
    by_cases c10 : (xs (p + 1)).toInt = 10
    · have hx := tI 10 10 rfl c10
      rw [hx]
      obtain ⟨b, b1, b2, b3⟩ := a4 0 (by decide)
      cases b with
      | false =>
        refine h12t100 hW (a1 0 (by decide)).2.1 (a1 0 (by decide)).1 b1 (bB _ ?_)
        rw [hx]
        exact m204t100 hW b2 (fin _)
      | true =>
        obtain ⟨hd, ns, cs, T, hR⟩ := b3 rfl
        refine h12t101 hW (a1 0 (by decide)).2.1 (a1 0 (by decide)).1 b1 (bB _ ?_)
        rw [hx]
        refine m204t101 hW b2 ?_
        rw [hR.1.2.2.2, hR.2.1.2.2.2.1]
        exact fin _
    by_cases c11 : (xs (p + 1)).toInt = 11
    · have hx := tI 11 11 rfl c11
      rw [hx]
      obtain ⟨b, b1, b2, b3⟩ := a4 1 (by decide)
      cases b with
      | false =>
        refine h12t110 hW (a1 1 (by decide)).2.1 (a1 1 (by decide)).1 b1 (bB _ ?_)
        rw [hx]
        exact m204t110 hW b2 (fin _)
      | true =>
        obtain ⟨hd, ns, cs, T, hR⟩ := b3 rfl
        refine h12t111 hW (a1 1 (by decide)).2.1 (a1 1 (by decide)).1 b1 (bB _ ?_)
        rw [hx]
        refine m204t111 hW b2 ?_
        rw [hR.1.2.2.2, hR.2.1.2.2.2.1]
        exact fin _
    by_cases c12 : (xs (p + 1)).toInt = 12
    · have hx := tI 12 12 rfl c12
      rw [hx]
      obtain ⟨b, b1, b2, b3⟩ := a4 2 (by decide)
      cases b with
      | false =>
        refine h12t120 hW (a1 2 (by decide)).2.1 (a1 2 (by decide)).1 b1 (bB _ ?_)
        rw [hx]
        exact m204t120 hW b2 (fin _)
      | true =>
        obtain ⟨hd, ns, cs, T, hR⟩ := b3 rfl
        refine h12t121 hW (a1 2 (by decide)).2.1 (a1 2 (by decide)).1 b1 (bB _ ?_)
        rw [hx]
        refine m204t121 hW b2 ?_
        rw [hR.1.2.2.2, hR.2.1.2.2.2.1]
        exact fin _
    by_cases c13 : (xs (p + 1)).toInt = 13
    · have hx := tI 13 13 rfl c13
      rw [hx]
      obtain ⟨b, b1, b2, b3⟩ := a4 3 (by decide)
      cases b with
      | false =>
        refine h12t130 hW (a1 3 (by decide)).2.1 (a1 3 (by decide)).1 b1 (bB _ ?_)
        rw [hx]
        exact m204t130 hW b2 (fin _)
      | true =>
        obtain ⟨hd, ns, cs, T, hR⟩ := b3 rfl
        refine h12t131 hW (a1 3 (by decide)).2.1 (a1 3 (by decide)).1 b1 (bB _ ?_)
        rw [hx]
        refine m204t131 hW b2 ?_
        rw [hR.1.2.2.2, hR.2.1.2.2.2.1]
        exact fin _
    by_cases c14 : (xs (p + 1)).toInt = 14
    · have hx := tI 14 14 rfl c14
      rw [hx]
      obtain ⟨b, b1, b2, b3⟩ := a4 4 (by decide)
      cases b with
      | false =>
        refine h12t140 hW (a1 4 (by decide)).2.1 (a1 4 (by decide)).1 b1 (bB _ ?_)
        rw [hx]
        exact m204t140 hW b2 (fin _)
      | true =>
        obtain ⟨hd, ns, cs, T, hR⟩ := b3 rfl
        refine h12t141 hW (a1 4 (by decide)).2.1 (a1 4 (by decide)).1 b1 (bB _ ?_)
        rw [hx]
        refine m204t141 hW b2 ?_
        rw [hR.1.2.2.2, hR.2.1.2.2.2.1]
        exact fin _
    by_cases c15 : (xs (p + 1)).toInt = 15
    · have hx := tI 15 15 rfl c15
      rw [hx]
      obtain ⟨b, b1, b2, b3⟩ := a4 5 (by decide)
      cases b with
      | false =>
        refine h12t150 hW (a1 5 (by decide)).2.1 (a1 5 (by decide)).1 b1 (bB _ ?_)
        rw [hx]
        exact m204t150 hW b2 (fin _)
      | true =>
        obtain ⟨hd, ns, cs, T, hR⟩ := b3 rfl
        refine h12t151 hW (a1 5 (by decide)).2.1 (a1 5 (by decide)).1 b1 (bB _ ?_)
        rw [hx]
        refine m204t151 hW b2 ?_
        rw [hR.1.2.2.2, hR.2.1.2.2.2.1]
        exact fin _
    omega
  · have l16 : (16 : Int32).toInt = 16 := rfl
    have l15 : (15 : Int32).toInt = 15 := rfl
    have h15 : (15 : Int32) < xs (p + 1) := by
      rw [Int32.lt_iff_toInt_lt, l16] at hm
      rw [Int32.lt_iff_toInt_lt, l15]
      omega
    exact h12d hW hsw (h12db hW hl hm (bB _ (m204db hW h0 h3 h1 h2 hl h15 (fin _))))
end JO9
