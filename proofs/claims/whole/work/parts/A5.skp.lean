/-! The class goes behind blanks, digits, letters; numbers; spellings. -/
section VSKP
variable {d L : Nat} {xs : Nat → Int32} {S : q_S} {c : Nat → Nat} {n z p q g : Nat} {Q : Outcome → q_S → Prop}
theorem x28 (hW : w_W (q_S0 L xs) S) (hs : v_CS S c n z) (hp : p ≤ n) (k : Q (.returned (some (.int (nI (v_en v_bl c n p))))) S) : w_X d 28 [.ref 1024, .int (nI p)] S Q := by
  have hn := hs.b
  have loop : ∀ j p, p + j = n → Q (.returned (some (.int (nI (v_en v_bl c n p))))) S → w_R d 28 2 [(0, .ref 1024), (2, .int (nI p))] [] S Q := by
    intro j
    induction j with
    | zero =>
      intro p hj k
      rw [v_en_no v_bl c n p (by omega)] at k
      exact t28_2e hW hs (by omega) (by omega) k
    | succ j ih =>
      intro p hj k
      refine t28_2s hW hs (by omega) (by omega) (fun h => ?_) (fun h => ?_)
      · rw [v_en_no v_bl c n p (fun z => h (of_decide_eq_true z.2))] at k
        exact k
      · rw [v_en_yes v_bl c n p (by omega) (decide_eq_true h)] at k
        exact ih (p + 1) (by omega) k
  exact t28_0 hW hs hp (loop (n - p) p (by omega) k)
theorem x32 (hW : w_W (q_S0 L xs) S) (hs : v_CS S c n z) (hp : p ≤ n) (k : Q (.returned (some (.int (nI (v_en v_dg c n p))))) S) : w_X (d + 1) 32 [.ref 1024, .int (nI p)] S Q := by
  have hn := hs.b
  have loop : ∀ j p, p + j = n → Q (.returned (some (.int (nI (v_en v_dg c n p))))) S → w_R (d + 1) 32 2 [(0, .ref 1024), (2, .int (nI p))] [] S Q := by
    intro j
    induction j with
    | zero =>
      intro p hj k
      rw [v_en_no v_dg c n p (by omega)] at k
      exact t32_2e hW hs (by omega) (by omega) k
    | succ j ih =>
      intro p hj k
      refine t32_2s hW hs (by omega) (by omega) (fun h => ?_) (fun h h' => ?_) (fun h h' => ?_)
      · rw [v_en_no v_dg c n p (fun z => by have := v_dg_b z.2; omega)] at k
        exact k
      · rw [v_en_no v_dg c n p (fun z => by have := v_dg_b z.2; omega)] at k
        exact k
      · rw [v_en_yes v_dg c n p (by omega) (v_dg_i (by omega) (by omega))] at k
        exact ih (p + 1) (by omega) k
  exact t32_0 hW hs hp (loop (n - p) p (by omega) k)
theorem x37 (hW : w_W (q_S0 L xs) S) (hs : v_CS S c n z) (hp : p ≤ n) (k : Q (.returned (some (.int (nI (v_en v_le c n p))))) S) : w_X (d + 1) 37 [.ref 1024, .int (nI p)] S Q := by
  have hn := hs.b
  have loop : ∀ j p, p + j = n → Q (.returned (some (.int (nI (v_en v_le c n p))))) S → w_R (d + 1) 37 2 [(0, .ref 1024), (2, .int (nI p))] [] S Q := by
    intro j
    induction j with
    | zero =>
      intro p hj k
      rw [v_en_no v_le c n p (by omega)] at k
      exact t37_2e hW hs (by omega) (by omega) k
    | succ j ih =>
      intro p hj k
      refine t37_2s hW hs (by omega) (by omega) (fun h => ?_) (fun h h' => ?_) (fun h h' => ?_)
      · rw [v_en_no v_le c n p (fun z => by have := v_le_b z.2; omega)] at k
        exact k
      · rw [v_en_no v_le c n p (fun z => by have := v_le_b z.2; omega)] at k
        exact k
      · rw [v_en_yes v_le c n p (by omega) (v_le_i (by omega) (by omega))] at k
        exact ih (p + 1) (by omega) k
  exact t37_0 hW hs hp (loop (n - p) p (by omega) k)
theorem x33 (hW : w_W (q_S0 L xs) S) (hs : v_CS S c n z) (hp : p ≤ q) (hq : q ≤ n) (hd : ∀ j, p ≤ j → j < q → 48 ≤ c j) (k : Q (.returned (some (.int (nI (v_nu c (q - p) p 0))))) S) : w_X d 33 [.ref 1024, .int (nI p), .int (nI q)] S Q := by
  have hn := hs.b
  have loop : ∀ j p u, p + j = q → (∀ i, p ≤ i → i < q → 48 ≤ c i) → Q (.returned (some (.int (nI (v_nu c j p u))))) S → w_R d 33 5 [(0, .ref 1024), (2, .int (nI q)), (3, .int (nI u)), (4, .int (nI p))] [] S Q := by
    intro j
    induction j with
    | zero => intro p u hj _ k; exact t33_5e hW hs hq (by omega) (by omega) k
    | succ j ih =>
      intro p u hj hd k
      refine t33_5s hW hs hq (by omega) (by omega) (hd p (by omega) (by omega)) ?_
      exact ih (p + 1) _ (by omega) (fun i h1 h2 => hd i (by omega) h2) k
  exact t33_0 hW hs hq (by omega) (loop (q - p) p 0 (by omega) hd k)
theorem v_all_range {n : Nat} {f : Nat → Bool} : (List.range n).all f = true ↔ ∀ k, k < n → f k = true := by
  rw [List.all_eq_true]
  constructor
  · intro h k hk; exact h k (List.mem_range.mpr hk)
  · intro h k hk; exact h k (List.mem_range.mp hk)
theorem v_isp_t (h1 : q - p = v_sl g) (h2 : ∀ k, k < v_sl g → c (p + k) = v_ch g k) : v_isp c p q g = true := by
  unfold v_isp
  rw [decide_eq_true h1, Bool.true_and, v_all_range]
  intro k hk
  exact decide_eq_true (h2 k hk)
theorem v_isp_p (h : v_isp c p q g = true) : q - p = v_sl g ∧ ∀ k, k < v_sl g → c (p + k) = v_ch g k := by
  unfold v_isp at h
  rw [Bool.and_eq_true, v_all_range] at h
  exact ⟨of_decide_eq_true h.1, fun k hk => of_decide_eq_true (h.2 k hk)⟩
theorem x40 (hW : w_W (q_S0 L xs) S) (hc : v_RW S c n) (hpq : p < q) (hqn : q ≤ n) (hg : g < 34) (k1 : v_isp c p q g = true → Q (.returned (some (.int 1))) S) (k0 : v_isp c p q g = false → Q (.returned (some (.int 0))) S) : w_X (d + 4) 40 [.ref g, .ref 1001, .int (nI p), .int (nI q)] S Q := by
  have hn := hc.b
  have hsl := v_sl_b g
  have no : ¬ v_isp c p q g = true → Q (.returned (some (.int 0))) S := fun h => k0 (by simpa using h)
  refine t40_0 (d := d + 2) hW hc hpq hqn (by omega) hg (fun hl => ?_) (fun hl => no (fun z => hl (v_isp_p z).1))
  have loop : ∀ j k, k + j = v_sl g → (∀ i, i < k → c (p + i) = v_ch g i) → w_R (d + 4) 40 24 [(0, .ref g), (1, .ref 1001), (2, .int (nI p)), (4, .int (nI k))] [] S Q := by
    intro j
    induction j with
    | zero => intro k hk hh; exact t40_24e (d := d + 2) hW hc (by omega) (by omega) hg (by omega) (k1 (v_isp_t hl (fun i hi => hh i (by omega))))
    | succ j ih =>
      intro k hk hh
      refine t40_24s hW hc (by omega) (by omega) (by omega) hg (by omega) (fun he => ?_) (fun he => no (fun z => he ((v_isp_p z).2 k (by omega))))
      refine ih (k + 1) (by omega) (fun i hi => ?_)
      by_cases hik : i = k
      · rw [hik]; exact he
      · exact hh i (by omega)
  exact loop (v_sl g) 0 (by omega) (fun i hi => absurd hi (by omega))
theorem x39 (hW : w_W (q_S0 L xs) S) (hc : v_RW S c n) (hpq : p < q) (hqn : q ≤ n) (k : Q (.returned (some (.ref (v_spl c p q)))) S) : w_X (d + 5) 39 [.ref 1001, .int (nI p), .int (nI q)] S Q := by
  have hn := hc.b
  have loop : ∀ j i, i + j = 34 → Q (.returned (some (.ref (v_fst (v_isp c p q) j i)))) S → w_R (d + 5) 39 2 [(0, .ref 1001), (1, .int (nI p)), (2, .int (nI q)), (3, .int (nI i))] [] S Q := by
    intro j
    induction j with
    | zero =>
      intro i hi k
      have : i = 34 := by omega
      subst this
      exact t39_2e hW (by omega) (by omega) k
    | succ j ih =>
      intro i hi k
      refine t39_2s (d := d + 4) hW (by omega) (by omega) hpq (by omega) (by omega) (by omega) (by omega) ?_
      unfold v_fst at k
      refine x40 hW hc hpq hqn (by omega) (fun h => ?_) (fun h => ?_)
      · rw [if_pos h] at k
        exact t39_26y hW (by omega) (by omega) (by omega) (by omega) k
      · rw [if_neg (by rw [h]; decide)] at k
        exact t39_26n hW (by omega) (by omega) (by omega) (ih (i + 1) (by omega) k)
  exact t39_0 hW (by omega) (by omega) (loop 34 0 rfl k)
end VSKP
