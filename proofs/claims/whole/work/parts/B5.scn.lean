/-! THE REFERENCE SCANS A TOKEN as the function does. -/
def v_mt (S : q_S) (z : Nat) (w x p : Int32) : q_S := q_sI (q_sI (q_sI (q_sI S 1099 (606 + z) w) 1100 (606 + z) x) 1101 (606 + z) p) 1102 6 (nI (z + 1))
theorem v_nu_s (c : Nat → Nat) : ∀ k p a, v_nu c (k + 1) p a = v_nu c k p a * 10 + (c (p + k) - 48) := by
  intro k
  induction k with
  | zero => intro p a; rfl
  | succ k ih =>
    intro p a
    show v_nu c (k + 1) (p + 1) (a * 10 + (c p - 48)) = v_nu c k (p + 1) (a * 10 + (c p - 48)) * 10 + (c (p + (k + 1)) - 48)
    rw [ih, show p + 1 + k = p + (k + 1) by omega]
/-- a word of letters: both know it alike -/
def v_iw (g : Nat) : Bool := decide (g ≤ 10) || (decide (g = 25) || decide (g = 26))
theorem v_mk0 : ∀ g, g < 30 → v_iw g = false → v_ch g 0 < 97 ∨ 122 < v_ch g 0 := by decide +kernel
theorem v_Kw : ∀ g, g < 34 → v_iw g = true → v_Kl.getD g 0 = 112 ∨ v_Kl.getD g 0 = 114 ∨ v_Kl.getD g 0 = 120 ∨ v_Kl.getD g 0 = 121 ∨ v_Kl.getD g 0 = 122 ∨ v_Kl.getD g 0 = 26990 ∨ v_Kl.getD g 0 = 6840691 ∨ v_Kl.getD g 0 = 1953658213 ∨ v_Kl.getD g 0 = 2003330414 ∨ v_Kl.getD g 0 = 439721161573 ∨ v_Kl.getD g 0 = 112628846455140 ∨ v_Kl.getD g 0 = 123581013780852 ∨ v_Kl.getD g 0 = 129117125440371 := by decide +kernel
theorem v_word {c : Nat → Nat} {p m : Nat} (hm0 : 0 < m) (hm : ∀ k, k < m → v_le (c (p + k)) = true) : v_wo (v_pk c p m) = v_wc (v_spl c p (p + m)) := by
  have hb : ∀ k, k < m → 1 ≤ c (p + k) ∧ c (p + k) ≤ 255 := fun k hk => by have := v_le_b (hm k hk); omega
  rw [v_spl_wd hb]
  have key : ∀ g, g < 34 → v_Kl.getD g 0 = v_pk c p m → v_iw g = true := by
    intro g hg he
    cases hi : v_iw g with
    | true => rfl
    | false =>
      rw [v_Kl_e g hg] at he
      obtain ⟨e1, e2⟩ := v_pk_inj (v_ch g) c 0 p (v_sl g) m (fun k hk => ⟨v_ch_1 g hg k hk, by have := v_ch_b g (0 + k); omega⟩) hb he
      have h0 := e2 0 (by omega)
      have h1 := v_le_b (hm 0 hm0)
      rw [← h0] at h1
      by_cases h30 : g < 30
      · have := v_mk0 g h30 hi
        rw [Nat.zero_add] at h1
        omega
      · have hs : v_sl g = 0 := by
          obtain rfl | rfl | rfl | rfl : g = 30 ∨ g = 31 ∨ g = 32 ∨ g = 33 := by omega
          all_goals rfl
        omega
  by_cases hx : v_pk c p m = 112 ∨ v_pk c p m = 114 ∨ v_pk c p m = 120 ∨ v_pk c p m = 121 ∨ v_pk c p m = 122 ∨ v_pk c p m = 26990 ∨ v_pk c p m = 6840691 ∨ v_pk c p m = 1953658213 ∨ v_pk c p m = 2003330414 ∨ v_pk c p m = 439721161573 ∨ v_pk c p m = 112628846455140 ∨ v_pk c p m = 123581013780852 ∨ v_pk c p m = 129117125440371
  · rcases hx with h | h | h | h | h | h | h | h | h | h | h | h | h <;> rw [h] <;> decide +kernel
  · have h3 : v_wd (v_pk c p m) = 33 := v_fst_none 34 0 (fun j _ hj => decide_eq_false (fun e => by
      have := v_Kw j (by omega) (key j (by omega) e)
      rw [e] at this
      omega))
    rw [h3, v_wo3 (by omega)]
    rfl
section VSCN
variable {d L : Nat} {xs : Nat → Int32} {S : q_S} {c : Nat → Nat} {n z p : Nat} {Q : Outcome → q_S → Prop}
theorem v_c1_lt {j : Nat} (h : j < n) : v_c1 c n j = c j := if_pos h
theorem v_c1_en (P : Nat → Bool) (h0 : P 0 = false) (p : Nat) : P (v_c1 c n (v_en P c n p)) = false := by
  unfold v_c1
  split
  · rename_i h; exact v_en_stop P c n p h
  · exact h0
theorem x150 (hW : w_W (q_S0 L xs) S) (hs : v_MS S c n z) (hp : p < n) (hz : z < 101) (h32 : ¬ c p = 32)
    (k1 : (v_t1 c n p).1 ≠ 33 → Q (.returned (some (.int (nI (v_t1 c n p).2.2)))) (v_mt S z (nI (v_wc (v_t1 c n p).1)) (nI (v_t1 c n p).2.1) (nI p)))
    (k0 : (v_t1 c n p).1 = 33 → ∀ y x, Q (.returned (some (.int y))) (v_mt S z 3 x (nI p))) : w_X (d + 2) 150 [.ref 1097, .int (nI p)] S Q := by
  have hn := hs.b
  have hcp := v_c1_lt (c := c) hp
  by_cases h1 : v_dg (c p) = true
  · -- digits
    have hE := v_en_le v_dg c n p
    unfold v_t1 at k1 k0
    rw [if_pos h1] at k1 k0
    refine r150_0d hW hs hp (by rw [hcp]; exact h1) ?_
    have loop : ∀ j q, q + j = v_en v_dg c n p → p ≤ q → q ≤ p + 7 → w_R (d + 2) 150 30 [(0, .ref 1097), (1, .int (nI p)), (4, .int (nI q)), (5, .int (nI (v_nu c (q - p) p 0)))] [] S Q := by
      intro j
      induction j with
      | zero =>
        intro q hq hpq h7
        have hqE : q = v_en v_dg c n p := by omega
        by_cases hq7 : p + 7 ≤ q
        · refine r150_30x (d := d + 1) hW hs (by omega) (by omega) hq7 hz (fun z => by omega) (fun _ => ?_)
          rw [if_pos (by omega)] at k0
          exact k0 rfl _ _
        · refine r150_30n hW hs (by omega) (by omega) hq7 hz (by rw [hqE]; exact v_c1_en v_dg rfl p) (fun _ => ?_) (fun z => by omega)
          rw [if_neg (by omega)] at k1
          rw [hqE]
          exact k1 (by show ¬ 30 = 33; omega)
      | succ j ih =>
        intro q hq hpq h7
        have hqn : q < n := by have := hE.2 (by omega); omega
        have hdq := v_en_in v_dg c n p hpq (show q < v_en v_dg c n p by omega)
        by_cases hq7 : p + 7 ≤ q
        · refine r150_30x (d := d + 1) hW hs (by omega) (by omega) hq7 hz (fun z => by omega) (fun _ => ?_)
          rw [if_pos (by omega)] at k0
          exact k0 rfl _ _
        · have hb := v_dg_b hdq
          refine r150_30y hW hs (by omega) (by omega) hq7 (by rw [v_c1_lt hqn]; exact hb.1) (by rw [v_c1_lt hqn]; exact hdq) ?_
          have := ih (q + 1) (by omega) (by omega) (by omega)
          rw [show q + 1 - p = (q - p) + 1 by omega, v_nu_s, show p + (q - p) = q by omega] at this
          rw [v_c1_lt hqn, show 10 * v_nu c (q - p) p 0 + c q - 48 = v_nu c (q - p) p 0 * 10 + (c q - 48) by omega]
          exact this
    have := loop (v_en v_dg c n p - p) p (by omega) (Nat.le_refl _) (by omega)
    rw [Nat.sub_self] at this
    exact this
  have h1f : v_dg (c p) = false := by simpa using h1
  unfold v_t1 at k1 k0
  rw [if_neg h1] at k1 k0
  by_cases h2 : c p = 64
  · -- a name
    rw [if_pos h2] at k1 k0
    have hE := v_en_le v_dg c n (p + 1)
    have hle : v_le (c p) = false := by rw [h2]; rfl
    refine r150_0n hW hs hp (by rw [hcp]; exact h2) (by rw [hcp]; exact h1f) (by rw [hcp]; exact hle) ?_
    have loop : ∀ j q, q + j = v_en v_dg c n (p + 1) → p + 1 ≤ q → w_R (d + 2) 150 183 [(0, .ref 1097), (1, .int (nI p)), (4, .int (nI q)), (5, .int (nI (v_nu c (min (q - (p + 1)) 2) (p + 1) 0)))] [] S Q := by
      intro j
      induction j with
      | zero =>
        intro q hq hpq
        have hqE : q = v_en v_dg c n (p + 1) := by omega
        have hu : v_nu c (min (q - (p + 1)) 2) (p + 1) 0 < 100 := v_nu2 c _ _ (by omega) (fun j a b => (v_dg_b (v_en_in v_dg c n (p + 1) a (by omega))).2)
        have hqn : q ≤ n := by rw [hqE]; exact hE.2 (by omega)
        refine r150_183n hW hs (by omega) (by omega) hz (by omega) (by rw [hqE]; exact v_c1_en v_dg rfl (p + 1)) (fun z => ?_) (fun z z' => ?_) (fun z z' z'' => ?_) (fun z z' z'' => ?_)
        · rw [if_pos (by omega)] at k0
          exact k0 rfl _ _
        · rw [if_pos (by omega)] at k0
          exact k0 rfl _ _
        · rw [show min (q - (p + 1)) 2 = v_en v_dg c n (p + 1) - (p + 1) by omega] at z'' ⊢
          rw [if_neg (by omega), if_neg (by omega)] at k1
          rw [hqE]
          exact k1 (by show ¬ 31 = 33; omega)
        · rw [show min (q - (p + 1)) 2 = v_en v_dg c n (p + 1) - (p + 1) by omega] at z''
          rw [if_neg (by omega), if_pos (by omega)] at k0
          exact k0 rfl _ _
      | succ j ih =>
        intro q hq hpq
        have hqn : q < n := by have := hE.2 (by omega); omega
        have hdq := v_en_in v_dg c n (p + 1) hpq (show q < v_en v_dg c n (p + 1) by omega)
        have hb := v_dg_b hdq
        have := ih (q + 1) (by omega) (by omega)
        by_cases hq3 : p + 3 ≤ q
        · refine r150_183x hW hs (by omega) (by omega) hq3 (by rw [v_c1_lt hqn]; exact hdq) ?_
          rw [show min (q - (p + 1)) 2 = min (q + 1 - (p + 1)) 2 by omega]
          exact this
        · refine r150_183y hW hs (by omega) (by omega) hq3 (by rw [v_c1_lt hqn]; exact hb.1) (by rw [v_c1_lt hqn]; exact hdq) ?_
          rw [show min (q + 1 - (p + 1)) 2 = min (q - (p + 1)) 2 + 1 by omega, v_nu_s, show p + 1 + min (q - (p + 1)) 2 = q by omega] at this
          rw [v_c1_lt hqn, show 10 * v_nu c (min (q - (p + 1)) 2) (p + 1) 0 + c q - 48 = v_nu c (min (q - (p + 1)) 2) (p + 1) 0 * 10 + (c q - 48) by omega]
          exact this
    have := loop (v_en v_dg c n (p + 1) - (p + 1)) (p + 1) (by omega) (Nat.le_refl _)
    rw [Nat.sub_self] at this
    exact this
  rw [if_neg h2] at k1 k0
  by_cases h3 : v_le (c p) = true
  · -- letters
    rw [if_pos h3] at k1 k0
    have hE := v_en_le v_le c n p
    have hgt := v_en_gt v_le c n p hp h3
    refine r150_0l hW hs hp (by rw [hcp]; exact h1f) (by rw [hcp]; exact h3) ?_
    have hlet : ∀ k, k < v_en v_le c n p - p → v_le (c (p + k)) = true := fun k hk => v_en_in v_le c n p (by omega) (by omega)
    have loop : ∀ j q, q + j = v_en v_le c n p → p ≤ q → w_R (d + 2) 150 109 [(0, .ref 1097), (1, .int (nI p)), (4, .int (nI q)), (6, .long (lN (if q ≤ p + 7 then v_pk c p (q - p) else 0)))] [] S Q := by
      intro j
      induction j with
      | zero =>
        intro q hq hpq
        have hqE : q = v_en v_le c n p := by omega
        have hqn : q ≤ n := by rw [hqE]; exact hE.2 (by omega)
        have hwo : v_wo (if q ≤ p + 7 then v_pk c p (q - p) else 0) = v_wc (v_spl c p (v_en v_le c n p)) := by
          by_cases hq7 : q ≤ p + 7
          · rw [if_pos hq7]
            have := v_word (c := c) (p := p) (m := q - p) (by omega) (fun k hk => hlet k (by omega))
            rw [show p + (q - p) = v_en v_le c n p by omega] at this
            exact this
          · rw [if_neg hq7]
            have : v_spl c p (v_en v_le c n p) = 33 := v_fst_none 34 0 (fun j _ hj => by
              cases hi : v_isp c p (v_en v_le c n p) j with
              | false => rfl
              | true => have e1 := (v_isp_p hi).1; have e2 := v_sl_b j; omega)
            rw [this]
            rfl
        refine r150_109n (d := d + 1) hW hs (by omega) (by omega) ?_ hz (by rw [hqE]; exact v_c1_en v_le rfl p) ?_
        · split
          · have := v_pk_lt c p (q - p) (fun k hk => by have := v_le_b (hlet k (by omega)); omega)
            have h256 : 256 ^ (q - p) ≤ 256 ^ 7 := Nat.pow_le_pow_right (by decide) (by omega)
            have e7 : 256 ^ 7 = 72057594037927936 := by decide
            omega
          · omega
        · rw [hwo, hqE]
          by_cases h33 : v_spl c p (v_en v_le c n p) = 33
          · rw [h33]
            exact k0 h33 _ _
          · exact k1 h33
      | succ j ih =>
        intro q hq hpq
        have hqn : q < n := by have := hE.2 (by omega); omega
        have hlq := v_en_in v_le c n p hpq (show q < v_en v_le c n p by omega)
        have := ih (q + 1) (by omega) (by omega)
        by_cases hq7 : p + 7 ≤ q
        · refine r150_109x (d := d + 1) hW hs (by omega) (by omega) hq7 (by rw [v_c1_lt hqn]; exact hlq) ?_
          rw [if_neg (by omega)] at this
          exact this
        · rw [if_pos (by omega)]
          rw [if_pos (by omega), show q + 1 - p = (q - p) + 1 by omega] at this
          refine r150_109y (d := d + 1) hW hs (by omega) (by omega) hq7 ?_ (by rw [v_c1_lt hqn]; exact hlq) ?_
          · have := v_pk_lt c p (q - p) (fun k hk => by have := v_le_b (hlet k (by omega)); omega)
            have h256 : 256 ^ (q - p) ≤ 256 ^ 6 := Nat.pow_le_pow_right (by decide) (by omega)
            have e7 : 256 ^ 6 = 281474976710656 := by decide
            omega
          · rw [v_c1_lt hqn]
            have e : v_pk c p (q - p + 1) = v_pk c p (q - p) * 256 + c q := by
              show v_pk c p (q - p) * 256 + c (p + (q - p)) = _
              rw [show p + (q - p) = q by omega]
            rw [e] at this
            exact this
    have := loop (v_en v_le c n p - p) p (by omega) (Nat.le_refl _)
    rw [if_pos (by omega), Nat.sub_self] at this
    exact this
  -- marks
  rw [if_neg h3] at k1 k0
  have h3f : v_le (c p) = false := by simpa using h3
  have hb := hs.1.2 p hp
  have b1 : ∀ k, k < 1 → 1 ≤ c (p + k) ∧ c (p + k) ≤ 255 := fun k hk => by rw [show p + k = p by omega]; omega
  have e1 : v_spl c p (p + 1) = v_wd (c p) := by
    rw [v_spl_wd b1]
    show v_wd (0 * 256 + c (p + 0)) = _
    rw [Nat.zero_mul, Nat.zero_add, Nat.add_zero]
  have e2 : p + 2 ≤ n → v_spl c p (p + 2) = v_wd (c p * 256 + c (p + 1)) := fun h => by
    have b2 : ∀ k, k < 2 → 1 ≤ c (p + k) ∧ c (p + k) ≤ 255 := fun k hk => by
      have := hs.1.2 (p + k) (by omega)
      omega
    rw [v_spl_wd b2]
    show v_wd ((0 * 256 + c (p + 0)) * 256 + c (p + 1)) = _
    rw [Nat.zero_mul, Nat.zero_add, Nat.add_zero]
  have hy : p + 1 < n → c (p + 1) ≤ 126 := fun h => (hs.1.2 (p + 1) h).2.2
  have n2 : ∀ x y, y ≤ 126 → x ≠ 124 → x ≠ 38 → x ≠ 61 → x ≠ 33 → x ≠ 60 → x ≤ 126 → 33 ≤ x → x < 97 ∨ 122 < x → v_wd (x * 256 + y) = 33 := fun x y hy a1 a2 a3 a4 a5 a6 a7 a8 => v_wd_none (by unfold v_Kl; simp only [List.mem_cons, List.not_mem_nil, or_false]; omega)
  have n2' : ∀ x y, y ≤ 126 → (x = 124 ∨ x = 38 ∨ x = 61 ∨ x = 33 ∨ x = 60) → (x = 124 → y ≠ 124) → (x = 38 → y ≠ 38) → (x = 61 → y ≠ 61) → (x = 33 → y ≠ 61) → (x = 60 → y ≠ 61) → v_wd (x * 256 + y) = 33 := fun x y hy a0 a1 a2 a3 a4 a5 => v_wd_none (by unfold v_Kl; simp only [List.mem_cons, List.not_mem_nil, or_false]; omega)
  have hln := v_le_n h3f
  have hdn := v_dg_n h1f
  have hcp1 : v_c1 c n (p + 1) = if p + 1 < n then c (p + 1) else 0 := rfl
  -- one character
  have one : (p + 2 ≤ n → v_wd (c p * 256 + c (p + 1)) = 33) → v_wd (c p) ≠ 33 → Q (.returned (some (.int (nI (p + 1))))) (v_mt S z (nI (v_wc (v_wd (c p)))) 0 (nI p)) := fun h hg => by
    rw [if_pos (by by_cases hh : n < p + 2; exact Or.inl hh; exact Or.inr (by rw [e2 (by omega)]; exact h (by omega)))] at k1
    rw [e1] at k1
    exact k1 hg
  have bad : (p + 2 ≤ n → v_wd (c p * 256 + c (p + 1)) = 33) → v_wd (c p) = 33 → ∀ y x, Q (.returned (some (.int y))) (v_mt S z 3 x (nI p)) := fun h hg => by
    rw [if_pos (by by_cases hh : n < p + 2; exact Or.inl hh; exact Or.inr (by rw [e2 (by omega)]; exact h (by omega)))] at k0
    rw [e1] at k0
    exact k0 hg
  have two : ∀ g, p + 2 ≤ n → v_wd (c p * 256 + c (p + 1)) = g → g ≠ 33 → Q (.returned (some (.int (nI (p + 2))))) (v_mt S z (nI (v_wc g)) 0 (nI p)) := fun g h hg h33 => by
    rw [if_neg (by rw [e2 h, hg]; omega), e2 h, hg] at k1
    exact k1 h33
  cases hsg : v_sg (c p) with
  | true =>
    have hsg' := of_decide_eq_true hsg
    refine r150_0s hW hs hp (by rw [hcp]; exact h2) hz (by rw [hcp]; exact h1f) (by rw [hcp]; exact h3f) (by rw [hcp]; exact hsg) ?_
    have h2w : p + 2 ≤ n → v_wd (c p * 256 + c (p + 1)) = 33 := fun h => n2 _ _ (hy (by omega)) (by omega) (by omega) (by omega) (by omega) (by omega) (by omega) (by omega) hln
    have : v_wd (c p) ≠ 33 ∧ v_wc (v_wd (c p)) = c p := by
      rcases hsg' with h | h | h | h | h | h | h | h | h | h <;> rw [h] <;> decide +kernel
    have K := one h2w this.1
    rw [this.2] at K
    rw [hcp]
    exact K
  | false =>
    have hsg' := of_decide_eq_false hsg
    refine r150_0m hW hs hp (by rw [hcp]; exact h2) hz (by rw [hcp]; exact h1f) (by rw [hcp]; exact h3f) (by rw [hcp]; exact hsg) ?_ ?_ ?_ ?_ ?_ ?_ ?_ ?_ ?_ ?_ ?_ <;> rw [hcp] <;> try rw [hcp1]
    · intro a b
      by_cases hn1 : p + 1 < n
      · rw [if_pos hn1] at b
        exact two 21 (by omega) (by rw [b, a]; decide +kernel) (by decide)
      · rw [if_neg hn1] at b; omega
    · intro a b
      refine bad (fun h => n2' _ _ (hy (by omega)) (by omega) (by omega) (by omega) (fun _ z => ?_) (by omega) (by omega)) (by rw [a]; decide +kernel) _ _
      rw [if_pos (by omega)] at b
      omega
    · intro a' a b
      by_cases hn1 : p + 1 < n
      · rw [if_pos hn1] at b
        exact two 20 (by omega) (by rw [b, a]; decide +kernel) (by decide)
      · rw [if_neg hn1] at b; omega
    · intro a' a b
      refine bad (fun h => n2' _ _ (hy (by omega)) (by omega) (by omega) (fun _ z => ?_) (by omega) (by omega) (by omega)) (by rw [a]; decide +kernel) _ _
      rw [if_pos (by omega)] at b
      omega
    · intro a1 a2 a3 a b
      have K := one (fun h => n2' _ _ (hy (by omega)) (by omega) (by omega) (by omega) (by omega) (fun _ z => by rw [if_pos (by omega)] at b; omega) (by omega)) (by rw [a]; decide +kernel)
      rw [a, show v_wc (v_wd 33) = 33 from by decide +kernel] at K
      exact K
    · intro a1 a2 a3 a b
      by_cases hn1 : p + 1 < n
      · rw [if_pos hn1] at b
        exact two 22 (by omega) (by rw [b, a]; decide +kernel) (by decide)
      · rw [if_neg hn1] at b; omega
    · intro a1 a2 a3 a4 a5
      exact bad (fun h => n2 _ _ (hy (by omega)) a3 a2 a1 a4 a5 (by omega) (by omega) hln) (v_wd_none (by unfold v_Kl; simp only [List.mem_cons, List.not_mem_nil, or_false]; omega)) _ _
    · intro a1 a2 a3 a4 a b
      have K := one (fun h => n2' _ _ (hy (by omega)) (by omega) (by omega) (by omega) (by omega) (by omega) (fun _ z => by rw [if_pos (by omega)] at b; omega)) (by rw [a]; decide +kernel)
      rw [a, show v_wc (v_wd 60) = 202 from by decide +kernel] at K
      exact K
    · intro a1 a2 a3 a4 a b
      by_cases hn1 : p + 1 < n
      · rw [if_pos hn1] at b
        exact two 24 (by omega) (by rw [b, a]; decide +kernel) (by decide)
      · rw [if_neg hn1] at b; omega
    · intro a1 a2 a b
      by_cases hn1 : p + 1 < n
      · rw [if_pos hn1] at b
        exact two 19 (by omega) (by rw [b, a]; decide +kernel) (by decide)
      · rw [if_neg hn1] at b; omega
    · intro a1 a2 a b
      refine bad (fun h => n2' _ _ (hy (by omega)) (by omega) (fun _ z => ?_) (by omega) (by omega) (by omega) (by omega)) (by rw [a]; decide +kernel) _ _
      rw [if_pos (by omega)] at b
      omega
end VSCN
