/-! TOKENS AS A FUNCTION: characters c, n of them. -/
def v_dg (x : Nat) : Bool := decide (48 ≤ x) && decide (x ≤ 57)
def v_le (x : Nat) : Bool := decide (97 ≤ x) && decide (x ≤ 122)
def v_bl (x : Nat) : Bool := decide (x = 32)
def v_spn (P : Nat → Bool) (c : Nat → Nat) (n : Nat) : Nat → Nat → Nat
  | 0, p => p
  | k + 1, p => if p < n ∧ P (c p) = true then v_spn P c n k (p + 1) else p
/-- the place behind those that are P -/
def v_en (P : Nat → Bool) (c : Nat → Nat) (n p : Nat) : Nat := v_spn P c n (n - p) p
section VEN
variable (P : Nat → Bool) (c : Nat → Nat) (n p : Nat)
theorem v_en_no (h : ¬ (p < n ∧ P (c p) = true)) : v_en P c n p = p := by
  unfold v_en
  cases n - p with
  | zero => rfl
  | succ k => exact if_neg h
theorem v_en_yes (h1 : p < n) (h2 : P (c p) = true) : v_en P c n p = v_en P c n (p + 1) := by
  unfold v_en
  rw [show n - p = (n - (p + 1)) + 1 by omega]
  exact if_pos ⟨h1, h2⟩
theorem v_spn_le : ∀ k p, p ≤ v_spn P c n k p ∧ (p ≤ n → v_spn P c n k p ≤ n) ∧ (∀ j, p ≤ j → j < v_spn P c n k p → P (c j) = true) := by
  intro k
  induction k with
  | zero => intro p; exact ⟨Nat.le_refl _, fun h => h, fun j h1 h2 => by have : j < p := h2; omega⟩
  | succ k ih =>
    intro p
    unfold v_spn
    split
    · rename_i h
      obtain ⟨a, b, d⟩ := ih (p + 1)
      refine ⟨by omega, fun _ => b (by omega), fun j h1 h2 => ?_⟩
      by_cases hj : j = p
      · rw [hj]; exact h.2
      · exact d j (by omega) h2
    · exact ⟨Nat.le_refl _, fun h => h, fun j h1 h2 => by omega⟩
theorem v_en_le : p ≤ v_en P c n p ∧ (p ≤ n → v_en P c n p ≤ n) := ⟨(v_spn_le P c n _ p).1, (v_spn_le P c n _ p).2.1⟩
theorem v_en_in {j : Nat} (h1 : p ≤ j) (h2 : j < v_en P c n p) : P (c j) = true := (v_spn_le P c n _ p).2.2 j h1 h2
theorem v_en_stop (h : v_en P c n p < n) : P (c (v_en P c n p)) = false := by
  have key : ∀ k p, n - p ≤ k → v_spn P c n k p < n → P (c (v_spn P c n k p)) = false := by
    intro k
    induction k with
    | zero => intro p hk h; have : p < n := h; omega
    | succ k ih =>
      intro p hk h
      unfold v_spn at h ⊢
      split
      · rename_i hh; rw [if_pos hh] at h; exact ih (p + 1) (by omega) h
      · rename_i hh
        rw [if_neg hh] at h
        cases hP : P (c p) with
        | false => rfl
        | true => exact absurd ⟨h, hP⟩ hh
  exact key _ p (Nat.le_refl _) h
theorem v_en_gt (h1 : p < n) (h2 : P (c p) = true) : p < v_en P c n p := by
  rw [v_en_yes P c n p h1 h2]
  have := (v_en_le P c n (p + 1)).1
  omega
end VEN
/-- the number that k digits from p on spell, behind those that spell a -/
def v_nu (c : Nat → Nat) : Nat → Nat → Nat → Nat
  | 0, _, a => a
  | k + 1, p, a => v_nu c k (p + 1) (a * 10 + (c p - 48))
theorem v_nu_b (c : Nat → Nat) : ∀ k p a, (∀ j, p ≤ j → j < p + k → c j ≤ 57) → v_nu c k p a < (a + 1) * 10 ^ k := by
  intro k
  induction k with
  | zero => intro p a _; show a < (a + 1) * 1; omega
  | succ k ih =>
    intro p a h
    have h1 := ih (p + 1) (a * 10 + (c p - 48)) (fun j h1 h2 => h j (by omega) (by omega))
    have h2 := h p (by omega) (by omega)
    have h3 : (a * 10 + (c p - 48) + 1) * 10 ^ k ≤ ((a + 1) * 10) * 10 ^ k := Nat.mul_le_mul_right _ (by omega)
    have h4 : (a + 1) * 10 ^ (k + 1) = (a + 1) * 10 * 10 ^ k := by rw [Nat.pow_succ, Nat.mul_assoc, Nat.mul_comm (10 ^ k) 10]
    show v_nu c k (p + 1) (a * 10 + (c p - 48)) < _
    omega
def v_isp (c : Nat → Nat) (p q g : Nat) : Bool := decide (q - p = v_sl g) && (List.range (v_sl g)).all (fun k => decide (c (p + k) = v_ch g k))
def v_fst (f : Nat → Bool) : Nat → Nat → Nat
  | 0, _ => 33
  | k + 1, i => if f i = true then i else v_fst f k (i + 1)
def v_spl (c : Nat → Nat) (p q : Nat) : Nat := v_fst (v_isp c p q) 34 0
theorem v_fst_lt (f : Nat → Bool) : ∀ k i, i + k ≤ 34 → v_fst f k i < 34 := by
  intro k
  induction k with
  | zero => intro i _; show 33 < 34; decide
  | succ k ih =>
    intro i h
    unfold v_fst
    split
    · omega
    · exact ih (i + 1) (by omega)
theorem v_spl_lt (c : Nat → Nat) (p q : Nat) : v_spl c p q < 34 := v_fst_lt _ 34 0 (by decide)
/-- a token at a place: its sign, its number, the place behind -/
def v_t1 (c : Nat → Nat) (n p : Nat) : Nat × Nat × Nat :=
  if v_dg (c p) = true then (if 6 < v_en v_dg c n p - p then (33, 0, v_en v_dg c n p) else (30, v_nu c (v_en v_dg c n p - p) p 0, v_en v_dg c n p))
  else if c p = 64 then
    (if v_en v_dg c n (p + 1) = p + 1 ∨ 3 + p < v_en v_dg c n (p + 1) then (33, 0, v_en v_dg c n (p + 1))
     else if 16 ≤ v_nu c (v_en v_dg c n (p + 1) - (p + 1)) (p + 1) 0 then (33, 0, v_en v_dg c n (p + 1)) else (31, v_nu c (v_en v_dg c n (p + 1) - (p + 1)) (p + 1) 0, v_en v_dg c n (p + 1)))
  else if v_le (c p) = true then (v_spl c p (v_en v_le c n p), 0, v_en v_le c n p)
  else if n < p + 2 ∨ v_spl c p (p + 2) = 33 then (v_spl c p (p + 1), 0, p + 1) else (v_spl c p (p + 2), 0, p + 2)
/-- the class while it splits a text -/
def v_CS (S : q_S) (c : Nat → Nat) (n z : Nat) : Prop := v_RW S c n ∧ q_rv S 1024 3 = some 1001 ∧ q_iv S 1024 4 = nI n ∧ q_iv S 1024 5 = nI z ∧ z ≤ 100
section VCSS
variable {S : q_S} {c : Nat → Nat} {n z j : Nat}
theorem v_CS.rw (h : v_CS S c n z) : v_RW S c n := h.1
theorem v_CS.b (h : v_CS S c n z) : n ≤ 100 ∧ z ≤ 100 := ⟨h.1.1, h.2.2.2.2⟩
theorem v_CS.rr (h : v_CS S c n z) : q_rv S 1024 3 = some 1001 := h.2.1
theorem v_CS.ln (h : v_CS S c n z) : q_iv S 1024 4 = nI n := h.2.2.1
theorem v_CS.sz (h : v_CS S c n z) : q_iv S 1024 5 = nI z := h.2.2.2.1
theorem v_CS.r (h : v_CS S c n z) (hj : j < n) : q_iv S 1001 j = nI (c j) := h.1.r hj
theorem v_CS.u (h : v_CS S c n z) (hj : j < n) : c j < 128 := h.1.u hj
end VCSS
theorem v_nu2 (c : Nat → Nat) (k p : Nat) : k ≤ 2 → (∀ j, p ≤ j → j < p + k → c j ≤ 57) → v_nu c k p 0 < 100 := by
  intro hk h
  have := v_nu_b c k p 0 h
  have h2 : 10 ^ k ≤ 10 ^ 2 := Nat.pow_le_pow_right (by decide) hk
  omega
theorem v_dg_b {x : Nat} (h : v_dg x = true) : 48 ≤ x ∧ x ≤ 57 := by
  unfold v_dg at h
  rw [Bool.and_eq_true] at h
  exact ⟨of_decide_eq_true h.1, of_decide_eq_true h.2⟩
theorem v_dg_n {x : Nat} (h : v_dg x = false) : x < 48 ∨ 57 < x := by
  unfold v_dg at h
  by_cases h1 : 48 ≤ x
  · rw [decide_eq_true h1, Bool.true_and] at h
    have := of_decide_eq_false h
    omega
  · omega
theorem v_le_b {x : Nat} (h : v_le x = true) : 97 ≤ x ∧ x ≤ 122 := by
  unfold v_le at h
  rw [Bool.and_eq_true] at h
  exact ⟨of_decide_eq_true h.1, of_decide_eq_true h.2⟩
theorem v_le_n {x : Nat} (h : v_le x = false) : x < 97 ∨ 122 < x := by
  unfold v_le at h
  by_cases h1 : 97 ≤ x
  · rw [decide_eq_true h1, Bool.true_and] at h
    have := of_decide_eq_false h
    omega
  · omega
theorem v_dg_i {x : Nat} (h1 : 48 ≤ x) (h2 : x ≤ 57) : v_dg x = true := by unfold v_dg; rw [decide_eq_true h1, decide_eq_true h2]; rfl
theorem v_le_i {x : Nat} (h1 : 97 ≤ x) (h2 : x ≤ 122) : v_le x = true := by unfold v_le; rw [decide_eq_true h1, decide_eq_true h2]; rfl
