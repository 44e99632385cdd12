/-! WORDS AND MARKS AS NUMBERS: the reference's way to know them. -/
def v_c1 (c : Nat → Nat) (n j : Nat) : Nat := if j < n then c j else 0
def v_sg (x : Nat) : Bool := decide (x = 40 ∨ x = 41 ∨ x = 123 ∨ x = 125 ∨ x = 44 ∨ x = 46 ∨ x = 95 ∨ x = 43 ∨ x = 45 ∨ x = 42)
def v_MS (S : q_S) (c : Nat → Nat) (n z : Nat) : Prop := (n ≤ 100 ∧ ∀ j, j < n → q_iv S 1098 j = nI (c j) ∧ 32 ≤ c j ∧ c j ≤ 126) ∧ q_iv S 1097 3 = nI n ∧ q_iv S 1102 6 = nI z ∧ z ≤ 101
section VMSS
variable {S : q_S} {c : Nat → Nat} {n z j : Nat}
theorem v_MS.b (h : v_MS S c n z) : n ≤ 100 ∧ z ≤ 101 := ⟨h.1.1, h.2.2.2⟩
theorem v_MS.ln (h : v_MS S c n z) : q_iv S 1097 3 = nI n := h.2.1
theorem v_MS.sz (h : v_MS S c n z) : q_iv S 1102 6 = nI z := h.2.2.1
theorem v_MS.r (h : v_MS S c n z) (hj : j < n) : q_iv S 1098 j = nI (c j) := (h.1.2 j hj).1
theorem v_MS.c1 (h : v_MS S c n z) (j : Nat) : v_c1 c n j < 128 := by
  unfold v_c1
  split
  · rename_i hj
    have := (h.1.2 j hj).2.2
    omega
  · omega
end VMSS
def v_pk (c : Nat → Nat) (p : Nat) : Nat → Nat
  | 0 => 0
  | k + 1 => v_pk c p k * 256 + c (p + k)
theorem v_pk_inj (c c' : Nat → Nat) (p p' : Nat) : ∀ m m', (∀ k, k < m → 1 ≤ c (p + k) ∧ c (p + k) ≤ 255) → (∀ k, k < m' → 1 ≤ c' (p' + k) ∧ c' (p' + k) ≤ 255) → v_pk c p m = v_pk c' p' m' → m = m' ∧ ∀ k, k < m → c (p + k) = c' (p' + k) := by
  intro m
  induction m with
  | zero =>
    intro m' _ h' he
    cases m' with
    | zero => exact ⟨rfl, fun k hk => by omega⟩
    | succ m' =>
      have h1 := h' m' (by omega)
      have h2 : 0 = v_pk c' p' m' * 256 + c' (p' + m') := he
      omega
  | succ m ih =>
    intro m' h h' he
    have h1 := h m (by omega)
    cases m' with
    | zero =>
      have h2 : v_pk c p m * 256 + c (p + m) = 0 := he
      omega
    | succ m' =>
      have h3 := h' m' (by omega)
      have h2 : v_pk c p m * 256 + c (p + m) = v_pk c' p' m' * 256 + c' (p' + m') := he
      obtain ⟨e1, e2⟩ := ih m' (fun k hk => h k (by omega)) (fun k hk => h' k (by omega)) (by omega)
      subst e1
      refine ⟨rfl, fun k hk => ?_⟩
      by_cases hkm : k = m
      · subst hkm; omega
      · exact e2 k (by omega)
theorem v_pk_lt (c : Nat → Nat) (p : Nat) : ∀ m, (∀ k, k < m → c (p + k) ≤ 255) → v_pk c p m < 256 ^ m := by
  intro m
  induction m with
  | zero => intro _; show 0 < 1; decide
  | succ m ih =>
    intro h
    have h1 := ih (fun k hk => h k (by omega))
    have h2 := h m (by omega)
    show v_pk c p m * 256 + c (p + m) < 256 ^ (m + 1)
    rw [Nat.pow_succ]
    omega
def v_Kl : List Nat := [123581013780852, 112628846455140, 2003330414, 129117125440371, 1953658213, 439721161573, 112, 114, 120, 121, 122, 40, 41, 123, 125, 44, 46, 95, 33, 31868, 9766, 15677, 8509, 60, 15421, 26990, 6840691, 43, 45, 42, 0, 0, 0, 0]
theorem v_Kl_e : ∀ g, g < 34 → v_Kl.getD g 0 = v_pk (v_ch g) 0 (v_sl g) := by decide +kernel
theorem v_ch_1 : ∀ g, g < 34 → ∀ k, k < v_sl g → 1 ≤ v_ch g (0 + k) := by decide +kernel
theorem v_isp_pk {c : Nat → Nat} {p m g : Nat} (hm : ∀ k, k < m → 1 ≤ c (p + k) ∧ c (p + k) ≤ 255) (hg : g < 34) : v_isp c p (p + m) g = decide (v_Kl.getD g 0 = v_pk c p m) := by
  rw [v_Kl_e g hg]
  by_cases h : v_isp c p (p + m) g = true
  · obtain ⟨h1, h2⟩ := v_isp_p h
    have e : m = v_sl g := by omega
    subst e
    rw [h]
    refine (decide_eq_true ?_).symm
    have : ∀ j, j ≤ v_sl g → v_pk (v_ch g) 0 j = v_pk c p j := by
      intro j
      induction j with
      | zero => intro _; rfl
      | succ j ih =>
        intro hj
        show v_pk (v_ch g) 0 j * 256 + v_ch g (0 + j) = v_pk c p j * 256 + c (p + j)
        rw [ih (by omega), Nat.zero_add, h2 j (by omega)]
    exact this _ (Nat.le_refl _)
  · rw [show v_isp c p (p + m) g = false from by simpa using h]
    refine (decide_eq_false (fun he => h ?_)).symm
    obtain ⟨e1, e2⟩ := v_pk_inj (v_ch g) c 0 p (v_sl g) m (fun k hk => ⟨v_ch_1 g hg k hk, by have := v_ch_b g (0 + k); omega⟩) hm he
    exact v_isp_t (by omega) (fun k hk => by have := e2 k hk; rw [Nat.zero_add] at this; exact this.symm)
def v_wd (w : Nat) : Nat := v_fst (fun g => decide (v_Kl.getD g 0 = w)) 34 0
theorem v_fst_congr {f g : Nat → Bool} : ∀ k i, (∀ j, i ≤ j → j < i + k → f j = g j) → v_fst f k i = v_fst g k i := by
  intro k
  induction k with
  | zero => intro i _; rfl
  | succ k ih =>
    intro i h
    unfold v_fst
    rw [h i (by omega) (by omega), ih (i + 1) (fun j h1 h2 => h j (by omega) (by omega))]
theorem v_fst_none {f : Nat → Bool} : ∀ k i, (∀ j, i ≤ j → j < i + k → f j = false) → v_fst f k i = 33 := by
  intro k
  induction k with
  | zero => intro i _; rfl
  | succ k ih =>
    intro i h
    unfold v_fst
    rw [h i (by omega) (by omega), if_neg (by decide)]
    exact ih (i + 1) (fun j h1 h2 => h j (by omega) (by omega))
theorem v_spl_wd {c : Nat → Nat} {p m : Nat} (hm : ∀ k, k < m → 1 ≤ c (p + k) ∧ c (p + k) ≤ 255) : v_spl c p (p + m) = v_wd (v_pk c p m) := v_fst_congr 34 0 (fun j _ h => v_isp_pk hm (by omega))
theorem v_Kl_m : ∀ g, g < 34 → v_Kl.getD g 0 ∈ v_Kl := by decide +kernel
theorem v_wd_none {w : Nat} (h : w ∉ v_Kl) : v_wd w = 33 := v_fst_none 34 0 (fun j _ hj => decide_eq_false (fun e => h (e ▸ v_Kl_m j (by omega))))
def v_wo (w : Nat) : Nat := if w = 112 then 308 else if w = 114 then 309 else if w = 120 then 310 else if w = 121 then 311 else if w = 122 then 312 else if w = 26990 then 304 else if w = 6840691 then 305 else if w = 1953658213 then 306 else if w = 2003330414 then 302 else if w = 439721161573 then 307 else if w = 112628846455140 then 301 else if w = 123581013780852 then 300 else if w = 129117125440371 then 303 else 3
theorem v_wo3 {w : Nat} (h : w ≠ 112 ∧ w ≠ 114 ∧ w ≠ 120 ∧ w ≠ 121 ∧ w ≠ 122 ∧ w ≠ 26990 ∧ w ≠ 6840691 ∧ w ≠ 1953658213 ∧ w ≠ 2003330414 ∧ w ≠ 439721161573 ∧ w ≠ 112628846455140 ∧ w ≠ 123581013780852 ∧ w ≠ 129117125440371) : v_wo w = 3 := by
  unfold v_wo
  rw [if_neg (show ¬ w = 112 by omega), if_neg (show ¬ w = 114 by omega), if_neg (show ¬ w = 120 by omega), if_neg (show ¬ w = 121 by omega), if_neg (show ¬ w = 122 by omega), if_neg (show ¬ w = 26990 by omega), if_neg (show ¬ w = 6840691 by omega), if_neg (show ¬ w = 1953658213 by omega), if_neg (show ¬ w = 2003330414 by omega), if_neg (show ¬ w = 439721161573 by omega), if_neg (show ¬ w = 112628846455140 by omega), if_neg (show ¬ w = 123581013780852 by omega), if_neg (show ¬ w = 129117125440371 by omega)]
