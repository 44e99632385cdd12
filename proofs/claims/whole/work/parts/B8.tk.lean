/-! THE ROW OF TOKENS: what is true of it. -/
def v_tg (T : List v_Tk) (j : Nat) : Nat := (T.getD j (32, 0, 0)).1
def v_tv (T : List v_Tk) (j : Nat) : Nat := (T.getD j (32, 0, 0)).2.1
def v_tp (T : List v_Tk) (j : Nat) : Nat := (T.getD j (32, 0, 0)).2.2
/-- tokens so far, the next at or behind p -/
def v_tok (n : Nat) (ts : List v_Tk) (p : Nat) : Prop := ts.length ≤ p ∧ (∀ (j s x q : Nat), ts[j]? = some (s, x, q) → s < 32 ∧ x < 1000000 ∧ (s = 31 → x < 16) ∧ q < n ∧ q + v_ln s ≤ p) ∧ ∀ (j s x q s' x' q' : Nat), ts[j]? = some (s, x, q) → ts[j + 1]? = some (s', x', q') → q + v_ln s ≤ q'
theorem v_t1_tok {c : Nat → Nat} {n p : Nat} (hp : p < n) (h : (v_t1 c n p).1 ≠ 33) : (v_t1 c n p).1 < 32 ∧ (v_t1 c n p).2.1 < 1000000 ∧ ((v_t1 c n p).1 = 31 → (v_t1 c n p).2.1 < 16) ∧ p + v_ln (v_t1 c n p).1 ≤ (v_t1 c n p).2.2 := by
  have spl : ∀ q, p < q → v_spl c p q ≠ 33 → v_spl c p q < 30 ∧ p + v_ln (v_spl c p q) ≤ q := by
    intro q hq h33
    have key : ∀ k i, v_fst (v_isp c p q) k i ≠ 33 → v_isp c p q (v_fst (v_isp c p q) k i) = true := by
      intro k
      induction k with
      | zero => intro i h; exact absurd rfl h
      | succ k ih =>
        intro i h
        unfold v_fst at h ⊢
        split
        · rename_i hh; exact hh
        · rename_i hh; rw [if_neg hh] at h; exact ih _ h
    have h1 := (v_isp_p (key 34 0 h33)).1
    have h2 : ∀ g, g < 34 → 1 ≤ v_sl g → g < 30 ∧ v_ln g ≤ v_sl g := by decide +kernel
    have h3 := h2 _ (v_spl_lt c p q) (by show 1 ≤ v_sl (v_spl c p q); unfold v_spl; omega)
    refine ⟨h3.1, ?_⟩
    have : q - p = v_sl (v_spl c p q) := h1
    omega
  unfold v_t1 at h ⊢
  by_cases h1 : v_dg (c p) = true
  · have e4 := v_en_gt v_dg c n p hp h1
    rw [if_pos h1] at h ⊢
    split at h
    · exact absurd rfl h
    · rename_i h6
      rw [if_neg h6]
      refine ⟨by show 30 < 32; omega, ?_, fun z => absurd z (by show ¬ 30 = 31; omega), by show p + 1 ≤ v_en v_dg c n p; omega⟩
      have hb := v_nu_b c (v_en v_dg c n p - p) p 0 (fun j a b => (v_dg_b (v_en_in v_dg c n p a (by omega))).2)
      have h2 : 10 ^ (v_en v_dg c n p - p) ≤ 10 ^ 6 := Nat.pow_le_pow_right (by decide) (by omega)
      show v_nu c (v_en v_dg c n p - p) p 0 < 1000000
      omega
  rw [if_neg h1] at h ⊢
  by_cases h2 : c p = 64
  · rw [if_pos h2] at h ⊢
    have e := (v_en_le v_dg c n (p + 1)).1
    split at h
    · exact absurd rfl h
    · rename_i h6
      rw [if_neg h6]
      split at h
      · exact absurd rfl h
      · rename_i h7
        rw [if_neg h7]
        exact ⟨by show 31 < 32; omega, by show v_nu c _ _ 0 < 1000000; omega, fun _ => by show v_nu c _ _ 0 < 16; omega, by show p + 1 ≤ v_en v_dg c n (p + 1); omega⟩
  rw [if_neg h2] at h ⊢
  by_cases h3 : v_le (c p) = true
  · rw [if_pos h3] at h ⊢
    have e := spl _ (v_en_gt v_le c n p hp h3) h
    exact ⟨by show v_spl _ _ _ < 32; omega, by show 0 < 1000000; omega, fun z => by have : v_spl c p (v_en v_le c n p) = 31 := z; omega, e.2⟩
  rw [if_neg h3] at h ⊢
  split at h
  · rename_i h6
    rw [if_pos h6]
    have e := spl (p + 1) (by omega) h
    exact ⟨by show v_spl _ _ _ < 32; omega, by show 0 < 1000000; omega, fun z => by have : v_spl c p (p + 1) = 31 := z; omega, e.2⟩
  · rename_i h6
    rw [if_neg h6]
    have e := spl (p + 2) (by omega) h
    exact ⟨by show v_spl _ _ _ < 32; omega, by show 0 < 1000000; omega, fun z => by have : v_spl c p (p + 2) = 31 := z; omega, e.2⟩
theorem v_tok_add {n p q s x p' : Nat} {ts : List v_Tk} (h : v_tok n ts p) (h1 : s < 32) (h2 : x < 1000000) (h3 : s = 31 → x < 16) (h4 : p < n) (h5 : p + v_ln s ≤ q) (h6 : q ≤ p') : v_tok n (ts ++ [(s, x, p)]) p' := by
  have hl := v_ln_pos s
  obtain ⟨a1, a2, a3⟩ := h
  have app : ∀ j y, (ts ++ [(s, x, p)])[j]? = some y → (j < ts.length ∧ ts[j]? = some y) ∨ (j = ts.length ∧ y = (s, x, p)) := by
    intro j y hj
    by_cases hjc : j < ts.length
    · rw [List.getElem?_append_left hjc] at hj; exact Or.inl ⟨hjc, hj⟩
    · obtain ⟨hi, _⟩ := List.getElem?_eq_some_iff.mp hj
      rw [List.length_append] at hi
      have : ([(s, x, p)] : List v_Tk).length = 1 := rfl
      have e : j = ts.length := by omega
      subst e
      rw [v_last] at hj
      exact Or.inr ⟨rfl, (Option.some.inj hj).symm⟩
  refine ⟨by rw [List.length_append]; show _ + 1 ≤ _; omega, fun j s' x' q' hj => ?_, fun j s1 x1 q1 s2 x2 q2 e1 e2 => ?_⟩
  · rcases app j _ hj with ⟨hlt, e⟩ | ⟨rfl, e⟩
    · obtain ⟨b1, b2, b3, b4, b5⟩ := a2 j s' x' q' e
      exact ⟨b1, b2, b3, b4, by omega⟩
    · cases e
      exact ⟨h1, h2, h3, h4, by omega⟩
  · rcases app (j + 1) _ e2 with ⟨hlt, e⟩ | ⟨he, e⟩
    · rw [List.getElem?_append_left (by omega)] at e1
      exact a3 j s1 x1 q1 s2 x2 q2 e1 e
    · cases e
      rw [List.getElem?_append_left (by omega)] at e1
      exact (a2 j s1 x1 q1 e1).2.2.2.2
theorem v_tok_all {c : Nat → Nat} {n : Nat} : ∀ k p ts T, v_tz c n k p ts = some T → v_tok n ts p → p ≤ n → ∃ us e pe, T = us ++ [(e, 0, pe)] ∧ (e = 32 ∧ pe = n ∨ e = 33 ∧ pe < n) ∧ v_tok n us pe := by
  intro k
  induction k with
  | zero => intro p ts T h; cases h
  | succ k ih =>
    intro p ts T h ht hp
    unfold v_tz at h
    by_cases hpn : p < n
    · rw [if_pos hpn] at h
      by_cases h33 : (v_t1 c n p).1 = 33
      · rw [if_pos h33] at h
        cases h
        exact ⟨ts, 33, p, rfl, Or.inr ⟨rfl, hpn⟩, ht⟩
      · rw [if_neg h33] at h
        obtain ⟨b1, b2, b3, b4⟩ := v_t1_tok hpn h33
        obtain ⟨q1, q2, q3⟩ := v_t1_q (c := c) hpn
        have e := v_en_le v_bl c n (v_t1 c n p).2.2
        exact ih _ _ _ h (v_tok_add ht b1 b2 b3 hpn b4 e.1) (e.2 q2)
    · rw [if_neg hpn] at h
      cases h
      have : p = n := by omega
      subst this
      exact ⟨ts, 32, p, rfl, Or.inl ⟨rfl, rfl⟩, ht⟩
theorem v_getD {T : List v_Tk} {j : Nat} {y : v_Tk} (h : T[j]? = some y) : T.getD j (32, 0, 0) = y := by
  rw [List.getD_eq_getElem?_getD, h]
  rfl
theorem v_tok_TK {n e pe : Nat} {us : List v_Tk} (hn : n ≤ 100) (he : e = 32 ∧ pe = n ∨ e = 33 ∧ pe < n) (h : v_tok n us pe) : v_TK us.length (v_tg (us ++ [(e, 0, pe)])) (v_tv (us ++ [(e, 0, pe)])) (v_tp (us ++ [(e, 0, pe)])) ∧ v_TG us.length (v_tg (us ++ [(e, 0, pe)])) (v_tp (us ++ [(e, 0, pe)])) := by
  obtain ⟨a1, a2, a3⟩ := h
  have old : ∀ j, j < us.length → ∃ s x q, us[j]? = some (s, x, q) ∧ (us ++ [(e, 0, pe)]).getD j (32, 0, 0) = (s, x, q) := by
    intro j hj
    obtain ⟨⟨s, x, q⟩, hy⟩ : ∃ y, us[j]? = some y := ⟨us[j], List.getElem?_eq_getElem hj⟩
    exact ⟨s, x, q, hy, v_getD (v_app hy)⟩
  have lst : (us ++ [(e, 0, pe)]).getD us.length (32, 0, 0) = (e, 0, pe) := v_getD v_last
  refine ⟨⟨by omega, fun j hj => ?_⟩, fun j hj => ?_⟩
  · unfold v_tg v_tv v_tp
    by_cases hjl : j < us.length
    · obtain ⟨s, x, q, h1, h2⟩ := old j hjl
      obtain ⟨b1, b2, b3, b4, b5⟩ := a2 j s x q h1
      rw [h2]
      exact ⟨by show s < 34; omega, b2, by show q ≤ 100; omega, fun _ => ⟨by show s ≠ 32; omega, by show s ≠ 33; omega⟩, fun z => by omega, b3⟩
    · have : j = us.length := by omega
      subst this
      rw [lst]
      exact ⟨by show e < 34; omega, by show 0 < 1000000; omega, by show pe ≤ 100; omega, fun z => by omega, fun _ => by show e = 32 ∨ e = 33; omega, fun z => by show 0 < 16; omega⟩
  · unfold v_tg v_tp
    obtain ⟨s, x, q, h1, h2⟩ := old j hj
    rw [h2]
    by_cases hj1 : j + 1 < us.length
    · obtain ⟨s', x', q', h1', h2'⟩ := old (j + 1) hj1
      rw [h2']
      exact a3 j s x q s' x' q' h1 h1'
    · have : j + 1 = us.length := by omega
      rw [this, lst]
      exact (a2 j s x q h1).2.2.2.2
/-- splitting ends -/
theorem v_tz_ex {c : Nat → Nat} {n : Nat} : ∀ k p ts, n - p < k → ∃ T, v_tz c n k p ts = some T := by
  intro k
  induction k with
  | zero => intro p ts h; omega
  | succ k ih =>
    intro p ts h
    unfold v_tz
    by_cases hp : p < n
    · rw [if_pos hp]
      by_cases h33 : (v_t1 c n p).1 = 33
      · rw [if_pos h33]; exact ⟨_, rfl⟩
      · rw [if_neg h33]
        obtain ⟨q1, q2, q3⟩ := v_t1_q (c := c) hp
        have e := v_en_le v_bl c n (v_t1 c n p).2.2
        exact ih _ _ (by omega)
    · rw [if_neg hp]; exact ⟨_, rfl⟩
