/-! look, fail -/
section VX157
variable {d L j m c p : Nat} {xs : Nat → Int32} {S : q_S} {Q : Outcome → q_S → Prop}
theorem x157 (hW : w_W (q_S0 L xs) S) (h1 : q_iv S 1097 32 = nI j) (h2 : q_iv S 1102 6 = nI m) (h : (j < m → q_iv S 1099 (606 + j) = nI c) ∧ (¬ j < m → c = 0) ∧ c < 2000) (hj : j < 102) (hm : m < 102) (k : Q (.returned (some (.int (nI c)))) S) : w_X d 157 [.ref 1097] S Q := by
  refine b157_0 hW hj h1 hm h2 h.2.2 (fun z => h.1 (by omega)) (fun z => ?_) (fun _ => k)
  have := h.2.1 (by omega)
  subst this
  exact k
theorem x158 (hW : w_W (q_S0 L xs) S) (h1 : q_iv S 1097 32 = nI j) (h2 : q_iv S 1102 6 = nI m) (h : (j < m → q_iv S 1101 (606 + j) = nI p) ∧ (¬ j < m → q_iv S 1097 3 = nI p) ∧ p < 2000) (hj : j < 102) (hm : m < 102) (k : Q (.returned (some (.int 0))) (q_sI S 1097 1 (nI p))) : w_X d 158 [.ref 1097] S Q :=
  b158_0 hW hj h1 hm h2 h.2.2 (fun z => h.2.1 (by omega)) h.2.2 (fun z => h.1 (by omega)) (fun _ => k) (fun _ => k)
end VX157
theorem v_wc_all (s : Nat) : v_wc s < 2000 := by
  by_cases h : s < 34
  · exact v_wc_lt s h
  · unfold v_wc
    rw [List.getD_eq_getElem?_getD, List.getElem?_eq_none (by show 34 ≤ s; omega)]
    decide
