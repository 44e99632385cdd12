/-! A reading ends. -/
def v_fl (N md ps : Nat) : Nat := 10 * (N + 1 - ps) + (if md < 7 then 8 - md else 1)
theorem v_bd_ex {q : Option v_Rs} {f : Nat → Nat → List v_Nd → Option v_Rs} (h : ∃ res, q = some res) (hf : ∀ r p ns, q = some (some r, p, ns) → ∃ res, f r p ns = some res) : ∃ res, v_bd q f = some res := by
  obtain ⟨⟨r, p, ns⟩, rfl⟩ := h
  cases r with
  | none => exact ⟨_, rfl⟩
  | some r => exact hf r p ns rfl
set_option maxHeartbeats 1000000 in
theorem v_pz_fuel {N : Nat} {g v pl : Nat → Nat} (hT : v_TK N g v pl) : ∀ n md dp lf ps ns, ps ≤ N → dp ≤ 7 → (md < 7 ∨ md = 16 ∨ 10 ≤ md ∧ md < 15) → (md = 6 → dp < 7) → v_fl N md ps ≤ n → ∃ res, v_pz g v n md dp lf ps ns = some res := by
  intro n
  induction n with
  | zero =>
    intro md dp lf ps ns h1 h2 h3 h4 h5
    unfold v_fl at h5
    omega
  | succ n ih =>
    intro md dp lf ps ns hps hdp hmd h67 hn
    unfold v_fl at hn
    unfold v_pz
    by_cases h5 : md < 5
    · rw [if_pos h5]
      rw [if_pos (by omega)] at hn
      refine v_bd_ex (ih _ _ _ _ _ hps hdp (by omega) (by omega) (by unfold v_fl; rw [if_pos (by omega)]; omega)) (fun r p ns1 e => ?_)
      obtain ⟨_, a1, a2, a3, a4, _⟩ := v_pz_post hT _ _ _ _ _ _ _ _ _ e hps hdp (by omega) (by omega)
      have a5 := (a4 (by omega) r rfl).1
      exact ih _ _ _ _ _ a2 hdp (by omega) (by omega) (by unfold v_fl; rw [if_neg (by omega)]; omega)
    rw [if_neg h5]
    by_cases h5 : md = 5
    · rw [if_pos h5]
      rw [if_pos (by omega)] at hn
      by_cases h7 : 7 ≤ dp
      · rw [if_pos h7]; exact ⟨_, rfl⟩
      rw [if_neg h7]
      by_cases hs : g ps = 18 ∨ g ps = 28
      · rw [if_pos hs]
        have hlt : ps < N := hT.lt hps (by omega) (by omega)
        exact v_bd_ex (ih _ _ _ _ _ hlt (by omega) (by omega) (by omega) (by unfold v_fl; rw [if_pos (by omega)]; omega)) (fun r p ns1 e => ⟨_, rfl⟩)
      rw [if_neg hs]
      exact ih _ _ _ _ _ hps hdp (by omega) (by omega) (by unfold v_fl; rw [if_pos (by omega)]; omega)
    rw [if_neg h5]
    by_cases h6 : md = 6
    · rw [if_pos h6]
      rw [if_pos (by omega)] at hn
      by_cases hl : v_lf (g ps) = true
      · rw [if_pos hl]
        have hlt : ps < N := hT.lt hps (v_lf_ne hl).1 (v_lf_ne hl).2
        exact ih _ _ _ _ _ hlt hdp (by omega) (by omega) (by unfold v_fl; rw [if_neg (by omega)]; omega)
      rw [if_neg hl]
      by_cases ho : g ps = 11
      · rw [if_pos ho]
        have hlt : ps < N := hT.lt hps (by omega) (by omega)
        refine v_bd_ex (ih _ _ _ _ _ hlt (by omega) (by omega) (by omega) (by unfold v_fl; rw [if_pos (by omega)]; omega)) (fun r p ns1 e => ?_)
        obtain ⟨_, a1, a2, a3, a4, _⟩ := v_pz_post hT _ _ _ _ _ _ _ _ _ e hlt (by omega) (by omega) (by omega)
        by_cases hc : g p = 12
        · rw [if_pos hc]
          have hlt1 : p < N := hT.lt a2 (by omega) (by omega)
          exact ih _ _ _ _ _ hlt1 hdp (by omega) (by omega) (by unfold v_fl; rw [if_neg (by omega)]; omega)
        · rw [if_neg hc]; exact ⟨_, rfl⟩
      · rw [if_neg ho]; exact ⟨_, rfl⟩
    rw [if_neg h6]
    rw [if_neg (by omega)] at hn
    by_cases h16 : md = 16
    · rw [if_pos h16]
      by_cases hd : g ps = 16
      · rw [if_pos hd]
        have hlt : ps < N := hT.lt hps (by omega) (by omega)
        by_cases ha : v_at (g (ps + 1)) = true
        · rw [if_pos ha]
          have ha' := v_at_ne ha
          have hlt1 : ps + 1 < N := hT.lt hlt (by omega) (by omega)
          exact ih _ _ _ _ _ hlt1 hdp (by omega) (by omega) (by unfold v_fl; rw [if_neg (by omega)]; omega)
        · rw [if_neg ha]; exact ⟨_, rfl⟩
      · rw [if_neg hd]; exact ⟨_, rfl⟩
    rw [if_neg h16]
    by_cases hv : v_lv (g ps) = md - 10
    · rw [if_pos hv]
      have hv5 : v_lv (g ps) < 5 := by omega
      have hlt : ps < N := hT.lt hps (v_lv_lt hv5).1 (v_lv_lt hv5).2
      by_cases hh : g ps = 26
      · rw [if_pos hh]
        by_cases ha : v_at (g (ps + 1)) = true
        · rw [if_pos ha]; exact ⟨_, rfl⟩
        · rw [if_neg ha]; exact ⟨_, rfl⟩
      · rw [if_neg hh]
        refine v_bd_ex (ih _ _ _ _ _ hlt hdp (by omega) (by omega) (by unfold v_fl; rw [if_pos (by omega)]; omega)) (fun r p ns1 e => ?_)
        obtain ⟨_, a1, a2, a3, a4, _⟩ := v_pz_post hT _ _ _ _ _ _ _ _ _ e hlt hdp (by omega) (by omega)
        by_cases h12 : md = 12
        · rw [if_pos h12]; exact ⟨_, rfl⟩
        · rw [if_neg h12]
          exact ih _ _ _ _ _ a2 hdp (by omega) (by omega) (by unfold v_fl; rw [if_neg (by omega)]; omega)
    · rw [if_neg hv]; exact ⟨_, rfl⟩
