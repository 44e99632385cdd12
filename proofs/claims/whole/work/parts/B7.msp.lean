/-! THE REFERENCE SCANS A TEXT as the function does. -/
def v_MA (S : q_S) (ts : List v_Tk) : Prop := ∀ j s x p, ts[j]? = some (s, x, p) → q_iv S 1099 (606 + j) = nI (v_wc s) ∧ q_iv S 1101 (606 + j) = nI p ∧ (s ≠ 33 → q_iv S 1100 (606 + j) = nI x)
/-- what the reference keeps of the tokens -/
def v_mk1 (T : List v_Tk) (ts : List v_Tk) : Prop := (∃ n, T = ts ++ [(32, 0, n)]) ∨ (T = ts ∧ ∃ us p, ts = us ++ [(33, 0, p)])
section VMSP
variable {d L : Nat} {xs : Nat → Int32} {S : q_S} {c : Nat → Nat} {n z p : Nat} {Q : Outcome → q_S → Prop}
theorem v_mt_o {w x q : Int32} {a j : Nat} (h : a < 1099 ∨ 1102 < a) : q_iv (v_mt S z w x q) a j = q_iv S a j := by
  unfold v_mt
  rw [v_aI (by omega), v_aI (by omega), v_aI (by omega), v_aI (by omega)]
theorem v_mt_MS {w x q : Int32} (h : v_MS S c n z) (hz : z < 101) : v_MS (v_mt S z w x q) c n (z + 1) := by
  obtain ⟨⟨h1, h2⟩, h3, h4, h5⟩ := h
  refine ⟨⟨h1, fun j hj => ?_⟩, ?_, v_hI, hz⟩
  · rw [v_mt_o (by omega)]; exact h2 j hj
  · rw [v_mt_o (by omega)]; exact h3
theorem v_mt_W {w x q : Int32} (h : w_W (q_S0 L xs) S) : w_W (q_S0 L xs) (v_mt S z w x q) := (((h.sI (by decide)).sI (by decide)).sI (by decide)).sI (by decide)
theorem v_mt_md {w x q : Int32} : v_md S (v_mt S z w x q) := (((v_md.refl.w (by unfold v_dr; omega)).w (by unfold v_dr; omega)).w (by unfold v_dr; omega)).w (by unfold v_dr; omega)
theorem v_mt_9 {w x q : Int32} {j : Nat} : q_iv (v_mt S z w x q) 1099 (606 + j) = if j = z then w else q_iv S 1099 (606 + j) := by
  unfold v_mt
  rw [v_aI (by decide), v_aI (by decide), v_aI (by decide)]
  by_cases h : j = z
  · rw [if_pos h, h]; exact v_hI
  · rw [if_neg h]; exact v_kI (by omega)
theorem v_mt_0 {w x q : Int32} {j : Nat} : q_iv (v_mt S z w x q) 1100 (606 + j) = if j = z then x else q_iv S 1100 (606 + j) := by
  unfold v_mt
  rw [v_aI (by decide), v_aI (by decide)]
  by_cases h : j = z
  · rw [if_pos h, h]; exact v_hI
  · rw [if_neg h, v_kI (by omega)]; exact v_aI (by decide)
theorem v_mt_1 {w x q : Int32} {j : Nat} : q_iv (v_mt S z w x q) 1101 (606 + j) = if j = z then q else q_iv S 1101 (606 + j) := by
  unfold v_mt
  rw [v_aI (by decide)]
  by_cases h : j = z
  · rw [if_pos h, h]; exact v_hI
  · rw [if_neg h, v_kI (by omega), v_aI (by decide)]; exact v_aI (by decide)
theorem v_MA.add {ts : List v_Tk} {s x q : Nat} {y : Int32} (h : v_MA S ts) (hy : s ≠ 33 → y = nI x) : v_MA (v_mt S ts.length (nI (v_wc s)) y (nI q)) (ts ++ [(s, x, q)]) := by
  intro j s' x' p' hj
  rw [v_mt_9, v_mt_0, v_mt_1]
  by_cases hjc : j = ts.length
  · subst hjc
    rw [v_last] at hj
    cases hj
    rw [if_pos rfl, if_pos rfl, if_pos rfl]
    exact ⟨rfl, rfl, hy⟩
  · rw [if_neg hjc, if_neg hjc, if_neg hjc]
    have hlt : j < ts.length := by
      obtain ⟨hi, _⟩ := List.getElem?_eq_some_iff.mp hj
      rw [List.length_append] at hi
      have : ([(s, x, q)] : List v_Tk).length = 1 := rfl
      omega
    rw [List.getElem?_append_left hlt] at hj
    exact h j s' x' p' hj
theorem v_msplit : ∀ f k p ts S T, n - p ≤ f → v_tz c n k (v_en v_bl c n p) ts = some T → w_W (q_S0 L xs) S → v_MS S c n ts.length → v_MA S ts → ts.length ≤ p → p ≤ n → (∀ S' us, w_W (q_S0 L xs) S' → v_md S S' → v_mk1 T us → v_MS S' c n us.length → v_MA S' us → Q (.returned none) S') → w_R (d + 3) 149 10 [(0, .ref 1097), (1, .int (nI p))] [] S Q := by
  intro f
  induction f with
  | zero =>
    intro k p ts S T hf h hW hs hA htp hpn kk
    have hn := hs.b
    rw [v_en_no v_bl c n p (by omega)] at h
    cases k with
    | zero => cases h
    | succ k =>
      unfold v_tz at h
      rw [if_neg (by omega)] at h
      cases h
      exact r149_10e hW hs (by omega) (by omega) (kk S ts hW v_md.refl (Or.inl ⟨n, rfl⟩) hs hA)
  | succ f ih =>
    intro k p ts S T hf h hW hs hA htp hpn kk
    have hn := hs.b
    by_cases hp : p < n
    · by_cases h32 : c p = 32
      · rw [v_en_yes v_bl c n p hp (decide_eq_true h32)] at h
        exact r149_10b hW hs hp (by omega) h32 (ih k (p + 1) ts S T (by omega) h hW hs hA (by omega) (by omega) kk)
      · rw [v_en_no v_bl c n p (fun z => h32 (of_decide_eq_true z.2))] at h
        cases k with
        | zero => cases h
        | succ k =>
          unfold v_tz at h
          rw [if_pos hp] at h
          obtain ⟨q1, q2, q3⟩ := v_t1_q (c := c) hp
          have hlen : ∀ x : v_Tk, (ts ++ [x]).length = ts.length + 1 := fun x => by rw [List.length_append]; rfl
          refine r149_10t (d := d + 2) hW hs hp (by omega) h32 ?_
          refine x150 hW hs hp (by omega) h32 (fun h33 => ?_) (fun h33 y x => ?_)
          · rw [if_neg h33] at h
            have hs1 := v_mt_MS (w := nI (v_wc (v_t1 c n p).1)) (x := nI (v_t1 c n p).2.1) (q := nI p) hs (by omega)
            have hw3 : ¬ v_wc (v_t1 c n p).1 = 3 := fun z => h33 (v_wc_inj _ q3 33 (by decide) z)
            refine r149_sn (w := v_wc (v_t1 c n p).1) (v_mt_W hW) hs1 ?_ (v_wc_all _) hw3 (by omega) ?_
            · show q_iv _ 1099 (606 + ts.length) = _
              rw [v_mt_9, if_pos rfl]
            · refine ih k (v_t1 c n p).2.2 _ _ T (by omega) h (v_mt_W hW) (by rw [hlen]; exact hs1) (hA.add (fun _ => rfl)) (by rw [hlen]; omega) q2 (fun S' us a b e f g => kk S' us a (v_mt_md.trans b) e f g)
          · rw [if_pos h33] at h
            cases h
            have hs1 := v_mt_MS (w := 3) (x := x) (q := nI p) hs (by omega)
            refine r149_sy (w := 3) (v_mt_W hW) hs1 ?_ (by omega) rfl ?_
            · show q_iv _ 1099 (606 + ts.length) = _
              rw [v_mt_9, if_pos rfl]
              rfl
            · have hA1 : v_MA (v_mt S ts.length 3 x (nI p)) (ts ++ [(33, 0, p)]) := by
                have h3 := hA.add (s := 33) (x := 0) (q := p) (y := x) (fun z => absurd rfl z)
                rw [show nI (v_wc 33) = 3 from by decide] at h3
                exact h3
              refine r149_10e (v_mt_W hW) hs1 (Nat.le_refl _) (by omega) (kk _ _ (v_mt_W hW) v_mt_md (Or.inr ⟨rfl, ts, p, rfl⟩) (by rw [hlen]; exact hs1) hA1)
    · rw [v_en_no v_bl c n p (by omega)] at h
      cases k with
      | zero => cases h
      | succ k =>
        unfold v_tz at h
        rw [if_neg hp] at h
        cases h
        exact r149_10e hW hs (by omega) (by omega) (kk S ts hW v_md.refl (Or.inl ⟨n, rfl⟩) hs hA)
end VMSP
