/-! THE CLASS SPLITS A TEXT as the function does. -/
abbrev v_Tk : Type := Nat × Nat × Nat
def v_tz (c : Nat → Nat) (n : Nat) : Nat → Nat → List v_Tk → Option (List v_Tk)
  | 0, _, _ => none
  | k + 1, p, ts => if p < n then (if (v_t1 c n p).1 = 33 then some (ts ++ [(33, 0, p)]) else v_tz c n k (v_en v_bl c n (v_t1 c n p).2.2) (ts ++ [((v_t1 c n p).1, (v_t1 c n p).2.1, p)])) else some (ts ++ [(32, 0, n)])
def v_pt (S : q_S) (z s : Nat) (p v : Int32) : q_S := q_sI (q_sI (q_sR S 1025 z (some s)) 1026 z p) 1027 z v
def v_TA (S : q_S) (ts : List v_Tk) : Prop := ∀ j s x p, ts[j]? = some (s, x, p) → q_rv S 1025 j = some s ∧ q_iv S 1026 j = nI p ∧ q_iv S 1027 j = nI x
def v_xt (a : Nat) : Bool := decide (1024 ≤ a) && decide (a ≤ 1027)
section VCSP
variable {d L : Nat} {xs : Nat → Int32} {S : q_S} {c : Nat → Nat} {n z p : Nat} {Q : Outcome → q_S → Prop}
theorem v_t1_q (hp : p < n) : p < (v_t1 c n p).2.2 ∧ (v_t1 c n p).2.2 ≤ n ∧ (v_t1 c n p).1 < 34 := by
  unfold v_t1
  have e1 := v_en_le v_dg c n p
  have e2 := v_en_le v_dg c n (p + 1)
  have e3 := v_en_le v_le c n p
  by_cases h1 : v_dg (c p) = true
  · have e4 := v_en_gt v_dg c n p hp h1
    rw [if_pos h1]
    split
    · exact ⟨e4, e1.2 (by omega), by show 33 < 34; omega⟩
    · exact ⟨e4, e1.2 (by omega), by show 30 < 34; omega⟩
  rw [if_neg h1]
  by_cases h2 : c p = 64
  · rw [if_pos h2]
    split
    · exact ⟨by show p < v_en v_dg c n (p + 1); omega, e2.2 (by omega), by show 33 < 34; omega⟩
    · split
      · exact ⟨by show p < v_en v_dg c n (p + 1); omega, e2.2 (by omega), by show 33 < 34; omega⟩
      · exact ⟨by show p < v_en v_dg c n (p + 1); omega, e2.2 (by omega), by show 31 < 34; omega⟩
  rw [if_neg h2]
  by_cases h3 : v_le (c p) = true
  · rw [if_pos h3]
    exact ⟨v_en_gt v_le c n p hp h3, e3.2 (by omega), v_spl_lt _ _ _⟩
  rw [if_neg h3]
  split
  · exact ⟨by show p < p + 1; omega, by show p + 1 ≤ n; omega, v_spl_lt _ _ _⟩
  · rename_i h4
    exact ⟨by show p < p + 2; omega, by show p + 2 ≤ n; omega, v_spl_lt _ _ _⟩
theorem x29 (hW : w_W (q_S0 L xs) S) (hs : v_CS S c n z) (hp : p < n) (hz : z < 101) (k : Q (.returned (some (.int (nI (v_t1 c n p).2.2)))) (v_pt S z (v_t1 c n p).1 (nI p) (nI (v_t1 c n p).2.1))) : w_X (d + 7) 29 [.ref 1024, .int (nI p)] S Q := by
  have hn := hs.b
  have ptW : ∀ s x, s < 34 → w_W (q_S0 L xs) (v_pt S z s (nI p) x) := fun s x hsx => ((hW.sR (by decide) (w_nfA (by decide +kernel))).sI (by decide)).sI (by decide)
  have ptS : ∀ s x, v_CS (v_pt S z s (nI p) x) c n z := fun s x => by
    obtain ⟨h1, h2, h3, h4, h5⟩ := hs
    refine ⟨⟨h1.1, fun j hj => ?_⟩, ?_, ?_, ?_, h5⟩
    · show q_iv (q_sI (q_sI _ 1026 z _) 1027 z _) 1001 j = _ ∧ _
      rw [v_aI (by decide), v_aI (by decide)]; exact h1.2 j hj
    · show q_rv (q_sR S 1025 z _) 1024 3 = _
      rw [v_aR (by decide)]; exact h2
    · show q_iv (q_sI (q_sI _ 1026 z _) 1027 z _) 1024 4 = _
      rw [v_aI (by decide), v_aI (by decide)]; exact h3
    · show q_iv (q_sI (q_sI _ 1026 z _) 1027 z _) 1024 5 = _
      rw [v_aI (by decide), v_aI (by decide)]; exact h4
  have mark : ¬ v_dg (c p) = true → ¬ c p = 64 → ¬ v_le (c p) = true → w_X (d + 6) 38 [.ref 1024, .int (nI p)] S (w_k (d + 7) 29 49 [(0, .ref 1024), (1, .int (nI p))] [] Q) := by
    intro h1 h2 h3
    unfold v_t1 at k
    rw [if_neg h1, if_neg h2, if_neg h3] at k
    refine t38_0 hW hs hp (fun h => ?_) (fun h h' => ?_) (fun h h' => ?_)
    · rw [if_pos (Or.inl h)] at k
      exact t29_52m (d := d + 1) hW hs hp (by omega) (by omega) hz k
    · rw [if_pos (Or.inr h')] at k
      exact t29_52m (d := d + 1) hW hs hp (by omega) (by omega) hz k
    · rw [if_neg (fun z => z.elim h h')] at k
      exact t29_52m (d := d + 1) hW hs hp (by omega) (by omega) hz k
  have lets : ¬ v_dg (c p) = true → ¬ c p = 64 → v_le (c p) = true → Q (.returned (some (.int (nI (v_en v_le c n p))))) (v_pt S z (v_spl c p (v_en v_le c n p)) (nI p) 0) := by
    intro h1 h2 h3
    unfold v_t1 at k
    rw [if_neg h1, if_neg h2, if_pos h3] at k
    exact k
  have name : ¬ v_dg (c p) = true → c p = 64 → w_X (d + 6) 35 [.ref 1024, .int (nI p)] S (w_k (d + 7) 29 28 [] [] Q) := by
    intro h1 h2
    have he := v_en_le v_dg c n (p + 1)
    unfold v_t1 at k
    rw [if_neg h1, if_pos h2] at k
    refine t35_0 (d := d + 4) hW hs hp hz (fun a b => ?_) (fun a b => ?_) (fun a b => ?_) (fun a b e => ?_) (fun a b e => ?_)
    · omega
    · rw [if_pos (by omega)] at k
      exact t29_31r (ptW 33 0 (by decide)) (ptS 33 0) k
    · rw [if_pos (by omega)] at k
      exact t29_31r (ptW 33 0 (by decide)) (ptS 33 0) k
    · rw [if_neg (by omega), if_pos e] at k
      exact t29_31r (ptW 33 0 (by decide)) (ptS 33 0) k
    · rw [if_neg (by omega), if_neg e] at k
      exact t29_31r (ptW 31 _ (by decide)) (ptS 31 _) k
  have nume : v_dg (c p) = true → w_X (d + 6) 31 [.ref 1024, .int (nI p)] S (w_k (d + 7) 29 16 [] [] Q) := by
    intro h1
    unfold v_t1 at k
    rw [if_pos h1] at k
    refine t31_0 (d := d + 4) hW hs hp hz (fun a => ?_) (fun a => ?_)
    · rw [if_pos a] at k
      exact t29_19r (ptW 33 0 (by decide)) (ptS 33 0) k
    · rw [if_neg a] at k
      exact t29_19r (ptW 30 _ (by decide)) (ptS 30 _) k
  have nd : ∀ {x}, (x < 48 ∨ 57 < x) → ¬ v_dg x = true := fun h z => by have := v_dg_b z; omega
  have nl : ∀ {x}, (x < 97 ∨ 122 < x) → ¬ v_le x = true := fun h z => by have := v_le_b z; omega
  refine t29_0 (d := d + 1) hW hs hp hz (fun a b e => mark (nd (Or.inl a)) b (nl (Or.inl e))) (fun a b e f => mark (nd (Or.inl a)) b (nl (Or.inr f))) (fun a b e f => lets (nd (Or.inl a)) b (v_le_i (by omega) (by omega))) (fun a b => name (nd (Or.inl a)) b) (fun a a' b e => mark (nd (Or.inr a')) b (nl (Or.inl e))) (fun a a' b e f => mark (nd (Or.inr a')) b (nl (Or.inr f))) (fun a a' b e f => lets (nd (Or.inr a')) b (v_le_i (by omega) (by omega))) (fun a a' b => name (nd (Or.inr a')) b) (fun a a' => nume (v_dg_i (by omega) (by omega)))
theorem v_TA.add {ts : List v_Tk} {s x q : Nat} (h : v_TA S ts) : v_TA (v_pt S ts.length s (nI q) (nI x)) (ts ++ [(s, x, q)]) := by
  intro j s' x' p' hj
  unfold v_pt
  by_cases hjc : j = ts.length
  · subst hjc
    rw [v_last] at hj
    cases hj
    refine ⟨?_, ?_, v_hI⟩
    · exact v_hR
    · rw [v_aI (by decide)]; exact v_hI
  · have hlt : j < ts.length := by
      obtain ⟨hi, _⟩ := List.getElem?_eq_some_iff.mp hj
      rw [List.length_append] at hi
      have : ([(s, x, q)] : List v_Tk).length = 1 := rfl
      omega
    rw [List.getElem?_append_left hlt] at hj
    obtain ⟨a1, a2, a3⟩ := h j s' x' p' hj
    refine ⟨?_, ?_, ?_⟩
    · show q_rv (q_sR S 1025 ts.length _) 1025 j = _
      rw [v_kR hjc]; exact a1
    · rw [v_aI (by decide), v_kI hjc]; exact a2
    · rw [v_kI hjc, v_aI (by decide)]; exact a3
def v_cx (S S' : q_S) : Prop := v_fr v_xt S S' ∧ ∀ k, k ≠ 5 → q_iv S' 1024 k = q_iv S 1024 k
theorem v_cx.trans {S1 S2 : q_S} (h : v_cx S S1) (h' : v_cx S1 S2) : v_cx S S2 := ⟨h.1.trans h'.1, fun k hk => (h'.2 k hk).trans (h.2 k hk)⟩
theorem v_pt_cx {s : Nat} {q x : Int32} : v_cx S (v_pt S z s q x) := ⟨((v_fr.refl.sR rfl).sI rfl).sI rfl, fun k _ => by
  show q_iv (q_sI (q_sI _ 1026 z _) 1027 z _) 1024 k = _
  rw [v_aI (by decide)]; exact v_aI (by decide)⟩
theorem v_csplit : ∀ k p ts S T, v_tz c n k p ts = some T → w_W (q_S0 L xs) S → v_CS S c n ts.length → v_TA S ts → ts.length ≤ p → p ≤ n → (∀ S', w_W (q_S0 L xs) S' → v_cx S S' → q_iv S' 1024 5 = nI (T.length - 1) → v_TA S' T → Q (.returned none) S') → w_R (d + 8) 26 34 [(0, .ref 1024), (3, .int (nI p)), (4, .int (nI ts.length))] [] S Q := by
  intro k
  induction k with
  | zero => intro p ts S T h; cases h
  | succ k ih =>
    intro p ts S T h hW hs hA htp hpn kk
    have hn := hs.b
    have hlen : ∀ x : v_Tk, (ts ++ [x]).length = ts.length + 1 := fun x => by rw [List.length_append]; rfl
    unfold v_tz at h
    have ptW : ∀ s q x, w_W (q_S0 L xs) (v_pt S ts.length s q x) := fun s q x => ((hW.sR (by decide) (w_nfA (by decide +kernel))).sI (by decide)).sI (by decide)
    have ptz : ∀ s q x, q_iv (v_pt S ts.length s q x) 1024 5 = nI ts.length := fun s q x => by
      show q_iv (q_sI (q_sI _ 1026 _ _) 1027 _ _) 1024 5 = _
      rw [v_aI (by decide), v_aI (by decide)]; exact hs.sz
    by_cases hp : p < n
    · rw [if_pos hp] at h
      obtain ⟨q1, q2, q3⟩ := v_t1_q (c := c) hp
      refine t26_34s (d := d + 7) hW hs (by omega) hp (by omega) (by omega) ?_
      refine x29 hW hs hp (by omega) ?_
      have hW1 := ptW (v_t1 c n p).1 (nI p) (nI (v_t1 c n p).2.1)
      have hs1 : v_CS (v_pt S ts.length (v_t1 c n p).1 (nI p) (nI (v_t1 c n p).2.1)) c n ts.length := by
        obtain ⟨h1, h2, h3, h4, h5⟩ := hs
        refine ⟨⟨h1.1, fun j hj => ?_⟩, ?_, ?_, ptz _ _ _, h5⟩
        · show q_iv (q_sI (q_sI _ 1026 _ _) 1027 _ _) 1001 j = _ ∧ _
          rw [v_aI (by decide), v_aI (by decide)]; exact h1.2 j hj
        · show q_rv (q_sR S 1025 _ _) 1024 3 = _
          rw [v_aR (by decide)]; exact h2
        · show q_iv (q_sI (q_sI _ 1026 _ _) 1027 _ _) 1024 4 = _
          rw [v_aI (by decide), v_aI (by decide)]; exact h3
      by_cases h33 : (v_t1 c n p).1 = 33
      · rw [if_pos h33] at h
        cases h
        refine t26_54y hW1 hs1 v_hR q3 h33 (by omega) (by omega) (kk _ hW1 v_pt_cx ?_ ?_)
        · rw [hlen]; exact ptz _ _ _
        · have hv : (v_t1 c n p).2.1 = 0 := by
            revert h33
            unfold v_t1
            split
            · split
              · intro _; rfl
              · intro h; exact absurd h (by show ¬ 30 = 33; omega)
            · split
              · split
                · intro _; rfl
                · split
                  · intro _; rfl
                  · intro h; exact absurd h (by show ¬ 31 = 33; omega)
              · split
                · intro _; rfl
                · split
                  · intro _; rfl
                  · intro _; rfl
          rw [h33, hv]
          exact hA.add
      · rw [if_neg h33] at h
        refine t26_54n (d := d + 7) hW1 hs1 v_hR q3 q2 h33 (by omega) (by omega) ?_
        have hA1 : v_TA (q_sI (v_pt S ts.length (v_t1 c n p).1 (nI p) (nI (v_t1 c n p).2.1)) 1024 5 (nI (ts.length + 1))) (ts ++ [((v_t1 c n p).1, (v_t1 c n p).2.1, p)]) := by
          intro j s x r hj
          obtain ⟨a1, a2, a3⟩ := hA.add j s x r hj
          exact ⟨a1, by rw [v_aI (by decide)]; exact a2, by rw [v_aI (by decide)]; exact a3⟩
        have hs2 := hs1.nx (by omega)
        have e := v_en_le v_bl c n (v_t1 c n p).2.2
        have := ih (v_en v_bl c n (v_t1 c n p).2.2) (ts ++ [((v_t1 c n p).1, (v_t1 c n p).2.1, p)]) _ T h (hW1.sI (a := 1024) (k := 5) (x := nI (ts.length + 1)) (by decide)) (by rw [hlen]; exact hs2) hA1 (by rw [hlen]; omega) (e.2 q2) (fun S' a b e f => kk S' a ((v_pt_cx.trans ⟨v_fr.refl.sI rfl, fun k hk => v_kI hk⟩).trans b) e f)
        rw [hlen] at this
        exact this
    · rw [if_neg hp] at h
      cases h
      have fin : Q (.returned none) (v_pt S ts.length 32 (nI n) 0) := by
        refine kk _ (ptW _ _ _) v_pt_cx ?_ hA.add
        rw [hlen]; exact ptz _ _ _
      by_cases ht : 100 ≤ ts.length
      · exact t26_34x (d := d + 7) hW hs (by omega) (by omega) ht (by omega) fin
      · exact t26_34e (d := d + 7) hW hs (by omega) (by omega) ht hp fin
end VCSP
