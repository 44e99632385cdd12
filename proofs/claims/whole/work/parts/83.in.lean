/-! WITHIN AND ABOVE: both tell what is reached. -/
section VIN
variable {d L : Nat} {xs : Nat → Int32} {S : q_S} {Q : Outcome → q_S → Prop}
theorem v_g_0 {f : Nat → Int32} {s : Int32} {k : Nat} (h : v_b s k = false) : v_g f s (k + 1) = v_g f s k ||| 0 := by
  show v_g f s k ||| (if v_b s k = true then f k else 0) = _
  rw [h]
  rfl
theorem v_g_1 {f : Nat → Int32} {s : Int32} {k : Nat} (h : v_b s k = true) : v_g f s (k + 1) = v_g f s k ||| f k := by
  show v_g f s k ||| (if v_b s k = true then f k else 0) = _
  rw [h]
  rfl
theorem x83 {s : Int32} (hW : w_W (q_S0 L xs) S) (kk : Q (.returned (some (.int (v_f (q_iv S 1017) s)))) S) : w_X d 83 [.ref 1015, .int s] S Q := by
  have loop : ∀ j k, k + j = 16 → w_R d 83 4 [(0, .ref 1015), (1, .int s), (2, .int (v_g (q_iv S 1017) s k)), (3, .int (nI k))] [] S Q := by
    intro j
    induction j with
    | zero =>
      intro k hk
      have : k = 16 := by omega
      subst this
      exact b83_4 hW (by omega) (fun _ => kk) (fun h => absurd (by omega) h) (fun h => absurd (by omega) h)
    | succ j ih =>
      intro k hk
      refine b83_4 hW (by omega) (fun h => absurd h (by omega)) (fun _ h => ?_) (fun _ h => ?_)
      · rw [← v_g_0 ((v_tst0 s (by omega)).mp h)]
        exact ih (k + 1) (by omega)
      · have h1 : v_b s k = true := by
          cases hb : v_b s k with
          | true => rfl
          | false => exact absurd ((v_tst0 s (by omega)).mpr hb) h
        rw [← v_g_1 h1]
        exact ih (k + 1) (by omega)
  exact b83_0 hW (loop 16 0 rfl)
theorem x82 {e f : Nat} (hW : w_W (q_S0 L xs) S) (hf : f < 16) (kk : Q (.returned (some (.int (if v_b (v_up (q_iv S 1017) e) f then 1 else 0)))) S) : w_X (d + 1) 82 [.ref 1015, .int (nI e), .int (nI f)] S Q := by
  have loop : ∀ j k, k + j = 16 → w_R (d + 1) 82 7 [(0, .ref 1015), (2, .int (nI f)), (3, .int (v_it (q_iv S 1017) k ((1 : Int32) <<< (nI e &&& 31)))), (4, .int (nI k))] [] S Q := by
    intro j
    induction j with
    | zero =>
      intro k hk
      have : k = 16 := by omega
      subst this
      refine b82_7 hW (by omega) (fun _ h => ?_) (fun _ h => ?_) (fun h => absurd (by omega) h)
      · have h1 := (v_tst0 _ (by omega)).mp h
        unfold v_up at kk
        rw [h1] at kk
        exact kk
      · have h1 : v_b (v_it (q_iv S 1017) 16 ((1 : Int32) <<< (nI e &&& 31))) f = true := by
          cases hb : v_b (v_it (q_iv S 1017) 16 ((1 : Int32) <<< (nI e &&& 31))) f with
          | true => rfl
          | false => exact absurd ((v_tst0 _ (by omega)).mpr hb) h
        unfold v_up at kk
        rw [h1] at kk
        exact kk
    | succ j ih =>
      intro k hk
      refine b82_7 hW (by omega) (fun h => absurd h (by omega)) (fun h => absurd h (by omega)) (fun _ => ?_)
      refine x83 hW ?_
      refine b82_19 hW (by omega) ?_
      rw [← v_it_s]
      exact ih (k + 1) (by omega)
  exact b82_0 hW (loop 16 0 rfl)
theorem x178 {e : Nat} (hW : w_W (q_S0 L xs) S) (he : e < 16) (hf : ∀ k, k < 16 → v_lo (q_iv S 1119 k)) (kk : Q (.returned (some (.int (v_up (q_iv S 1119) e)))) S) : w_X d 178 [.ref 1097, .int (nI e)] S Q := by
  have inner : ∀ s, w_R d 178 6 [(0, .ref 1097), (2, .int (v_f (q_iv S 1119) s)), (3, .int s)] [] S Q → ∀ j k, k + j = 16 → w_R d 178 16 [(0, .ref 1097), (2, .int (v_g (q_iv S 1119) s k)), (3, .int s), (4, .int (nI k))] [] S Q := by
    intro s hs j
    induction j with
    | zero =>
      intro k hk
      have : k = 16 := by omega
      subst this
      exact b178_16 hW (by omega) (fun _ => hs) (fun h => absurd (by omega) h) (fun h => absurd (by omega) h)
    | succ j ih =>
      intro k hk
      refine b178_16 hW (by omega) (fun h => absurd h (by omega)) (fun _ h => ?_) (fun _ h => ?_)
      · have h1 : v_b s k = false := by
          cases hb : v_b s k with
          | false => rfl
          | true => exact absurd ((v_tst1 s (by omega)).mpr hb) h
        have h2 := v_g_0 (f := q_iv S 1119) h1
        rw [Int32.or_zero] at h2
        rw [← h2]
        exact ih (k + 1) (by omega)
      · rw [← v_g_1 ((v_tst1 s (by omega)).mp h)]
        exact ih (k + 1) (by omega)
  have h0 : v_lo ((1 : Int32) <<< (nI e &&& 31)) := v_one_lo e he
  have hc := v_one_cn e he
  have fin : ∀ i, v_f (q_iv S 1119) (v_it (q_iv S 1119) i ((1 : Int32) <<< (nI e &&& 31))) = v_it (q_iv S 1119) i ((1 : Int32) <<< (nI e &&& 31)) → Q (.returned (some (.int (v_it (q_iv S 1119) i ((1 : Int32) <<< (nI e &&& 31)))))) S := by
    intro i hi
    rw [v_fixU hf h0 hc i hi]
    exact kk
  have outer : ∀ n i b, 16 - v_cn (v_it (q_iv S 1119) i ((1 : Int32) <<< (nI e &&& 31))) 16 ≤ n → (v_it (q_iv S 1119) i ((1 : Int32) <<< (nI e &&& 31)) = b → v_f (q_iv S 1119) (v_it (q_iv S 1119) i ((1 : Int32) <<< (nI e &&& 31))) = v_it (q_iv S 1119) i ((1 : Int32) <<< (nI e &&& 31))) → w_R d 178 6 [(0, .ref 1097), (2, .int (v_it (q_iv S 1119) i ((1 : Int32) <<< (nI e &&& 31)))), (3, .int b)] [] S Q := by
    intro n
    induction n with
    | zero =>
      intro i b hn hb
      refine b178_6 hW (fun h => fin i (hb h)) (fun _ => ?_)
      refine inner _ ?_ 16 0 rfl
      have hfx : v_f (q_iv S 1119) (v_it (q_iv S 1119) i ((1 : Int32) <<< (nI e &&& 31))) = v_it (q_iv S 1119) i ((1 : Int32) <<< (nI e &&& 31)) := by
        by_cases hne : v_f (q_iv S 1119) (v_it (q_iv S 1119) i ((1 : Int32) <<< (nI e &&& 31))) = v_it (q_iv S 1119) i ((1 : Int32) <<< (nI e &&& 31))
        · exact hne
        · have h1 := v_grow hf (v_it_lo hf h0 i) hne
          have h2 := v_cn_le (v_f (q_iv S 1119) (v_it (q_iv S 1119) i ((1 : Int32) <<< (nI e &&& 31)))) 16
          omega
      rw [hfx]
      exact b178_6 hW (fun _ => fin i hfx) (fun h => absurd rfl h)
    | succ n ih =>
      intro i b hn hb
      refine b178_6 hW (fun h => fin i (hb h)) (fun _ => ?_)
      refine inner _ ?_ 16 0 rfl
      by_cases hne : v_f (q_iv S 1119) (v_it (q_iv S 1119) i ((1 : Int32) <<< (nI e &&& 31))) = v_it (q_iv S 1119) i ((1 : Int32) <<< (nI e &&& 31))
      · rw [hne]
        exact b178_6 hW (fun _ => fin i hne) (fun h => absurd rfl h)
      · have h1 := v_grow hf (v_it_lo hf h0 i) hne
        have h2 := ih (i + 1) (v_it (q_iv S 1119) i ((1 : Int32) <<< (nI e &&& 31)))
        rw [v_it_s] at h2
        exact h2 (by omega) (fun z => absurd z hne)
  refine b178_0 hW (outer 16 0 0 (by omega) (fun z => ?_))
  have hz : (1 : Int32) <<< (nI e &&& 31) = 0 := z
  rw [hz] at hc
  exact absurd hc (by decide +kernel)
end VIN
