/-! CONDITIONS: the function, and how the class reads them. -/
abbrev v_Cd : Type := Nat × Nat × Nat
def v_cs (g v : Nat → Nat) : Nat → Nat → List v_Nd → List v_Cd → Option (Bool × Nat × List v_Nd × List v_Cd)
  | 0, _, _, _ => none
  | n + 1, p, ns, cs =>
    if g p = 32 then some (true, p, ns, cs)
    else if g p = 2 ∨ g p = 3 then
      if g (p + 1) = 13 then
        match v_pz g v 2000 0 0 0 (p + 2) ns with
        | none => none
        | some (none, q, ns') => some (false, q, ns', cs)
        | some (some r, q, ns') => if g q = 14 then v_cs g v n (q + 1) ns' (cs ++ [((if g p = 2 then 1 else 0), p, r)]) else some (false, q, ns', cs)
      else some (false, p + 1, ns, cs)
    else some (false, p, ns, cs)
def v_ln (s : Nat) : Nat := if s = 0 ∨ s = 1 ∨ s = 3 then 6 else if s = 2 then 4 else 1
def v_TG (N : Nat) (g pl : Nat → Nat) : Prop := ∀ j, j < N → pl j + v_ln (g j) ≤ pl (j + 1)
theorem v_ln_pos (s : Nat) : 1 ≤ v_ln s := by
  unfold v_ln
  split
  · omega
  · split <;> omega
theorem v_TG.mono {N : Nat} {g pl : Nat → Nat} (h : v_TG N g pl) {j : Nat} : ∀ k, j + k ≤ N → pl j + k ≤ pl (j + k) := by
  intro k
  induction k with
  | zero => intro _; exact Nat.le_refl _
  | succ k ih =>
    intro hk
    have h1 := ih (by omega)
    have h2 := h (j + k) (by omega)
    have h3 := v_ln_pos (g (j + k))
    have e : j + (k + 1) = j + k + 1 := by omega
    rw [e]
    omega
theorem v_TG.cond {N : Nat} {g pl : Nat → Nat} (h : v_TG N g pl) {p q : Nat} (hp : g p = 2 ∨ g p = 3) (hq : p + 2 < q) (hN : q < N) : pl p + 7 ≤ pl (q + 1) := by
  have h1 := h p (by omega)
  have h2 : 4 ≤ v_ln (g p) := by
    rcases hp with z | z <;> rw [z] <;> decide
  have h3 := h.mono (j := p + 1) (q + 1 - (p + 1)) (by omega)
  have e : p + 1 + (q + 1 - (p + 1)) = q + 1 := by omega
  rw [e] at h3
  omega
def v_CC (S : q_S) (P : Nat) (pl : Nat → Nat) (cs : List v_Cd) : Prop := q_iv S P 6 = nI cs.length ∧ ∀ j w t r, cs[j]? = some (w, t, r) → q_iv S (P + 3) j = nI w ∧ q_iv S (P + 4) j = nI (pl t) ∧ q_iv S (P + 5) j = nI r
def v_c71 (S : q_S) (P c : Nat) (w p r : Int32) : q_S := q_sI (q_sI (q_sI (q_sI S (P + 3) c w) (P + 4) c p) (P + 5) c r) P 6 (nI (c + 1))
section VCCD
variable {d L : Nat} {xs : Nat → Int32} {S S' : q_S} {P N i : Nat} {g v pl : Nat → Nat} {ns : List v_Nd} {cs : List v_Cd} {Q : Outcome → q_S → Prop}
theorem v_CC.same (h : v_CC S P pl cs) (h6 : q_iv S' P 6 = q_iv S P 6) (hm : ∀ m j, 3 ≤ m → m ≤ 5 → q_iv S' (P + m) j = q_iv S (P + m) j) : v_CC S' P pl cs := by
  refine ⟨h6.trans h.1, fun j w t r hj => ?_⟩
  rw [hm 3 j (by omega) (by omega), hm 4 j (by omega) (by omega), hm 5 j (by omega) (by omega)]
  exact h.2 j w t r hj
theorem v_CC.cr (h : v_CC S P pl cs) (hr : w_P P) (hc : v_cr P S S') : v_CC S' P pl cs := by
  have := hr.rng
  exact h.same (hc.2 P 6 (by omega)) (fun m j h1 h2 => hc.2 (P + m) j (by omega))
theorem v_CC.add {w t r : Nat} (h : v_CC S P pl cs) : v_CC (v_c71 S P cs.length (nI w) (nI (pl t)) (nI r)) P pl (cs ++ [(w, t, r)]) := by
  refine ⟨?_, fun j w' t' r' hj => ?_⟩
  · rw [List.length_append]
    exact v_hI
  · unfold v_c71
    by_cases hjc : j = cs.length
    · subst hjc
      rw [v_last] at hj
      cases hj
      refine ⟨?_, ?_, ?_⟩
      · rw [v_aI (by omega), v_aI (by omega), v_aI (by omega)]; exact v_hI
      · rw [v_aI (by omega), v_aI (by omega)]; exact v_hI
      · rw [v_aI (by omega)]; exact v_hI
    · have hlt : j < cs.length := by
        obtain ⟨hi, _⟩ := List.getElem?_eq_some_iff.mp hj
        rw [List.length_append] at hi
        have : ([(w, t, r)] : List v_Cd).length = 1 := rfl
        omega
      rw [List.getElem?_append_left hlt] at hj
      obtain ⟨a1, a2, a3⟩ := h.2 j w' t' r' hj
      refine ⟨?_, ?_, ?_⟩
      · rw [v_aI (by omega), v_aI (by omega), v_aI (by omega), v_kI hjc]; exact a1
      · rw [v_aI (by omega), v_aI (by omega), v_kI hjc, v_aI (by omega)]; exact a2
      · rw [v_aI (by omega), v_kI hjc, v_aI (by omega), v_aI (by omega)]; exact a3
/-- what the conditions may change -/
def v_cz (P : Nat) (S S' : q_S) : Prop := v_fr (v_xp P) S S' ∧ (∀ j, j ≠ 6 → j ≠ 10 → q_iv S' P j = q_iv S P j) ∧ ∀ m j, 1 ≤ m → m ≤ 2 → q_iv S' (P + m) j = q_iv S (P + m) j
theorem v_cz.refl : v_cz P S S := ⟨v_fr.refl, fun _ _ _ => rfl, fun _ _ _ _ => rfl⟩
theorem v_cz.trans {S1 S2 : q_S} (h : v_cz P S S1) (h' : v_cz P S1 S2) : v_cz P S S2 := ⟨h.1.trans h'.1, fun j a b => (h'.2.1 j a b).trans (h.2.1 j a b), fun m j a b => (h'.2.2 m j a b).trans (h.2.2 m j a b)⟩
theorem v_cz.cr (hp : w_P P) (h : v_cr P S S') : v_cz P S S' := by
  have := hp.rng
  exact ⟨h.1, fun j a b => h.2 P j (by omega), fun m j a b => h.2 (P + m) j (by omega)⟩
theorem v_c71_cz {c : Nat} {w p r : Int32} : v_cz P S (v_c71 S P c w p r) := by
  refine ⟨(((v_fr.refl.sI (v_xpP P 3 (by omega))).sI (v_xpP P 4 (by omega))).sI (v_xpP P 5 (by omega))).sI (v_xp0 P), fun j a b => ?_, fun m j a b => ?_⟩
  · unfold v_c71
    rw [v_kI a, v_aI (by omega), v_aI (by omega), v_aI (by omega)]
  · unfold v_c71
    rw [v_aI (by omega), v_aI (by omega), v_aI (by omega), v_aI (by omega)]
theorem v_c71_W {c : Nat} {w p r : Int32} (hp : w_P P) (h : w_W (q_S0 L xs) S) : w_W (q_S0 L xs) (v_c71 S P c w p r) := by
  have := hp.ge
  exact (((h.sI (by omega)).sI (by omega)).sI (by omega)).sI (by omega)
theorem v_c71_CP {c : Nat} {w p r : Int32} (h : v_CP S P N g v pl i ns) : v_CP (v_c71 S P c w p r) P N g v pl i ns := (((h.pw (by omega)).pw (by omega)).pw (by omega)).pw (by omega)
theorem v_w01 (b : Prop) [Decidable b] : vp_nar .boolean (nI (if b then 1 else 0)) = nI (if b then 1 else 0) := by
  split <;> decide
theorem v_cconds (hG : v_TG N g pl) : ∀ n i ns cs t S ok p ns' cs', v_cs g v n i ns cs = some (ok, p, ns', cs') → w_W (q_S0 L xs) S → v_CP S P N g v pl i ns → v_CC S P pl cs → 13 + 7 * cs.length ≤ pl i → t < i → 400 ≤ d → (∀ S', w_W (q_S0 L xs) S' → v_cz P S S' → v_CP S' P N g v pl p ns' → v_CC S' P pl cs' → Q (.returned (some (.int (if ok then 1 else 0)))) S') → w_R (d + 2) 57 2 [(0, .ref 1023), (1, .int (nI t))] [] S Q := by
  intro n
  induction n with
  | zero => intro i ns cs t S ok p ns' cs' h; cases h
  | succ n ih =>
    intro i ns cs t S ok p ns' cs' h hW hC hCC hpl ht hd k
    have hb := hC.bd
    have hT := hC.tk
    have hp := hC.wp
    unfold v_cs at h
    by_cases h32 : g i = 32
    · rw [if_pos h32] at h
      cases h
      exact c57_2 hW hC (by omega) (by omega) (fun _ => k S hW v_cz.refl hC hCC) (fun z => absurd h32 z)
    rw [if_neg h32] at h
    refine c57_2 hW hC (by omega) (by omega) (fun z => absurd z h32) (fun _ => ?_)
    -- readCondition
    have beg : (g i = 2 ∨ g i = 3) → ∀ ww : Nat, ww = (if g i = 2 then 1 else 0) → w_X d 51 [.ref 1024, .ref 13] (v_nx S (i + 1)) (w_k (d + 1) 58 60 [(0, .ref 1023), (1, .int (nI ww)), (2, .int (nI (pl i)))] [] (w_k (d + 2) 57 22 [(0, .ref 1023), (1, .int (nI t))] [] Q)) := by
      intro h23 ww hww
      rw [if_pos h23] at h
      obtain ⟨d', rfl⟩ : ∃ e, d = e + 1 := ⟨d - 1, by omega⟩
      have hlt : i < N := hT.lt hb.1 (by omega) (by omega)
      have hW1 := v_nx_W (i := i + 1) hW
      have hC1 := hC.step hlt
      have hCC1 : v_CC (v_nx S (i + 1)) P pl cs := hCC.cr hp v_nx_x
      refine x51 hW1 hC1 (by decide) (fun h13 => ?_) (fun h13 => ?_)
      · rw [if_pos h13] at h
        have hlt1 : i + 1 < N := hT.lt hlt (by omega) (by omega)
        have hW2 := v_nx_W (i := i + 2) hW1
        have hC2 : v_CP (v_nx (v_nx S (i + 1)) (i + 2)) P N g v pl (i + 2) ns := hC1.step hlt1
        have hcr2 : v_cr P S (v_nx (v_nx S (i + 1)) (i + 2)) := v_nx_x.trans v_nx_x
        refine c58_63y hW2 hC2 ?_
        cases hz : v_pz g v 2000 0 0 0 (i + 2) ns with
        | none => rw [hz] at h; cases h
        | some res =>
          obtain ⟨r, q, ns1⟩ := res
          rw [hz] at h
          obtain ⟨_, a1, a2, a3, a4, _⟩ := v_pz_post hT _ _ _ _ _ _ _ _ _ hz hlt1 (by omega) (by omega) (by omega)
          cases r with
          | none =>
            dsimp only at h
            cases h
            refine (v_cls 2000).1 0 0 (i + 2) ns _ _ _ _ (by omega) (by omega) (by omega) hz hW2 hC2 (fun S3 hW3 hf3 hC3 => ?_)
            refine c58_74n hW3 hC3 ?_
            exact c57_25n hW3 hC3 (by omega) (k S3 hW3 (v_cz.cr hp (hcr2.trans hf3)) hC3 (hCC.cr hp (hcr2.trans hf3)))
          | some r =>
            dsimp only at h
            obtain ⟨a5, a6, _⟩ := a4 (by omega) r rfl
            refine (v_cls 2000).1 0 0 (i + 2) ns _ _ _ _ (by omega) (by omega) (by omega) hz hW2 hC2 (fun S3 hW3 hf3 hC3 => ?_)
            have hC3 : v_CP S3 P N g v pl q ns1 := hC3
            have hcr3 := hcr2.trans hf3
            refine c58_74y hW3 hC3 (by omega) (x51 hW3 hC3 (by decide) (fun h14 => ?_) (fun h14 => ?_))
            · rw [if_pos h14] at h
              have hlt3 : q < N := hT.lt a2 (by omega) (by omega)
              have hW4 := v_nx_W (i := q + 1) hW3
              have hC4 := hC3.step hlt3
              have hcr4 : v_cr P S (v_nx S3 (q + 1)) := hcr3.trans v_nx_x
              have hCC4 : v_CC (v_nx S3 (q + 1)) P pl cs := hCC.cr hp hcr4
              have hp7 := hG.cond h23 a5 hlt3
              have hp100 := (hT.2 (q + 1) hlt3).2.2.1
              refine c58_90y hW4 hC4 (by omega) ?_
              refine c71_0 hW4 (by omega) (by omega) hp (by omega) (by omega) hCC4.1 (by rw [hww]; exact v_w01 _) ?_
              have hW5 := v_c71_W (c := cs.length) (w := nI ww) (p := nI (pl i)) (r := nI r) hp hW4
              have hC5 := v_c71_CP (c := cs.length) (w := nI ww) (p := nI (pl i)) (r := nI r) hC4
              refine c58_103y hW5 hC5 ?_
              refine c57_25y hW5 hC5 (by omega) ?_
              rw [← hww] at h
              refine ih (q + 1) ns1 _ (t + 1) _ ok p ns' cs' h hW5 hC5 hCC4.add ?_ (by omega) (by omega) (fun S6 hW6 hz6 hC6 hCC6 => k S6 hW6 (((v_cz.cr hp hcr4).trans v_c71_cz).trans hz6) hC6 hCC6)
              rw [List.length_append]
              show 13 + 7 * (cs.length + 1) ≤ _
              omega
            · rw [if_neg h14] at h
              cases h
              refine c58_90n hW3 hC3 (by omega) ?_
              exact c57_25n hW3 hC3 (by omega) (k S3 hW3 (v_cz.cr hp hcr3) hC3 (hCC.cr hp hcr3))
      · rw [if_neg h13] at h
        cases h
        refine c58_63n hW1 hC1 ?_
        exact c57_25n hW1 hC1 (by omega) (k _ hW1 (v_cz.cr hp v_nx_x) hC1 hCC1)
    obtain ⟨d', rfl⟩ : ∃ e, d = e + 1 := ⟨d - 1, by omega⟩
    have fst : ∀ ww : Nat, ww = (if g i = 2 then 1 else 0) → w_X (d' + 1) 51 [.ref 1024, .ref 2] S (w_k (d' + 1 + 1) 58 34 [(0, .ref 1023), (1, .int (nI ww)), (2, .int (nI (pl i)))] [] (w_k (d' + 1 + 2) 57 22 [(0, .ref 1023), (1, .int (nI t))] [] Q)) := by
      intro ww hww
      refine x51 hW hC (by decide) (fun h2 => ?_) (fun h2 => ?_)
      · have hlt : i < N := hT.lt hb.1 (by omega) (by omega)
        exact c58_37y (v_nx_W hW) (hC.step hlt) (beg (Or.inl h2) ww hww)
      · refine c58_37n hW hC (x51 hW hC (by decide) (fun h3 => ?_) (fun h3 => ?_))
        · have hlt : i < N := hT.lt hb.1 (by omega) (by omega)
          exact c58_50y (v_nx_W hW) (hC.step hlt) (beg (Or.inr h3) ww hww)
        · rw [if_neg (by omega)] at h
          cases h
          refine c58_50n hW hC ?_
          exact c57_25n hW hC (by omega) (k S hW v_cz.refl hC hCC)
    exact c58_0 hW hC (fun h2 => fst 0 (by rw [if_neg h2])) (fun h2 => fst 1 (by rw [if_pos h2]))
end VCCD
