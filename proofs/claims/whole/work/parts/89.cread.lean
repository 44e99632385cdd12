/-! THE CLASS READS AS THE GRAMMAR'S FUNCTION DOES. -/
section VCR
variable {L : Nat} {xs : Nat → Int32} {P N : Nat} {g v pl : Nat → Nat}
def v_KC (L : Nat) (xs : Nat → Int32) (P N : Nat) (g v pl : Nat → Nat) (S : q_S) (Q : Outcome → q_S → Prop) (res : v_Rs) : Prop := ∀ S', w_W (q_S0 L xs) S' → v_cr P S S' → v_CP S' P N g v pl res.2.1 res.2.2 → Q (.returned (some (.int (v_ni res.1)))) S'
theorem v_KC.pre {S S1 : q_S} {Q : Outcome → q_S → Prop} {res : v_Rs} (k : v_KC L xs P N g v pl S Q res) (h : v_cr P S S1) : v_KC L xs P N g v pl S1 Q res := fun S' a b c => k S' a (h.trans b) c
theorem v_lev_iff : ∀ s, s < 34 → ∀ l, l < 5 → (q_lev.getD s 0 = nI l ↔ v_lv s = l) := by decide +kernel
theorem v_sw63 : ∀ s, s < 34 → v_lf s = false → ¬ s = 11 → q_sw (.tableswitch (53) (4) (10) #[42, 42, 42, 42, 42, 42, 47]) 14 (q_swm.getD s 0) = some 67 := by decide +kernel
theorem v_lf6 : ∀ s, s < 34 → v_lf s = true → q_swm.getD s 0 = 4 ∨ q_swm.getD s 0 = 5 ∨ q_swm.getD s 0 = 6 ∨ q_swm.getD s 0 = 7 ∨ q_swm.getD s 0 = 8 ∨ q_swm.getD s 0 = 9 := by decide +kernel
theorem c63_leaf {d q i : Nat} {S : q_S} {ns : List v_Nd} {Q : Outcome → q_S → Prop} (hW : w_W (q_S0 L xs) S) (hC : v_CP S P N g v pl i ns) (hq : q < 100000) (h : v_lf (g i) = true) (k : w_X d 65 [.ref 1023] S (w_k (d + 1) 63 57 [] [] Q)) : w_X (d + 1) 63 [.ref 1023, .int (nI q)] S Q := by
  rcases v_lf6 (g i) (hC.gl hC.bd.1) h with h | h | h | h | h | h
  · exact c63_0z4 hW hC hq h k
  · exact c63_0z5 hW hC hq h k
  · exact c63_0z6 hW hC hq h k
  · exact c63_0z7 hW hC hq h k
  · exact c63_0z8 hW hC hq h k
  · exact c63_0z9 hW hC hq h k
def v_cA (L : Nat) (xs : Nat → Int32) (P N : Nat) (g v pl : Nat → Nat) (n : Nat) : Prop := ∀ md dp ps ns res S Q d, md ≤ 5 → dp ≤ 7 → 40 * (8 - dp) + 4 * (7 - md) + 11 ≤ d → v_pz g v n md dp 0 ps ns = some res → w_W (q_S0 L xs) S → v_CP S P N g v pl ps ns → v_KC L xs P N g v pl S Q res → w_X d 60 [.ref 1023, .int (nI md), .int (nI dp)] S Q
def v_cB (L : Nat) (xs : Nat → Int32) (P N : Nat) (g v pl : Nat → Nat) (n : Nat) : Prop := ∀ dp ps ns res S Q d, dp ≤ 7 → 40 * (8 - dp) + 4 * (7 - 5) + 10 ≤ d → v_pz g v n 5 dp 0 ps ns = some res → w_W (q_S0 L xs) S → v_CP S P N g v pl ps ns → v_KC L xs P N g v pl S Q res → w_X d 61 [.ref 1023, .int (nI dp)] S Q
def v_cC (L : Nat) (xs : Nat → Int32) (P N : Nat) (g v pl : Nat → Nat) (n : Nat) : Prop := ∀ dp ps ns res S Q d, dp < 7 → 40 * (8 - dp) + 4 * (7 - 6) + 10 ≤ d → v_pz g v n 6 dp 0 ps ns = some res → w_W (q_S0 L xs) S → v_CP S P N g v pl ps ns → v_KC L xs P N g v pl S Q res → w_X d 62 [.ref 1023, .int (nI dp)] S Q
def v_cD (L : Nat) (xs : Nat → Int32) (P N : Nat) (g v pl : Nat → Nat) (n : Nat) : Prop := ∀ l dp lf t ps ns res S Q d, l < 5 → l ≠ 2 → dp ≤ 7 → 40 * (8 - dp) + 4 * (7 - l) + 11 ≤ d → lf < 1000 → t < ps → v_pz g v n (10 + l) dp lf ps ns = some res → w_W (q_S0 L xs) S → v_CP S P N g v pl ps ns → v_KC L xs P N g v pl S Q res → w_R d 60 36 [(0, .ref 1023), (1, .int (nI l)), (2, .int (nI dp)), (3, .int (nI lf)), (4, .int 100), (5, .int (nI t))] [] S Q
def v_cE (L : Nat) (xs : Nat → Int32) (P N : Nat) (g v pl : Nat → Nat) (n : Nat) : Prop := ∀ dp lf ps ns res S Q d, dp ≤ 7 → 40 * (8 - dp) + 4 * (7 - 2) + 11 ≤ d → lf < 1000 → v_pz g v n 12 dp lf ps ns = some res → w_W (q_S0 L xs) S → v_CP S P N g v pl ps ns → v_KC L xs P N g v pl S Q res → w_R d 60 36 [(0, .ref 1023), (1, .int (nI 2)), (2, .int (nI dp)), (3, .int (nI lf)), (4, .int 1), (5, .int 0)] [] S Q
def v_cF (L : Nat) (xs : Nat → Int32) (P N : Nat) (g v pl : Nat → Nat) (n : Nat) : Prop := ∀ dp lf t ps ns res S Q d, dp ≤ 7 → 10 ≤ d → lf < 1000 → t < ps → v_pz g v n 16 dp lf ps ns = some res → w_W (q_S0 L xs) S → v_CP S P N g v pl ps ns → v_KC L xs P N g v pl S Q res → w_R d 62 8 [(0, .ref 1023), (2, .int (nI lf)), (3, .int (nI t))] [] S Q
theorem v_stepF {n : Nat} (ih : v_cF L xs P N g v pl n) : v_cF L xs P N g v pl (n + 1) := by
  intro dp lf t ps ns res S Q d hdp hd hlf ht hz hW hC K
  have hb := hC.bd
  obtain ⟨d, rfl⟩ : ∃ e, d = e + 3 := ⟨d - 3, by omega⟩
  unfold v_pz at hz
  rw [if_neg (by omega), if_neg (by omega), if_neg (by omega), if_pos rfl] at hz
  by_cases hg : g ps = 16
  · rw [if_pos hg] at hz
    have hlt : ps < N := hC.tk.lt hb.1 (by omega) (by omega)
    refine c62_8y hW hC (by omega) hg (by omega) (by omega) (by omega) ?_
    have hW1 := v_nx_W (i := ps + 1) hW
    have hC1 := hC.step hlt
    by_cases ha : v_at (g (ps + 1)) = true
    · rw [if_pos ha] at hz
      have ha' := v_at_ne ha
      have hlt1 : ps + 1 < N := hC.tk.lt hlt (by omega) (by omega)
      have hW2 := v_nx_W (i := ps + 1 + 1) hW1
      have hC2 := hC1.step hlt1
      refine c68_0y hW1 hC1 (by omega) (by omega) (by omega) (by decide) (by omega) ha ?_
      have hC3 := hC2.add (s := 16) (t := ps) (x := g (ps + 1) - 8) (lo := some lf) (ro := none) (by omega) rfl rfl rfl rfl
      exact c62_58r (v_ad_W hW2 hC.wp) hC3 (by omega) (by omega) (ih dp ns.length (t + 1) (ps + 2) _ res _ Q _ hdp (by omega) (by omega) (by omega) hz (v_ad_W hW2 hC.wp) hC3 (K.pre ((v_nx_x.trans v_nx_x).trans v_ad_fr)))
    · rw [if_neg ha] at hz
      cases hz
      refine c68_0n hW1 hC1 (by decide) (by omega) (by simpa using ha) ?_
      have kk := K _ hW1 v_nx_x hC1
      exact c62_58n hW1 hC1 (by omega) (fun _ => kk) (fun _ => kk)
  · rw [if_neg hg] at hz
    cases hz
    exact c62_8n hW hC (by omega) hg (by omega) (by omega) (K S hW v_cr.refl hC)
theorem v_stepE {n : Nat} (ih : v_cA L xs P N g v pl n) : v_cE L xs P N g v pl (n + 1) := by
  intro dp lf ps ns res S Q d hdp hd hlf hz hW hC K
  have hb := hC.bd
  obtain ⟨d, rfl⟩ : ∃ e, d = e + 5 := ⟨d - 5, by omega⟩
  unfold v_pz at hz
  rw [if_neg (by omega), if_neg (by omega), if_neg (by omega), if_neg (by omega)] at hz
  have hiff := v_lev_iff (g ps) (hC.gl hb.1) 2 (by omega)
  by_cases hv : v_lv (g ps) = 12 - 10
  · rw [if_pos hv] at hz
    have hv5 : v_lv (g ps) < 5 := by omega
    have hlt : ps < N := hC.tk.lt hb.1 (v_lv_lt hv5).1 (v_lv_lt hv5).2
    refine c60_36b hW hC (by omega) (by omega) (by omega) (fun h => absurd (hiff.mpr hv) h) (fun _ => ?_)
    have hW1 := v_nx_W (i := ps + 1) hW
    have hC1 := hC.step hlt
    by_cases hg : g ps = 26
    · rw [if_pos hg] at hz
      refine c70_0h hW hC hg (by omega) (by omega) (by omega) (by omega) ?_
      by_cases ha : v_at (g (ps + 1)) = true
      · rw [if_pos ha] at hz
        cases hz
        have ha' := v_at_ne ha
        have hlt1 : ps + 1 < N := hC.tk.lt hlt (by omega) (by omega)
        have hW2 := v_nx_W (i := ps + 1 + 1) hW1
        have hC2 := hC1.step hlt1
        refine c68_0y hW1 hC1 (by omega) (by omega) (by omega) (by omega) (by omega) ha ?_
        have hC3 := hC2.add (s := g ps) (t := ps) (x := g (ps + 1) - 8) (lo := some lf) (ro := none) (by omega) rfl rfl rfl rfl
        refine c70_42 (v_ad_W hW2 hC.wp) hC3 ?_
        refine c60_69b (v_ad_W hW2 hC.wp) hC3 (by omega) (by omega) ?_
        have kk := K _ (v_ad_W hW2 hC.wp) ((v_nx_x.trans v_nx_x).trans v_ad_fr) (by rw [hg] at hC3; exact hC3)
        rw [hg]
        exact kk
      · rw [if_neg ha] at hz
        cases hz
        refine c68_0n hW1 hC1 (by omega) (by omega) (by simpa using ha) ?_
        refine c70_42 hW1 hC1 ?_
        exact c60_69b hW1 hC1 (by omega) (by omega) (K _ hW1 v_nx_x hC1)
    · rw [if_neg hg] at hz
      refine c70_0o hW hC hg (by omega) (by omega) (by omega) (by omega) ?_
      rcases v_bd_some hz with ⟨p1, ns1, e1, e2⟩ | ⟨r1, p1, ns1, e1, e2⟩
      · cases e2
        refine ih 3 dp (ps + 1) ns _ _ _ _ (by omega) hdp (by omega) e1 hW1 hC1 (fun S' hW' hf hC' => ?_)
        refine c70_51n hW' hC' (by omega) (hC.gl hb.1) ?_
        exact c60_69b hW' hC' (by omega) (by omega) (K _ hW' (v_nx_x.trans hf) hC')
      · obtain ⟨_, a1, a2, a3, a4, _⟩ := v_pz_post hC.tk _ _ _ _ _ _ _ _ _ e1 hlt hdp (by omega) (by omega)
        obtain ⟨a5, a6, _⟩ := a4 (by omega) r1 rfl
        rw [if_pos rfl] at e2
        cases e2
        refine ih 3 dp (ps + 1) ns _ _ _ _ (by omega) hdp (by omega) e1 hW1 hC1 (fun S' hW' hf hC' => ?_)
        have hb' := hC'.bd
        have a3' : ns1.length + (ps + 1) ≤ ns.length + p1 := a3
        have hb1 : p1 ≤ N ∧ N ≤ 100 ∧ ns1.length ≤ p1 := hb'
        refine c70_51r hW' hC' (by show ns1.length < 100; omega) (by show ¬ 100 ≤ ns1.length; omega) (by omega) (hC.gl hb.1) (by omega) ?_
        have hC3 := hC'.add (s := g ps) (t := ps) (x := 0) (lo := some lf) (ro := some r1) (by show ns1.length < p1; omega) rfl rfl rfl rfl
        refine c60_69b (v_ad_W hW' hC.wp) hC3 (by omega) (by omega) ?_
        exact K _ (v_ad_W hW' hC.wp) ((v_nx_x.trans hf).trans v_ad_fr) hC3
  · rw [if_neg hv] at hz
    cases hz
    refine c60_36b hW hC (by omega) (by omega) (by omega) (fun _ => K S hW v_cr.refl hC) (fun h => absurd (hiff.mp h) hv)
theorem v_stepD {n : Nat} (ih : v_cA L xs P N g v pl n) (ihD : v_cD L xs P N g v pl n) : v_cD L xs P N g v pl (n + 1) := by
  intro l dp lf t ps ns res S Q d hl hl2 hdp hd hlf ht hz hW hC K
  have hb := hC.bd
  obtain ⟨d, rfl⟩ : ∃ e, d = e + 2 := ⟨d - 2, by omega⟩
  unfold v_pz at hz
  rw [if_neg (by omega), if_neg (by omega), if_neg (by omega), if_neg (by omega)] at hz
  have hiff := v_lev_iff (g ps) (hC.gl hb.1) l (by omega)
  by_cases hv : v_lv (g ps) = 10 + l - 10
  · rw [if_pos hv] at hz
    have hv5 : v_lv (g ps) < 5 := by omega
    have hvl : v_lv (g ps) = l := by omega
    have hlt : ps < N := hC.tk.lt hb.1 (v_lv_lt hv5).1 (v_lv_lt hv5).2
    refine c60_36a hW hC (by omega) (by omega) (by omega) (by omega) (by omega) (fun h => absurd (hiff.mpr hvl) h) (fun _ => ?_)
    have hW1 := v_nx_W (i := ps + 1) hW
    have hC1 := hC.step hlt
    have hg : ¬ g ps = 26 := fun z => by
      rw [z] at hvl
      exact hl2 hvl.symm
    rw [if_neg hg] at hz
    refine c70_0o hW hC hg (by omega) (by omega) (by omega) (by omega) ?_
    rcases v_bd_some hz with ⟨p1, ns1, e1, e2⟩ | ⟨r1, p1, ns1, e1, e2⟩
    · cases e2
      rw [show 10 + l - 9 = l + 1 by omega] at e1
      refine ih (l + 1) dp (ps + 1) ns _ _ _ _ (by omega) hdp (by omega) e1 hW1 hC1 (fun S' hW' hf hC' => ?_)
      refine c70_51n hW' hC' (by omega) (hC.gl hb.1) ?_
      have kk := K _ hW' (v_nx_x.trans hf) hC'
      exact c60_69an hW' hC' (by omega) (by omega) (by omega) (fun _ => kk) (fun _ => kk)
    · rw [show 10 + l - 9 = l + 1 by omega] at e1
      obtain ⟨_, a1, a2, a3, a4, _⟩ := v_pz_post hC.tk _ _ _ _ _ _ _ _ _ e1 hlt hdp (by omega) (by omega)
      obtain ⟨a5, a6, _⟩ := a4 (by omega) r1 rfl
      rw [if_neg (by omega)] at e2
      refine ih (l + 1) dp (ps + 1) ns _ _ _ _ (by omega) hdp (by omega) e1 hW1 hC1 (fun S' hW' hf hC' => ?_)
      have hb1 : p1 ≤ N ∧ N ≤ 100 ∧ ns1.length ≤ p1 := hC'.bd
      refine c70_51r hW' hC' (by show ns1.length < 100; omega) (by show ¬ 100 ≤ ns1.length; omega) (by omega) (hC.gl hb.1) (by omega) ?_
      have hC3 := hC'.add (s := g ps) (t := ps) (x := 0) (lo := some lf) (ro := some r1) (by show ns1.length < p1; omega) rfl rfl rfl rfl
      refine c60_69ar (v_ad_W hW' hC.wp) hC3 (by omega) (by omega) (by omega) (by show ns1.length < 100000; omega) ?_
      exact ihD l dp ns1.length (t + 1) p1 _ res _ Q _ hl hl2 hdp (by omega) (by omega) (by omega) e2 (v_ad_W hW' hC.wp) hC3 (K.pre ((v_nx_x.trans hf).trans v_ad_fr))
  · rw [if_neg hv] at hz
    cases hz
    exact c60_36a hW hC (by omega) (by omega) (by omega) (by omega) (by omega) (fun _ => K S hW v_cr.refl hC) (fun h => absurd (hiff.mp h) (by omega))
theorem v_stepC {n : Nat} (ih : v_cA L xs P N g v pl n) (ihF : v_cF L xs P N g v pl n) : v_cC L xs P N g v pl (n + 1) := by
  intro dp ps ns res S Q d hdp hd hz hW hC K
  have hb := hC.bd
  obtain ⟨d, rfl⟩ : ∃ e, d = e + 6 := ⟨d - 6, by omega⟩
  unfold v_pz at hz
  rw [if_neg (by omega), if_neg (by omega), if_pos rfl] at hz
  refine c62_0 hW hC (by omega) ?_
  by_cases hl : v_lf (g ps) = true
  · rw [if_pos hl] at hz
    have hlt : ps < N := hC.tk.lt hb.1 (v_lf_ne hl).1 (v_lf_ne hl).2
    refine c63_leaf hW hC (by omega) hl ?_
    refine c65_0 hW hC (by omega) (by omega) (by omega) ?_
    have hW1 := v_ad_W (c := ns.length) (s := g ps) (p := nI (pl ps)) (y := nI (v ps)) (l := -1) (r := -1) hW hC.wp
    have hW2 := v_nx_W (i := ps + 1) hW1
    have hC2 : v_CP (v_nx (v_ad S P ns.length (g ps) (nI (pl ps)) (nI (v ps)) (-1) (-1)) (ps + 1)) P N g v pl (ps + 1) (ns ++ [(g ps, ps, v ps, none, none)]) := by
      have hr' := hC.1.rng
      have key : ∀ a, (1015 ≤ a ∧ a ≤ 1030) → (fun a => decide (P ≤ a) && decide (a ≤ P + 10)) a = false := fun a ha => by
        show (decide (P ≤ a) && decide (a ≤ P + 10)) = false
        by_cases h1 : P ≤ a
        · rw [decide_eq_false (show ¬ a ≤ P + 10 by omega), Bool.and_false]
        · rw [decide_eq_false h1, Bool.false_and]
      refine ⟨hC.1, hC.2.1, hlt, by rw [List.length_append]; show _ + 1 ≤ _; omega, ?_, (hC.2.2.2.2.2.1.fr v_ad_fr2 (key _ (by omega)) (key _ (by omega)) (key _ (by omega)) (key _ (by omega))).nx, (hC.2.2.2.2.2.2.add (t := ps) (x := v ps) (lo := none) (ro := none) rfl rfl rfl rfl).nx hC.1⟩
      show q_rv (v_ad S P ns.length (g ps) (nI (pl ps)) (nI (v ps)) (-1) (-1)) 1023 1 = some P
      rw [v_ad_fr2.rv (key 1023 (by omega))]
      exact hC.md
    refine c63_60 hW2 hC2 ?_
    refine c62_5r hW2 hC2 (by omega) ?_
    exact ihF dp ns.length 0 (ps + 1) _ res _ Q _ (by omega) (by omega) (by omega) (by omega) hz hW2 hC2 (K.pre (v_ad_fr.trans v_nx_x))
  rw [if_neg hl] at hz
  by_cases ho : g ps = 11
  · rw [if_pos ho] at hz
    have hlt : ps < N := hC.tk.lt hb.1 (by omega) (by omega)
    have hW1 := v_nx_W (i := ps + 1) hW
    have hC1 := hC.step hlt
    refine c63_0z10 hW hC (by omega) (by rw [ho]; decide) ?_
    refine c67_0 hW hC (by omega) (by omega) ?_
    rcases v_bd_some hz with ⟨p1, ns1, e1, e2⟩ | ⟨r1, p1, ns1, e1, e2⟩
    · cases e2
      refine ih 0 (dp + 1) (ps + 1) ns _ _ _ _ (by omega) (by omega) (by omega) e1 hW1 hC1 (fun S' hW' hf hC' => ?_)
      refine c67_15n hW' hC' ?_
      refine c63_66 hW' hC' ?_
      exact c62_5n hW' hC' (K _ hW' (v_nx_x.trans hf) hC')
    · obtain ⟨_, a1, a2, a3, a4, _⟩ := v_pz_post hC.tk _ _ _ _ _ _ _ _ _ e1 hlt (by omega) (by omega) (by omega)
      obtain ⟨a5, a6, _⟩ := a4 (by omega) r1 rfl
      refine ih 0 (dp + 1) (ps + 1) ns _ _ _ _ (by omega) (by omega) (by omega) e1 hW1 hC1 (fun S' hW' hf hC' => ?_)
      have hb1 : p1 ≤ N ∧ N ≤ 100 ∧ ns1.length ≤ p1 := hC'.bd
      by_cases hc : g p1 = 12
      · rw [if_pos hc] at e2
        have hlt1 : p1 < N := hC.tk.lt a2 (by omega) (by omega)
        have hW2 := v_nx_W (i := p1 + 1) hW'
        have hC2 := v_CP.step hC' hlt1
        refine c67_15y hW' hC' hc (by show ¬ N ≤ p1; omega) (by omega) ?_
        refine c63_66 hW2 hC2 ?_
        refine c62_5r hW2 hC2 (by omega) ?_
        exact ihF dp r1 0 (p1 + 1) _ res _ Q _ (by omega) (by omega) (by omega) (by omega) e2 hW2 hC2 (K.pre ((v_nx_x.trans hf).trans v_nx_x))
      · rw [if_neg hc] at e2
        cases e2
        refine c67_15o hW' hC' hc (by omega) ?_
        refine c63_66 hW' hC' ?_
        exact c62_5n hW' hC' (K _ hW' (v_nx_x.trans hf) hC')
  · rw [if_neg ho] at hz
    cases hz
    refine c63_0d hW hC (by omega) rfl (v_sw63 (g ps) (hC.gl hb.1) (by simpa using hl) ho) ?_
    refine w_re (l := []) rfl trivial ?_
    refine c63_67 hW hC ?_
    exact c62_5n hW hC (K S hW v_cr.refl hC)
theorem v_stepB {n : Nat} (ih : v_cB L xs P N g v pl n) (ihC : v_cC L xs P N g v pl n) : v_cB L xs P N g v pl (n + 1) := by
  intro dp ps ns res S Q d hdp hd hz hW hC K
  have hb := hC.bd
  obtain ⟨d, rfl⟩ : ∃ e, d = e + 2 := ⟨d - 2, by omega⟩
  unfold v_pz at hz
  rw [if_neg (by omega), if_pos rfl] at hz
  by_cases h7 : 7 ≤ dp
  · rw [if_pos h7] at hz
    cases hz
    exact c61_0d hW hC (by omega) (by omega) (K S hW v_cr.refl hC)
  rw [if_neg h7] at hz
  by_cases hs : g ps = 18 ∨ g ps = 28
  · rw [if_pos hs] at hz
    have hlt : ps < N := hC.tk.lt hb.1 (by omega) (by omega)
    have hW1 := v_nx_W (i := ps + 1) hW
    have hC1 := hC.step hlt
    have main : w_X (d + 1) 61 [.ref 1023, .int (nI (dp + 1))] (v_nx S (ps + 1)) (w_k (d + 1 + 1) 61 55 [(0, .ref 1023), (2, .ref (g ps)), (3, .int (nI (pl ps)))] [] Q) := by
      rcases v_bd_some hz with ⟨p1, ns1, e1, e2⟩ | ⟨r1, p1, ns1, e1, e2⟩
      · cases e2
        refine ih (dp + 1) (ps + 1) ns _ _ _ _ (by omega) (by omega) e1 hW1 hC1 (fun S' hW' hf hC' => ?_)
        exact c61_58n hW' hC' (hC.gl hb.1) (K _ hW' (v_nx_x.trans hf) hC')
      · obtain ⟨_, a1, a2, a3, a4, _⟩ := v_pz_post hC.tk _ _ _ _ _ _ _ _ _ e1 hlt (by omega) (by omega) (by omega)
        obtain ⟨a5, a6, _⟩ := a4 (by omega) r1 rfl
        cases e2
        refine ih (dp + 1) (ps + 1) ns _ _ _ _ (by omega) (by omega) e1 hW1 hC1 (fun S' hW' hf hC' => ?_)
        have hb1 : p1 ≤ N ∧ N ≤ 100 ∧ ns1.length ≤ p1 := hC'.bd
        refine c61_58r hW' hC' (by show ns1.length < 100; omega) (by show ¬ 100 ≤ ns1.length; omega) (hC.gl hb.1) (by omega) ?_
        have hC3 := hC'.add (s := g ps) (t := ps) (x := 0) (lo := some r1) (ro := none) (by show ns1.length < p1; omega) rfl rfl rfl rfl
        exact K _ (v_ad_W hW' hC.wp) ((v_nx_x.trans hf).trans v_ad_fr) hC3
    by_cases h18 : g ps = 18
    · exact c61_0a hW hC (by omega) h18 (by omega) (by omega) main
    · exact c61_0b hW hC (by omega) (by omega) h18 (by omega) (by omega) main
  · rw [if_neg hs] at hz
    refine c61_0o hW hC (by omega) (by omega) (by omega) (by omega) ?_
    refine ihC dp ps ns res _ _ _ (by omega) (by omega) hz hW hC (fun S' hW' hf hC' => ?_)
    exact c61_35 hW' hC' (K S' hW' hf hC')
theorem v_stepA {n : Nat} (ih : v_cA L xs P N g v pl n) (ihB : v_cB L xs P N g v pl (n + 1)) (ihD : v_cD L xs P N g v pl n) (ihE : v_cE L xs P N g v pl n) : v_cA L xs P N g v pl (n + 1) := by
  intro md dp ps ns res S Q d hmd hdp hd hz hW hC K
  have hb := hC.bd
  obtain ⟨d, rfl⟩ : ∃ e, d = e + 1 := ⟨d - 1, by omega⟩
  by_cases h5 : md = 5
  · subst h5
    refine c60_0b hW hC (by omega) (by omega) (by omega) ?_
    refine ihB dp ps ns res _ _ _ hdp (by omega) hz hW hC (fun S' hW' hf hC' => ?_)
    exact c60_10 hW' hC' (K S' hW' hf hC')
  unfold v_pz at hz
  rw [if_pos (by omega)] at hz
  refine c60_0a hW hC (by omega) (by omega) (by omega) ?_
  rcases v_bd_some hz with ⟨p1, ns1, e1, e2⟩ | ⟨r1, p1, ns1, e1, e2⟩
  · cases e2
    refine ih (md + 1) dp ps ns _ _ _ _ (by omega) hdp (by omega) e1 hW hC (fun S' hW' hf hC' => ?_)
    have kk := K S' hW' hf hC'
    exact c60_19n hW' hC' (by omega) (by omega) (fun _ => kk) (fun _ => kk)
  · obtain ⟨_, a1, a2, a3, a4, _⟩ := v_pz_post hC.tk _ _ _ _ _ _ _ _ _ e1 hb.1 hdp (by omega) (by omega)
    obtain ⟨a5, a6, _⟩ := a4 (by omega) r1 rfl
    refine ih (md + 1) dp ps ns _ _ _ _ (by omega) hdp (by omega) e1 hW hC (fun S' hW' hf hC' => ?_)
    have hb1 : p1 ≤ N ∧ N ≤ 100 ∧ ns1.length ≤ p1 := hC'.bd
    refine c60_19r hW' hC' (by omega) (by omega) (by omega) (fun h2 => ?_) (fun h2 => ?_)
    · exact ihD md dp r1 0 p1 ns1 res S' Q _ (by omega) h2 hdp (by omega) (by omega) (by omega) e2 hW' hC' (K.pre hf)
    · subst h2
      exact ihE dp r1 p1 ns1 res S' Q _ hdp (by omega) (by omega) e2 hW' hC' (K.pre hf)
theorem v_cls (n : Nat) : v_cA L xs P N g v pl n ∧ v_cB L xs P N g v pl n ∧ v_cC L xs P N g v pl n ∧ v_cD L xs P N g v pl n ∧ v_cE L xs P N g v pl n ∧ v_cF L xs P N g v pl n := by
  induction n with
  | zero =>
    refine ⟨?_, ?_, ?_, ?_, ?_, ?_⟩
    · intro md dp ps ns res S Q d _ _ _ h; cases h
    · intro dp ps ns res S Q d _ _ h; cases h
    · intro dp ps ns res S Q d _ _ h; cases h
    · intro l dp lf t ps ns res S Q d _ _ _ _ _ _ h; cases h
    · intro dp lf ps ns res S Q d _ _ _ h; cases h
    · intro dp lf t ps ns res S Q d _ _ _ _ h; cases h
  | succ n ih =>
    obtain ⟨iA, iB, iC, iD, iE, iF⟩ := ih
    have jB := v_stepB iB iC
    exact ⟨v_stepA iA jB iD iE, jB, v_stepC iA iF, v_stepD iA iD, v_stepE iA, v_stepF iF⟩
end VCR
