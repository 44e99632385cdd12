/-! THE REFERENCE READS a head, an expression, conditions. -/
def v_MH (S : q_S) (i : Nat) (h : v_Hd) : Prop := q_iv S 1110 i = (if h.1 = 0 then 1 else 0) ∧ q_iv S 1111 (2 * i) = nI h.2.1.1 ∧ q_iv S 1112 (2 * i) = nI h.2.1.2 ∧ q_iv S 1113 i = v_ni h.2.2.1 ∧ q_iv S 1111 (2 * i + 1) = nI h.2.2.2.1 ∧ q_iv S 1112 (2 * i + 1) = nI h.2.2.2.2
def v_MC (S : q_S) (o b : Nat) (cs : List v_Cd) : Prop := q_iv S 1114 b = nI cs.length ∧ ∀ j w t r, cs[j]? = some (w, t, r) → q_iv S 1115 (o + j) = nI t ∧ q_iv S 1116 (o + j) = nI r
def v_wch (s : Nat) : Bool := decide (v_wc s = 95 ↔ s = 17) && (decide (v_wc s = 304 ↔ s = 25) && (decide (v_wc s = 2 ↔ s = 31) && (decide (v_wc s = 1 ↔ s = 30) && (decide (v_wc s = 300 ↔ s = 0) && (decide (v_wc s = 301 ↔ s = 1) && (decide (v_wc s = 44 ↔ s = 15) && (decide (v_wc s = 302 ↔ s = 2) && (decide (v_wc s = 303 ↔ s = 3) && (decide (v_wc s = 123 ↔ s = 13) && (decide (v_wc s = 125 ↔ s = 14) && (decide (v_wc s = 40 ↔ s = 11) && decide (v_wc s = 41 ↔ s = 12))))))))))))
theorem v_wcht : ∀ s, s < 34 → v_wch s = true := by decide +kernel
theorem v_wchp {s : Nat} (h : s < 34) : (v_wc s = 95 ↔ s = 17) ∧ (v_wc s = 304 ↔ s = 25) ∧ (v_wc s = 2 ↔ s = 31) ∧ (v_wc s = 1 ↔ s = 30) ∧ (v_wc s = 300 ↔ s = 0) ∧ (v_wc s = 301 ↔ s = 1) ∧ (v_wc s = 44 ↔ s = 15) ∧ (v_wc s = 302 ↔ s = 2) ∧ (v_wc s = 303 ↔ s = 3) ∧ (v_wc s = 123 ↔ s = 13) ∧ (v_wc s = 125 ↔ s = 14) ∧ (v_wc s = 40 ↔ s = 11) ∧ (v_wc s = 41 ↔ s = 12) := by
  have h1 := v_wcht s h
  unfold v_wch at h1
  simp only [Bool.and_eq_true, decide_eq_true_eq] at h1
  exact h1
section VMHD
variable {d L : Nat} {xs : Nat → Int32} {S S' : q_S} {N i : Nat} {g v pl : Nat → Nat} {ns : List v_Nd} {cs : List v_Cd} {Q : Outcome → q_S → Prop}
theorem v_MQ.at' {i' : Nat} (h : v_MQ S N g v pl i ns) (hi : i' ≤ N) : v_MQ (q_sI S 1097 32 (nI i')) N g v pl i' ns := h.at hi
/-- a token that must be there -/
theorem x159 {s : Nat} (hW : w_W (q_S0 L xs) S) (hM : v_MQ S N g v pl i ns) (hs : s < 32) (ky : g i = s → i < N → Q (.returned (some (.int 1))) (q_sI S 1097 32 (nI (i + 1)))) (kn : ¬ g i = s → Q (.returned (some (.int 0))) (q_sI S 1097 1 (nI (pl i)))) : w_X (d + 1) 159 [.ref 1097, .int (nI (v_wc s))] S Q := by
  have hb := hM.b
  have hg := (hM.1.2 i hb.1).1
  refine e159_0 hW hM (by have := v_wc_all s; omega) (fun h => ?_) (fun h => kn (fun z => h (by rw [z])))
  have hgs : g i = s := v_wc_inj _ hg _ (by omega) h
  exact ky hgs (hM.1.lt hb.1 (by omega) (by omega))
theorem v_mscope {kk p : Nat} {r : Option (Nat × Nat)} (hk : kk = 0 ∨ kk = 1) (hW : w_W (q_S0 L xs) S) (hM : v_MQ S N g v pl i ns) (hz : v_sc g v i = (r, p))
    (k1 : ∀ a S', r = some a → w_W (q_S0 L xs) S' → v_md S S' → v_MQ S' N g v pl p ns → (∀ b j, ¬ (b = 1097 ∧ j = 32) → ¬ ((b = 1111 ∨ b = 1112) ∧ j = 12 + kk) → q_iv S' b j = q_iv S b j) → q_iv S' 1111 (12 + kk) = nI a.1 → q_iv S' 1112 (12 + kk) = nI a.2 → Q (.returned (some (.int 1))) S')
    (k0 : ∀ S', r = none → w_W (q_S0 L xs) S' → v_me S S' → q_iv S' 1097 1 = nI (pl p) → Q (.returned (some (.int 0))) S') : w_X (d + 1) 160 [.ref 1097, .int (nI kk)] S Q := by
  have hb := hM.b
  have hg := (hM.1.2 i hb.1).1
  obtain ⟨c17, c25, c31, _⟩ := v_wchp hg
  have dk : ∀ a, (a = 1111 ∨ a = 1112) → v_dr a (12 + kk) := fun a ha => by unfold v_dr; omega
  have d32 : v_dr 1097 32 := by unfold v_dr; omega
  unfold v_sc at hz
  by_cases h17 : g i = 17
  · rw [if_pos h17] at hz
    cases hz
    have hlt : i < N := hM.1.lt hb.1 (by omega) (by omega)
    have K := k1 (0, 0) (q_sI (q_sI (q_sI S 1111 (12 + kk) 0) 1112 (12 + kk) 0) 1097 32 (nI (i + 1))) rfl (((hW.sI (by decide)).sI (by decide)).sI (by decide)) (((v_md.refl.w (dk _ (by omega))).w (dk _ (by omega))).w d32) (((hM.ot (by decide)).ot (by decide)).at hlt) (fun b j h1 h2 => by
      show (if _ then _ else if _ then _ else if _ then _ else _) = _
      rw [if_neg h1, if_neg (fun z => h2 ⟨Or.inr z.1, z.2⟩), if_neg (fun z => h2 ⟨Or.inl z.1, z.2⟩)]) (by rw [v_aI (by decide), v_aI (by decide)]; exact v_hI) (by rw [v_aI (by decide)]; exact v_hI)
    rcases hk with rfl | rfl
    · exact e160_0a0 hW hM (c17.mpr h17) hlt K
    · exact e160_0a1 hW hM (c17.mpr h17) hlt K
  rw [if_neg h17] at hz
  by_cases h25 : g i = 25
  · rw [if_pos h25] at hz
    have hlt : i < N := hM.1.lt hb.1 (by omega) (by omega)
    obtain ⟨_, _, c31', _⟩ := v_wchp (hM.1.2 (i + 1) hlt).1
    by_cases h31 : g (i + 1) = 31
    · rw [if_pos h31] at hz
      cases hz
      have hlt1 : i + 1 < N := hM.1.lt hlt (by omega) (by omega)
      have K := k1 (2, v (i + 1)) (q_sI (q_sI (q_sI (q_sI S 1111 (12 + kk) 2) 1097 32 (nI (i + 1))) 1112 (12 + kk) (nI (v (i + 1)))) 1097 32 (nI (i + 2))) rfl ((((hW.sI (by decide)).sI (by decide)).sI (by decide)).sI (by decide)) ((((v_md.refl.w (dk _ (by omega))).w d32).w (dk _ (by omega))).w d32) ((((hM.ot (by decide)).at hlt).ot (by decide)).at hlt1) (fun b j h1 h2 => by
        show (if _ then _ else if _ then _ else if _ then _ else if _ then _ else _) = _
        rw [if_neg h1, if_neg (fun z => h2 ⟨Or.inr z.1, z.2⟩), if_neg h1, if_neg (fun z => h2 ⟨Or.inl z.1, z.2⟩)]) (by rw [v_aI (by decide), v_aI (by decide), v_aI (by decide)]; exact v_hI) (by rw [v_aI (by decide)]; exact v_hI)
      rcases hk with rfl | rfl
      · exact e160_0b0 hW hM (c25.mpr h25) hlt (c31'.mpr h31) hlt1 K
      · exact e160_0b1 hW hM (c25.mpr h25) hlt (c31'.mpr h31) hlt1 K
    · rw [if_neg h31] at hz
      cases hz
      have K := k0 (q_sI (q_sI (q_sI S 1111 (12 + kk) 2) 1097 32 (nI (i + 1))) 1097 1 (nI (pl (i + 1)))) rfl (((hW.sI (by decide)).sI (by decide)).sI (by decide)) ((v_md.refl.w (dk _ (by omega))).w d32).wh v_hI
      rcases hk with rfl | rfl
      · exact e160_0c0 hW hM (c25.mpr h25) hlt (fun z => h31 (c31'.mp z)) K
      · exact e160_0c1 hW hM (c25.mpr h25) hlt (fun z => h31 (c31'.mp z)) K
  rw [if_neg h25] at hz
  by_cases h31 : g i = 31
  · rw [if_pos h31] at hz
    cases hz
    have hlt : i < N := hM.1.lt hb.1 (by omega) (by omega)
    have K := k1 (1, v i) (q_sI (q_sI (q_sI S 1111 (12 + kk) 1) 1112 (12 + kk) (nI (v i))) 1097 32 (nI (i + 1))) rfl (((hW.sI (by decide)).sI (by decide)).sI (by decide)) (((v_md.refl.w (dk _ (by omega))).w (dk _ (by omega))).w d32) (((hM.ot (by decide)).ot (by decide)).at hlt) (fun b j h1 h2 => by
      show (if _ then _ else if _ then _ else if _ then _ else _) = _
      rw [if_neg h1, if_neg (fun z => h2 ⟨Or.inr z.1, z.2⟩), if_neg (fun z => h2 ⟨Or.inl z.1, z.2⟩)]) (by rw [v_aI (by decide), v_aI (by decide)]; exact v_hI) (by rw [v_aI (by decide)]; exact v_hI)
    rcases hk with rfl | rfl
    · exact e160_0e0 hW hM (c31.mpr h31) hlt K
    · exact e160_0e1 hW hM (c31.mpr h31) hlt K
  · rw [if_neg h31] at hz
    cases hz
    have K := k0 (q_sI (q_sI S 1111 (12 + kk) 1) 1097 1 (nI (pl i))) rfl ((hW.sI (by decide)).sI (by decide)) (v_md.refl.w (dk _ (by omega))).wh v_hI
    rcases hk with rfl | rfl
    · exact e160_0f0 hW hM (fun z => h17 (c17.mp z)) (fun z => h25 (c25.mp z)) (fun z => h31 (c31.mp z)) K
    · exact e160_0f1 hW hM (fun z => h17 (c17.mp z)) (fun z => h25 (c25.mp z)) (fun z => h31 (c31.mp z)) K
theorem v_maction {p : Nat} {r : Option (Option Nat)} (hW : w_W (q_S0 L xs) S) (hM : v_MQ S N g v pl i ns) (hz : v_ac g v i = (r, p))
    (k1 : ∀ a, r = some a → w_W (q_S0 L xs) (q_sI (q_sI S 1113 6 (v_ni a)) 1097 32 (nI p)) → v_MQ (q_sI (q_sI S 1113 6 (v_ni a)) 1097 32 (nI p)) N g v pl p ns → Q (.returned (some (.int 1))) (q_sI (q_sI S 1113 6 (v_ni a)) 1097 32 (nI p)))
    (k0 : r = none → Q (.returned (some (.int 0))) (q_sI S 1097 1 (nI (pl p)))) : w_X (d + 1) 162 [.ref 1097] S Q := by
  have hb := hM.b
  have hg := (hM.1.2 i hb.1).1
  have hv := (hM.1.2 i hb.1).2.1
  obtain ⟨c17, _, _, c30, _⟩ := v_wchp hg
  unfold v_ac at hz
  by_cases h17 : g i = 17
  · rw [if_pos h17] at hz
    cases hz
    have hlt : i < N := hM.1.lt hb.1 (by omega) (by omega)
    exact e162_0a hW hM (c17.mpr h17) hlt (k1 none rfl ((hW.sI (by decide)).sI (by decide)) ((hM.ot (by decide)).at hlt))
  rw [if_neg h17] at hz
  by_cases h30 : g i = 30
  · have hlt : i < N := hM.1.lt hb.1 (by omega) (by omega)
    by_cases h10 : v i < 10
    · rw [if_pos ⟨h30, h10⟩] at hz
      cases hz
      exact e162_0b hW hM (c30.mpr h30) hlt hv (fun _ => k1 (some (v i)) rfl ((hW.sI (by decide)).sI (by decide)) ((hM.ot (by decide)).at hlt)) (fun z => absurd (by omega) z)
    · rw [if_neg (fun z => h10 z.2)] at hz
      cases hz
      exact e162_0b hW hM (c30.mpr h30) hlt hv (fun z => absurd z (by omega)) (fun _ => k0 rfl)
  · rw [if_neg (fun z => h30 z.1)] at hz
    cases hz
    exact e162_0c hW hM (fun z => h17 (c17.mp z)) (fun z => h30 (c30.mp z)) (k0 rfl)
/-- the reference reads a head -/
theorem v_mhead {hd : Option v_Hd} {p : Nat} (hW : w_W (q_S0 L xs) S) (hM : v_MQ S N g v pl 0 ns) (hz : v_hd g v = (hd, p))
    (k1 : ∀ h S', hd = some h → w_W (q_S0 L xs) S' → v_md S S' → v_MQ S' N g v pl p ns → v_MH S' 6 h → q_iv S' 1114 6 = q_iv S 1114 6 → Q (.returned (some (.int 1))) S')
    (k0 : ∀ S', hd = none → w_W (q_S0 L xs) S' → v_me S S' → q_iv S' 1097 1 = nI (pl p) → Q (.returned (some (.int 0))) S') : w_X (d + 3) 156 [.ref 1097] S Q := by
  have hT := hM.1
  obtain ⟨_, _, _, _, c0, c1, _⟩ := v_wchp (hT.2 0 (Nat.zero_le _)).1
  have d32 : v_dr 1097 32 := by unfold v_dr; omega
  unfold v_hd at hz
  by_cases h01 : g 0 = 0 ∨ g 0 = 1
  · rw [if_pos h01] at hz
    have hlt0 : 0 < N := hT.lt (Nat.zero_le _) (by omega) (by omega)
    have main : ∀ y : Int32, (y = if g 0 = 0 then 1 else 0) → w_X (d + 2) 159 [.ref 1097, .int 40] (q_sI (q_sI S 1110 6 y) 1097 32 (nI (0 + 1))) (w_k (d + 3) 156 60 [(0, .ref 1097)] [] Q) := by
      intro y hy
      have hW1 : w_W (q_S0 L xs) (q_sI (q_sI S 1110 6 y) 1097 32 (nI (0 + 1))) := (hW.sI (by decide)).sI (by decide)
      have hM1 : v_MQ (q_sI (q_sI S 1110 6 y) 1097 32 (nI (0 + 1))) N g v pl (0 + 1) ns := (hM.ot (by decide)).at hlt0
      have hd1 : v_md S (q_sI (q_sI S 1110 6 y) 1097 32 (nI (0 + 1))) := (v_md.refl.w (by unfold v_dr; omega)).w d32
      refine x159 (s := 11) hW1 hM1 (by decide) (fun h11 hlt1 => ?_) (fun h11 => ?_)
      · rw [if_pos h11] at hz
        have hW2 : w_W (q_S0 L xs) (q_sI (q_sI (q_sI S 1110 6 y) 1097 32 (nI (0 + 1))) 1097 32 (nI (0 + 1 + 1))) := hW1.sI (by decide)
        have hM2 := hM1.at (i' := 0 + 1 + 1) hlt1
        have hd2 := hd1.w (x := nI (0 + 1 + 1)) d32
        have y2 : q_iv (q_sI (q_sI (q_sI S 1110 6 y) 1097 32 (nI (0 + 1))) 1097 32 (nI (0 + 1 + 1))) 1110 6 = y := by rw [v_aI (by decide), v_aI (by decide)]; exact v_hI
        have z2 : q_iv (q_sI (q_sI (q_sI S 1110 6 y) 1097 32 (nI (0 + 1))) 1097 32 (nI (0 + 1 + 1))) 1114 6 = q_iv S 1114 6 := by rw [v_aI (by decide), v_aI (by decide)]; exact v_aI (by decide)
        refine e156_63y hW2 hM2 ?_
        unfold v_hd1 at hz
        cases hs : v_sc g v 2 with
        | mk ra pa =>
          rw [hs] at hz
          refine v_mscope (kk := 0) (Or.inl rfl) hW2 hM2 hs (fun a S3 ea hW3 hd3 hM3 o3 va1 va2 => ?_) (fun S3 ea hW3 hd3 hw3 => ?_)
          · subst ea
            dsimp only at hz
            have hd3' := hd2.trans hd3
            refine e156_71y hW3 hM3 (x159 (s := 15) hW3 hM3 (by decide) (fun h15 hlt3 => ?_) (fun h15 => ?_))
            · rw [if_pos h15] at hz
              have hW4 : w_W (q_S0 L xs) (q_sI S3 1097 32 (nI (pa + 1))) := hW3.sI (by decide)
              have hM4 := hM3.at hlt3
              have hd4 := hd3'.w (x := nI (pa + 1)) d32
              refine e156_80y hW4 hM4 ?_
              unfold v_hd2 at hz
              cases hs2 : v_ac g v (pa + 1) with
              | mk rb pb =>
                rw [hs2] at hz
                refine v_maction hW4 hM4 hs2 (fun b eb hW5 hM5 => ?_) (fun eb => ?_)
                · subst eb
                  dsimp only at hz
                  have hd5 := (hd4.w (a := 1113) (k := 6) (x := v_ni b) (by unfold v_dr; omega)).w (x := nI pb) d32
                  refine e156_87y hW5 hM5 (x159 (s := 15) hW5 hM5 (by decide) (fun h15' hlt5 => ?_) (fun h15' => ?_))
                  · rw [if_pos h15'] at hz
                    have hW6 := hW5.sI (a := 1097) (k := 32) (x := nI (pb + 1)) (by decide)
                    have hM6 := hM5.at hlt5
                    have hd6 := hd5.w (x := nI (pb + 1)) d32
                    refine e156_96y hW6 hM6 ?_
                    unfold v_hd3 at hz
                    cases hs3 : v_sc g v (pb + 1) with
                    | mk rc pc =>
                      rw [hs3] at hz
                      refine v_mscope (kk := 1) (Or.inr rfl) hW6 hM6 hs3 (fun c S7 ec hW7 hd7 hM7 o7 vc1 vc2 => ?_) (fun S7 ec hW7 hd7 hw7 => ?_)
                      · subst ec
                        dsimp only at hz
                        have hd7' := hd6.trans hd7
                        refine e156_104y hW7 hM7 (x159 (s := 12) hW7 hM7 (by decide) (fun h12 hlt7 => ?_) (fun h12 => ?_))
                        · rw [if_pos h12] at hz
                          cases hz
                          have hW8 := hW7.sI (a := 1097) (k := 32) (x := nI (pc + 1)) (by decide)
                          have hM8 := hM7.at hlt7
                          refine e156_113y hW8 hM8 (k1 _ _ rfl hW8 (hd7'.w d32) hM8 ?_ ?_)
                          · have q : ∀ b j, b ≠ 1097 → (b = 1111 ∨ b = 1112 → j ≠ 13) → b ≠ 1113 → q_iv (q_sI S7 1097 32 (nI (pc + 1))) b j = q_iv S3 b j := fun b j h1 h2 h3 => by
                              rw [v_aI h1, o7 b j (by omega) (by omega), v_aI h1, v_aI h1, v_aI h3, v_aI h1]
                            refine ⟨?_, ?_, ?_, ?_, ?_, ?_⟩
                            · rw [q 1110 6 (by decide) (by omega) (by decide), o3 1110 6 (by omega) (by omega), y2]; exact hy
                            · rw [q 1111 (2 * 6) (by decide) (by omega) (by decide)]; exact va1
                            · rw [q 1112 (2 * 6) (by decide) (by omega) (by decide)]; exact va2
                            · rw [v_aI (by decide), o7 1113 6 (by omega) (by omega), v_aI (by decide), v_aI (by decide)]; exact v_hI
                            · rw [v_aI (by decide)]; exact vc1
                            · rw [v_aI (by decide)]; exact vc2
                          · rw [v_aI (by decide), o7 1114 6 (by omega) (by omega), v_aI (by decide), v_aI (by decide), v_aI (by decide), v_aI (by decide), o3 1114 6 (by omega) (by omega)]; exact z2
                        · rw [if_neg h12] at hz
                          cases hz
                          exact e156_113n' (hW7.sI (by decide)) (k0 _ rfl (hW7.sI (by decide)) hd7'.wh v_hI)
                      · subst ec
                        dsimp only at hz
                        cases hz
                        exact e156_104n' hW7 (k0 S7 rfl hW7 (hd6.me hd7) hw7)
                  · rw [if_neg h15'] at hz
                    cases hz
                    exact e156_96n' (hW5.sI (by decide)) (k0 _ rfl (hW5.sI (by decide)) hd5.wh v_hI)
                · subst eb
                  dsimp only at hz
                  cases hz
                  exact e156_87n' (hW4.sI (by decide)) (k0 _ rfl (hW4.sI (by decide)) hd4.wh v_hI)
            · rw [if_neg h15] at hz
              cases hz
              exact e156_80n' (hW3.sI (by decide)) (k0 _ rfl (hW3.sI (by decide)) hd3'.wh v_hI)
          · subst ea
            dsimp only at hz
            cases hz
            exact e156_71n' hW3 (k0 S3 rfl hW3 (hd2.me hd3) hw3)
      · rw [if_neg h11] at hz
        cases hz
        exact e156_63n' (hW1.sI (by decide)) (k0 _ rfl (hW1.sI (by decide)) hd1.wh v_hI)
    by_cases h0 : g 0 = 0
    · exact e156_0p hW hM (c0.mpr h0) hlt0 (main 1 (by rw [if_pos h0]))
    · exact e156_0f hW hM (c1.mpr (by omega)) hlt0 (main 0 (by rw [if_neg h0]))
  · rw [if_neg h01] at hz
    cases hz
    exact e156_0x hW hM (fun z => h01 (Or.inl (c0.mp z))) (fun z => h01 (Or.inr (c1.mp z))) (k0 _ rfl (hW.sI (by decide)) v_md.refl.wh v_hI)
end VMHD
