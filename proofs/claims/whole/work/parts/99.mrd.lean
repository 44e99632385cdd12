/-! THE REFERENCE READS an expression, conditions. -/
section VMRD2
variable {d L : Nat} {xs : Nat → Int32} {S S' : q_S} {N i : Nat} {g v pl : Nat → Nat} {ns : List v_Nd} {cs : List v_Cd} {Q : Outcome → q_S → Prop}
theorem v_mexpr {n : Nat} {res : v_Rs} (hW : w_W (q_S0 L xs) S) (hM : v_MQ S N g v pl i ns) (hn : ns.length ≤ i) (hz : v_pz g v n 0 0 0 i ns = some res)
    (k1 : ∀ r S', res.1 = some r → w_W (q_S0 L xs) S' → v_mr 0 S S' → v_MQ S' N g v pl res.2.1 res.2.2 → q_iv S' 1097 33 = nI r → Q (.returned (some (.int 1))) S')
    (k0 : ∀ S', res.1 = none → w_W (q_S0 L xs) S' → v_mf S S' → q_iv S' 1097 1 = nI (pl res.2.1) → Q (.returned (some (.int 0))) S') : w_X (d + 4) 163 [.ref 1097] S Q := by
  refine p163_0 (d := d + 3) hW ?_
  have hr : v_mr 0 S (q_sI (q_sI (q_sI (q_sI (q_sI (q_sI S 1097 35 (0 : Int32)) 1126 0 (0 : Int32)) 1127 0 (0 : Int32)) 1128 0 (-1 : Int32)) 1129 0 (0 : Int32)) 1097 35 (1 : Int32)) := (((((v_mr.refl.fd (Or.inr (Or.inr rfl))).st (by decide) (by decide) (Nat.le_refl _)).st (by decide) (by decide) (Nat.le_refl _)).st (by decide) (by decide) (Nat.le_refl _)).st (by decide) (by decide) (Nat.le_refl _)).fd (Or.inr (Or.inr rfl))
  have hM1 : v_MQ (q_sI (q_sI (q_sI (q_sI (q_sI (q_sI S 1097 35 (0 : Int32)) 1126 0 (0 : Int32)) 1127 0 (0 : Int32)) 1128 0 (-1 : Int32)) 1129 0 (0 : Int32)) 1097 35 (1 : Int32)) N g v pl i ns := (((((hM.fd (Or.inr rfl)).st (by decide)).st (by decide)).st (by decide)).st (by decide)).fd (Or.inr rfl)
  have hW1 : w_W (q_S0 L xs) (q_sI (q_sI (q_sI (q_sI (q_sI (q_sI S 1097 35 (0 : Int32)) 1126 0 (0 : Int32)) 1127 0 (0 : Int32)) 1128 0 (-1 : Int32)) 1129 0 (0 : Int32)) 1097 35 (1 : Int32)) := (((((hW.sI (by decide)).sI (by decide)).sI (by decide)).sI (by decide)).sI (by decide)).sI (by decide)
  refine (v_mdl (d := d) n).1 0 0 i ns res 0 _ Q (by omega) (by omega) (by omega) (by omega) hz hW1 hM1 hn rfl rfl rfl rfl rfl ?_
  obtain ⟨r, p, ns'⟩ := res
  cases r with
  | none => exact fun S' a b c => k0 S' rfl a (hr.mf b) c
  | some r => exact fun S' a b c e1 e2 => p163_11e a e1 (k1 r S' rfl a (hr.trans b (Nat.le_refl _)) c e2)
def v_mc (S S' : q_S) : Prop := v_md S S' ∧ ∀ b j, 1109 ≤ b → b ≤ 1113 → q_iv S' b j = q_iv S b j
theorem v_mc.refl : v_mc S S := ⟨v_md.refl, fun _ _ _ _ => rfl⟩
theorem v_mc.trans {S1 : q_S} (h : v_mc S S1) (h' : v_mc S1 S') : v_mc S S' := ⟨h.1.trans h'.1, fun b j h1 h2 => (h'.2 b j h1 h2).trans (h.2 b j h1 h2)⟩
theorem v_mc.w {S1 : q_S} {a k : Nat} {x : Int32} (h : v_mc S S1) (hd : v_dr a k) (ha : a < 1109 ∨ 1113 < a) : v_mc S (q_sI S1 a k x) := ⟨h.1.w hd, fun b j h1 h2 => by rw [v_aI (by omega)]; exact h.2 b j h1 h2⟩
theorem v_xm_no {a : Nat} (h : 1109 ≤ a ∧ a ≤ 1125) : v_xm a = false := by
  cases hx : v_xm a with
  | false => rfl
  | true => have := v_xm_out hx; omega
theorem v_mr.mc {f : Nat} (h : v_mr f S S') : v_mc S S' := ⟨h.md, fun b j h1 h2 => by rw [h.1.iv (v_xm_no (by omega))]⟩
theorem v_MC.add {w t r : Nat} {S1 : q_S} (h : v_MC S 120 6 cs) (h4 : q_iv S1 1114 6 = nI (cs.length + 1)) (h5 : ∀ j, q_iv S1 1115 (120 + j) = if j = cs.length then nI t else q_iv S 1115 (120 + j)) (h6 : ∀ j, q_iv S1 1116 (120 + j) = if j = cs.length then nI r else q_iv S 1116 (120 + j)) : v_MC S1 120 6 (cs ++ [(w, t, r)]) := by
  refine ⟨by rw [List.length_append]; exact h4, fun j w' t' r' hj => ?_⟩
  rw [h5, h6]
  by_cases hjc : j = cs.length
  · subst hjc
    rw [v_last] at hj
    cases hj
    rw [if_pos rfl, if_pos rfl]
    exact ⟨rfl, rfl⟩
  · rw [if_neg hjc, if_neg hjc]
    have hlt : j < cs.length := by
      obtain ⟨hi, _⟩ := List.getElem?_eq_some_iff.mp hj
      rw [List.length_append] at hi
      have : ([(w, t, r)] : List v_Cd).length = 1 := rfl
      omega
    rw [List.getElem?_append_left hlt] at hj
    exact h.2 j w' t' r' hj
theorem v_mn_end (hT : v_TK N g v pl) (hi : i ≤ N) : i < v_mn N g ↔ ¬ g i = 32 := by
  have hk := hT.2 i hi
  unfold v_mn
  constructor
  · intro h hg
    have : i = N := by
      rcases Nat.lt_or_eq_of_le hi with h1 | h1
      · exact absurd hg (hk.2.2.2.1 h1).1
      · exact h1
    subst this
    rw [if_pos hg] at h
    omega
  · intro h
    split
    · rename_i h32
      rcases Nat.lt_or_eq_of_le hi with h1 | h1
      · exact h1
      · subst h1; exact absurd h32 h
    · omega
theorem v_mconds (hG : v_TG N g pl) : ∀ n i ns cs S ok p ns' cs', v_cs g v n i ns cs = some (ok, p, ns', cs') → w_W (q_S0 L xs) S → v_MQ S N g v pl i ns → v_MC S 120 6 cs → 13 + 7 * cs.length ≤ pl i → ns.length ≤ i →
    (∀ S', ok = true → w_W (q_S0 L xs) S' → v_mc S S' → v_MQ S' N g v pl p ns' → v_MC S' 120 6 cs' → Q (.returned (some (.int 1))) S') →
    (∀ S', ok = false → w_W (q_S0 L xs) S' → v_me S S' → q_iv S' 1097 1 = nI (pl p) → Q (.returned (some (.int 0))) S') → w_R (d + 5) 148 34 [(0, .ref 1097)] [] S Q := by
  intro n
  induction n with
  | zero => intro i ns cs S ok p ns' cs' h; cases h
  | succ n ih =>
    intro i ns cs S ok p ns' cs' h hW hM hMC hpl hn k1 k0
    have hb := hM.b
    have hT := hM.1
    have hmn := v_mn_end hT hb.1
    have hp100 := (hT.2 i hb.1).2.2.1
    obtain ⟨_, _, _, _, _, _, _, c2, c3, _⟩ := v_wchp (hT.2 i hb.1).1
    unfold v_cs at h
    by_cases h32 : g i = 32
    · rw [if_pos h32] at h
      cases h
      have : ¬ i < v_mn N g := fun z => hmn.mp z h32
      exact e148_34e hW hM this (by omega) (k1 S rfl hW v_mc.refl hM hMC)
    rw [if_neg h32] at h
    have hmn' := hmn.mpr h32
    by_cases h23 : g i = 2 ∨ g i = 3
    · rw [if_pos h23] at h
      have hlt : i < N := hT.lt hb.1 (by omega) (by omega)
      have hW1 : w_W (q_S0 L xs) (q_sI (q_sI S 1115 (120 + cs.length) (nI i)) 1097 32 (nI (i + 1))) := (hW.sI (by decide)).sI (by decide)
      have hM1 : v_MQ (q_sI (q_sI S 1115 (120 + cs.length) (nI i)) 1097 32 (nI (i + 1))) N g v pl (i + 1) ns := (hM.ot (by decide)).at hlt
      have hc1 : v_mc S (q_sI (q_sI S 1115 (120 + cs.length) (nI i)) 1097 32 (nI (i + 1))) := (v_mc.refl.w (by unfold v_dr; omega) (by omega)).w (by unfold v_dr; omega) (by omega)
      have main : w_X (d + 4) 159 [.ref 1097, .int 123] (q_sI (q_sI S 1115 (120 + cs.length) (nI i)) 1097 32 (nI (i + 1))) (w_k (d + 5) 148 107 [(0, .ref 1097), (1, .int (nI (120 + cs.length)))] [] Q) := by
        refine x159 (s := 13) (d := d + 3) hW1 hM1 (by decide) (fun h13 hlt1 => ?_) (fun h13 => ?_)
        · rw [if_pos h13] at h
          have hW2 := hW1.sI (a := 1097) (k := 32) (x := nI (i + 1 + 1)) (by decide)
          have hM2 := hM1.at (i' := i + 1 + 1) hlt1
          have hc2 := hc1.w (a := 1097) (k := 32) (x := nI (i + 1 + 1)) (by unfold v_dr; omega) (by omega)
          refine e148_110y (d := d + 4) hW2 hM2 (by omega) ?_
          cases hz : v_pz g v 2000 0 0 0 (i + 2) ns with
          | none => rw [hz] at h; cases h
          | some res =>
            rw [hz] at h
            refine v_mexpr hW2 hM2 (by omega) hz (fun r S3 er hW3 hr3 hM3 hret => ?_) (fun S3 er hW3 hf3 hw3 => ?_)
            · obtain ⟨r', q, ns1⟩ := res
              dsimp only at er hM3
              subst er
              dsimp only at h
              obtain ⟨_, a1, a2, a3, a4, _⟩ := v_pz_post hT _ _ _ _ _ _ _ _ _ hz hlt1 (by omega) (by omega) (by omega)
              obtain ⟨a5, a6, _⟩ := a4 (by omega) r rfl
              have hc3 := hc2.trans hr3.mc
              refine e148_117y (d := d + 4) hW3 hM3 (by omega) (x159 (s := 14) (d := d + 3) hW3 hM3 (by decide) (fun h14 hlt3 => ?_) (fun h14 => ?_))
              · rw [if_pos h14] at h
                have hW4 := hW3.sI (a := 1097) (k := 32) (x := nI (q + 1)) (by decide)
                have hM4 := hM3.at hlt3
                have hp7 := hG.cond h23 a5 hlt3
                have hpq := (hT.2 (q + 1) hlt3).2.2.1
                have o3 : ∀ a j, 1109 ≤ a → a ≤ 1125 → q_iv S3 a j = q_iv (q_sI S 1115 (120 + cs.length) (nI i)) a j := fun a j b1 b2 => by
                  rw [hr3.1.iv (v_xm_no (by omega)), v_aI (by omega), v_aI (by omega)]
                have cn4 : q_iv (q_sI S3 1097 32 (nI (q + 1))) 1114 6 = nI cs.length := by rw [v_aI (by decide), o3 1114 6 (by omega) (by omega), v_aI (by decide)]; exact hMC.1
                refine e148_126y (rt := r) hW4 hM4 cn4 (by omega) (by omega) (by rw [v_kI (by decide)]; exact hret) ?_
                have hMC5 : v_MC (q_sI (q_sI (q_sI S3 1097 32 (nI (q + 1))) 1116 (120 + cs.length) (nI r)) 1114 6 (nI (cs.length + 1))) 120 6 (cs ++ [((if g i = 2 then 1 else 0), i, r)]) := by
                  refine hMC.add v_hI (fun j => ?_) (fun j => ?_)
                  · rw [v_aI (by decide), v_aI (by decide), v_aI (by decide), o3 1115 _ (by omega) (by omega)]
                    by_cases hj : j = cs.length
                    · rw [if_pos hj, hj]; exact v_hI
                    · rw [if_neg hj]; exact v_kI (by omega)
                  · rw [v_aI (by decide)]
                    by_cases hj : j = cs.length
                    · rw [if_pos hj, hj]; exact v_hI
                    · rw [if_neg hj, v_kI (by omega), v_aI (by decide), o3 1116 _ (by omega) (by omega)]; exact v_aI (by decide)
                have hc5 := ((hc3.w (a := 1097) (k := 32) (x := nI (q + 1)) (by unfold v_dr; omega) (by omega)).w (a := 1116) (k := 120 + cs.length) (x := nI r) (by unfold v_dr; omega) (by omega)).w (a := 1114) (k := 6) (x := nI (cs.length + 1)) (by unfold v_dr; omega) (by omega)
                refine ih (q + 1) ns1 _ _ ok p ns' cs' h ((hW4.sI (by decide)).sI (by decide)) ((hM4.ot (by decide)).ot (by decide)) hMC5 ?_ (by omega) (fun S6 e6 hW6 hc6 hM6 hMC6 => k1 S6 e6 hW6 (hc5.trans hc6) hM6 hMC6) (fun S6 e6 hW6 he6 hw6 => k0 S6 e6 hW6 (hc5.1.me he6) hw6)
                rw [List.length_append]
                show 13 + 7 * (cs.length + 1) ≤ _
                omega
              · rw [if_neg h14] at h
                cases h
                exact e148_126n' (hW3.sI (by decide)) (by omega) (k0 _ rfl (hW3.sI (by decide)) hc3.1.wh v_hI)
            · obtain ⟨r', q, ns1⟩ := res
              dsimp only at er
              subst er
              dsimp only at h
              cases h
              exact e148_117n' hW3 (by omega) (k0 S3 rfl hW3 (hc2.1.me hf3.me) hw3)
        · rw [if_neg h13] at h
          cases h
          exact e148_110n' (hW1.sI (by decide)) (by omega) (k0 _ rfl (hW1.sI (by decide)) hc1.1.wh v_hI)
      by_cases h2 : g i = 2
      · exact e148_34w hW hM hmn' (by omega) (c2.mpr h2) hlt (by omega) (by omega) hMC.1 main
      · exact e148_34u hW hM hmn' (by omega) (c3.mpr (by omega)) hlt (by omega) (by omega) hMC.1 main
    · rw [if_neg h23] at h
      cases h
      exact e148_34x hW hM hmn' (by omega) (fun z => h23 (Or.inl (c2.mp z))) (fun z => h23 (Or.inr (c3.mp z))) (k0 _ rfl (hW.sI (by decide)) v_mc.refl.1.wh v_hI)
end VMRD2
