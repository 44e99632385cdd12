/-! ONE CALL: policy. -/
section JOD
variable {d L p : Nat} {xs : Nat → Int32} {S : q_S} {Q : Outcome → q_S → Prop}
theorem j_tpl {T : List v_Tk} (hK : v_TK (T.length - 1) (v_tg T) (v_tv T) (v_tp T)) (hT : 0 < T.length) (q : Nat) : v_tp T q ≤ 100 := by
  by_cases h : q ≤ T.length - 1
  · exact (hK.2 q h).2.2.1
  · unfold v_tp
    rw [List.getD_eq_getElem?_getD, List.getElem?_eq_none (by omega)]
    decide
/-- what both know of the text -/
theorem j_tok {c : Nat → Nat} {n : Nat} (hn : n ≤ 100) : ∃ T, v_tz c n 200 (v_en v_bl c n 0) [] = some T ∧ 0 < T.length ∧ v_TK (T.length - 1) (v_tg T) (v_tv T) (v_tp T) ∧ v_TG (T.length - 1) (v_tg T) (v_tp T) := by
  obtain ⟨T, hT⟩ := v_tz_ex (c := c) (n := n) 200 (v_en v_bl c n 0) [] (by omega)
  obtain ⟨us, e, pe, eT, he, htok⟩ := v_tok_all 200 _ _ _ hT ⟨Nat.zero_le _, (fun j s x q h => by cases h), (fun j s x q s' x' q' h => by cases h)⟩ ((v_en_le v_bl c n 0).2 (Nat.zero_le _))
  obtain ⟨hTK, hTG⟩ := v_tok_TK (by omega) he htok
  refine ⟨T, hT, ?_, ?_, ?_⟩
  · rw [eT, List.length_append]
    exact Nat.succ_pos _
  · rw [eT, List.length_append]
    exact hTK
  · rw [eT, List.length_append]
    exact hTG
/-- the class's half of a policy -/
def j_cl (S : q_S) (P : Nat) (hd : v_Hd) (ns : List v_Nd) (cs : List v_Cd) (T : List v_Tk) : Prop := v_CN S P (v_tp T) ns ∧ v_CC S P (v_tp T) cs ∧ v_CH S P hd ∧ q_iv S P 5 = nI (T.length - 1)
theorem j_cl_eq {S' : q_S} {P : Nat} {hd : v_Hd} {ns : List v_Nd} {cs : List v_Cd} {T : List v_Tk} (h1 : ∀ k, 1 ≤ k → k ≤ 10 → q_iv S' (P + k) = q_iv S (P + k)) (h0 : ∀ k, k ≠ 0 → q_iv S' P k = q_iv S P k) (hr : q_rv S' (P + 6) = q_rv S (P + 6)) (h : j_cl S P hd ns cs T) : j_cl S' P hd ns cs T := by
  unfold j_cl v_CN v_CC v_CH
  rw [h0 10 (by decide), h0 6 (by decide), h0 1 (by decide), h0 4 (by decide), h0 5 (by decide), hr, h1 1 (by decide) (by decide), h1 2 (by decide) (by decide), h1 3 (by decide) (by decide), h1 4 (by decide) (by decide), h1 5 (by decide) (by decide), h1 7 (by decide) (by decide), h1 8 (by decide) (by decide), h1 9 (by decide) (by decide), h1 10 (by decide) (by decide)]
  exact h
def j_Y (Z a : Nat) : Bool := v_xr Z a || decide (a = 1000 ∨ a = 1002 ∨ a = 1139)
theorem j_Yf {Z a : Nat} (h1 : a < 1023 ∨ 1027 < a) (h2 : a < Z ∨ Z + 10 < a) (h3 : a ≠ 1000) (h4 : a ≠ 1002) (h5 : a ≠ 1139) : j_Y Z a = false := by
  unfold j_Y v_xr
  simp only [Bool.or_eq_false_iff, Bool.and_eq_false_iff, decide_eq_false_iff_not]
  omega
theorem j_Yx {Z : Nat} : ∀ a, j_Y Z a = false → v_xr Z a = false := fun a h => by
  unfold j_Y at h
  rw [Bool.or_eq_false_iff] at h
  exact h.1
/-- what is left between two calls, after policy, from what has changed -/
theorem j_polJ {S' A B B3 : q_S} {n : Nat} {P Z : Nat} {hd : v_Hd} {ns : List v_Nd} {cs : List v_Cd} {T : List v_Tk} (hn : n < 6) (hJ : u_J S) (hP : q_rv S 1002 n = some P) (hZ : q_rv S 1000 5 = some Z) (hwZ : w_P Z)
    (fA : u_f 0 (j_Y Z) S A) (rA : ∀ i, q_rv A 1002 i = if i = n then some Z else q_rv S 1002 i) (rA5 : q_rv A 1000 5 = some P) (a0 : q_iv A Z 0 = 1) (aC : j_cl A Z hd ns cs T) (a1 : q_iv A 1000 1 = 0)
    (fB : ∀ a, a < 1097 → q_iv S' a = q_iv A a ∧ q_rv S' a = q_rv A a) (tp : q_tp S' ≤ q_tp A) (sm : q_sm S' ≤ q_sm A)
    (eM : ∀ a x, 1098 ≤ a → a ≤ 1125 → ¬ v_dr a x → q_iv B3 a x = q_iv A a x) (hld : j_ld n B3 S') (bN : v_MN B3 606 6 ns) (bC : v_MC B3 120 6 cs) (bH : v_MH B3 6 hd) (bK : v_MTk B3 606 6 T)
    (w0 : q_iv S' 1000 2 = q_iv S' 1097 1) (w3 : q_iv S' 1097 3 = 0) (w31 : q_iv S' 1097 31 = q_iv S 1097 31) (hF : v_WF (T.length - 1) (v_tg T) hd ns cs) (hg : ∀ j, j < T.length - 1 → v_tg T j < 34) : u_J S' := by
  have hrZ := hwZ.rng
  have c1 : ∀ a, a < 1097 → a ≠ 1000 → a ≠ 1002 → (a < 1023 ∨ 1027 < a) → (a < Z ∨ Z + 10 < a) → q_iv S' a = q_iv S a ∧ q_rv S' a = q_rv S a := fun a h1 h2 h3 h4 h5 => by
    have hy : j_Y Z a = false := j_Yf h4 h5 h2 h3 (by omega)
    rw [(fB a h1).1, (fB a h1).2, fA.iv (by omega) hy, fA.rv (by omega) hy]
    exact ⟨rfl, rfl⟩
  have c2 : ∀ a, 1117 ≤ a → a ≤ 1125 → q_iv S' a = q_iv S a := fun a h1 h2 => by
    rw [hld.1.iv (decide_eq_false (by omega))]
    funext x
    rw [eM a x (by omega) (by omega) (by unfold v_dr; omega), fA.iv (by omega) (j_Yf (by omega) (by omega) (by omega) (by omega) (by omega))]
  have c3 : ∀ a x, 1099 ≤ a → a ≤ 1116 → ¬ v_dr a x → q_iv B3 a x = q_iv S a x := fun a x h1 h2 h3 => by
    rw [eM a x (by omega) (by omega) h3, fA.iv (by omega) (j_Yf (by omega) (by omega) (by omega) (by omega) (by omega))]
  refine ⟨⟨0, fun _ => 0, by omega, ?_, w3, fun j hj => absurd hj (by omega)⟩, w0, hJ.2.2.1.cg (fun a x y => (c1 a (by omega) (by omega) (by omega) (by omega) (by omega)).1) (fun a x y => c2 a (by omega) (by omega)), hJ.2.2.2.1.cg (fun a x y => (c1 a (by omega) (by omega) (by omega) (by omega) (by omega)).1) (fun a x y => c2 a (by omega) (by omega)), hJ.2.2.2.2.1.cg (c1 1003 (by omega) (by omega) (by omega) (by omega) (by omega)).1 (c2 1125 (by omega) (by omega)) w31, ?_⟩
  · rw [(fB 1000 (by omega)).1]
    exact a1
  · obtain ⟨π, sp, p1, p2, p3, p4⟩ := hJ.2.2.2.2.2
    have eP : P = π n := Option.some.inj (hP.symm.trans (p1 n hn).1)
    have eZ : Z = sp := Option.some.inj (hZ.symm.trans p2)
    subst eZ
    have hwP : w_P P := by
      rw [eP]
      exact (p1 n hn).2.1
    have r2 : ∀ i, q_rv S' 1002 i = if i = n then some Z else q_rv S 1002 i := fun i => by
      rw [(fB 1002 (by omega)).2]
      exact rA i
    refine ⟨fun i => if i = n then Z else π i, P, fun i hi => ?_, ?_, hwP, fun i hi => ?_⟩
    · show q_rv S' 1002 i = some (if i = n then Z else π i) ∧ w_P (if i = n then Z else π i) ∧ (if i = n then Z else π i) ≠ P ∧ ∀ j, j < 6 → j ≠ i → (if j = n then Z else π j) ≠ (if i = n then Z else π i)
      rw [r2]
      by_cases h : i = n
      · rw [if_pos h, if_pos h]
        refine ⟨rfl, hwZ, fun z => (p1 n hn).2.2.1 (by rw [← eP]; exact z.symm), fun j hj hji => ?_⟩
        rw [if_neg (fun z => hji (z.trans h.symm))]
        exact (p1 j hj).2.2.1
      · rw [if_neg h, if_neg h]
        refine ⟨(p1 i hi).1, (p1 i hi).2.1, by rw [eP]; exact (p1 n hn).2.2.2 i hi h, fun j hj hji => ?_⟩
        by_cases hj' : j = n
        · rw [if_pos hj']
          exact fun z => (p1 i hi).2.2.1 z.symm
        · rw [if_neg hj']
          exact (p1 i hi).2.2.2 j hj hji
    · rw [(fB 1000 (by omega)).2]
      exact rA5
    · show ∃ b : Bool, q_iv S' (if i = n then Z else π i) 0 = (if b = true then 1 else 0) ∧ q_iv S' 1109 i = (if b = true then 1 else 0) ∧ (b = true → ∃ hd ns cs T, u_PR S' (if i = n then Z else π i) i hd ns cs T)
      by_cases h : i = n
      · rw [if_pos h, h]
        refine ⟨true, ?_, ?_, fun _ => ⟨hd, ns, cs, T, ?_, ?_, hF, hg⟩⟩
        · rw [(fB Z (by omega)).1]
          exact a0
        · rw [hld.2.2.2.2.2 n, if_pos rfl]
          rfl
        · exact j_cl_eq (fun k x y => (fB (Z + k) (by omega)).1) (fun k _ => by rw [(fB Z (by omega)).1]) (fB (Z + 6) (by omega)).2 aC
        · exact j_ld_new hld hF.2.2.1 hF.2.2.2.1 hF.2.1 bN bC bH bK
      · rw [if_neg h]
        obtain ⟨b, b1, b2, b3⟩ := p4 i hi
        have hwi := (p1 i hi).2.1
        have hri := hwi.rng
        have hdj := hwi.dj hwZ (p1 i hi).2.2.1
        refine ⟨b, ?_, ?_, fun hb => ?_⟩
        · rw [(c1 (π i) (by omega) (by omega) (by omega) (by omega) (by omega)).1]
          exact b1
        · rw [hld.2.2.2.2.2 i, if_neg h, c3 1109 i (by omega) (by omega) (by unfold v_dr; omega)]
          exact b2
        · obtain ⟨hd', ns', cs', T', hR⟩ := b3 hb
          refine ⟨hd', ns', cs', T', ?_, ?_, hR.2.2.1, hR.2.2.2⟩
          · exact j_cl_eq (fun k x y => (c1 (π i + k) (by omega) (by omega) (by omega) (by omega) (by omega)).1) (fun k _ => by rw [(c1 (π i) (by omega) (by omega) (by omega) (by omega) (by omega)).1]) (c1 (π i + 6) (by omega) (by omega) (by omega) (by omega) (by omega)).2 hR.1
          · refine j_rf_eq hR.2.2.1.2.2.1 hR.2.2.1.2.2.2.1 hR.2.2.1.2.1 (fun A j hA hj => ?_) (fun A j hA hj => ?_) (fun A j hA hj => ?_) (fun A hA => ?_) hR.2.1
            · have hA' := of_decide_eq_true hA
              rw [hld.2.1 A hA, if_neg (by omega)]
              exact c3 A _ (by omega) (by omega) (by unfold v_dr; omega)
            · have hA' := of_decide_eq_true hA
              rw [hld.2.2.1 A hA, if_neg (by omega)]
              exact c3 A _ (by omega) (by omega) (by unfold v_dr; omega)
            · have hA' := of_decide_eq_true hA
              rw [hld.2.2.2.1 A hA, if_neg (by omega)]
              exact c3 A _ (by omega) (by omega) (by unfold v_dr; omega)
            · have hA' := of_decide_eq_true hA
              rw [hld.2.2.2.2.1 A hA, if_neg h]
              exact c3 A _ (by omega) (by omega) (by unfold v_dr; omega)
/-- nothing came of it: the text is gone, the place stands -/
theorem j_polN {S' : q_S} {Z : Nat} (hZ : q_rv S 1000 5 = some Z) (hwZ : w_P Z) (c1 : ∀ a, a < 1097 → a ≠ 1000 → (a < 1023 ∨ 1027 < a) → (a < Z ∨ Z + 10 < a) → q_iv S' a = q_iv S a ∧ q_rv S' a = q_rv S a) (r5 : q_rv S' 1000 5 = some Z) (c3 : ∀ a x, 1098 ≤ a → a ≤ 1125 → ¬ v_dr a x → q_iv S' a x = q_iv S a x) (l1 : q_iv S' 1000 1 = 0) (l3 : q_iv S' 1097 3 = 0) (w0 : q_iv S' 1000 2 = q_iv S' 1097 1) (w31 : q_iv S' 1097 31 = q_iv S 1097 31) (hJ : u_J S) : u_J S' := by
  have hrZ := hwZ.rng
  have c2 : ∀ a, 1117 ≤ a → a ≤ 1125 → q_iv S' a = q_iv S a := fun a h1 h2 => by
    funext x
    exact c3 a x (by omega) (by omega) (by unfold v_dr; omega)
  refine ⟨⟨0, fun _ => 0, by omega, l1, l3, fun j hj => absurd hj (by omega)⟩, w0, hJ.2.2.1.cg (fun a x y => (c1 a (by omega) (by omega) (by omega) (by omega)).1) (fun a x y => c2 a (by omega) (by omega)), hJ.2.2.2.1.cg (fun a x y => (c1 a (by omega) (by omega) (by omega) (by omega)).1) (fun a x y => c2 a (by omega) (by omega)), hJ.2.2.2.2.1.cg (c1 1003 (by omega) (by omega) (by omega) (by omega)).1 (c2 1125 (by omega) (by omega)) w31, ?_⟩
  obtain ⟨π, sp, p1, p2, p3, p4⟩ := hJ.2.2.2.2.2
  have eZ : Z = sp := Option.some.inj (hZ.symm.trans p2)
  subst eZ
  refine ⟨π, Z, by rw [(c1 1002 (by omega) (by omega) (by omega) (by omega)).2]; exact p1, r5, hwZ, fun i hi => ?_⟩
  obtain ⟨b, b1, b2, b3⟩ := p4 i hi
  have hwi := (p1 i hi).2.1
  have hri := hwi.rng
  have hdj := hwi.dj hwZ (p1 i hi).2.2.1
  refine ⟨b, ?_, ?_, fun hb => ?_⟩
  · rw [(c1 (π i) (by omega) (by omega) (by omega) (by omega)).1]
    exact b1
  · rw [c3 1109 i (by omega) (by omega) (by unfold v_dr; omega)]
    exact b2
  · obtain ⟨hd', ns', cs', T', hR⟩ := b3 hb
    refine ⟨hd', ns', cs', T', ?_, ?_, hR.2.2.1, hR.2.2.2⟩
    · exact j_cl_eq (fun k x y => (c1 (π i + k) (by omega) (by omega) (by omega) (by omega)).1) (fun k _ => by rw [(c1 (π i) (by omega) (by omega) (by omega) (by omega)).1]) (c1 (π i + 6) (by omega) (by omega) (by omega) (by omega)).2 hR.1
    · refine j_rf_eq hR.2.2.1.2.2.1 hR.2.2.1.2.2.2.1 hR.2.2.1.2.1 (fun A j hA hj => ?_) (fun A j hA hj => ?_) (fun A j hA hj => ?_) (fun A hA => ?_) hR.2.1
      · have hA' := of_decide_eq_true hA
        exact c3 A _ (by omega) (by omega) (by unfold v_dr; omega)
      · have hA' := of_decide_eq_true hA
        exact c3 A _ (by omega) (by omega) (by unfold v_dr; omega)
      · have hA' := of_decide_eq_true hA
        exact c3 A _ (by omega) (by omega) (by unfold v_dr; omega)
      · have hA' := of_decide_eq_true hA
        exact c3 A _ (by omega) (by omega) (by unfold v_dr; omega)
end JOD
