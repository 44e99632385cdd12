/-! THE REFERENCE TELLS WHAT A PART IS WORTH. -/
def v_xw (a : Nat) : Bool := decide (a = 1097) || (decide (1131 ≤ a) && decide (a ≤ 1134))
def v_ms (k v : Nat) (S S' : q_S) : Prop := v_fr v_xw S S' ∧ (∀ j, j ≠ 45 → j ≠ 46 → q_iv S' 1097 j = q_iv S 1097 j) ∧ (∀ a j, a = 1131 ∨ a = 1132 → j < k → q_iv S' a j = q_iv S a j) ∧ ∀ a j, a = 1133 ∨ a = 1134 → j < v → q_iv S' a j = q_iv S a j
section VMW
variable {d L o k v k' v' : Nat} {xs : Nat → Int32} {S S1 S2 S3 : q_S} {Q : Outcome → q_S → Prop} {x : Int32} {ns : List v_Nd} {pr rs b : Nat} {so : Nat → Nat → Nat} {va : Nat → Nat → Int32} {up : Nat → Nat → Bool}
theorem v_ms.refl : v_ms k v S S := ⟨v_fr.refl, fun _ _ _ => rfl, fun _ _ _ _ => rfl, fun _ _ _ _ => rfl⟩
theorem v_ms.trans (h : v_ms k v S1 S2) (h' : v_ms k' v' S2 S3) (hk : k ≤ k') (hv : v ≤ v') : v_ms k v S1 S3 := ⟨h.1.trans h'.1, fun j a b => (h'.2.1 j a b).trans (h.2.1 j a b), fun a j b c => (h'.2.2.1 a j b (by omega)).trans (h.2.2.1 a j b c), fun a j b c => (h'.2.2.2 a j b (by omega)).trans (h.2.2.2 a j b c)⟩
theorem v_ms.ph {a j : Nat} (h : v_ms k v S1 S2) (ha : a = 1131 ∨ a = 1132) (hj : k ≤ j) : v_ms k v S1 (q_sI S2 a j x) := by
  refine ⟨h.1.sI (by unfold v_xw; rcases ha with rfl | rfl <;> rfl), fun i p q => ?_, fun c i p q => ?_, fun c i p q => ?_⟩
  · rw [v_aI (by omega)]; exact h.2.1 i p q
  · rw [v_kI (by omega)]; exact h.2.2.1 c i p q
  · rw [v_aI (by omega)]; exact h.2.2.2 c i p q
theorem v_ms.vl {a j : Nat} (h : v_ms k v S1 S2) (ha : a = 1133 ∨ a = 1134) (hj : v ≤ j) : v_ms k v S1 (q_sI S2 a j x) := by
  refine ⟨h.1.sI (by unfold v_xw; rcases ha with rfl | rfl <;> rfl), fun i p q => ?_, fun c i p q => ?_, fun c i p q => ?_⟩
  · rw [v_aI (by omega)]; exact h.2.1 i p q
  · rw [v_aI (by omega)]; exact h.2.2.1 c i p q
  · rw [v_kI (by omega)]; exact h.2.2.2 c i p q
theorem v_ms.fd {j : Nat} (h : v_ms k v S1 S2) (hj : j = 45 ∨ j = 46) : v_ms k v S1 (q_sI S2 1097 j x) := by
  refine ⟨h.1.sI rfl, fun i p q => ?_, fun c i p q => ?_, fun c i p q => ?_⟩
  · rw [v_kI (by omega)]; exact h.2.1 i p q
  · rw [v_aI (by omega)]; exact h.2.2.1 c i p q
  · rw [v_aI (by omega)]; exact h.2.2.2 c i p q
theorem v_xw_no {a : Nat} (h : a ≠ 1097) (h2 : a < 1131 ∨ 1134 < a) : v_xw a = false := by
  unfold v_xw
  simp
  omega
def v_MEv (S : q_S) (o b : Nat) (ns : List v_Nd) (pr rs : Nat) (so : Nat → Nat → Nat) (va : Nat → Nat → Int32) (up : Nat → Nat → Bool) : Prop := o ≤ 606 ∧ ns.length ≤ 100 ∧ v_MN S o b ns ∧ q_iv S 1097 47 = nI pr ∧ q_iv S 1097 48 = nI rs ∧ v_ge pr rs so va ∧ (∀ e a, e < 16 → a < 3 → (q_iv S 1117 e = 0 → so e a = 0) ∧ (¬ q_iv S 1117 e = 0 → q_iv S 1120 (3 * e + a) = nI (so e a)) ∧ (so e a ≠ 0 → q_iv S 1121 (3 * e + a) = va e a)) ∧ (∀ j, j < 16 → v_lo (q_iv S 1119 j)) ∧ ∀ e f, up e f = v_b (v_up (q_iv S 1119) e) f
theorem v_MEv.ms (h : v_MEv S o b ns pr rs so va up) (hm : v_ms k v S S1) : v_MEv S1 o b ns pr rs so va up := by
  unfold v_MEv
  rw [hm.1.iv (v_xw_no (a := 1117) (by decide) (by decide)), hm.1.iv (v_xw_no (a := 1120) (by decide) (by decide)), hm.1.iv (v_xw_no (a := 1121) (by decide) (by decide)), hm.1.iv (v_xw_no (a := 1119) (by decide) (by decide)), hm.2.1 47 (by decide) (by decide), hm.2.1 48 (by decide) (by decide)]
  exact ⟨h.1, h.2.1, h.2.2.1.fr hm.1 (fun a h1 h2 => v_xw_no (by omega) (by omega)), h.2.2.2⟩
def v_KW (L : Nat) (xs : Nat → Int32) (d o k v : Nat) (S : q_S) (Q : Outcome → q_S → Prop) (q : Nat × Int32) : Prop := (4 ≤ q.1 → ∀ S', w_W (q_S0 L xs) S' → v_ms k v S S' → Q (.returned (some (.int (nI q.1)))) S') ∧ (q.1 < 4 → ∀ S', w_W (q_S0 L xs) S' → v_ms k v S S' → q_iv S' 1097 45 = nI k → q_iv S' 1097 46 = nI (v + 1) → q_iv S' 1133 v = nI q.1 → q_iv S' 1134 v = q.2 → w_R (d + 3) 187 15 [(0, .ref 1097), (1, .int (nI o))] [] S' Q)
/-- a value is put -/
def v_ps (S : q_S) (k v : Nat) (ph s x : Int32) : q_S := q_sI (q_sI (q_sI (q_sI (q_sI (q_sI S 1132 k ph) 1097 45 (nI k)) 1097 46 (nI v)) 1133 v s) 1134 v x) 1097 46 (nI (v + 1))
theorem v_KW.put {q1 : Nat} {q2 ph : Int32} (h : v_KW L xs d o k v S Q (q1, q2)) (hq : q1 < 4) (hW : w_W (q_S0 L xs) S1) (hm : v_ms k v S S1) : w_R (d + 3) 187 15 [(0, .ref 1097), (1, .int (nI o))] [] (v_ps S1 k v ph (nI q1) q2) Q := by
  refine h.2 hq _ ((((((hW.sI (by decide)).sI (by decide)).sI (by decide)).sI (by decide)).sI (by decide)).sI (by decide)) ((((((hm.ph (Or.inr rfl) (Nat.le_refl _)).fd (Or.inl rfl)).fd (Or.inr rfl)).vl (Or.inl rfl) (Nat.le_refl _)).vl (Or.inr rfl) (Nat.le_refl _)).fd (Or.inr rfl)) ?_ v_hI ?_ ?_
  · unfold v_ps; rw [v_kI (by decide), v_aI (by decide), v_aI (by decide), v_kI (by decide)]; exact v_hI
  · unfold v_ps; rw [v_aI (by decide), v_aI (by decide)]; exact v_hI
  · unfold v_ps; rw [v_aI (by decide)]; exact v_hI
theorem v_KW.lf {q1 : Nat} {q2 ph : Int32} (h : v_KW L xs d o k v S Q (q1, q2)) (hq : q1 < 4) (hW : w_W (q_S0 L xs) S1) (hm : v_ms k v S S1) : w_R (d + 3) 187 15 [(0, .ref 1097), (1, .int (nI o))] [] (q_sI (q_sI (q_sI (q_sI (q_sI S1 1132 k ph) 1097 45 (nI k)) 1133 v (nI q1)) 1134 v q2) 1097 46 (nI (v + 1))) Q := by
  refine h.2 hq _ (((((hW.sI (by decide)).sI (by decide)).sI (by decide)).sI (by decide)).sI (by decide)) (((((hm.ph (Or.inr rfl) (Nat.le_refl _)).fd (Or.inl rfl)).vl (Or.inl rfl) (Nat.le_refl _)).vl (Or.inr rfl) (Nat.le_refl _)).fd (Or.inr rfl)) ?_ v_hI ?_ ?_
  · rw [v_kI (by decide), v_aI (by decide), v_aI (by decide)]; exact v_hI
  · rw [v_aI (by decide), v_aI (by decide)]; exact v_hI
  · rw [v_aI (by decide)]; exact v_hI
theorem v_KW.e1 {q1 : Nat} {q2 ph : Int32} (h : v_KW L xs d o k v S Q (q1, q2)) (hq : 4 ≤ q1) (hW : w_W (q_S0 L xs) S1) (hm : v_ms k v S S1) : Q (.returned (some (.int (nI q1)))) (q_sI (q_sI S1 1132 k ph) 1097 45 (nI k)) := h.1 hq _ ((hW.sI (by decide)).sI (by decide)) ((hm.ph (Or.inr rfl) (Nat.le_refl _)).fd (Or.inl rfl))
theorem v_KW.e2 {q1 : Nat} {q2 ph : Int32} (h : v_KW L xs d o k v S Q (q1, q2)) (hq : 4 ≤ q1) (hW : w_W (q_S0 L xs) S1) (hm : v_ms k v S S1) : Q (.returned (some (.int (nI q1)))) (q_sI (q_sI (q_sI S1 1132 k ph) 1097 45 (nI k)) 1097 46 (nI v)) := h.1 hq _ (((hW.sI (by decide)).sI (by decide)).sI (by decide)) (((hm.ph (Or.inr rfl) (Nat.le_refl _)).fd (Or.inl rfl)).fd (Or.inr rfl))
theorem v_KW.e0 {q1 : Nat} {q2 ph : Int32} (h : v_KW L xs d o k v S Q (q1, q2)) (hq : 4 ≤ q1) (hW : w_W (q_S0 L xs) S1) (hm : v_ms k v S S1) : Q (.returned (some (.int (nI q1)))) (q_sI S1 1132 k ph) := h.1 hq _ (hW.sI (by decide)) (hm.ph (Or.inr rfl) (Nat.le_refl _))
/-- a part is looked at -/
def v_lo2 (S : q_S) (k : Nat) (ph a : Int32) : q_S := q_sI (q_sI (q_sI (q_sI S 1132 k ph) 1131 (k + 1) a) 1132 (k + 1) 0) 1097 45 (nI (k + 2))
theorem v_lo2_W {ph a : Int32} (h : w_W (q_S0 L xs) S) : w_W (q_S0 L xs) (v_lo2 S k ph a) := (((h.sI (by decide)).sI (by decide)).sI (by decide)).sI (by decide)
theorem v_lo2_ms {ph a : Int32} (h : v_ms k v S S1) : v_ms k v S (v_lo2 S1 k ph a) := (((h.ph (Or.inr rfl) (Nat.le_refl _)).ph (Or.inl rfl) (by omega)).ph (Or.inr rfl) (by omega)).fd (Or.inl rfl)
theorem v_1mx {x : Int32} (h : x = 0 ∨ x = 1) : (1 : Int32) - x = if x = 0 then 1 else 0 := by
  rcases h with rfl | rfl <;> decide
theorem v_tsti (s : Int32) {f : Nat} (hf : f < 32) : (s >>> (nI f &&& 31)) &&& 1 = if v_b s f = true then 1 else 0 := v_tst s hf
set_option maxHeartbeats 4000000 in
theorem v_mworth : ∀ h lo i k v S Q, v_tr h ns lo i → k + h ≤ 117 → v + h ≤ 117 → w_W (q_S0 L xs) S → v_MEv S o b ns pr rs so va up → q_iv S 1097 45 = nI (k + 1) → q_iv S 1131 k = nI i → q_iv S 1132 k = 0 → q_iv S 1097 46 = nI v → v_KW L xs d o k v S Q (v_ev pr rs so va up ns h i) → w_R (d + 3) 187 15 [(0, .ref 1097), (1, .int (nI o))] [] S Q := by
  intro h
  induction h with
  | zero => intro lo i k v S Q h; exact h.elim
  | succ h ih =>
    intro lo i k v S Q ht hk hv hW hE w1 w2 w3 w4 K
    have hi100 := (v_tr_lo ht).2
    obtain ⟨ho, hlen, hN, hpr, hrs, hG, hA, hlo, hup⟩ := id hE
    obtain ⟨s, t, x, lf, rt, e1, e2⟩ := ht
    obtain ⟨n1, n2, n3, n4, n5⟩ := hN.2 i s t x lf rt e1
    unfold v_ev at K
    rw [e1] at K
    rcases e2 with ⟨rfl, rfl, _, f3, f4, f5⟩ | ⟨a, rfl, rfl, ha, f3, f4⟩ | ⟨a, c, rfl, rfl, hb, f3, f4, f5, f6⟩
    · -- a leaf
      have K : v_KW L xs d o k v S Q (v_lfv pr rs s x) := K
      have h6 : s = 30 ∨ s = 4 ∨ s = 5 ∨ s = 31 ∨ s = 6 ∨ s = 7 := by
        unfold v_lf at f3
        simp only [Bool.or_eq_true, decide_eq_true_eq] at f3
        exact f3
      rcases h6 with rfl | rfl | rfl | rfl | rfl | rfl
      · exact o187_l1 (d := d + 1) hW (by omega) (by omega) (by omega) ho w1 w2 w4 n1 w3 n2 f5 n4 (v_KW.lf (q1 := 1) (q2 := nI x) K (by decide) hW v_ms.refl)
      · exact o187_l306 (d := d + 1) hW (by omega) (by omega) (by omega) ho w1 w2 w4 n1 w3 n2 (v_KW.lf (q1 := 2) (q2 := 1) K (by decide) hW v_ms.refl)
      · exact o187_l307 (d := d + 1) hW (by omega) (by omega) (by omega) ho w1 w2 w4 n1 w3 n2 (v_KW.lf (q1 := 2) (q2 := 0) K (by decide) hW v_ms.refl)
      · exact o187_l2 (d := d + 1) hW (by omega) (by omega) (by omega) ho w1 w2 w4 n1 w3 n2 f5 n4 (v_KW.lf (q1 := 3) (q2 := nI x) K (by decide) hW v_ms.refl)
      · exact o187_l308 (d := d + 1) hW (by omega) (by omega) (by omega) ho w1 w2 w4 n1 w3 n2 hpr (v_KW.lf (q1 := 3) (q2 := nI pr) K (by decide) hW v_ms.refl)
      · exact o187_l309 (d := d + 1) hW (by omega) (by omega) (by omega) ho w1 w2 w4 n1 w3 n2 hrs (v_KW.lf (q1 := 3) (q2 := nI rs) K (by decide) hW v_ms.refl)
    · -- one part
      have ga := v_gd_ev (up := up) hG _ lo a f4
      refine o187_n (d := d + 2) hW (by omega) (by omega) (by omega) ho w1 w2 w4 w3 (by omega) n2 ?_
      have hW1 := v_lo2_W (k := k) (ph := 1) (a := nI a) hW
      have hm1 : v_ms k v S (v_lo2 S k 1 (nI a)) := v_lo2_ms v_ms.refl
      refine ih lo a (k + 1) v (v_lo2 S k 1 (nI a)) Q f4 (by omega) (by omega) hW1 (hE.ms hm1) v_hI ?_ ?_ ?_ ?_
      · show q_iv (q_sI (q_sI _ 1132 (k + 1) 0) 1097 45 _) 1131 (k + 1) = _
        rw [v_aI (by decide), v_aI (by decide)]; exact v_hI
      · show q_iv (q_sI _ 1097 45 _) 1132 (k + 1) = _
        rw [v_aI (by decide)]; exact v_hI
      · show q_iv (q_sI _ 1097 45 _) 1097 46 = _
        rw [v_kI (by decide)]; exact w4
      · dsimp only at K
        refine ⟨fun h4 S' hW' hm' => ?_, fun h4 S' hW' hm' wk wv wvs wvx => ?_⟩
        · rw [if_pos h4] at K
          exact K.1 h4 S' hW' (hm1.trans hm' (by omega) (Nat.le_refl _))
        · rw [if_neg (by omega)] at K
          have hmS : v_ms k v S S' := hm1.trans hm' (by omega) (Nat.le_refl _)
          have hE' := hE.ms hmS
          obtain ⟨_, _, hN', _, _, _, hA', _, _⟩ := id hE'
          obtain ⟨n1', n2', n3', n4', n5'⟩ := hN'.2 i s t x (some a) none e1
          have wn' : q_iv S' 1131 k = nI i := by
            rw [hm'.2.2.1 1131 k (Or.inl rfl) (by omega)]
            show q_iv (q_sI (q_sI (q_sI _ 1131 (k + 1) _) 1132 (k + 1) 0) 1097 45 _) 1131 k = _
            rw [v_aI (by decide), v_aI (by decide), v_kI (by omega), v_aI (by decide)]; exact w2
          have wp' : q_iv S' 1132 k = 1 := by
            rw [hm'.2.2.1 1132 k (Or.inr rfl) (by omega)]
            show q_iv (q_sI (q_sI (q_sI _ 1131 (k + 1) _) 1132 (k + 1) 0) 1097 45 _) 1132 k = _
            rw [v_aI (by decide), v_kI (by omega), v_aI (by decide)]; exact v_hI
          revert K ga h4 wvs wvx
          generalize v_ev pr rs so va up ns h a = q
          intro K ga h4 wvs wvx
          obtain ⟨qs, qx⟩ := q
          dsimp only at ga h4 K wvs wvx
          rcases f3 with rfl | rfl | ⟨f3, fx⟩
          · refine o187_u33 (d := d + 1) hW' (by omega) (by omega) (by omega) ho wk wn' wv ga.2.1 wvs wvx n1' wp' (by omega) n2' (fun z => ?_) (fun z => ?_)
            · have K : v_KW L xs d o k v S Q (4, 0) := by rw [show v_un so va 18 x (qs, qx) = (4, 0) from by show (if qs = 2 then _ else _) = _; rw [if_neg z]] at K; exact K
              exact K.e1 (by decide) hW' hmS
            · have K : v_KW L xs d o k v S Q (2, 1 - qx) := by rw [v_1mx (ga.2.2.1 z)]; rw [show v_un so va 18 x (qs, qx) = (2, if qx = 0 then 1 else 0) from by show (if qs = 2 then ((2 : Nat), if qx = 0 then (1 : Int32) else 0) else _) = _; rw [if_pos z]] at K; exact K
              exact K.put (by decide) hW' hmS
          · refine o187_u45 (d := d) hW' (by omega) (by omega) (by omega) ho wk wn' wv ga.2.1 wvs wvx n1' wp' (by omega) n2' (fun z => ?_) (fun z z' => ?_) (fun z z' => ?_)
            · have K : v_KW L xs d o k v S Q (4, 0) := by rw [show v_un so va 28 x (qs, qx) = (4, 0) from by show (if qs = 1 then _ else _) = _; rw [if_neg z]] at K; exact K
              exact K.e1 (by decide) hW' hmS
            · have K : v_KW L xs d o k v S Q (1, (-(qx.toInt64)).toInt32) := by rw [show v_un so va 28 x (qs, qx) = (1, (-(qx.toInt64)).toInt32) from by show (if qs = 1 then _ else _) = _; rw [if_pos z, v_num1 z']] at K; exact K
              exact K.put (by decide) hW' hmS
            · have K : v_KW L xs d o k v S Q (6, 0) := by rw [show v_un so va 28 x (qs, qx) = (6, 0) from by show (if qs = 1 then _ else _) = _; rw [if_pos z, v_num6 z']] at K; exact K
              exact K.e2 (by decide) hW' hmS
          · by_cases h3s : qs = 3
            · subst h3s
              obtain ⟨e, he, hve⟩ := ga.2.2.2 rfl
              have hve : qx = nI e := hve
              subst hve
              have hc : (nI e).toNatClampNeg = e := nI_clamp (by omega)
              obtain ⟨g1, g2, g3⟩ := hG.2.2 e x he fx
              obtain ⟨b1, b2, b3⟩ := hA' e x he fx
              rcases f3 with rfl | rfl
              · have u5 : so e x = 0 → v_un so va 16 x (3, nI e) = (5, 0) := fun z => by
                  unfold v_un
                  rw [if_neg (by decide), if_neg (by decide), if_pos rfl, if_neg (by decide), hc, if_pos z]
                refine o187_u46y (d := d + 1) hW' (by omega) (by omega) (by omega) ho wk wn' wv he n4' fx wvs wvx g1 n1' wp' (by omega) n2' (by omega) b2 (fun z => ?_) (fun z z' => ?_) (fun z z' => ?_)
                · rw [u5 (b1 z)] at K
                  exact K.e2 (by decide) hW' hmS
                · rw [b3 z']
                  rw [show v_un so va 16 x (3, nI e) = (so e x, va e x) from by unfold v_un; rw [if_neg (by decide), if_neg (by decide), if_pos rfl, if_neg (by decide), hc, if_neg z']] at K
                  exact K.put g1 hW' hmS
                · rw [u5 z'] at K
                  exact K.e2 (by decide) hW' hmS
              · have u2 : v_un so va 26 x (3, nI e) = (2, if so e x = 0 then 0 else 1) := by
                  unfold v_un
                  rw [if_neg (by decide), if_neg (by decide), if_pos rfl, if_pos rfl, hc]
                rw [u2] at K
                refine o187_u305y (d := d + 1) hW' (by omega) (by omega) (by omega) ho wk wn' wv he n4' fx wvs wvx g1 n1' wp' (by omega) n2' (by omega) b2 (fun z => ?_) (fun z z' => ?_) (fun z z' => ?_)
                · rw [if_pos (b1 z)] at K
                  exact K.put (by decide) hW' hmS
                · rw [if_pos (by omega)] at K
                  exact K.put (by decide) hW' hmS
                · rw [if_neg (by omega)] at K
                  exact K.put (by decide) hW' hmS
            · have hu : v_un so va s x (qs, qx) = (4, 0) := by
                unfold v_un
                rw [if_neg (by omega), if_neg (by omega), if_neg h3s]
              rw [hu] at K
              rcases f3 with rfl | rfl
              · exact o187_u46n (d := d + 1) hW' (by omega) (by omega) (by omega) ho wk wn' wv ga.2.1 wvs wvx h3s n1' wp' (by omega) n2' (K.e1 (by decide) hW' hmS)
              · exact o187_u305n (d := d + 1) hW' (by omega) (by omega) (by omega) ho wk wn' wv ga.2.1 wvs wvx h3s n1' wp' (by omega) n2' (K.e1 (by decide) hW' hmS)
    · -- two parts
      have ga := v_gd_ev (up := up) hG _ lo a f5
      have gb := v_gd_ev (up := up) hG _ (a + 1) c f6
      have hla := (v_tr_lo f5).2
      refine o187_n (d := d + 2) hW (by omega) (by omega) (by omega) ho w1 w2 w4 w3 (by omega) n2 ?_
      have hW1 := v_lo2_W (k := k) (ph := 1) (a := nI a) hW
      have hm1 : v_ms k v S (v_lo2 S k 1 (nI a)) := v_lo2_ms v_ms.refl
      refine ih lo a (k + 1) v (v_lo2 S k 1 (nI a)) Q f5 (by omega) (by omega) hW1 (hE.ms hm1) v_hI ?_ ?_ ?_ ?_
      · show q_iv (q_sI (q_sI _ 1132 (k + 1) 0) 1097 45 _) 1131 (k + 1) = _
        rw [v_aI (by decide), v_aI (by decide)]; exact v_hI
      · show q_iv (q_sI _ 1097 45 _) 1132 (k + 1) = _
        rw [v_aI (by decide)]; exact v_hI
      · show q_iv (q_sI _ 1097 45 _) 1097 46 = _
        rw [v_kI (by decide)]; exact w4
      · dsimp only at K
        refine ⟨fun h4 S' hW' hm' => ?_, fun h4 S' hW' hm' wk wv wvs wvx => ?_⟩
        · rw [if_pos h4] at K
          exact K.1 h4 S' hW' (hm1.trans hm' (by omega) (Nat.le_refl _))
        · rw [if_neg (by omega)] at K
          have hmS : v_ms k v S S' := hm1.trans hm' (by omega) (Nat.le_refl _)
          have hE' := hE.ms hmS
          obtain ⟨_, _, hN', _, _, _, _, _, _⟩ := id hE'
          obtain ⟨n1', n2', n3', n4', n5'⟩ := hN'.2 i s t x (some a) (some c) e1
          have wn' : q_iv S' 1131 k = nI i := by
            rw [hm'.2.2.1 1131 k (Or.inl rfl) (by omega)]
            show q_iv (q_sI (q_sI (q_sI _ 1131 (k + 1) _) 1132 (k + 1) 0) 1097 45 _) 1131 k = _
            rw [v_aI (by decide), v_aI (by decide), v_kI (by omega), v_aI (by decide)]; exact w2
          have wp' : q_iv S' 1132 k = 1 := by
            rw [hm'.2.2.1 1132 k (Or.inr rfl) (by omega)]
            show q_iv (q_sI (q_sI (q_sI _ 1131 (k + 1) _) 1132 (k + 1) 0) 1097 45 _) 1132 k = _
            rw [v_aI (by decide), v_kI (by omega), v_aI (by decide)]; exact v_hI
          -- the second part
          have snd : ∀ Kb : v_KW L xs d o (k + 1) (v + 1) (v_lo2 S' k 2 (nI c)) Q (v_ev pr rs so va up ns h c), w_R (d + 3) 187 15 [(0, .ref 1097), (1, .int (nI o))] [] (v_lo2 S' k 2 (nI c)) Q := by
            intro Kb
            refine ih (a + 1) c (k + 1) (v + 1) (v_lo2 S' k 2 (nI c)) Q f6 (by omega) (by omega) (v_lo2_W hW') (hE'.ms (v_lo2_ms (k := k) (v := v) v_ms.refl)) v_hI ?_ ?_ ?_ Kb
            · show q_iv (q_sI (q_sI _ 1132 (k + 1) 0) 1097 45 _) 1131 (k + 1) = _
              rw [v_aI (by decide), v_aI (by decide)]; exact v_hI
            · show q_iv (q_sI _ 1097 45 _) 1132 (k + 1) = _
              rw [v_aI (by decide)]; exact v_hI
            · show q_iv (q_sI _ 1097 45 _) 1097 46 = _
              rw [v_kI (by decide)]; exact wv
          have hm2 : v_ms k v S (v_lo2 S' k 2 (nI c)) := v_lo2_ms hmS
          -- behind both
          have bth : ∀ S2, w_W (q_S0 L xs) S2 → v_ms (k + 1) (v + 1) (v_lo2 S' k 2 (nI c)) S2 → q_iv S2 1131 k = nI i ∧ q_iv S2 1132 k = 2 ∧ q_iv S2 1133 v = nI (v_ev pr rs so va up ns h a).1 ∧ q_iv S2 1134 v = (v_ev pr rs so va up ns h a).2 ∧ v_ms k v S S2 ∧ q_iv S2 1103 (o + i) = nI (v_nw s (some c)) ∧ q_iv S2 1104 (o + i) = nI a := by
            intro S2 hW2 hmm
            have hmS2 : v_ms k v S S2 := hm2.trans hmm (by omega) (by omega)
            obtain ⟨n1'', n2'', _⟩ := (hE.ms hmS2).2.2.1.2 i s t x (some a) (some c) e1
            refine ⟨?_, ?_, ?_, ?_, hmS2, n1'', n2''⟩
            · rw [hmm.2.2.1 1131 k (Or.inl rfl) (by omega)]
              show q_iv (q_sI (q_sI (q_sI _ 1131 (k + 1) _) 1132 (k + 1) 0) 1097 45 _) 1131 k = _
              rw [v_aI (by decide), v_aI (by decide), v_kI (by omega), v_aI (by decide)]; exact wn'
            · rw [hmm.2.2.1 1132 k (Or.inr rfl) (by omega)]
              show q_iv (q_sI (q_sI (q_sI _ 1131 (k + 1) _) 1132 (k + 1) 0) 1097 45 _) 1132 k = _
              rw [v_aI (by decide), v_kI (by omega), v_aI (by decide)]; exact v_hI
            · rw [hmm.2.2.2 1133 v (Or.inl rfl) (by omega)]
              show q_iv (q_sI (q_sI (q_sI (q_sI S' _ _ _) 1131 (k + 1) _) 1132 (k + 1) 0) 1097 45 _) 1133 v = _
              rw [v_aI (by decide), v_aI (by decide), v_aI (by decide), v_aI (by decide)]; exact wvs
            · rw [hmm.2.2.2 1134 v (Or.inr rfl) (by omega)]
              show q_iv (q_sI (q_sI (q_sI (q_sI S' _ _ _) 1131 (k + 1) _) 1132 (k + 1) 0) 1097 45 _) 1134 v = _
              rw [v_aI (by decide), v_aI (by decide), v_aI (by decide), v_aI (by decide)]; exact wvx
          revert K ga gb h4 wvs wvx snd bth
          generalize v_ev pr rs so va up ns h a = q
          generalize v_ev pr rs so va up ns h c = r
          intro K ga gb h4 wvs wvx snd bth
          obtain ⟨qs, qx⟩ := q
          obtain ⟨ts, ty⟩ := r
          dsimp only at ga gb h4 K wvs wvx bth
          by_cases hlog : s = 19 ∨ s = 20
          · rw [if_pos hlog] at K
            have hnw : v_nw s (some c) = if s = 19 then 205 else 204 := by
              rcases hlog with rfl | rfl <;> rfl
            rw [hnw] at n1' bth
            have no : ¬ qs = 2 → Q (.returned (some (.int 4))) (q_sI S' 1132 k 2) := fun z => by
              rw [if_neg z] at K
              exact K.e0 (q1 := 4) (by decide) hW' hmS
            have yes : qs = 2 → qx = (if s = 19 then 1 else 0) → w_R (d + 3) 187 15 [(0, .ref 1097), (1, .int (nI o))] [] (q_sI (q_sI S' 1132 k 2) 1097 45 (nI k)) Q := fun z z' => by
              rw [if_pos z, if_pos z'] at K
              refine K.2 (by show qs < 4; omega) _ ((hW'.sI (by decide)).sI (by decide)) ((hmS.ph (Or.inr rfl) (Nat.le_refl _)).fd (Or.inl rfl)) v_hI ?_ ?_ ?_
              · rw [v_kI (by decide), v_aI (by decide)]; exact wv
              · rw [v_aI (by decide), v_aI (by decide)]; exact wvs
              · rw [v_aI (by decide), v_aI (by decide)]; exact wvx
            have sec : qs = 2 → ¬ qx = (if s = 19 then 1 else 0) → w_R (d + 3) 187 15 [(0, .ref 1097), (1, .int (nI o))] [] (v_lo2 S' k 2 (nI c)) Q := fun z z' => by
              rw [if_pos z, if_neg z'] at K
              refine snd ⟨fun h4b S2 hW2 hmm => ?_, fun h4b S2 hW2 hmm wk2 wv2 wvs2 wvx2 => ?_⟩
              · rw [if_pos h4b] at K
                exact K.1 h4b S2 hW2 (hm2.trans hmm (by omega) (by omega))
              · rw [if_neg (by omega)] at K
                obtain ⟨c1, c2, c3, c4, c5, c6, c7⟩ := bth S2 hW2 hmm
                have fin4 : ¬ ts = 2 → Q (.returned (some (.int 4))) (q_sI (q_sI S2 1132 k 3) 1097 45 (nI k)) := fun w => by
                  rw [if_neg w] at K
                  exact K.e1 (q1 := 4) (by decide) hW2 c5
                have fin2 : ts = 2 → w_R (d + 3) 187 15 [(0, .ref 1097), (1, .int (nI o))] [] (v_ps S2 k v 3 2 ty) Q := fun w => by
                  rw [if_pos w] at K
                  have K : v_KW L xs d o k v S Q (2, ty) := by rw [w] at K; exact K
                  exact K.put (by decide) hW2 c5
                rcases hlog with rfl | rfl
                · exact o187_b205 (d := d + 1) hW2 (by omega) (by omega) (by omega) ho wk2 c1 wv2 ga.2.1 c3 c4 gb.2.1 wvs2 wvx2 c6 c2 (by omega) c7 (fun w => absurd z w) (fun w => absurd z w) (fun _ w => fin4 w) (fun _ w _ => fin2 w) (fun _ w _ _ => fin2 w) (fun _ w _ _ => fin2 w)
                · exact o187_b204 (d := d + 1) hW2 (by omega) (by omega) (by omega) ho wk2 c1 wv2 ga.2.1 c3 c4 gb.2.1 wvs2 wvx2 c6 c2 (by omega) c7 (fun w => absurd z w) (fun w => absurd z w) (fun _ w => fin4 w) (fun _ w _ => fin2 w) (fun _ w _ _ => fin2 w) (fun _ w _ _ => fin2 w)
            rcases hlog with rfl | rfl
            · exact o187_a205 (d := d + 2) hW' (by omega) (by omega) (by omega) ho wk wn' wv ga.2.1 wvs wvx n1' wp' (by omega) n2' (by omega) (fun _ _ => n3') no sec yes
            · exact o187_a204 (d := d + 2) hW' (by omega) (by omega) (by omega) ho wk wn' wv ga.2.1 wvs wvx n1' wp' (by omega) n2' (by omega) (fun _ _ => n3') no sec yes
          · rw [if_neg hlog] at K
            have hs10 : s = 21 ∨ s = 22 ∨ s = 25 ∨ s = 23 ∨ s = 24 ∨ s = 27 ∨ s = 28 ∨ s = 29 := by
              unfold v_lv at f3
              repeat' split at f3
              all_goals omega
            have hcode : v_nw s (some c) = (if s = 21 then 200 else if s = 22 then 201 else if s = 25 then 304 else if s = 23 then 202 else if s = 24 then 203 else if s = 27 then 43 else if s = 28 then 1045 else 42) := by
              rcases hs10 with rfl | rfl | rfl | rfl | rfl | rfl | rfl | rfl <;> rfl
            have hcb : v_nw s (some c) ≠ 33 ∧ v_nw s (some c) ≠ 45 ∧ v_nw s (some c) ≠ 305 ∧ v_nw s (some c) ≠ 46 ∧ v_nw s (some c) ≠ 204 ∧ v_nw s (some c) ≠ 205 ∧ v_nw s (some c) < 2000 := by
              rw [hcode]
              rcases hs10 with rfl | rfl | rfl | rfl | rfl | rfl | rfl | rfl <;> decide
            refine o187_a (d := d + 2) (w := v_nw s (some c)) hW' (by omega) (by omega) (by omega) ho wk wn' wv hcb.1 hcb.2.1 hcb.2.2.1 hcb.2.2.2.1 hcb.2.2.2.2.1 hcb.2.2.2.2.2.1 hcb.2.2.2.2.2.2 n1' wp' (by omega) n2' (by omega) n3' ?_
            refine snd ⟨fun h4b S2 hW2 hmm => ?_, fun h4b S2 hW2 hmm wk2 wv2 wvs2 wvx2 => ?_⟩
            · rw [if_pos h4b] at K
              exact K.1 h4b S2 hW2 (hm2.trans hmm (by omega) (by omega))
            · rw [if_neg (by omega)] at K
              obtain ⟨c1, c2, c3, c4, c5, c6, c7⟩ := bth S2 hW2 hmm
              rw [hcode] at c6
              have fn : qs = 1 → ts = 1 → ∀ s', s' ≠ 21 → s' ≠ 22 → s' ≠ 25 → v_bi up s' (qs, qx) (ts, ty) = (if s' = 23 then (2, if qx < ty then 1 else 0) else if s' = 24 then (2, if qx ≤ ty then 1 else 0) else if s' = 27 then v_num (qx.toInt64 + ty.toInt64) else if s' = 28 then v_num (qx.toInt64 - ty.toInt64) else v_num (qx.toInt64 * ty.toInt64)) := by
                intro z z' s' a1 a2 a3
                unfold v_bi
                rw [if_neg a1, if_neg a2, if_neg a3, if_pos ⟨z, z'⟩]
              have f4n : ∀ s', s' ≠ 21 → s' ≠ 22 → s' ≠ 25 → (¬ qs = 1 ∨ ¬ ts = 1) → v_bi up s' (qs, qx) (ts, ty) = (4, 0) := by
                intro s' a1 a2 a3 a4
                unfold v_bi
                rw [if_neg a1, if_neg a2, if_neg a3, if_neg (fun z => a4.elim (fun w => w z.1) (fun w => w z.2))]
              have err : ∀ q2, v_bi up s (qs, qx) (ts, ty) = (4, q2) → Q (.returned (some (.int 4))) (q_sI (q_sI S2 1132 k 3) 1097 45 (nI k)) := fun q2 hq => by
                rw [hq] at K
                exact K.e1 (q1 := 4) (by decide) hW2 c5
              have ovf : ∀ q2, v_bi up s (qs, qx) (ts, ty) = (6, q2) → Q (.returned (some (.int 6))) (q_sI (q_sI (q_sI S2 1132 k 3) 1097 45 (nI k)) 1097 46 (nI v)) := fun q2 hq => by
                rw [hq] at K
                exact K.e2 (q1 := 6) (by decide) hW2 c5
              have put : ∀ q1 q2, v_bi up s (qs, qx) (ts, ty) = (q1, q2) → q1 < 4 → w_R (d + 3) 187 15 [(0, .ref 1097), (1, .int (nI o))] [] (v_ps S2 k v 3 (nI q1) q2) Q := fun q1 q2 hq h4 => by
                rw [hq] at K
                exact K.put h4 hW2 c5
              have hsame : s = 21 → v_bi up s (qs, qx) (ts, ty) = (2, if (qs, qx) = (ts, ty) then 1 else 0) := fun z => by subst z; rfl
              have hdiff : s = 22 → v_bi up s (qs, qx) (ts, ty) = (2, if (qs, qx) = (ts, ty) then 0 else 1) := fun z => by subst z; rfl
              have pne1 : ¬ qs = ts → ¬ (qs, qx) = (ts, ty) := fun z w => z (by cases w; rfl)
              have pne2 : ¬ qx = ty → ¬ (qs, qx) = (ts, ty) := fun z w => z (by cases w; rfl)
              have peq : qs = ts → qx = ty → (qs, qx) = (ts, ty) := fun z w => by rw [z, w]
              have less : qs = 1 → ts = 1 → s = 23 → v_bi up s (qs, qx) (ts, ty) = (2, if qx < ty then 1 else 0) := fun z z' e => by rw [e, fn z z' 23 (by decide) (by decide) (by decide), if_pos rfl]
              have most : qs = 1 → ts = 1 → s = 24 → v_bi up s (qs, qx) (ts, ty) = (2, if qx ≤ ty then 1 else 0) := fun z z' e => by rw [e, fn z z' 24 (by decide) (by decide) (by decide), if_neg (by decide), if_pos rfl]
              rcases hs10 with rfl | rfl | rfl | rfl | rfl | rfl | rfl | rfl
              · exact o187_b200 (d := d + 1) hW2 (by omega) (by omega) (by omega) ho wk2 c1 wv2 ga.2.1 c3 c4 gb.2.1 wvs2 wvx2 c6 c2 (by omega) c7 (fun z => put 2 0 (by rw [hsame rfl, if_neg (pne1 z)]) (by decide)) (fun _ z => put 2 0 (by rw [hsame rfl, if_neg (pne2 z)]) (by decide)) (fun z z' => put 2 1 (by rw [hsame rfl, if_pos (peq z z')]) (by decide))
              · exact o187_b201 (d := d + 1) hW2 (by omega) (by omega) (by omega) ho wk2 c1 wv2 ga.2.1 c3 c4 gb.2.1 wvs2 wvx2 c6 c2 (by omega) c7 (fun z => put 2 1 (by rw [hdiff rfl, if_neg (pne1 z)]) (by decide)) (fun _ z => put 2 1 (by rw [hdiff rfl, if_neg (pne2 z)]) (by decide)) (fun z z' => put 2 0 (by rw [hdiff rfl, if_pos (peq z z')]) (by decide))
              · by_cases h3 : qs = 3
                · by_cases h3' : ts = 3
                  · subst h3; subst h3'
                    obtain ⟨e, he, hve⟩ := ga.2.2.2 rfl
                    obtain ⟨e', he', hve'⟩ := gb.2.2.2 rfl
                    have hve : qx = nI e := hve
                    have hve' : ty = nI e' := hve'
                    subst hve; subst hve'
                    have hE2 := hE.ms c5
                    have hbi : v_bi up 25 (3, nI e) (3, nI e') = (2, ((v_up (q_iv S2 1119) e) >>> ((nI e') &&& 31)) &&& (1 : Int32)) := by
                      unfold v_bi
                      rw [if_neg (by decide), if_neg (by decide), if_pos rfl, if_pos ⟨rfl, rfl⟩, v_tsti _ (by omega)]
                      dsimp only
                      rw [nI_clamp (by omega), nI_clamp (by omega), hE2.2.2.2.2.2.2.2.2 e e']
                    exact o187_b304y (d := d + 1) hW2 (by omega) (by omega) (by omega) ho wk2 c1 wv2 he he' c3 c4 wvs2 wvx2 hE2.2.2.2.2.2.2.2.1 c6 c2 (by omega) c7 (fun _ => put 2 _ hbi (by decide)) (fun _ => put 2 _ hbi (by decide))
                  · exact o187_b304m (d := d + 2) hW2 (by omega) (by omega) (by omega) ho wk2 c1 wv2 ga.2.1 c3 c4 gb.2.1 wvs2 wvx2 h3 h3' c6 c2 (by omega) c7 (err 0 (by unfold v_bi; rw [if_neg (by decide), if_neg (by decide), if_pos rfl, if_neg (fun w => h3' w.2)]))
                · have := err 0 (by unfold v_bi; rw [if_neg (by decide), if_neg (by decide), if_pos rfl, if_neg (fun w => h3 w.1)])
                  exact o187_b304n (d := d + 2) hW2 (by omega) (by omega) (by omega) ho wk2 c1 wv2 ga.2.1 c3 c4 gb.2.1 wvs2 wvx2 h3 c6 c2 (by omega) c7 (fun _ => this) (fun _ => this)
              · have e4 : (¬ qs = 1 ∨ ¬ ts = 1) → _ := fun z => err 0 (f4n 23 (by decide) (by decide) (by decide) z)
                have one : qs = 1 → ts = 1 → qx < ty → _ := fun z z' w => put 2 1 (by rw [less z z' rfl, if_pos w]) (by decide)
                have zer : qs = 1 → ts = 1 → ¬ qx < ty → _ := fun z z' w => put 2 0 (by rw [less z z' rfl, if_neg w]) (by decide)
                exact o187_b202 (d := d + 1) hW2 (by omega) (by omega) (by omega) ho wk2 c1 wv2 ga.2.1 c3 c4 gb.2.1 wvs2 wvx2 c6 c2 (by omega) c7 (fun z _ => e4 (Or.inl z)) (fun z _ => e4 (Or.inl z)) (fun _ z => e4 (Or.inr z)) (fun z z' _ w => one z z' w) (fun z z' _ w => zer z z' w) (fun z z' _ _ w => one z z' w) (fun z z' _ _ w => zer z z' w) (fun z z' _ _ w => one z z' w) (fun z z' _ _ w => zer z z' w)
              · have e4 : (¬ qs = 1 ∨ ¬ ts = 1) → _ := fun z => err 0 (f4n 24 (by decide) (by decide) (by decide) z)
                have one : qs = 1 → ts = 1 → qx ≤ ty → _ := fun z z' w => put 2 1 (by rw [most z z' rfl, if_pos w]) (by decide)
                have zer : qs = 1 → ts = 1 → ¬ qx < ty → ¬ qx = ty → _ := fun z z' w w' => put 2 0 (by rw [most z z' rfl, if_neg (fun u => (Int32.lt_or_eq_of_le u).elim w w')]) (by decide)
                exact o187_b203 (d := d + 1) hW2 (by omega) (by omega) (by omega) ho wk2 c1 wv2 ga.2.1 c3 c4 gb.2.1 wvs2 wvx2 c6 c2 (by omega) c7 (fun z _ => e4 (Or.inl z)) (fun z _ => e4 (Or.inl z)) (fun _ z => e4 (Or.inr z)) (fun z z' _ w => one z z' (Int32.le_of_lt w)) (fun z z' _ w w' => zer z z' w w') (fun z z' _ _ w => one z z' (by rw [w]; exact Int32.le_refl _)) (fun z z' _ _ w => one z z' (Int32.le_of_lt w)) (fun z z' _ w' w => zer z z' w w') (fun z z' _ _ w => one z z' (Int32.le_of_lt w)) (fun z z' _ w' _ => one z z' (by rw [w']; exact Int32.le_refl _))
              · have e4 : (¬ qs = 1 ∨ ¬ ts = 1) → _ := fun z => err 0 (f4n 27 (by decide) (by decide) (by decide) z)
                have val : qs = 1 → ts = 1 → v_bi up 27 (qs, qx) (ts, ty) = v_num (qx.toInt64 + ty.toInt64) := fun z z' => by rw [fn z z' 27 (by decide) (by decide) (by decide), if_neg (by decide), if_neg (by decide), if_pos rfl]
                have one : qs = 1 → ts = 1 → lg_cmp (qx.toInt64 + ty.toInt64) ((qx.toInt64 + ty.toInt64).toInt32.toInt64) = 0 → _ := fun z z' w => put 1 (qx.toInt64 + ty.toInt64).toInt32 (by rw [val z z', v_num1 w]) (by decide)
                have six : qs = 1 → ts = 1 → ¬ lg_cmp (qx.toInt64 + ty.toInt64) ((qx.toInt64 + ty.toInt64).toInt32.toInt64) = 0 → _ := fun z z' w => ovf 0 (by rw [val z z', v_num6 w])
                exact o187_b43 (d := d) hW2 (by omega) (by omega) (by omega) ho wk2 c1 wv2 ga.2.1 c3 c4 gb.2.1 wvs2 wvx2 c6 c2 (by omega) c7 (fun z _ => e4 (Or.inl z)) (fun z _ => e4 (Or.inl z)) (fun _ z => e4 (Or.inr z)) (fun z z' _ w => one z z' w) (fun z z' _ w => six z z' w) (fun z z' _ _ w => one z z' w) (fun z z' _ _ w => six z z' w) (fun z z' _ _ w => one z z' w) (fun z z' _ _ w => six z z' w)
              · have e4 : (¬ qs = 1 ∨ ¬ ts = 1) → _ := fun z => err 0 (f4n 28 (by decide) (by decide) (by decide) z)
                have val : qs = 1 → ts = 1 → v_bi up 28 (qs, qx) (ts, ty) = v_num (qx.toInt64 - ty.toInt64) := fun z z' => by rw [fn z z' 28 (by decide) (by decide) (by decide), if_neg (by decide), if_neg (by decide), if_neg (by decide), if_pos rfl]
                have one : qs = 1 → ts = 1 → lg_cmp (qx.toInt64 - ty.toInt64) ((qx.toInt64 - ty.toInt64).toInt32.toInt64) = 0 → _ := fun z z' w => put 1 (qx.toInt64 - ty.toInt64).toInt32 (by rw [val z z', v_num1 w]) (by decide)
                have six : qs = 1 → ts = 1 → ¬ lg_cmp (qx.toInt64 - ty.toInt64) ((qx.toInt64 - ty.toInt64).toInt32.toInt64) = 0 → _ := fun z z' w => ovf 0 (by rw [val z z', v_num6 w])
                exact o187_b1045 (d := d) hW2 (by omega) (by omega) (by omega) ho wk2 c1 wv2 ga.2.1 c3 c4 gb.2.1 wvs2 wvx2 c6 c2 (by omega) c7 (fun z _ => e4 (Or.inl z)) (fun z _ => e4 (Or.inl z)) (fun _ z => e4 (Or.inr z)) (fun z z' _ w => one z z' w) (fun z z' _ w => six z z' w) (fun z z' _ _ w => one z z' w) (fun z z' _ _ w => six z z' w) (fun z z' _ _ w => one z z' w) (fun z z' _ _ w => six z z' w)
              · have e4 : (¬ qs = 1 ∨ ¬ ts = 1) → _ := fun z => err 0 (f4n 29 (by decide) (by decide) (by decide) z)
                have val : qs = 1 → ts = 1 → v_bi up 29 (qs, qx) (ts, ty) = v_num (qx.toInt64 * ty.toInt64) := fun z z' => by rw [fn z z' 29 (by decide) (by decide) (by decide), if_neg (by decide), if_neg (by decide), if_neg (by decide), if_neg (by decide)]
                have one : qs = 1 → ts = 1 → lg_cmp (qx.toInt64 * ty.toInt64) ((qx.toInt64 * ty.toInt64).toInt32.toInt64) = 0 → _ := fun z z' w => put 1 (qx.toInt64 * ty.toInt64).toInt32 (by rw [val z z', v_num1 w]) (by decide)
                have six : qs = 1 → ts = 1 → ¬ lg_cmp (qx.toInt64 * ty.toInt64) ((qx.toInt64 * ty.toInt64).toInt32.toInt64) = 0 → _ := fun z z' w => ovf 0 (by rw [val z z', v_num6 w])
                exact o187_b42 (d := d) hW2 (by omega) (by omega) (by omega) ho wk2 c1 wv2 ga.2.1 c3 c4 gb.2.1 wvs2 wvx2 c6 c2 (by omega) c7 (fun z _ => e4 (Or.inl z)) (fun z _ => e4 (Or.inl z)) (fun _ z => e4 (Or.inr z)) (fun z z' _ w => one z z' w) (fun z z' _ w => six z z' w) (fun z z' _ _ w => one z z' w) (fun z z' _ _ w => six z z' w) (fun z z' _ _ w => one z z' w) (fun z z' _ _ w => six z z' w)
end VMW
