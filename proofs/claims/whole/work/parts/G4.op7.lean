/-! ONE CALL: ask. -/
def j_pmf (vd : Nat → Nat) (pt : Nat → Bool) (w : Bool) : Nat → Bool
  | 0 => false
  | i + 1 => j_pmf vd pt w i || (decide (vd i = 3) && (pt i == w))
section JO8
variable {d L p e a f i : Nat} {w : Bool} {vd : Nat → Nat} {pt : Nat → Bool} {so : Nat → Nat → Nat} {va : Nat → Nat → Int32} {xs : Nat → Int32} {S : q_S} {Q : Outcome → q_S → Prop}
theorem j_pmf_n (h : ¬ vd i = 3) : j_pmf vd pt w (i + 1) = j_pmf vd pt w i := by
  show (j_pmf vd pt w i || (decide (vd i = 3) && (pt i == w))) = _
  rw [decide_eq_false h, Bool.false_and, Bool.or_false]
theorem j_pmf_y (h : vd i = 3) (hp : pt i = w) : j_pmf vd pt w (i + 1) = true := by
  show (j_pmf vd pt w i || (decide (vd i = 3) && (pt i == w))) = _
  rw [decide_eq_true h, hp, Bool.true_and, beq_self_eq_true, Bool.or_true]
theorem j_pmf_o (hp : pt i = !w) : j_pmf vd pt w (i + 1) = j_pmf vd pt w i := by
  show (j_pmf vd pt w i || (decide (vd i = 3) && (pt i == w))) = _
  rw [hp]
  cases w <;> simp
theorem j_pmf_t (hp : j_pmf vd pt w i = true) : j_pmf vd pt w (i + 1) = true := by
  show (j_pmf vd pt w i || (decide (vd i = 3) && (pt i == w))) = _
  rw [hp, Bool.true_or]
theorem j_PRg {S' : q_S} {n P i lo hi lo' hi' : Nat} {hd : v_Hd} {ns : List v_Nd} {cs : List v_Cd} {T : List v_Tk} (hf : u_f n (j_X lo hi lo' hi') S S') (c : hi < 1004) (c' : 1116 < lo') (hw : w_P P) (h : u_PR S P i hd ns cs T) : u_PR S' P i hd ns cs T := by
  have hr := hw.rng
  exact h.cg (fun k x1 x2 => (j_keep hf (j_u_i (by omega)) (by omega) (by omega)).1) (fun k _ => by rw [(j_keep hf (a := P) (j_u_i (by omega)) (by omega) (by omega)).1]) (j_keep hf (j_u_i (by omega)) (by omega) (by omega)).2 (fun a x1 x2 x3 => (j_keep hf (j_u_i (by omega)) (by omega) (by omega)).1)
/-- what is known of each policy -/
def j_pol (S : q_S) (so : Nat → Nat → Nat) (va : Nat → Nat → Int32) (e a f : Nat) (vd : Nat → Nat) (pt : Nat → Bool) : Prop := ∀ i, i < 6 → ∃ P, q_rv S 1002 i = some P ∧ w_P P ∧ ((q_iv S P 0 = 0 ∧ q_iv S 1109 i = 0 ∧ vd i = 0) ∨ (q_iv S P 0 = 1 ∧ q_iv S 1109 i = 1 ∧ ∃ hd ns cs T, u_PR S P i hd ns cs T ∧ vd i = v_vd so va (fun e f => v_b (v_up (q_iv S 1017) e) f) hd ns cs e a f ∧ pt i = decide (hd.1 = 0)))
theorem j_pol_lt (hG : v_ge e f so va) (h : j_pol S so va e a f vd pt) (hi : i < 6) : vd i < 7 := by
  obtain ⟨P, _, _, ⟨_, _, h0⟩ | ⟨_, _, hd, ns, cs, T, hR, h1, _⟩⟩ := h i hi
  · omega
  · rw [h1]
    exact (v_vd_lt hG hR.2.2.1.2.2.2.2.2.1).2
theorem j_pol_ex (he : e < 16) (hf : f < 16) (hJ : u_JP S) : ∃ (vd : Nat → Nat) (pt : Nat → Bool), j_pol S so va e a f vd pt := by
  obtain ⟨π, sp, a1, a2, a3, a4⟩ := hJ
  have H : ∀ i, ∃ z : Nat × Bool, i < 6 → ∃ P, q_rv S 1002 i = some P ∧ w_P P ∧ ((q_iv S P 0 = 0 ∧ q_iv S 1109 i = 0 ∧ z.1 = 0) ∨ (q_iv S P 0 = 1 ∧ q_iv S 1109 i = 1 ∧ ∃ hd ns cs T, u_PR S P i hd ns cs T ∧ z.1 = v_vd so va (fun e f => v_b (v_up (q_iv S 1017) e) f) hd ns cs e a f ∧ z.2 = decide (hd.1 = 0))) := fun i => by
    by_cases hi : i < 6
    · obtain ⟨b, b1, b2, b3⟩ := a4 i hi
      cases b with
      | false => exact ⟨(0, false), fun _ => ⟨π i, (a1 i hi).1, (a1 i hi).2.1, Or.inl ⟨b1, b2, rfl⟩⟩⟩
      | true =>
        obtain ⟨hd, ns, cs, T, hR⟩ := b3 rfl
        exact ⟨(_, decide (hd.1 = 0)), fun _ => ⟨π i, (a1 i hi).1, (a1 i hi).2.1, Or.inr ⟨b1, b2, hd, ns, cs, T, hR, rfl, rfl⟩⟩⟩
    · exact ⟨(0, false), fun z => absurd z hi⟩
  exact ⟨fun i => (Classical.choose (H i)).1, fun i => (Classical.choose (H i)).2, fun i hi => Classical.choose_spec (H i) hi⟩
theorem j_ask_c (he : e < 16) (ha : a < 10) (hf : f < 16) (hG : v_ge e f so va) (g2 : ∀ e a, e < 16 → a < 3 → q_iv S 1018 (e * 3 + a) = nI (so e a) ∧ q_iv S 1019 (e * 3 + a) = va e a) (hpol : j_pol S so va e a f vd pt) (kk : ∀ S', w_W (q_S0 L xs) S' → u_f 0 (j_X 1003 1003 2000 2000) S S' → q_iv S' 1097 = q_iv S 1097 → (∀ k, k < 6 → q_iv S' 1003 k = nI (vd k)) → Q (.returned (some (.int (if (j_pmf vd pt true 6 && !j_pmf vd pt false 6) = true then 1 else 0)))) S') : ∀ j i S', i + j = 6 → w_W (q_S0 L xs) S' → u_f 0 (j_X 1003 1003 2000 2000) S S' → q_iv S' 1097 = q_iv S 1097 → (∀ k, k < i → q_iv S' 1003 k = nI (vd k)) → w_R (d + 200) 139 15 [(0, .ref 1000), (1, .int (nI e)), (2, .int (nI a)), (3, .int (nI f)), (4, .int (if j_pmf vd pt true i = true then 1 else 0)), (5, .int (if j_pmf vd pt false i = true then 1 else 0)), (6, .int (nI i))] [] S' Q := by
  intro j
  induction j with
  | zero =>
    intro i S' hij hW hfr h97 h3
    obtain rfl : i = 6 := by omega
    have kx := kk S' hW hfr h97 h3
    cases hpm : j_pmf vd pt true 6 <;> cases hfb : j_pmf vd pt false 6 <;> rw [hpm, hfb] at kx
    · exact h139x00 hW he ha hf (by omega) (by omega) kx
    · exact h139x01 hW he ha hf (by omega) (by omega) kx
    · exact h139x10 hW he ha hf (by omega) (by omega) kx
    · exact h139x11 hW he ha hf (by omega) (by omega) kx
  | succ j ih =>
    intro i S' hij hW hfr h97 h3
    have hi : i < 6 := by omega
    obtain ⟨P, hP, hw, hc⟩ := hpol i hi
    have hr := hw.rng
    have hP' : q_rv S' 1002 i = some P := by
      rw [(j_keep hfr (a := 1002) (by decide) (by omega) (by omega)).2]
      exact hP
    have nx0 : ∀ (v : Nat) (S2 : q_S), v = vd i → w_W (q_S0 L xs) S2 → u_f 0 (j_X 1003 1003 2000 2000) S S2 → q_iv S2 1097 = q_iv S 1097 → (∀ k, k < i → q_iv S2 1003 k = nI (vd k)) → ∀ b1 b2 : Bool, b1 = j_pmf vd pt true (i + 1) → b2 = j_pmf vd pt false (i + 1) → w_R (d + 200) 139 15 [(0, .ref 1000), (1, .int (nI e)), (2, .int (nI a)), (3, .int (nI f)), (4, .int (if b1 = true then 1 else 0)), (5, .int (if b2 = true then 1 else 0)), (6, .int (nI (i + 1)))] [] (q_sI S2 1003 i (nI v)) Q := fun v S2 hv hW2 hf2 h972 h32 b1 b2 e1 e2 => by
      rw [e1, e2]
      refine ih (i + 1) _ (by omega) (hW2.sI (by decide)) (hf2.sI (by decide)) h972 (fun k hk => ?_)
      by_cases hki : k = i
      · rw [hki, v_hI, hv]
      · rw [v_kI hki]
        exact h32 k (by omega)
    rcases hc with ⟨p0, _, v0⟩ | ⟨p1, _, hd, ns, cs, T, hR, hvd, hpt⟩
    · have p0' : q_iv S' P 0 = 0 := by
        rw [(j_keep hfr (a := P) (j_u_i (by omega)) (by omega) (by omega)).1]
        exact p0
      have c3 : ¬ vd i = 3 := by omega
      have nx := nx0 0 S' v0.symm hW hfr h97 h3
      cases hpm : j_pmf vd pt true i <;> cases hfb : j_pmf vd pt false i
      · exact h139t000 hW he ha hf (by omega) (by omega) hw hP' p0' (nx false false ((j_pmf_n c3).trans hpm).symm ((j_pmf_n c3).trans hfb).symm)
      · exact h139t010 hW he ha hf (by omega) (by omega) hw hP' p0' (nx false true ((j_pmf_n c3).trans hpm).symm ((j_pmf_n c3).trans hfb).symm)
      · exact h139t100 hW he ha hf (by omega) (by omega) hw hP' p0' (nx true false ((j_pmf_n c3).trans hpm).symm ((j_pmf_n c3).trans hfb).symm)
      · exact h139t110 hW he ha hf (by omega) (by omega) hw hP' p0' (nx true true ((j_pmf_n c3).trans hpm).symm ((j_pmf_n c3).trans hfb).symm)
    · have p1' : q_iv S' P 0 = 1 := by
        rw [(j_keep hfr (a := P) (j_u_i (by omega)) (by omega) (by omega)).1]
        exact p1
      have hR' := j_PRg hfr (by omega) (by omega) hw hR
      have hWs : w_W (q_S0 L xs) (v_s120 S' P e f) := ((hW.sR (by decide) (w_nfK (by decide +kernel))).sI (by decide)).sI (by decide)
      have fs : u_f 0 (j_X 1003 1003 2000 2000) S (v_s120 S' P e f) := ((hfr.sR (by decide)).sI (by decide)).sI (by decide)
      have hq : q_iv (v_s120 S' P e f) P 1 = if hd.1 = 0 then 1 else 0 := by
        rw [(j_keep fs (a := P) (j_u_i (by omega)) (by omega) (by omega)).1]
        exact hR.1.2.2.1.1
      have pz : q_iv (v_s120 S' P e f) P 1 = 0 → pt i = false := fun c => by
        rw [hq] at c
        by_cases h0 : hd.1 = 0
        · rw [if_pos h0] at c
          exact absurd c (by decide)
        · rw [hpt, decide_eq_false h0]
      have po : ¬ (q_iv (v_s120 S' P e f) P 1 = 0) → pt i = true := fun c => by
        rw [hq] at c
        by_cases h0 : hd.1 = 0
        · rw [hpt, decide_eq_true h0]
        · rw [if_neg h0] at c
          exact absurd rfl c
      have nx := nx0 (vd i) (v_s120 S' P e f) rfl hWs fs h97 h3
      have hup : (fun e f => v_b (v_up (q_iv S' 1017) e) f) = fun e f => v_b (v_up (q_iv S 1017) e) f := by
        rw [(j_keep hfr (a := 1017) (by decide) (by omega) (by omega)).1]
      have hcl : ∀ {Q1 : Outcome → q_S → Prop}, Q1 (.returned (some (.int (nI (vd i))))) (v_s120 S' P e f) → w_X (d + 199) 120 [.ref 1029, .ref P, .int (nI e), .int (nI a), .int (nI f)] S' Q1 := fun {Q1} k => v_cvd hW hw he ha hf hR'.1.1 hR'.1.2.1 hR'.1.2.2.1 hR'.2.2.1 hG (fun e a he ha => by
        rw [(j_keep hfr (a := 1018) (by decide) (by omega) (by omega)).1, (j_keep hfr (a := 1019) (by decide) (by omega) (by omega)).1]
        exact g2 e a he ha) (by omega) (by rw [hup, ← hvd]; exact k)
      have hv7 : vd i < 7 := j_pol_lt hG hpol hi
      cases hpm : j_pmf vd pt true i <;> cases hfb : j_pmf vd pt false i
      · exact h139t001 hW he ha hf (by omega) (by omega) hw hP' p1' (hcl (h139r00 hWs he ha hf (by omega) hv7 (by omega) hw (fun c3 => nx false false ((j_pmf_n c3).trans hpm).symm ((j_pmf_n c3).trans hfb).symm) (fun c3 c0 => nx false true ((j_pmf_o (pz c0)).trans hpm).symm (j_pmf_y c3 (pz c0)).symm) (fun c3 c0 => nx true false (j_pmf_y c3 (po c0)).symm ((j_pmf_o (po c0)).trans hfb).symm)))
      · exact h139t011 hW he ha hf (by omega) (by omega) hw hP' p1' (hcl (h139r01 hWs he ha hf (by omega) hv7 (by omega) hw (fun c3 => nx false true ((j_pmf_n c3).trans hpm).symm ((j_pmf_n c3).trans hfb).symm) (fun c3 c0 => nx false true ((j_pmf_o (pz c0)).trans hpm).symm (j_pmf_t hfb).symm) (fun c3 c0 => nx true true (j_pmf_y c3 (po c0)).symm (j_pmf_t hfb).symm)))
      · exact h139t101 hW he ha hf (by omega) (by omega) hw hP' p1' (hcl (h139r10 hWs he ha hf (by omega) hv7 (by omega) hw (fun c3 => nx true false ((j_pmf_n c3).trans hpm).symm ((j_pmf_n c3).trans hfb).symm) (fun c3 c0 => nx true false (j_pmf_t hpm).symm ((j_pmf_o (po c0)).trans hfb).symm) (fun c3 c0 => nx true true (j_pmf_t hpm).symm (j_pmf_y c3 (pz c0)).symm)))
      · exact h139t111 hW he ha hf (by omega) (by omega) hw hP' p1' (hcl (h139r11 hWs he ha hf (by omega) hv7 (by omega) hw (fun _ => nx true true (j_pmf_t hpm).symm (j_pmf_t hfb).symm) (fun _ => nx true true (j_pmf_t hpm).symm (j_pmf_t hfb).symm)))
theorem j_xw2 {a : Nat} (h : j_X 0 0 1125 1125 a = false) : v_xw a = false := by
  have hu : j_u a = true := by
    unfold j_X at h
    cases hz : j_u a with
    | true => rfl
    | false =>
      rw [hz, Bool.not_false, Bool.or_true, Bool.or_true] at h
      cases h
  have := of_decide_eq_true hu
  unfold v_xw
  simp only [Bool.or_eq_false_iff, Bool.and_eq_false_iff, decide_eq_false_iff_not]
  omega
theorem j_ask_m (he : e < 16) (ha : a < 10) (hf : f < 16) (hG : v_ge e f so va) (hE : ∀ j, j < 16 → q_iv S 1017 j = q_iv S 1119 j ∧ v_lo (q_iv S 1119 j)) (g3 : ∀ e a, e < 16 → a < 3 → (q_iv S 1117 e = 0 → so e a = 0) ∧ (¬ q_iv S 1117 e = 0 → q_iv S 1120 (3 * e + a) = nI (so e a)) ∧ (so e a ≠ 0 → q_iv S 1121 (3 * e + a) = va e a)) (hpol : j_pol S so va e a f vd pt) (kk : ∀ S', w_W (q_S0 L xs) S' → u_f 0 (j_X 0 0 1125 1125) S S' → (∀ j, j < 31 → q_iv S' 1097 j = q_iv S 1097 j) → q_iv S' 1097 31 = nI (u_cnt vd 6) → q_jv S' 1139 = q_jv S 1139 → (∀ k, k < 6 → q_iv S' 1125 k = nI (vd k)) → Q (.returned (some (.int (if (j_pmf vd pt true 6 && !j_pmf vd pt false 6) = true then 1 else 0)))) S') : ∀ j i S', i + j = 6 → w_W (q_S0 L xs) S' → u_f 0 (j_X 0 0 1125 1125) S S' → (∀ j, j < 31 → q_iv S' 1097 j = q_iv S 1097 j) → q_iv S' 1097 31 = nI (u_cnt vd i) → q_jv S' 1139 = q_jv S 1139 → (∀ k, k < i → q_iv S' 1125 k = nI (vd k)) → w_R (d + 200) 196 41 [(0, .ref 1097), (1, .int (nI e)), (2, .int (nI a)), (3, .int (nI f)), (4, .int (if j_pmf vd pt true i = true then 1 else 0)), (5, .int (if j_pmf vd pt false i = true then 1 else 0)), (6, .int (nI i))] [] S' Q := by
  have cnt_le : ∀ i, u_cnt vd i ≤ i := fun i => by
    induction i with
    | zero => exact Nat.le_refl _
    | succ k ih =>
      show u_cnt vd k + (if 2 ≤ vd k then 1 else 0) ≤ k + 1
      split <;> omega
  intro j
  induction j with
  | zero =>
    intro i S' hij hW hfr h97 h31 hjv h3
    obtain rfl : i = 6 := by omega
    have kx := kk S' hW hfr h97 h31 hjv h3
    cases hpm : j_pmf vd pt true 6 <;> cases hfb : j_pmf vd pt false 6 <;> rw [hpm, hfb] at kx
    · exact m196x00 hW he ha hf (by omega) (by omega) kx
    · exact m196x01 hW he ha hf (by omega) (by omega) kx
    · exact m196x10 hW he ha hf (by omega) (by omega) kx
    · exact m196x11 hW he ha hf (by omega) (by omega) kx
  | succ j ih =>
    intro i S' hij hW hfr h97 h31 hjv h3
    have hi : i < 6 := by omega
    obtain ⟨P, hP, hw, hc⟩ := hpol i hi
    have hr := hw.rng
    have hcs : u_cnt vd (i + 1) = u_cnt vd i + (if 2 ≤ vd i then 1 else 0) := rfl
    have nx0 : ∀ (v : Nat) (S2 : q_S), v = vd i → v ≤ 1 → w_W (q_S0 L xs) S2 → u_f 0 (j_X 0 0 1125 1125) S S2 → (∀ j, j < 31 → q_iv S2 1097 j = q_iv S 1097 j) → q_iv S2 1097 31 = nI (u_cnt vd i) → q_jv S2 1139 = q_jv S 1139 → (∀ k, k < i → q_iv S2 1125 k = nI (vd k)) → ∀ b1 b2 : Bool, b1 = j_pmf vd pt true (i + 1) → b2 = j_pmf vd pt false (i + 1) → w_R (d + 200) 196 41 [(0, .ref 1097), (1, .int (nI e)), (2, .int (nI a)), (3, .int (nI f)), (4, .int (if b1 = true then 1 else 0)), (5, .int (if b2 = true then 1 else 0)), (6, .int (nI (i + 1)))] [] (q_sI S2 1125 i (nI v)) Q := fun v S2 hv hv1 hW2 hf2 h972 h312 hj2 h32 b1 b2 e1 e2 => by
      rw [e1, e2]
      refine ih (i + 1) _ (by omega) (hW2.sI (by decide)) (hf2.sI (by decide)) h972 ?_ hj2 (fun k hk => ?_)
      · rw [hcs, if_neg (by omega)]
        exact h312
      · by_cases hki : k = i
        · rw [hki, v_hI, hv]
        · rw [v_kI hki]
          exact h32 k (by omega)
    have nx1 : ∀ (v : Nat) (S2 : q_S), v = vd i → ¬ v ≤ 1 → w_W (q_S0 L xs) S2 → u_f 0 (j_X 0 0 1125 1125) S S2 → (∀ j, j < 31 → q_iv S2 1097 j = q_iv S 1097 j) → q_jv S2 1139 = q_jv S 1139 → (∀ k, k < i → q_iv S2 1125 k = nI (vd k)) → ∀ b1 b2 : Bool, b1 = j_pmf vd pt true (i + 1) → b2 = j_pmf vd pt false (i + 1) → w_R (d + 200) 196 41 [(0, .ref 1097), (1, .int (nI e)), (2, .int (nI a)), (3, .int (nI f)), (4, .int (if b1 = true then 1 else 0)), (5, .int (if b2 = true then 1 else 0)), (6, .int (nI (i + 1)))] [] (q_sI (q_sI S2 1125 i (nI v)) 1097 31 (nI (u_cnt vd i + 1))) Q := fun v S2 hv hv1 hW2 hf2 h972 hj2 h32 b1 b2 e1 e2 => by
      rw [e1, e2]
      refine ih (i + 1) _ (by omega) ((hW2.sI (by decide)).sI (by decide)) ((hf2.sI (by decide)).sI (by decide)) (fun j hj => ?_) ?_ hj2 (fun k hk => ?_)
      · rw [v_kI (by omega)]
        exact h972 j hj
      · rw [hcs, if_pos (by omega)]
        exact v_hI
      · rw [v_aI (by decide)]
        by_cases hki : k = i
        · rw [hki, v_hI, hv]
        · rw [v_kI hki]
          exact h32 k (by omega)
    rcases hc with ⟨_, p0, v0⟩ | ⟨_, p1, hd, ns, cs, T, hR, hvd, hpt⟩
    · have p0' : q_iv S' 1109 i = 0 := by
        rw [(j_keep hfr (a := 1109) (by decide) (by omega) (by omega)).1]
        exact p0
      have c3 : ¬ vd i = 3 := by omega
      have nx := nx0 0 S' v0.symm (by omega) hW hfr h97 h31 hjv h3
      cases hpm : j_pmf vd pt true i <;> cases hfb : j_pmf vd pt false i
      · exact m196t000 hW he ha hf (by omega) (by omega) p0' (nx false false ((j_pmf_n c3).trans hpm).symm ((j_pmf_n c3).trans hfb).symm)
      · exact m196t010 hW he ha hf (by omega) (by omega) p0' (nx false true ((j_pmf_n c3).trans hpm).symm ((j_pmf_n c3).trans hfb).symm)
      · exact m196t100 hW he ha hf (by omega) (by omega) p0' (nx true false ((j_pmf_n c3).trans hpm).symm ((j_pmf_n c3).trans hfb).symm)
      · exact m196t110 hW he ha hf (by omega) (by omega) p0' (nx true true ((j_pmf_n c3).trans hpm).symm ((j_pmf_n c3).trans hfb).symm)
    · have p1' : q_iv S' 1109 i = 1 := by
        rw [(j_keep hfr (a := 1109) (by decide) (by omega) (by omega)).1]
        exact p1
      have hR' := j_PRg hfr (by omega) (by omega) hw hR
      have hup : (fun e f => v_b (v_up (q_iv S' 1119) e) f) = fun e f => v_b (v_up (q_iv S 1017) e) f := by
        funext e f
        rw [(j_keep hfr (a := 1119) (by decide) (by omega) (by omega)).1, v_up_congr (fun j hj => ((hE j hj).1).symm) e]
      have hv7 : vd i < 7 := j_pol_lt hG hpol hi
      have hcl : ∀ {Q1 : Outcome → q_S → Prop}, (∀ S2, w_W (q_S0 L xs) S2 → v_mh S' S2 → Q1 (.returned (some (.int (nI (vd i))))) S2) → w_X (d + 199) 185 [.ref 1097, .int (nI i), .int (nI e), .int (nI a), .int (nI f)] S' Q1 := fun {Q1} k => v_mvd (d := d + 193) hW hi he ha hf hR'.2.1.1 hR'.2.1.2.1 hR'.2.1.2.2.1 hR'.2.1.2.2.2 hR'.2.2.1 hR'.2.2.2 hG (fun e a he ha => by
        rw [(j_keep hfr (a := 1117) (by decide) (by omega) (by omega)).1, (j_keep hfr (a := 1120) (by decide) (by omega) (by omega)).1, (j_keep hfr (a := 1121) (by decide) (by omega) (by omega)).1]
        exact g3 e a he ha) (fun j hj => by
        rw [(j_keep hfr (a := 1119) (by decide) (by omega) (by omega)).1]
        exact (hE j hj).2) (fun S2 hW2 hm => by
        rw [hup, ← hvd]
        exact k S2 hW2 hm)
      have go : ∀ S2, w_W (q_S0 L xs) S2 → v_mh S' S2 → w_R (d + 200) 196 73 [(0, .ref 1097), (1, .int (nI e)), (2, .int (nI a)), (3, .int (nI f)), (4, .int (if j_pmf vd pt true i = true then 1 else 0)), (5, .int (if j_pmf vd pt false i = true then 1 else 0)), (6, .int (nI i))] [.int (nI (vd i)), .int (nI i), .ref 1125] S2 Q := fun S2 hW2 hm => by
        have f2 : u_f 0 (j_X 0 0 1125 1125) S S2 := (hfr.trans (hm.1.mono (fun a h => j_xw2 h)).f).mono (by decide) (fun _ h => h)
        have h972 : ∀ j, j < 31 → q_iv S2 1097 j = q_iv S 1097 j := fun j hj => (hm.2 j (by omega) (by omega) (by omega) (by omega)).trans (h97 j hj)
        have h312 : q_iv S2 1097 31 = nI (u_cnt vd i) := (hm.2 31 (by decide) (by decide) (by decide) (by decide)).trans h31
        have hj2 : q_jv S2 1139 = q_jv S 1139 := (hm.1.jv (by decide)).trans hjv
        have h32 : ∀ k, k < i → q_iv S2 1125 k = nI (vd k) := fun k hk => by
          rw [hm.1.iv (a := 1125) (by decide)]
          exact h3 k hk
        have hq : q_iv S2 1110 i = if hd.1 = 0 then 1 else 0 := by
          rw [(j_keep f2 (a := 1110) (by decide) (by omega) (by omega)).1]
          exact hR.2.1.2.2.1.1
        have pz : q_iv S2 1110 i = 0 → pt i = false := fun c => by
          rw [hq] at c
          by_cases h0 : hd.1 = 0
          · rw [if_pos h0] at c
            exact absurd c (by decide)
          · rw [hpt, decide_eq_false h0]
        have po : ¬ (q_iv S2 1110 i = 0) → pt i = true := fun c => by
          rw [hq] at c
          by_cases h0 : hd.1 = 0
          · rw [hpt, decide_eq_true h0]
          · rw [if_neg h0] at c
            exact absurd rfl c
        have hc7 : u_cnt vd i < 7 := by
          have := cnt_le i
          omega
        have na := fun c1 => nx0 (vd i) S2 rfl c1 hW2 f2 h972 h312 hj2 h32
        have nb := fun c1 => nx1 (vd i) S2 rfl c1 hW2 f2 h972 hj2 h32
        cases hpm : j_pmf vd pt true i <;> cases hfb : j_pmf vd pt false i
        · exact m196r00 hW2 he ha hf (by omega) hv7 (by omega) hc7 (fun _ => h312) (fun c1 c3 => na c1 false false ((j_pmf_n c3).trans hpm).symm ((j_pmf_n c3).trans hfb).symm) (fun c1 c3 => absurd c3 (by omega)) (fun c1 c3 => absurd c3 (by omega)) (fun c1 c3 => nb c1 false false ((j_pmf_n c3).trans hpm).symm ((j_pmf_n c3).trans hfb).symm) (fun c1 c3 c0 => nb c1 false true ((j_pmf_o (pz c0)).trans hpm).symm (j_pmf_y c3 (pz c0)).symm) (fun c1 c3 c0 => nb c1 true false (j_pmf_y c3 (po c0)).symm ((j_pmf_o (po c0)).trans hfb).symm)
        · exact m196r01 hW2 he ha hf (by omega) hv7 (by omega) hc7 (fun _ => h312) (fun c1 c3 => na c1 false true ((j_pmf_n c3).trans hpm).symm ((j_pmf_n c3).trans hfb).symm) (fun c1 c3 => absurd c3 (by omega)) (fun c1 c3 => absurd c3 (by omega)) (fun c1 c3 => nb c1 false true ((j_pmf_n c3).trans hpm).symm ((j_pmf_n c3).trans hfb).symm) (fun c1 c3 c0 => nb c1 false true ((j_pmf_o (pz c0)).trans hpm).symm (j_pmf_t hfb).symm) (fun c1 c3 c0 => nb c1 true true (j_pmf_y c3 (po c0)).symm (j_pmf_t hfb).symm)
        · exact m196r10 hW2 he ha hf (by omega) hv7 (by omega) hc7 (fun _ => h312) (fun c1 c3 => na c1 true false ((j_pmf_n c3).trans hpm).symm ((j_pmf_n c3).trans hfb).symm) (fun c1 c3 => absurd c3 (by omega)) (fun c1 c3 => absurd c3 (by omega)) (fun c1 c3 => nb c1 true false ((j_pmf_n c3).trans hpm).symm ((j_pmf_n c3).trans hfb).symm) (fun c1 c3 c0 => nb c1 true true (j_pmf_t hpm).symm (j_pmf_y c3 (pz c0)).symm) (fun c1 c3 c0 => nb c1 true false (j_pmf_t hpm).symm ((j_pmf_o (po c0)).trans hfb).symm)
        · exact m196r11 hW2 he ha hf (by omega) hv7 (by omega) hc7 (fun _ => h312) (fun c1 c3 => na c1 true true ((j_pmf_n c3).trans hpm).symm ((j_pmf_n c3).trans hfb).symm) (fun c1 c3 => absurd c3 (by omega)) (fun c1 c3 => absurd c3 (by omega)) (fun c1 c3 => nb c1 true true ((j_pmf_n c3).trans hpm).symm ((j_pmf_n c3).trans hfb).symm) (fun c1 c3 c0 => nb c1 true true (j_pmf_t hpm).symm (j_pmf_t hfb).symm) (fun c1 c3 c0 => nb c1 true true (j_pmf_t hpm).symm (j_pmf_t hfb).symm)
      cases hpm : j_pmf vd pt true i <;> cases hfb : j_pmf vd pt false i <;> rw [hpm, hfb] at go
      · exact m196t001 hW he ha hf (by omega) (by omega) p1' (hcl go)
      · exact m196t011 hW he ha hf (by omega) (by omega) p1' (hcl go)
      · exact m196t101 hW he ha hf (by omega) (by omega) p1' (hcl go)
      · exact m196t111 hW he ha hf (by omega) (by omega) p1' (hcl go)
theorem j_ask (hW : w_W (q_S0 L xs) S) (hJ : u_J S) (hpL : p + 6 ≤ L) (hL : L ≤ 3072) (hk : j_K (d + 300) L p xs S Q) : w_R (d + 300 + 1) 205 896 [(0, .ref 999), (1, .ref 1000), (2, .ref 1097), (3, .ref 1139), (4, .int (nI p))] [] S Q := by
  refine l205_ask_a hW hpL hL ?_
  rcases j_r16 (xs (p + 1)) with ⟨e, he, hx⟩ | ⟨ho, hp⟩
  · rcases j_r10 (xs (p + 2)) with ⟨a, ha, hy⟩ | ⟨ho, hp⟩
    · rcases j_r16 (xs (p + 3)) with ⟨f, hf, hz⟩ | ⟨ho, hp⟩
      · obtain ⟨so, va, g1, g2, g3⟩ := j_ev hJ.2.2.1
        have hG : v_ge e f so va := ⟨he, hf, g1⟩
        obtain ⟨vd, pt, hpol⟩ := j_pol_ex (so := so) (va := va) (a := a) he hf hJ.2.2.2.2.2
        rw [hx, hy, hz]
        refine h138g hW he ha hf (h139g (d := d + 296) hW he ha hf (by omega) (by omega) (by omega) (by omega) (by omega) (by omega) ?_)
        refine j_ask_c (d := d + 99) he ha hf hG g2 hpol (fun S1 hW1 f1 e1 v1 => ?_) 6 0 S rfl hW (u_f.refl.mono (by decide) (fun _ h => h)) rfl (fun k hk => absurd hk (by omega))
        obtain ⟨r, hr⟩ : ∃ r, r = (j_pmf vd pt true 6 && !j_pmf vd pt false 6) := ⟨_, rfl⟩
        have main : ∀ S2, S2 = q_sJ S1 1139 0 (lN (if r = true then 1 else 0)) → w_R (d + 300 + 1) 205 919 [(0, .ref 999), (1, .ref 1000), (2, .ref 1097), (3, .ref 1139), (4, .int (nI p))] [.int 0] S2 Q := fun S2 h2 => by
          have hW2 : w_W (q_S0 L xs) S2 := by
            rw [h2]
            exact hW1.sJ (by decide)
          have f2 : u_f 0 (j_X 1003 1003 2000 2000) S S2 := by
            rw [h2]
            exact f1.sJ (by decide)
          have e2 : q_iv S2 1097 = q_iv S 1097 := by
            rw [h2]
            exact e1
          have v2 : ∀ k, k < 6 → q_iv S2 1003 k = nI (vd k) := by
            rw [h2]
            exact v1
          have j2 : q_jv S2 1139 0 = lN (if r = true then 1 else 0) := by
            rw [h2]
            exact v_hJ
          refine l205_ask_b hW2 hpL hL ?_
          rw [hx, hy, hz]
          refine m196g (d := d + 298) hW2 he ha hf (by omega) (by omega) (by omega) (by omega) (by omega) (by omega) ?_
          have hW3 : w_W (q_S0 L xs) (q_sI (q_sI S2 1097 0 (0 : Int32)) 1097 31 (0 : Int32)) := (hW2.sI (by decide)).sI (by decide)
          have f3 : u_f 0 (j_X 1003 1003 2000 2000) S (q_sI (q_sI S2 1097 0 (0 : Int32)) 1097 31 (0 : Int32)) := (f2.sI (by decide)).sI (by decide)
          have k3 : ∀ a, j_u a = true → a ≠ 1003 → q_iv (q_sI (q_sI S2 1097 0 (0 : Int32)) 1097 31 (0 : Int32)) a = q_iv S a ∧ q_rv (q_sI (q_sI S2 1097 0 (0 : Int32)) 1097 31 (0 : Int32)) a = q_rv S a := fun a ha hb => j_keep f3 ha (by omega) (by have := of_decide_eq_true ha; omega)
          have hpol3 : j_pol (q_sI (q_sI S2 1097 0 (0 : Int32)) 1097 31 (0 : Int32)) so va e a f vd pt := fun i hi => by
            obtain ⟨P, hP, hw, hc⟩ := hpol i hi
            have hrg := hw.rng
            refine ⟨P, by rw [(k3 1002 (by decide) (by decide)).2]; exact hP, hw, ?_⟩
            rw [(k3 P (j_u_i (by omega)) (by omega)).1, (k3 1109 (by decide) (by decide)).1, (k3 1017 (by decide) (by decide)).1]
            rcases hc with hc | ⟨q0, q1, hd, ns, cs, T, hR, q2, q3⟩
            · exact Or.inl hc
            · exact Or.inr ⟨q0, q1, hd, ns, cs, T, j_PRg f3 (by omega) (by omega) hw hR, q2, q3⟩
          refine j_ask_m (d := d + 100) he ha hf hG (fun j hj => ?_) (fun e a he ha => ?_) hpol3 (fun S4 hW4 f4 e4 c4 j4 v4 => ?_) 6 0 _ rfl hW3 (u_f.refl.mono (by decide) (fun _ h => h)) (fun _ _ => rfl) v_hI rfl (fun k hk => absurd hk (by omega))
          · rw [(k3 1017 (by decide) (by decide)).1, (k3 1119 (by decide) (by decide)).1]
            exact hJ.2.2.1.2.1 j hj
          · rw [(k3 1117 (by decide) (by decide)).1, (k3 1120 (by decide) (by decide)).1, (k3 1121 (by decide) (by decide)).1]
            exact g3 e a he ha
          · have f34 : u_f 0 (j_X 1003 1003 1125 1125) S S4 := ((f3.mono (Y := j_X 1003 1003 1125 1125) (Nat.le_refl _) (fun a h => by
              unfold j_X at h ⊢
              simp only [Bool.or_eq_false_iff, decide_eq_false_iff_not] at h ⊢
              have := of_decide_eq_true (show j_u a = true from by
                cases hz : j_u a with
                | true => rfl
                | false =>
                  rw [hz] at h
                  exact absurd h.2.2 (by decide))
              exact ⟨h.1, by omega, h.2.2⟩)).trans (f4.mono (Y := j_X 1003 1003 1125 1125) (Nat.le_refl _) (fun a h => by
              unfold j_X at h ⊢
              simp only [Bool.or_eq_false_iff, decide_eq_false_iff_not] at h ⊢
              have := of_decide_eq_true (show j_u a = true from by
                cases hz : j_u a with
                | true => rfl
                | false =>
                  rw [hz] at h
                  exact absurd h.2.2 (by decide))
              exact ⟨by omega, h.2.1, h.2.2⟩))).mono (by decide) (fun _ h => h)
            have e5 : ∀ k, k ≠ 0 → k < 31 → q_iv S4 1097 k = q_iv S 1097 k := fun k h0 h31 => by
              rw [e4 k h31, v_kI (by omega), v_kI h0, e2]
            have v13 : ∀ i, i < 6 → q_iv S4 1003 i = nI (vd i) := fun i hi => by
              rw [f4.iv (a := 1003) (by decide) (by decide)]
              exact v2 i hi
            have hJ4 : u_J S4 := ⟨j_T f34 (by decide) (by decide) (by omega) (by omega) (e5 3 (by decide) (by decide)) hJ.1, j_W f34 (by decide) (by decide) (by omega) (e5 1 (by decide) (by decide)) hJ.2.1, j_E f34 (by decide) (by decide) (by omega) (by omega) hJ.2.2.1, j_D f34 (by decide) (by decide) (by omega) (by omega) hJ.2.2.2.1, ⟨vd, fun i hi => ⟨j_pol_lt hG hpol hi, v13 i hi, v4 i hi⟩, c4⟩, j_P f34 (by decide) (by decide) (by omega) (by omega) (by omega) (by omega) (by omega) hJ.2.2.2.2.2⟩
            have z0 : q_iv S4 1097 0 = 0 := (e4 0 (by decide)).trans ((v_kI (by decide)).trans v_hI)
            have zj : q_jv S4 1139 0 = lN (if r = true then 1 else 0) := by
              rw [j4]
              exact j2
            have fin := hk S4 hW4 hJ4 (j_all f34 (by decide))
            rw [← hr]
            cases r with
            | false => exact l205_ask_z0 hW4 hpL hL z0 (fun _ => fin) (fun z => absurd ((v_lg0 _ _).mpr zj) z)
            | true => exact l205_ask_z1 hW4 hpL hL z0 (fun _ => fin) (fun z => absurd ((v_lg0 _ _).mpr zj) z)
        rw [← hr]
        cases r with
        | false => exact h138r0 hW1 (main _ rfl)
        | true => exact h138r1 hW1 (main _ rfl)
      · have C := l205_ask_c1 (d := d + 300) (b := 0) (S := q_sI (q_new S (10, 6) 6) 1097 0 (1 : Int32)) (hW.new.sI (by decide)) hpL hL rfl (j_thr hW hJ hk)
        have B : w_X (d + 300) 196 [.ref 1097, .int (xs (p + 1)), .int (xs (p + 2)), .int (xs (p + 3))] (q_new S (10, 6) 6) (w_k (d + 300 + 1) 205 940 [(0, .ref 999), (1, .ref 1000), (2, .ref 1097), (3, .ref 1139), (4, .int (nI p)), (5, .int 1)] [] Q) := by
          rw [hx, hy]
          exact m196e hW.new ho hp he ha (by omega) (by omega) (by omega) (by omega) (fun _ => C) (fun _ => C)
        rw [hx, hy]
        exact h138e hW ho hp he ha (by omega) (by omega) (by omega) (by omega) (by omega) (fun _ => l205_ask_b hW.new hpL hL B) (fun _ => l205_ask_b hW.new hpL hL B)
    · have C := l205_ask_c1 (d := d + 300) (b := 0) (S := q_sI (q_new S (10, 6) 6) 1097 0 (1 : Int32)) (hW.new.sI (by decide)) hpL hL rfl (j_thr hW hJ hk)
      have B : w_X (d + 300) 196 [.ref 1097, .int (xs (p + 1)), .int (xs (p + 2)), .int (xs (p + 3))] (q_new S (10, 6) 6) (w_k (d + 300 + 1) 205 940 [(0, .ref 999), (1, .ref 1000), (2, .ref 1097), (3, .ref 1139), (4, .int (nI p)), (5, .int 1)] [] Q) := by
        rw [hx]
        exact m196d hW.new ho hp he (by omega) (by omega) (fun _ => C) (fun _ => C)
      rw [hx]
      exact h138d hW ho hp he (by omega) (by omega) (by omega) (fun _ => l205_ask_b hW.new hpL hL B) (fun _ => l205_ask_b hW.new hpL hL B)
  · have C := l205_ask_c1 (d := d + 300) (b := 0) (S := q_sI (q_new S (10, 6) 6) 1097 0 (1 : Int32)) (hW.new.sI (by decide)) hpL hL rfl (j_thr hW hJ hk)
    have B : w_X (d + 300) 196 [.ref 1097, .int (xs (p + 1)), .int (xs (p + 2)), .int (xs (p + 3))] (q_new S (10, 6) 6) (w_k (d + 300 + 1) 205 940 [(0, .ref 999), (1, .ref 1000), (2, .ref 1097), (3, .ref 1139), (4, .int (nI p)), (5, .int 1)] [] Q) := by
      exact m196c hW.new ho hp (fun _ => C) (fun _ => C)
    exact h138c hW ho hp (by omega) (fun _ => l205_ask_b hW.new hpL hL B) (fun _ => l205_ask_b hW.new hpL hL B)
end JO8
