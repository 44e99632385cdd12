/-! THE REFERENCE READS AS THE GRAMMAR'S FUNCTION DOES. -/
section VMRD
variable {L : Nat} {xs : Nat → Int32} {N : Nat} {g v pl : Nat → Nat} {d : Nat}
def v_KM (L : Nat) (xs : Nat → Int32) (N : Nat) (g v pl : Nat → Nat) (d f : Nat) (S : q_S) (Q : Outcome → q_S → Prop) : v_Rs → Prop
  | (none, p, _) => ∀ S', w_W (q_S0 L xs) S' → v_mf S S' → q_iv S' 1097 1 = nI (pl p) → Q (.returned (some (.int 0))) S'
  | (some r, p, ns) => ∀ S', w_W (q_S0 L xs) S' → v_mr f S S' → v_MQ S' N g v pl p ns → q_iv S' 1097 35 = nI f → q_iv S' 1097 33 = nI r → w_R (d + 4) 163 11 [(0, .ref 1097)] [] S' Q
theorem v_KM.pre {f : Nat} {S S1 : q_S} {Q : Outcome → q_S → Prop} {res : v_Rs} (k : v_KM L xs N g v pl d f S Q res) (h : v_mr f S S1) : v_KM L xs N g v pl d f S1 Q res := by
  obtain ⟨r, p, ns⟩ := res
  cases r with
  | none => exact fun S' a b c => k S' a (h.mf b) c
  | some r => exact fun S' a b c e1 e2 => k S' a (h.trans b (Nat.le_refl _)) c e1 e2
theorem v_KM.no {f p : Nat} {S S1 : q_S} {ns : List v_Nd} {Q : Outcome → q_S → Prop} (k : v_KM L xs N g v pl d f S Q (none, p, ns)) (hW : w_W (q_S0 L xs) S1) (h : v_mr f S S1) : Q (.returned (some (.int 0))) (q_sI S1 1097 1 (nI (pl p))) := k _ (hW.sI (by decide)) h.wh v_hI
theorem v_KM.ok {f r p : Nat} {S S1 : q_S} {ns : List v_Nd} {Q : Outcome → q_S → Prop} (k : v_KM L xs N g v pl d f S Q (some r, p, ns)) (hW : w_W (q_S0 L xs) S1) (h : v_mr f S S1) (hM : v_MQ S1 N g v pl p ns) : w_R (d + 4) 163 11 [(0, .ref 1097)] [] (v_dn S1 f (nI r)) Q := k _ (v_dn_W hW) (v_dn_mr h) (v_dn_MQ hM) v_dn_o v_dn_r
def v_wcb (s : Nat) : Bool := decide (v_wc s = 45 ↔ s = 28) && (decide (v_wc s = 305 ↔ s = 26) && (decide (v_lv s = 2 ↔ (v_wc s = 305 ∨ v_wc s = 200 ∨ v_wc s = 201 ∨ v_wc s = 202 ∨ v_wc s = 203 ∨ v_wc s = 304)) && (decide (v_wc s = 33 ↔ s = 18) && (decide (v_wc s = 40 ↔ s = 11) && (decide (v_wc s = 41 ↔ s = 12) && (decide (v_wc s = 46 ↔ s = 16) && (decide (v_lf s = true ↔ (v_wc s = 1 ∨ v_wc s = 2 ∨ v_wc s = 306 ∨ v_wc s = 307 ∨ v_wc s = 308 ∨ v_wc s = 309)) && decide (v_at s = true ↔ (¬ v_wc s < 310 ∧ ¬ 312 < v_wc s)))))))))
theorem v_wcbt : ∀ s, s < 34 → v_wcb s = true := by decide +kernel
theorem v_wcg (s : Nat) (h : s < 34) : (v_wc s = 45 ↔ s = 28) ∧ (v_wc s = 305 ↔ s = 26) ∧ (v_lv s = 2 ↔ (v_wc s = 305 ∨ v_wc s = 200 ∨ v_wc s = 201 ∨ v_wc s = 202 ∨ v_wc s = 203 ∨ v_wc s = 304)) ∧ (v_wc s = 33 ↔ s = 18) ∧ (v_wc s = 40 ↔ s = 11) ∧ (v_wc s = 41 ↔ s = 12) ∧ (v_wc s = 46 ↔ s = 16) ∧ (v_lf s = true ↔ (v_wc s = 1 ∨ v_wc s = 2 ∨ v_wc s = 306 ∨ v_wc s = 307 ∨ v_wc s = 308 ∨ v_wc s = 309)) ∧ (v_at s = true ↔ (¬ v_wc s < 310 ∧ ¬ 312 < v_wc s)) := by
  have h1 := v_wcbt s h
  unfold v_wcb at h1
  simp only [Bool.and_eq_true, decide_eq_true_eq] at h1
  exact h1
theorem v_wcat : ∀ s, s < 34 → v_at s = true → v_wc s - 310 = s - 8 := by decide +kernel
/-! a step of the four rules that group, whichever -/
theorem v_Ga {i f q r : Nat} {S : q_S} {ns : List v_Nd} {Q : Outcome → q_S → Prop} (hr : r = 0 ∨ r = 1 ∨ r = 3 ∨ r = 4) (hr0 : r = 0 → q < 7) (hW : w_W (q_S0 L xs) S) (hM : v_MP S N g v pl i ns (f + 1)) (hf : f < 100) (hq : q_iv S 1129 f = nI q) (hq7 : q ≤ 7) (h1 : q_iv S 1126 f = nI r) (h2 : q_iv S 1127 f = 0) (k : w_R (d + 3) 163 11 [(0, .ref 1097)] [] (v_cl (q_sI S 1127 f 1) f (nI (r + 1)) (nI q)) Q) : w_R (d + 3) 163 11 [(0, .ref 1097)] [] S Q := by
  by_cases h0 : r = 0
  · have := hr0 h0
    exact p163_11Ga0 hW hM hf hq hq7 hr h1 (by omega) (by omega) (by omega) h0 (by omega) h2 k
  · exact p163_11Ga hW hM hf hq hq7 hr h1 (by omega) (by omega) (by omega) h0 h2 k
theorem v_Gb {i f q r rt : Nat} {S : q_S} {ns : List v_Nd} {Q : Outcome → q_S → Prop} (hr : r = 0 ∨ r = 1 ∨ r = 3 ∨ r = 4) (hW : w_W (q_S0 L xs) S) (hM : v_MP S N g v pl i ns (f + 1)) (hf : f < 100) (hq : q_iv S 1129 f = nI q) (hq7 : q ≤ 7) (h1 : q_iv S 1126 f = nI r) (h2 : q_iv S 1127 f = 1) (h3 : q_iv S 1128 f = -1) (h4 : rt < 1000) (h5 : q_iv S 1097 33 = nI rt)
    (kn : ¬ v_lv (g i) = r → w_R (d + 3) 163 11 [(0, .ref 1097)] [] (v_dn (q_sI S 1128 f (nI rt)) f (nI rt)) Q)
    (ky : v_lv (g i) = r → w_R (d + 3) 163 11 [(0, .ref 1097)] [] (v_cl (q_sI (q_sI (q_sI S 1128 f (nI rt)) 1130 f (nI i)) 1097 32 (nI (i + 1))) f (nI (r + 1)) (nI q)) Q) : w_R (d + 3) 163 11 [(0, .ref 1097)] [] S Q := by
  have hb := hM.bd
  have hlt : v_lv (g i) < 5 → i < N := fun z => hM.q.1.lt hb.1 (v_lv_lt z).1 (v_lv_lt z).2
  by_cases h : v_lv (g i) = r
  · exact p163_11Gby hW hM hf hq hq7 hr h1 (by omega) (by omega) (by omega) (hlt (by omega)) h2 h3 h4 h5 h (ky h)
  · exact p163_11Gbn hW hM hf hq hq7 hr h1 (by omega) (by omega) (by omega) h2 h3 h4 h5 h (kn h)
theorem v_Gc {i f q r rt a mk : Nat} {S : q_S} {ns : List v_Nd} {Q : Outcome → q_S → Prop} (hr : r = 0 ∨ r = 1 ∨ r = 3 ∨ r = 4) (hW : w_W (q_S0 L xs) S) (hM : v_MP S N g v pl i ns (f + 1)) (hf : f < 100) (hq : q_iv S 1129 f = nI q) (hq7 : q ≤ 7) (h1 : q_iv S 1126 f = nI r) (h2 : q_iv S 1127 f = 1) (h3 : q_iv S 1128 f = nI a) (h3' : a < 1000) (h4 : rt < 1000) (h5 : q_iv S 1097 33 = nI rt) (hmk : mk < N) (h6 : q_iv S 1130 f = nI mk) (hn : ns.length < 101)
    (kn : ¬ v_lv (g i) = r → w_R (d + 3) 163 11 [(0, .ref 1097)] [] (v_dn (q_sI (v_mk S ns.length (nI (v_nw (g mk) (some rt))) (nI a) (nI rt) 0 (nI mk)) 1128 f (nI ns.length)) f (nI ns.length)) Q)
    (ky : v_lv (g i) = r → w_R (d + 3) 163 11 [(0, .ref 1097)] [] (v_cl (q_sI (q_sI (q_sI (v_mk S ns.length (nI (v_nw (g mk) (some rt))) (nI a) (nI rt) 0 (nI mk)) 1128 f (nI ns.length)) 1130 f (nI i)) 1097 32 (nI (i + 1))) f (nI (r + 1)) (nI q)) Q) : w_R (d + 3) 163 11 [(0, .ref 1097)] [] S Q := by
  have hb := hM.bd
  have hlt : v_lv (g i) < 5 → i < N := fun z => hM.q.1.lt hb.1 (v_lv_lt z).1 (v_lv_lt z).2
  have m5 := (v_wcg (g mk) (hM.q.1.2 mk (by omega)).1).1
  by_cases h28 : g mk = 28
  · have hnw : v_nw (g mk) (some rt) = 1045 := by unfold v_nw; rw [if_pos ⟨h28, rfl⟩]
    rw [hnw] at kn ky
    by_cases h : v_lv (g i) = r
    · exact p163_11Gcmy hW hM hf hq hq7 hr h1 (by omega) (by omega) (by omega) (m5.mpr h28) hmk hn (hlt (by omega)) h2 h3' h3 (by omega) h6 h4 h5 h (ky h)
    · exact p163_11Gcmn hW hM hf hq hq7 hr h1 (by omega) (by omega) (by omega) (m5.mpr h28) hmk hn h2 h3' h3 (by omega) h6 h4 h5 h (kn h)
  · have hnw : v_nw (g mk) (some rt) = v_wc (g mk) := by unfold v_nw; rw [if_neg (fun z => h28 z.1)]
    rw [hnw] at kn ky
    by_cases h : v_lv (g i) = r
    · exact p163_11Gcoy hW hM hf hq hq7 hr h1 (by omega) (by omega) (by omega) (fun z => h28 (m5.mp z)) hmk hn (hlt (by omega)) h2 h3' h3 (by omega) h6 h4 h5 h (ky h)
    · exact p163_11Gcon hW hM hf hq hq7 hr h1 (by omega) (by omega) (by omega) (fun z => h28 (m5.mp z)) hmk hn h2 h3' h3 (by omega) h6 h4 h5 h (kn h)
theorem v_pz7 : ∀ n md ps ns res, md ≤ 5 → v_pz g v n md 7 0 ps ns = some res → res = (none, ps, ns) := by
  intro n
  induction n with
  | zero => intro md ps ns res _ h; cases h
  | succ n ih =>
    intro md ps ns res hmd h
    unfold v_pz at h
    by_cases h5 : md < 5
    · rw [if_pos h5] at h
      rcases v_bd_some h with ⟨p1, ns1, e1, e2⟩ | ⟨r1, p1, ns1, e1, e2⟩
      · have := ih _ _ _ _ (by omega) e1
        cases this
        exact e2
      · have := ih _ _ _ _ (by omega) e1
        cases this
    · rw [if_neg h5, if_pos (by omega), if_pos (by omega)] at h
      cases h
      rfl
theorem v_Q6 {S : q_S} {Q : Outcome → q_S → Prop} (hW : w_W (q_S0 L xs) S) (k : w_R (d + 4) 163 11 [(0, .ref 1097)] [] S Q) : w_k (d + 3) 165 39 [] [] (w_k (d + 4) 163 19 [(0, .ref 1097)] [] Q) (.returned (some (.int 1))) S :=
  b165_42y hW (b163_22y hW k)
theorem v_Q6n {S : q_S} {Q : Outcome → q_S → Prop} (hW : w_W (q_S0 L xs) S) (k : Q (.returned (some (.int 0))) S) : w_k (d + 3) 165 39 [] [] (w_k (d + 4) 163 19 [(0, .ref 1097)] [] Q) (.returned (some (.int 0))) S :=
  b165_42n hW (b163_22n hW k)
def v_mA (L : Nat) (xs : Nat → Int32) (N : Nat) (g v pl : Nat → Nat) (d n : Nat) : Prop := ∀ md dp ps ns res f S Q, md < 7 → dp ≤ 7 → (md = 6 → dp < 7) → f ≤ 7 * dp + md → v_pz g v n md dp 0 ps ns = some res → w_W (q_S0 L xs) S → v_MQ S N g v pl ps ns → ns.length ≤ ps → q_iv S 1097 35 = nI (f + 1) → q_iv S 1126 f = nI md → q_iv S 1127 f = 0 → q_iv S 1128 f = -1 → q_iv S 1129 f = nI dp → v_KM L xs N g v pl d f S Q res → w_R (d + 4) 163 11 [(0, .ref 1097)] [] S Q
def v_mD (L : Nat) (xs : Nat → Int32) (N : Nat) (g v pl : Nat → Nat) (d n : Nat) : Prop := ∀ l dp lf ps ns res f S Q, (l = 0 ∨ l = 1 ∨ l = 3 ∨ l = 4) → dp ≤ 7 → f ≤ 7 * dp + l → lf < 1000 → v_pz g v n (10 + l) dp lf ps ns = some res → w_W (q_S0 L xs) S → v_MQ S N g v pl ps ns → ns.length ≤ ps → q_iv S 1097 35 = nI (f + 1) → q_iv S 1126 f = nI l → q_iv S 1127 f = 1 → q_iv S 1128 f = -1 → q_iv S 1129 f = nI dp → q_iv S 1097 33 = nI lf → v_KM L xs N g v pl d f S Q res → w_R (d + 4) 163 11 [(0, .ref 1097)] [] S Q
def v_mC (L : Nat) (xs : Nat → Int32) (N : Nat) (g v pl : Nat → Nat) (d n : Nat) : Prop := ∀ l dp a mk rt ps ns res f S Q, (l = 0 ∨ l = 1 ∨ l = 3 ∨ l = 4) → dp ≤ 7 → f ≤ 7 * dp + l → a < 1000 → rt < 1000 → mk < N → v_lv (g mk) = l → v_pz g v n (10 + l) dp ns.length ps (ns ++ [(g mk, mk, 0, some a, some rt)]) = some res → w_W (q_S0 L xs) S → v_MQ S N g v pl ps ns → ns.length < ps → q_iv S 1097 35 = nI (f + 1) → q_iv S 1126 f = nI l → q_iv S 1127 f = 1 → q_iv S 1128 f = nI a → q_iv S 1129 f = nI dp → q_iv S 1130 f = nI mk → q_iv S 1097 33 = nI rt → v_KM L xs N g v pl d f S Q res → w_R (d + 4) 163 11 [(0, .ref 1097)] [] S Q
def v_mE (L : Nat) (xs : Nat → Int32) (N : Nat) (g v pl : Nat → Nat) (d n : Nat) : Prop := ∀ dp lf ps ns res f S Q, dp ≤ 7 → f ≤ 7 * dp + 2 → lf < 1000 → v_pz g v n 12 dp lf ps ns = some res → w_W (q_S0 L xs) S → v_MQ S N g v pl ps ns → ns.length ≤ ps → q_iv S 1097 35 = nI (f + 1) → q_iv S 1126 f = 2 → q_iv S 1127 f = 1 → q_iv S 1129 f = nI dp → q_iv S 1097 33 = nI lf → v_KM L xs N g v pl d f S Q res → w_R (d + 4) 163 11 [(0, .ref 1097)] [] S Q
def v_mF (L : Nat) (xs : Nat → Int32) (N : Nat) (g v pl : Nat → Nat) (d n : Nat) : Prop := ∀ dp lf ps ns res f S Q, dp < 7 → f ≤ 7 * dp + 6 → lf < 1000 → v_pz g v n 16 dp lf ps ns = some res → w_W (q_S0 L xs) S → v_MQ S N g v pl ps ns → ns.length ≤ ps → q_iv S 1097 35 = nI (f + 1) → q_iv S 1128 f = nI lf → q_iv S 1129 f = nI dp → v_KM L xs N g v pl d f S Q res → w_R (d + 2) 170 157 [(0, .ref 1097), (1, .int (nI f))] [] S (w_k (d + 3) 165 39 [] [] (w_k (d + 4) 163 19 [(0, .ref 1097)] [] Q))
/-- behind a sign that joins -/
theorem v_join {n : Nat} (iA : v_mA L xs N g v pl d n) (iC : v_mC L xs N g v pl d n) {l dp lf ps f : Nat} {ns : List v_Nd} {res : v_Rs} {S : q_S} {Q : Outcome → q_S → Prop} (hl : l = 0 ∨ l = 1 ∨ l = 3 ∨ l = 4) (hdp : dp ≤ 7) (hf : f ≤ 7 * dp + l) (hlf : lf < 1000) (hlv : v_lv (g ps) = l) (hps : ps < N)
    (hz : v_bd (v_pz g v n (l + 1) dp 0 (ps + 1) ns) (fun r p ns => v_pz g v n (10 + l) dp ns.length p (ns ++ [(g ps, ps, 0, some lf, some r)])) = some res) (hW : w_W (q_S0 L xs) S) (hM : v_MQ S N g v pl (ps + 1) ns) (hn : ns.length ≤ ps) (h1 : q_iv S 1126 f = nI l) (h2 : q_iv S 1127 f = 1) (h3 : q_iv S 1128 f = nI lf) (h4 : q_iv S 1129 f = nI dp) (h5 : q_iv S 1130 f = nI ps) (K : v_KM L xs N g v pl d f S Q res) : w_R (d + 4) 163 11 [(0, .ref 1097)] [] (v_cl S f (nI (l + 1)) (nI dp)) Q := by
  have hmr : v_mr f S (v_cl S f (nI (l + 1)) (nI dp)) := v_cl_mr v_mr.refl
  rcases v_bd_some hz with ⟨p1, ns1, e1, e2⟩ | ⟨r1, p1, ns1, e1, e2⟩
  · cases e2
    refine iA (l + 1) dp (ps + 1) ns _ (f + 1) _ Q (by omega) hdp (by omega) (by omega) e1 (v_cl_W hW) (v_cl_MQ hM) (by omega) v_cl_o v_cl_r v_cl_p v_cl_n v_cl_d ?_
    exact fun S' a b c => K S' a (hmr.mf b) c
  · obtain ⟨_, a1, a2, a3, a4, _⟩ := v_pz_post hM.1 _ _ _ _ _ _ _ _ _ e1 hps hdp (by omega) (by omega)
    obtain ⟨a5, a6, _⟩ := a4 (by omega) r1 rfl
    have hN := hM.1.1
    refine iA (l + 1) dp (ps + 1) ns _ (f + 1) _ Q (by omega) hdp (by omega) (by omega) e1 (v_cl_W hW) (v_cl_MQ hM) (by omega) v_cl_o v_cl_r v_cl_p v_cl_n v_cl_d ?_
    intro S' hW' hr hM' ho hret
    have lo : ∀ a, 1126 ≤ a → a ≤ 1130 → q_iv S' a f = q_iv S a f := fun a b1 b2 => by rw [hr.2.1 a b1 b2 f (by omega)]; exact v_cl_lo b1 (Nat.le_refl _)
    have lo6 : q_iv S' 1126 f = nI l := by rw [lo 1126 (by omega) (by omega)]; exact h1
    have lo7 : q_iv S' 1127 f = 1 := by rw [lo 1127 (by omega) (by omega)]; exact h2
    have lo8 : q_iv S' 1128 f = nI lf := by rw [lo 1128 (by omega) (by omega)]; exact h3
    have lo9 : q_iv S' 1129 f = nI dp := by rw [lo 1129 (by omega) (by omega)]; exact h4
    have lo0 : q_iv S' 1130 f = nI ps := by rw [lo 1130 (by omega) (by omega)]; exact h5
    exact iC l dp lf ps r1 p1 ns1 res f S' Q hl hdp hf hlf (by omega) hps hlv e2 hW' hM' (by omega) ho lo6 lo7 lo8 lo9 lo0 hret (K.pre (hmr.trans hr (by omega)))
theorem v_mstepD {n : Nat} (iA : v_mA L xs N g v pl d n) (iC : v_mC L xs N g v pl d n) : v_mD L xs N g v pl d (n + 1) := by
  intro l dp lf ps ns res f S Q hl hdp hf hlf hz hW hM hn ho h1 h2 h3 h4 h5 K
  have hN := hM.1.1
  unfold v_pz at hz
  rw [if_neg (by omega), if_neg (by omega), if_neg (by omega), if_neg (by omega)] at hz
  refine v_Gb (d := d + 1) hl hW ⟨hM, ho⟩ (by omega) h4 hdp h1 h2 h3 hlf h5 (fun hv => ?_) (fun hv => ?_)
  · rw [if_neg (by omega)] at hz
    cases hz
    exact K.ok (hW.sI (by decide)) (v_mr.refl.st (by decide) (by decide) (Nat.le_refl _)) (hM.st (by decide))
  · have hv5 : v_lv (g ps) < 5 := by omega
    have hlt : ps < N := hM.1.lt hM.2.1 (v_lv_lt hv5).1 (v_lv_lt hv5).2
    have hg : ¬ g ps = 26 := fun z => by rw [z] at hv; have : v_lv 26 = 2 := rfl; omega
    rw [if_pos (by omega), if_neg hg, show 10 + l - 9 = l + 1 by omega] at hz
    simp only [show ¬ (10 + l = 12) by omega, if_false] at hz
    have hmr : v_mr f S (q_sI (q_sI (q_sI S 1128 f (nI lf)) 1130 f (nI ps)) 1097 32 (nI (ps + 1))) := ((v_mr.refl.st (by decide) (by decide) (Nat.le_refl _)).st (by decide) (by decide) (Nat.le_refl _)).fd (Or.inl rfl)
    refine v_join iA iC hl hdp hf hlf hv hlt hz (((hW.sI (by decide)).sI (by decide)).sI (by decide)) (((hM.st (by decide)).st (by decide)).at hlt) hn ?_ ?_ ?_ ?_ ?_ (K.pre hmr)
    · exact h1
    · exact h2
    · rw [v_aI (by decide), v_aI (by decide)]; exact v_hI
    · exact h4
    · rw [v_aI (by decide)]; exact v_hI
theorem v_mstepC {n : Nat} (iA : v_mA L xs N g v pl d n) (iC : v_mC L xs N g v pl d n) : v_mC L xs N g v pl d (n + 1) := by
  intro l dp a mk rt ps ns res f S Q hl hdp hf ha hrt hmk hlm hz hW hM hn ho h1 h2 h3 h4 h5 h6 K
  have hN := hM.1.1
  have hi := hM.2.1
  unfold v_pz at hz
  rw [if_neg (by omega), if_neg (by omega), if_neg (by omega), if_neg (by omega)] at hz
  have hlen : (ns ++ [(g mk, mk, 0, some a, some rt)] : List v_Nd).length = ns.length + 1 := by rw [List.length_append]; rfl
  have hM1 : v_MQ (v_mk S ns.length (nI (v_nw (g mk) (some rt))) (nI a) (nI rt) 0 (nI mk)) N g v pl ps (ns ++ [(g mk, mk, 0, some a, some rt)]) := hM.mk rfl rfl rfl rfl rfl
  have hW1 : w_W (q_S0 L xs) (v_mk S ns.length (nI (v_nw (g mk) (some rt))) (nI a) (nI rt) 0 (nI mk)) := v_mk_W hW
  have hr1 : v_mr f S (v_mk S ns.length (nI (v_nw (g mk) (some rt))) (nI a) (nI rt) 0 (nI mk)) := v_mk_mr v_mr.refl
  refine v_Gc (d := d + 1) hl hW ⟨hM, ho⟩ (by omega) h4 hdp h1 h2 h3 ha hrt h6 hmk h5 (by omega) (fun hv => ?_) (fun hv => ?_)
  · rw [if_neg (by omega)] at hz
    cases hz
    exact K.ok (hW1.sI (by decide)) (hr1.st (by decide) (by decide) (Nat.le_refl _)) (hM1.st (by decide))
  · have hv5 : v_lv (g ps) < 5 := by omega
    have hlt : ps < N := hM.1.lt hM.2.1 (v_lv_lt hv5).1 (v_lv_lt hv5).2
    have hg : ¬ g ps = 26 := fun z => by rw [z] at hv; have : v_lv 26 = 2 := rfl; omega
    rw [if_pos (by omega), if_neg hg, show 10 + l - 9 = l + 1 by omega] at hz
    simp only [show ¬ (10 + l = 12) by omega, if_false] at hz
    have hmr := ((hr1.st (a := 1128) (k := f) (x := nI ns.length) (by decide) (by decide) (Nat.le_refl _)).st (a := 1130) (k := f) (x := nI ps) (by decide) (by decide) (Nat.le_refl _)).fd (k := 32) (x := nI (ps + 1)) (Or.inl rfl)
    refine v_join iA iC hl hdp hf (by omega) hv hlt hz (((hW1.sI (by decide)).sI (by decide)).sI (by decide)) (((hM1.st (by decide)).st (by decide)).at hlt) (by omega) ?_ ?_ ?_ ?_ ?_ (K.pre hmr)
    · rw [v_aI (by decide), v_aI (by decide), v_aI (by decide), v_mk_o (by omega)]; exact h1
    · rw [v_aI (by decide), v_aI (by decide), v_aI (by decide), v_mk_o (by omega)]; exact h2
    · rw [v_aI (by decide), v_aI (by decide)]; exact v_hI
    · rw [v_aI (by decide), v_aI (by decide), v_aI (by decide), v_mk_o (by omega)]; exact h4
    · rw [v_aI (by decide)]; exact v_hI
theorem v_mstepE {n : Nat} (iA : v_mA L xs N g v pl d n) : v_mE L xs N g v pl d (n + 1) := by
  intro dp lf ps ns res f S Q hdp hf hlf hz hW hM hn ho h1 h2 h4 h5 K
  have hN := hM.1.1
  have hi := hM.2.1
  have hP : v_MP S N g v pl ps ns (f + 1) := ⟨hM, ho⟩
  have hg34 := (hM.1.2 ps hi).1
  obtain ⟨_, c26, c2, _⟩ := v_wcg (g ps) hg34
  unfold v_pz at hz
  rw [if_neg (by omega), if_neg (by omega), if_neg (by omega), if_neg (by omega)] at hz
  by_cases hv : v_lv (g ps) = 12 - 10
  · rw [if_pos hv] at hz
    have hv5 : v_lv (g ps) < 5 := by omega
    have hlt : ps < N := hM.1.lt hi (v_lv_lt hv5).1 (v_lv_lt hv5).2
    have hW1 : w_W (q_S0 L xs) (q_sI (q_sI (q_sI S 1128 f (nI lf)) 1130 f (nI ps)) 1097 32 (nI (ps + 1))) := ((hW.sI (by decide)).sI (by decide)).sI (by decide)
    have hM1 : v_MQ (q_sI (q_sI (q_sI S 1128 f (nI lf)) 1130 f (nI ps)) 1097 32 (nI (ps + 1))) N g v pl (ps + 1) ns := ((hM.st (by decide)).st (by decide)).at hlt
    have hr1 : v_mr f S (q_sI (q_sI (q_sI S 1128 f (nI lf)) 1130 f (nI ps)) 1097 32 (nI (ps + 1))) := ((v_mr.refl.st (by decide) (by decide) (Nat.le_refl _)).st (by decide) (by decide) (Nat.le_refl _)).fd (Or.inl rfl)
    by_cases hg : g ps = 26
    · rw [if_pos hg] at hz
      have hat := (v_wcg (g (ps + 1)) (hM.1.2 (ps + 1) hlt).1).2.2.2.2.2.2.2.2
      by_cases ha : v_at (g (ps + 1)) = true
      · rw [if_pos ha] at hz
        cases hz
        have ha' := v_at_ne ha
        have hlt1 : ps + 1 < N := hM.1.lt hlt (by omega) (by omega)
        refine p163_11r1h (d := d + 1) hW hP (by omega) h4 hdp (c26.mpr hg) hlt (by omega) h1 h2 hlf h5 (fun z => absurd z (hat.mp ha).1) (fun _ z => absurd z (hat.mp ha).2) (fun _ _ => ?_)
        rw [v_wcat _ (hM.1.2 (ps + 1) hlt).1 ha]
        exact K.ok (v_mk_W (hW1.sI (by decide))) (v_mk_mr (hr1.fd (Or.inl rfl))) ((hM1.at hlt1).mk (s := 26) (ro := none) (lo := some lf) (z := g (ps + 1) - 8) (tk := ps) rfl rfl rfl rfl rfl)
      · rw [if_neg ha] at hz
        cases hz
        refine p163_11r1h (d := d + 1) hW hP (by omega) h4 hdp (c26.mpr hg) hlt (by omega) h1 h2 hlf h5 (fun _ => K.no hW1 hr1) (fun _ _ => K.no hW1 hr1) (fun z1 z2 => absurd (hat.mpr ⟨z1, z2⟩) ha)
    · rw [if_neg hg] at hz
      have h305 : ¬ v_wc (g ps) = 305 := fun z => hg (c26.mp z)
      have main : w_R (d + 4) 163 11 [(0, .ref 1097)] [] (v_cl (q_sI (q_sI (q_sI (q_sI S 1128 f (nI lf)) 1130 f (nI ps)) 1097 32 (nI (ps + 1))) 1127 f 2) f 3 (nI dp)) Q := by
        have hmr : v_mr f S (v_cl (q_sI (q_sI (q_sI (q_sI S 1128 f (nI lf)) 1130 f (nI ps)) 1097 32 (nI (ps + 1))) 1127 f 2) f 3 (nI dp)) := v_cl_mr (hr1.st (by decide) (by decide) (Nat.le_refl _))
        have hM2 := v_cl_MQ (f := f) (r := 3) (q := nI dp) (hM1.st (a := 1127) (k := f) (x := 2) (by decide))
        have hW2 := v_cl_W (f := f) (r := 3) (q := nI dp) (hW1.sI (a := 1127) (k := f) (x := 2) (by decide))
        rcases v_bd_some hz with ⟨p1, ns1, e1, e2⟩ | ⟨r1, p1, ns1, e1, e2⟩
        · cases e2
          refine iA 3 dp (ps + 1) ns _ (f + 1) _ Q (by omega) hdp (by omega) (by omega) e1 hW2 hM2 (by omega) v_cl_o v_cl_r v_cl_p v_cl_n v_cl_d ?_
          exact fun S' a b c => K S' a (hmr.mf b) c
        · obtain ⟨_, a1, a2, a3, a4, _⟩ := v_pz_post hM.1 _ _ _ _ _ _ _ _ _ e1 hlt hdp (by omega) (by omega)
          obtain ⟨a5, a6, _⟩ := a4 (by omega) r1 rfl
          rw [if_pos rfl] at e2
          cases e2
          refine iA 3 dp (ps + 1) ns _ (f + 1) _ Q (by omega) hdp (by omega) (by omega) e1 hW2 hM2 (by omega) v_cl_o v_cl_r v_cl_p v_cl_n v_cl_d ?_
          intro S' hW' hr hM' ho' hret
          have lo : ∀ a, 1126 ≤ a → a ≤ 1130 → q_iv S' a f = q_iv (q_sI (q_sI (q_sI (q_sI S 1128 f (nI lf)) 1130 f (nI ps)) 1097 32 (nI (ps + 1))) 1127 f 2) a f := fun a b1 b2 => by rw [hr.2.1 a b1 b2 f (by omega)]; exact v_cl_lo b1 (Nat.le_refl _)
          have lo6 : q_iv S' 1126 f = 2 := by rw [lo 1126 (by omega) (by omega)]; exact h1
          have lo7 : q_iv S' 1127 f = 2 := by rw [lo 1127 (by omega) (by omega)]; exact v_hI
          have lo8 : q_iv S' 1128 f = nI lf := by rw [lo 1128 (by omega) (by omega), v_aI (by decide), v_aI (by decide), v_aI (by decide)]; exact v_hI
          have lo9 : q_iv S' 1129 f = nI dp := by rw [lo 1129 (by omega) (by omega)]; exact h4
          have lo0 : q_iv S' 1130 f = nI ps := by rw [lo 1130 (by omega) (by omega), v_aI (by decide), v_aI (by decide)]; exact v_hI
          refine p163_11r2 (d := d + 1) hW' ⟨hM', ho'⟩ (by omega) lo9 hdp hlt (by omega) lo6 lo7 (by omega) lo0 hlf lo8 (by omega) hret ?_
          have hne28 : ¬ g ps = 28 := fun z => by rw [z] at hv; exact absurd hv (by decide)
          have hnw : v_nw (g ps) (some r1) = v_wc (g ps) := by unfold v_nw; rw [if_neg (fun z => hne28 z.1)]
          exact K.ok (v_mk_W hW') (v_mk_mr (hmr.trans hr (by omega))) (hM'.mk (s := g ps) (ro := some r1) (lo := some lf) (z := 0) (tk := ps) (by rw [hnw]) rfl rfl rfl rfl)
      rcases (c2.mp hv) with h | h | h | h | h | h
      · exact absurd h h305
      · exact p163_11r1o0 (d := d + 1) hW hP (by omega) h4 hdp h hlt h1 h2 hlf h5 main
      · exact p163_11r1o1 (d := d + 1) hW hP (by omega) h4 hdp h hlt h1 h2 hlf h5 main
      · exact p163_11r1o2 (d := d + 1) hW hP (by omega) h4 hdp h hlt h1 h2 hlf h5 main
      · exact p163_11r1o3 (d := d + 1) hW hP (by omega) h4 hdp h hlt h1 h2 hlf h5 main
      · exact p163_11r1o4 (d := d + 1) hW hP (by omega) h4 hdp h hlt h1 h2 hlf h5 main
  · rw [if_neg hv] at hz
    cases hz
    have hno : ∀ c, (c = 305 ∨ c = 200 ∨ c = 201 ∨ c = 202 ∨ c = 203 ∨ c = 304) → ¬ v_wc (g ps) = c := fun c hc z => hv (c2.mpr (by omega))
    exact p163_11r1n (d := d + 1) hW hP (by omega) h4 hdp (hno _ (by omega)) (hno _ (by omega)) (hno _ (by omega)) (hno _ (by omega)) (hno _ (by omega)) (hno _ (by omega)) h1 h2 hlf h5 (K.ok (hW.sI (by decide)) (v_mr.refl.st (by decide) (by decide) (Nat.le_refl _)) (hM.st (by decide)))
theorem v_mstepF {n : Nat} (iF : v_mF L xs N g v pl d n) : v_mF L xs N g v pl d (n + 1) := by
  intro dp lf ps ns res f S Q hdp hf hlf hz hW hM hn ho h3 h4 K
  have hN := hM.1.1
  have hi := hM.2.1
  have hP : v_MP S N g v pl ps ns (f + 1) := ⟨hM, ho⟩
  have c16 := (v_wcg (g ps) (hM.1.2 ps hi).1).2.2.2.2.2.2.1
  unfold v_pz at hz
  rw [if_neg (by omega), if_neg (by omega), if_neg (by omega), if_pos rfl] at hz
  by_cases hg : g ps = 16
  · rw [if_pos hg] at hz
    have hlt : ps < N := hM.1.lt hi (by omega) (by omega)
    have hW1 : w_W (q_S0 L xs) (q_sI S 1097 32 (nI (ps + 1))) := hW.sI (by decide)
    have hM1 := hM.at hlt
    have hr1 : v_mr f S (q_sI S 1097 32 (nI (ps + 1))) := v_mr.refl.fd (Or.inl rfl)
    have hat := (v_wcg (g (ps + 1)) (hM.1.2 (ps + 1) hlt).1).2.2.2.2.2.2.2.2
    by_cases ha : v_at (g (ps + 1)) = true
    · rw [if_pos ha] at hz
      have ha' := v_at_ne ha
      have hlt1 : ps + 1 < N := hM.1.lt hlt (by omega) (by omega)
      refine p170_157y (d := d + 1) hW hP (by omega) h4 (by omega) (c16.mpr hg) hlt (by omega) hlf (fun _ _ => h3) (fun z => absurd z (hat.mp ha).1) (fun _ z => absurd z (hat.mp ha).2) (fun _ _ => ?_)
      rw [v_wcat _ (hM.1.2 (ps + 1) hlt).1 ha]
      have hM2 : v_MQ (v_mk (q_sI S 1097 32 (nI (ps + 1))) ns.length 46 (nI lf) (-1) (nI (g (ps + 1) - 8)) (nI ps)) N g v pl (ps + 1) (ns ++ [(16, ps, g (ps + 1) - 8, some lf, none)]) := hM1.mk rfl rfl rfl rfl rfl
      have hlen : (ns ++ [(16, ps, g (ps + 1) - 8, some lf, none)] : List v_Nd).length = ns.length + 1 := by rw [List.length_append]; rfl
      refine iF dp ns.length (ps + 2) _ res f _ Q hdp hf (by omega) hz (((v_mk_W hW1).sI (by decide)).sI (by decide)) ((hM2.st (by decide)).at (by omega)) (by omega) ?_ ?_ ?_ (K.pre (((v_mk_mr hr1).st (by decide) (by decide) (Nat.le_refl _)).fd (Or.inl rfl)))
      · rw [v_kI (by decide), v_aI (by decide), ← ho]
        show q_iv (v_mk (q_sI S 1097 32 (nI (ps + 1))) ns.length 46 (nI lf) (-1) (nI (g (ps + 1) - 8)) (nI ps)) 1097 35 = _
        rw [v_mk_o (by omega)]
        exact v_kI (by decide)
      · rw [v_aI (by decide)]; exact v_hI
      · rw [v_aI (by decide), v_aI (by decide)]
        show q_iv (v_mk (q_sI S 1097 32 (nI (ps + 1))) ns.length 46 (nI lf) (-1) (nI (g (ps + 1) - 8)) (nI ps)) 1129 f = _
        rw [v_mk_o (by omega)]
        exact h4
    · rw [if_neg ha] at hz
      cases hz
      have kn := v_Q6n (d := d) (Q := Q) (S := q_sI (q_sI S 1097 32 (nI (ps + 1))) 1097 1 (nI (pl (ps + 1)))) (hW1.sI (by decide)) (K.no hW1 hr1)
      exact p170_157y (d := d + 1) hW hP (by omega) h4 (by omega) (c16.mpr hg) hlt (by omega) hlf (fun _ _ => h3) (fun _ => kn) (fun _ _ => kn) (fun z1 z2 => absurd (hat.mpr ⟨z1, z2⟩) ha)
  · rw [if_neg hg] at hz
    cases hz
    exact p170_157n (d := d + 1) hW hP (by omega) h4 (by omega) (fun z => hg (c16.mp z)) hlf h3 (v_Q6 (v_dn_W hW) (K.ok hW v_mr.refl hM))
theorem v_p170l {i f q : Nat} {S : q_S} {ns : List v_Nd} {Q : Outcome → q_S → Prop} (hW : w_W (q_S0 L xs) S) (hM : v_MP S N g v pl i ns (f + 1)) (hf : f < 100) (hq : q_iv S 1129 f = nI q) (hq7 : q ≤ 7) (hl : v_lf (g i) = true) (hn : ns.length < 101) (h4 : q_iv S 1127 f = 0)
    (k : w_R (d + 1) 170 157 [(0, .ref 1097), (1, .int (nI f))] [] (q_sI (q_sI (v_mk S ns.length (nI (v_wc (g i))) (-1) (-1) (nI (v i)) (nI i)) 1128 f (nI ns.length)) 1097 32 (nI (i + 1))) Q) : w_X (d + 1) 170 [.ref 1097] S Q := by
  have hb := hM.bd
  have hlt : i < N := hM.q.1.lt hb.1 (v_lf_ne hl).1 (v_lf_ne hl).2
  rcases (v_wcg (g i) (hM.q.1.2 i hb.1).1).2.2.2.2.2.2.2.1.mp hl with h | h | h | h | h | h
  · exact p170_0l1 hW hM hf hq hq7 h hlt hn h4 k
  · exact p170_0l2 hW hM hf hq hq7 h hlt hn h4 k
  · exact p170_0l306 hW hM hf hq hq7 h hlt hn h4 k
  · exact p170_0l307 hW hM hf hq hq7 h hlt hn h4 k
  · exact p170_0l308 hW hM hf hq hq7 h hlt hn h4 k
  · exact p170_0l309 hW hM hf hq hq7 h hlt hn h4 k
theorem v_mstep6 {n : Nat} (iA : v_mA L xs N g v pl d n) (iF : v_mF L xs N g v pl d n) : ∀ dp ps ns res f S Q, dp < 7 → f ≤ 7 * dp + 6 → v_pz g v (n + 1) 6 dp 0 ps ns = some res → w_W (q_S0 L xs) S → v_MQ S N g v pl ps ns → ns.length ≤ ps → q_iv S 1097 35 = nI (f + 1) → q_iv S 1126 f = 6 → q_iv S 1127 f = 0 → q_iv S 1128 f = -1 → q_iv S 1129 f = nI dp → v_KM L xs N g v pl d f S Q res → w_R (d + 4) 163 11 [(0, .ref 1097)] [] S Q := by
  intro dp ps ns res f S Q hdp hf hz hW hM hn ho h1 h2 h3 h4 K
  have hN := hM.1.1
  have hi := hM.2.1
  have hP : v_MP S N g v pl ps ns (f + 1) := ⟨hM, ho⟩
  obtain ⟨_, _, _, _, c11, _, _, clf, _⟩ := v_wcg (g ps) (hM.1.2 ps hi).1
  unfold v_pz at hz
  rw [if_neg (by omega), if_neg (by omega), if_pos rfl] at hz
  refine p163_11q (d := d + 3) hW hP (by omega) h4 (by omega) ?_
  refine p165_0q (d := d + 2) hW hP (by omega) h4 (by omega) h1 ?_
  by_cases hl : v_lf (g ps) = true
  · rw [if_pos hl] at hz
    have hlt : ps < N := hM.1.lt hi (v_lf_ne hl).1 (v_lf_ne hl).2
    refine v_p170l (d := d + 1) hW hP (by omega) h4 (by omega) hl (by omega) h2 ?_
    have hnw : v_nw (g ps) none = v_wc (g ps) := by unfold v_nw; rw [if_neg (fun z => by cases z.2)]
    have hM2 : v_MQ (v_mk S ns.length (nI (v_wc (g ps))) (-1) (-1) (nI (v ps)) (nI ps)) N g v pl ps (ns ++ [(g ps, ps, v ps, none, none)]) := hM.mk (by rw [hnw]) rfl rfl rfl rfl
    have hlen : (ns ++ [(g ps, ps, v ps, none, none)] : List v_Nd).length = ns.length + 1 := by rw [List.length_append]; rfl
    refine iF dp ns.length (ps + 1) _ res f _ Q hdp hf (by omega) hz (((v_mk_W hW).sI (by decide)).sI (by decide)) ((hM2.st (by decide)).at hlt) (by omega) ?_ ?_ ?_ (K.pre (((v_mk_mr v_mr.refl).st (by decide) (by decide) (Nat.le_refl _)).fd (Or.inl rfl)))
    · rw [v_kI (by decide), v_aI (by decide), v_mk_o (by omega)]; exact ho
    · rw [v_aI (by decide)]; exact v_hI
    · rw [v_aI (by decide), v_aI (by decide), v_mk_o (by omega)]; exact h4
  rw [if_neg hl] at hz
  by_cases hg : g ps = 11
  · rw [if_pos hg] at hz
    have hlt : ps < N := hM.1.lt hi (by omega) (by omega)
    refine p170_0o (d := d + 1) hW hP (by omega) h4 (by omega) (c11.mpr hg) hlt hdp h2 ?_
    have hW1 : w_W (q_S0 L xs) (q_sI (q_sI S 1097 32 (nI (ps + 1))) 1127 f 1) := (hW.sI (by decide)).sI (by decide)
    have hM1 : v_MQ (q_sI (q_sI S 1097 32 (nI (ps + 1))) 1127 f 1) N g v pl (ps + 1) ns := (hM.at hlt).st (by decide)
    have hr1 : v_mr f S (q_sI (q_sI S 1097 32 (nI (ps + 1))) 1127 f 1) := (v_mr.refl.fd (Or.inl rfl)).st (by decide) (by decide) (Nat.le_refl _)
    have hW2 := v_cl_W (f := f) (r := 0) (q := nI (dp + 1)) hW1
    have hM2 := v_cl_MQ (f := f) (r := 0) (q := nI (dp + 1)) hM1
    have hmr : v_mr f S (v_cl (q_sI (q_sI S 1097 32 (nI (ps + 1))) 1127 f 1) f 0 (nI (dp + 1))) := v_cl_mr hr1
    refine v_Q6 hW2 ?_
    rcases v_bd_some hz with ⟨p1, ns1, e1, e2⟩ | ⟨r1, p1, ns1, e1, e2⟩
    · cases e2
      refine iA 0 (dp + 1) (ps + 1) ns _ (f + 1) _ Q (by omega) (by omega) (by omega) (by omega) e1 hW2 hM2 (by omega) v_cl_o v_cl_r v_cl_p v_cl_n v_cl_d ?_
      exact fun S' a b c => K S' a (hmr.mf b) c
    · obtain ⟨_, a1, a2, a3, a4, _⟩ := v_pz_post hM.1 _ _ _ _ _ _ _ _ _ e1 hlt (by omega) (by omega) (by omega)
      obtain ⟨a5, a6, _⟩ := a4 (by omega) r1 rfl
      refine iA 0 (dp + 1) (ps + 1) ns _ (f + 1) _ Q (by omega) (by omega) (by omega) (by omega) e1 hW2 hM2 (by omega) v_cl_o v_cl_r v_cl_p v_cl_n v_cl_d ?_
      intro S' hW' hr hM' ho' hret
      have lo : ∀ a, 1126 ≤ a → a ≤ 1130 → q_iv S' a f = q_iv (q_sI (q_sI S 1097 32 (nI (ps + 1))) 1127 f 1) a f := fun a b1 b2 => by rw [hr.2.1 a b1 b2 f (by omega)]; exact v_cl_lo b1 (Nat.le_refl _)
      have lo6 : q_iv S' 1126 f = 6 := by rw [lo 1126 (by omega) (by omega)]; exact h1
      have lo7 : q_iv S' 1127 f = 1 := by rw [lo 1127 (by omega) (by omega)]; exact v_hI
      have lo9 : q_iv S' 1129 f = nI dp := by rw [lo 1129 (by omega) (by omega)]; exact h4
      have hP' : v_MP S' N g v pl p1 ns1 (f + 1) := ⟨hM', ho'⟩
      have hrS : v_mr f S S' := hmr.trans hr (by omega)
      have c12 := (v_wcg (g p1) (hM.1.2 p1 a2).1).2.2.2.2.2.1
      refine p163_11q (d := d + 3) hW' hP' (by omega) lo9 (by omega) ?_
      refine p165_0q (d := d + 2) hW' hP' (by omega) lo9 (by omega) lo6 ?_
      by_cases hc : g p1 = 12
      · rw [if_pos hc] at e2
        have hlt1 : p1 < N := hM.1.lt a2 (by omega) (by omega)
        refine p170_0c (d := d) hW' hP' (by omega) lo9 (by omega) (c12.mpr hc) hlt1 lo7 (by omega) hret ?_
        refine iF dp r1 (p1 + 1) ns1 res f _ Q hdp hf (by omega) e2 ((hW'.sI (by decide)).sI (by decide)) ((hM'.at hlt1).st (by decide)) (by omega) ?_ ?_ ?_ (K.pre ((hrS.fd (Or.inl rfl)).st (by decide) (by decide) (Nat.le_refl _)))
        · rw [v_aI (by decide), v_kI (by decide)]; exact ho'
        · exact v_hI
        · rw [v_aI (by decide), v_aI (by decide)]; exact lo9
      · rw [if_neg hc] at e2
        cases e2
        exact p170_0e (d := d) hW' hP' (by omega) lo9 (by omega) (fun z => hc (c12.mp z)) lo7 (v_Q6n (hW'.sI (by decide)) (K.no hW' hrS))
  · rw [if_neg hg] at hz
    cases hz
    have hno : ∀ c, (c = 1 ∨ c = 2 ∨ c = 306 ∨ c = 307 ∨ c = 308 ∨ c = 309) → ¬ v_wc (g ps) = c := fun c hc z => hl (clf.mpr (by omega))
    exact p170_0x (d := d + 1) hW hP (by omega) h4 (by omega) (fun z => hg (c11.mp z)) (hno _ (by omega)) (hno _ (by omega)) (hno _ (by omega)) (hno _ (by omega)) (hno _ (by omega)) (hno _ (by omega)) h2 (v_Q6n (hW.sI (by decide)) (K.no hW v_mr.refl))
theorem v_mstepA {n : Nat} (iA : v_mA L xs N g v pl d n) (iD : v_mD L xs N g v pl d n) (iE : v_mE L xs N g v pl d n) (iF : v_mF L xs N g v pl d n) : v_mA L xs N g v pl d (n + 1) := by
  intro md dp ps ns res f S Q hmd hdp h67 hf hz hW hM hn ho h1 h2 h3 h4 K
  have hN := hM.1.1
  have hi := hM.2.1
  have hP : v_MP S N g v pl ps ns (f + 1) := ⟨hM, ho⟩
  by_cases h6 : md = 6
  · subst h6
    exact v_mstep6 iA iF dp ps ns res f S Q (h67 rfl) hf hz hW hM hn ho h1 h2 h3 h4 K
  by_cases h5 : md = 5
  · subst h5
    by_cases h7 : dp = 7
    · subst h7
      have := v_pz7 _ _ _ _ _ (by omega) hz
      subst this
      exact p163_11s0x (d := d + 1) hW hP (by omega) h4 (by omega) rfl h1 h2 (K.no hW v_mr.refl)
    unfold v_pz at hz
    rw [if_neg (by omega), if_pos rfl, if_neg (by omega)] at hz
    obtain ⟨c28, _, _, c18, _⟩ := v_wcg (g ps) (hM.1.2 ps hi).1
    by_cases hs : g ps = 18 ∨ g ps = 28
    · rw [if_pos hs] at hz
      have hlt : ps < N := hM.1.lt hi (by omega) (by omega)
      have hW1 : w_W (q_S0 L xs) (q_sI (q_sI (q_sI S 1130 f (nI ps)) 1097 32 (nI (ps + 1))) 1127 f 1) := ((hW.sI (by decide)).sI (by decide)).sI (by decide)
      have hM1 : v_MQ (q_sI (q_sI (q_sI S 1130 f (nI ps)) 1097 32 (nI (ps + 1))) 1127 f 1) N g v pl (ps + 1) ns := ((hM.st (by decide)).at hlt).st (by decide)
      have hr1 : v_mr f S (q_sI (q_sI (q_sI S 1130 f (nI ps)) 1097 32 (nI (ps + 1))) 1127 f 1) := ((v_mr.refl.st (by decide) (by decide) (Nat.le_refl _)).fd (Or.inl rfl)).st (by decide) (by decide) (Nat.le_refl _)
      have hW2 := v_cl_W (f := f) (r := 5) (q := nI (dp + 1)) hW1
      have hM2 := v_cl_MQ (f := f) (r := 5) (q := nI (dp + 1)) hM1
      have hmr : v_mr f S (v_cl (q_sI (q_sI (q_sI S 1130 f (nI ps)) 1097 32 (nI (ps + 1))) 1127 f 1) f 5 (nI (dp + 1))) := v_cl_mr hr1
      have main : w_R (d + 4) 163 11 [(0, .ref 1097)] [] (v_cl (q_sI (q_sI (q_sI S 1130 f (nI ps)) 1097 32 (nI (ps + 1))) 1127 f 1) f 5 (nI (dp + 1))) Q := by
        rcases v_bd_some hz with ⟨p1, ns1, e1, e2⟩ | ⟨r1, p1, ns1, e1, e2⟩
        · cases e2
          refine iA 5 (dp + 1) (ps + 1) ns _ (f + 1) _ Q (by omega) (by omega) (by omega) (by omega) e1 hW2 hM2 (by omega) v_cl_o v_cl_r v_cl_p v_cl_n v_cl_d ?_
          exact fun S' a b c => K S' a (hmr.mf b) c
        · obtain ⟨_, a1, a2, a3, a4, _⟩ := v_pz_post hM.1 _ _ _ _ _ _ _ _ _ e1 hlt (by omega) (by omega) (by omega)
          obtain ⟨a5, a6, _⟩ := a4 (by omega) r1 rfl
          cases e2
          refine iA 5 (dp + 1) (ps + 1) ns _ (f + 1) _ Q (by omega) (by omega) (by omega) (by omega) e1 hW2 hM2 (by omega) v_cl_o v_cl_r v_cl_p v_cl_n v_cl_d ?_
          intro S' hW' hr hM' ho' hret
          have lo : ∀ a, 1126 ≤ a → a ≤ 1130 → q_iv S' a f = q_iv (q_sI (q_sI (q_sI S 1130 f (nI ps)) 1097 32 (nI (ps + 1))) 1127 f 1) a f := fun a b1 b2 => by rw [hr.2.1 a b1 b2 f (by omega)]; exact v_cl_lo b1 (Nat.le_refl _)
          have lo6 : q_iv S' 1126 f = 5 := by rw [lo 1126 (by omega) (by omega)]; exact h1
          have lo7 : q_iv S' 1127 f = 1 := by rw [lo 1127 (by omega) (by omega)]; exact v_hI
          have lo9 : q_iv S' 1129 f = nI dp := by rw [lo 1129 (by omega) (by omega)]; exact h4
          have lo0 : q_iv S' 1130 f = nI ps := by rw [lo 1130 (by omega) (by omega), v_aI (by decide), v_aI (by decide)]; exact v_hI
          have hnw : v_nw (g ps) none = v_wc (g ps) := by unfold v_nw; rw [if_neg (fun z => by cases z.2)]
          refine p163_11s1 (d := d + 1) hW' ⟨hM', ho'⟩ (by omega) lo9 (by omega) hlt (by omega) lo6 lo7 (by omega) lo0 (by omega) hret ?_
          exact K.ok (v_mk_W hW') (v_mk_mr (hmr.trans hr (by omega))) (hM'.mk (s := g ps) (ro := none) (lo := some r1) (z := 0) (tk := ps) (by rw [hnw]) rfl rfl rfl rfl)
      by_cases h18 : g ps = 18
      · exact p163_11s0a (d := d + 1) hW hP (by omega) h4 (by omega) h7 (by omega) (c18.mpr h18) hlt h1 h2 main
      · exact p163_11s0b (d := d + 1) hW hP (by omega) h4 (by omega) h7 (by omega) (c28.mpr (by omega)) hlt h1 h2 main
    · rw [if_neg hs] at hz
      refine p163_11s0o (d := d + 1) hW hP (by omega) h4 (by omega) h7 (by omega) (fun z => hs (Or.inl (c18.mp z))) (fun z => hs (Or.inr (c28.mp z))) h1 h2 ?_
      have hW1 : w_W (q_S0 L xs) (q_sI S 1127 f 2) := hW.sI (by decide)
      have hM1 : v_MQ (q_sI S 1127 f 2) N g v pl ps ns := hM.st (by decide)
      have hr1 : v_mr f S (q_sI S 1127 f 2) := v_mr.refl.st (by decide) (by decide) (Nat.le_refl _)
      have hmr : v_mr f S (v_cl (q_sI S 1127 f 2) f 6 (nI dp)) := v_cl_mr hr1
      refine iA 6 dp ps ns res (f + 1) _ Q (by omega) hdp (by omega) (by omega) hz (v_cl_W hW1) (v_cl_MQ hM1) hn v_cl_o v_cl_r v_cl_p v_cl_n v_cl_d ?_
      obtain ⟨r1, p1, ns1⟩ := res
      cases r1 with
      | none => exact fun S' a b c => K S' a (hmr.mf b) c
      | some r1 =>
        intro S' hW' hr hM' ho' hret
        obtain ⟨_, a1, a2, a3, a4, _⟩ := v_pz_post hM.1 _ _ _ _ _ _ _ _ _ hz hi hdp (by omega) (by omega)
        obtain ⟨a5, a6, _⟩ := a4 (by omega) r1 rfl
        have lo : ∀ a, 1126 ≤ a → a ≤ 1130 → q_iv S' a f = q_iv (q_sI S 1127 f 2) a f := fun a b1 b2 => by rw [hr.2.1 a b1 b2 f (by omega)]; exact v_cl_lo b1 (Nat.le_refl _)
        have lo6 : q_iv S' 1126 f = 5 := by rw [lo 1126 (by omega) (by omega)]; exact h1
        have lo7 : q_iv S' 1127 f = 2 := by rw [lo 1127 (by omega) (by omega)]; exact v_hI
        have lo9 : q_iv S' 1129 f = nI dp := by rw [lo 1129 (by omega) (by omega)]; exact h4
        exact p163_11s2 (d := d + 1) hW' ⟨hM', ho'⟩ (by omega) lo9 (by omega) lo6 lo7 (by omega) hret (K.ok hW' (hmr.trans hr (by omega)) hM')
  by_cases h07 : md = 0 ∧ dp = 7
  · obtain ⟨rfl, rfl⟩ := h07
    have := v_pz7 _ _ _ _ _ (by omega) hz
    subst this
    exact p163_11Gx (d := d + 1) hW hP (by omega) h4 (by omega) (Or.inl rfl) h1 (by omega) (by omega) (by omega) rfl rfl h2 (K.no hW v_mr.refl)
  unfold v_pz at hz
  rw [if_pos (by omega)] at hz
  have hW1 : w_W (q_S0 L xs) (q_sI S 1127 f 1) := hW.sI (by decide)
  have hM1 : v_MQ (q_sI S 1127 f 1) N g v pl ps ns := hM.st (by decide)
  have hr1 : v_mr f S (q_sI S 1127 f 1) := v_mr.refl.st (by decide) (by decide) (Nat.le_refl _)
  have hmr : v_mr f S (v_cl (q_sI S 1127 f 1) f (nI (md + 1)) (nI dp)) := v_cl_mr hr1
  have main : w_R (d + 4) 163 11 [(0, .ref 1097)] [] (v_cl (q_sI S 1127 f 1) f (nI (md + 1)) (nI dp)) Q := by
    rcases v_bd_some hz with ⟨p1, ns1, e1, e2⟩ | ⟨r1, p1, ns1, e1, e2⟩
    · cases e2
      refine iA (md + 1) dp ps ns _ (f + 1) _ Q (by omega) hdp (by omega) (by omega) e1 (v_cl_W hW1) (v_cl_MQ hM1) hn v_cl_o v_cl_r v_cl_p v_cl_n v_cl_d ?_
      exact fun S' a b c => K S' a (hmr.mf b) c
    · obtain ⟨_, a1, a2, a3, a4, _⟩ := v_pz_post hM.1 _ _ _ _ _ _ _ _ _ e1 hi hdp (by omega) (by omega)
      obtain ⟨a5, a6, _⟩ := a4 (by omega) r1 rfl
      refine iA (md + 1) dp ps ns _ (f + 1) _ Q (by omega) hdp (by omega) (by omega) e1 (v_cl_W hW1) (v_cl_MQ hM1) hn v_cl_o v_cl_r v_cl_p v_cl_n v_cl_d ?_
      intro S' hW' hr hM' ho' hret
      have lo : ∀ a, 1126 ≤ a → a ≤ 1130 → q_iv S' a f = q_iv (q_sI S 1127 f 1) a f := fun a b1 b2 => by rw [hr.2.1 a b1 b2 f (by omega)]; exact v_cl_lo b1 (Nat.le_refl _)
      have lo6 : q_iv S' 1126 f = nI md := by rw [lo 1126 (by omega) (by omega)]; exact h1
      have lo7 : q_iv S' 1127 f = 1 := by rw [lo 1127 (by omega) (by omega)]; exact v_hI
      have lo8 : q_iv S' 1128 f = -1 := by rw [lo 1128 (by omega) (by omega)]; exact h3
      have lo9 : q_iv S' 1129 f = nI dp := by rw [lo 1129 (by omega) (by omega)]; exact h4
      by_cases h2' : md = 2
      · subst h2'
        exact iE dp r1 p1 ns1 res f S' Q hdp (by omega) (by omega) e2 hW' hM' (by omega) ho' lo6 lo7 lo9 hret (K.pre (hmr.trans hr (by omega)))
      · exact iD md dp r1 p1 ns1 res f S' Q (by omega) hdp (by omega) (by omega) e2 hW' hM' (by omega) ho' lo6 lo7 lo8 lo9 hret (K.pre (hmr.trans hr (by omega)))
  by_cases h2' : md = 2
  · subst h2'
    exact p163_11r0 (d := d + 1) hW hP (by omega) h4 (by omega) h1 h2 main
  · exact v_Ga (d := d + 1) (by omega) (by omega) hW hP (by omega) h4 (by omega) h1 h2 main
theorem v_mdl (n : Nat) : v_mA L xs N g v pl d n ∧ v_mD L xs N g v pl d n ∧ v_mC L xs N g v pl d n ∧ v_mE L xs N g v pl d n ∧ v_mF L xs N g v pl d n := by
  induction n with
  | zero =>
    refine ⟨?_, ?_, ?_, ?_, ?_⟩
    · intro md dp ps ns res f S Q _ _ _ _ h; cases h
    · intro l dp lf ps ns res f S Q _ _ _ _ h; cases h
    · intro l dp a mk rt ps ns res f S Q _ _ _ _ _ _ _ h; cases h
    · intro dp lf ps ns res f S Q _ _ _ h; cases h
    · intro dp lf ps ns res f S Q _ _ _ h; cases h
  | succ n ih =>
    obtain ⟨iA, iD, iC, iE, iF⟩ := ih
    exact ⟨v_mstepA iA iD iE iF, v_mstepD iA iC, v_mstepC iA iC, v_mstepE iA, v_mstepF iF⟩
end VMRD
