/-! THE REFERENCE WHILE IT READS: tokens of the draft, nodes of the draft, its stack. -/
def v_wcl : List Nat := [300, 301, 302, 303, 306, 307, 308, 309, 310, 311, 312, 40, 41, 123, 125, 44, 46, 95, 33, 205, 204, 200, 201, 202, 203, 304, 305, 43, 45, 42, 1, 2, 0, 3]
def v_wc (s : Nat) : Nat := v_wcl.getD s 0
def v_nw (s : Nat) (r : Option Nat) : Nat := if s = 28 ∧ r.isSome = true then 1045 else v_wc s
def v_mn (N : Nat) (g : Nat → Nat) : Nat := if g N = 32 then N else N + 1
def v_MT (S : q_S) (N : Nat) (g v pl : Nat → Nat) (i : Nat) : Prop := q_iv S 1097 32 = nI i ∧ q_iv S 1102 6 = nI (v_mn N g) ∧ (∀ j, j < v_mn N g → q_iv S 1099 (606 + j) = nI (v_wc (g j)) ∧ q_iv S 1101 (606 + j) = nI (pl j)) ∧ (∀ j, j < N → q_iv S 1100 (606 + j) = nI (v j)) ∧ (g N = 32 → q_iv S 1097 3 = nI (pl N))
def v_MN (S : q_S) (o b : Nat) (ns : List v_Nd) : Prop := q_iv S 1108 b = nI ns.length ∧ ∀ j s t x l r, ns[j]? = some (s, t, x, l, r) → q_iv S 1103 (o + j) = nI (v_nw s r) ∧ q_iv S 1104 (o + j) = v_ni l ∧ q_iv S 1105 (o + j) = v_ni r ∧ q_iv S 1106 (o + j) = nI x ∧ q_iv S 1107 (o + j) = nI t
def v_MQ (S : q_S) (N : Nat) (g v pl : Nat → Nat) (i : Nat) (ns : List v_Nd) : Prop := v_TK N g v pl ∧ i ≤ N ∧ v_MT S N g v pl i ∧ v_MN S 606 6 ns
def v_MP (S : q_S) (N : Nat) (g v pl : Nat → Nat) (i : Nat) (ns : List v_Nd) (o : Nat) : Prop := v_MQ S N g v pl i ns ∧ q_iv S 1097 35 = nI o
theorem v_wc_inj : ∀ s, s < 34 → ∀ t, t < 34 → v_wc s = v_wc t → s = t := by decide +kernel
theorem v_wc_lt : ∀ s, s < 34 → v_wc s < 2000 := by decide +kernel
section VMP
variable {L : Nat} {xs : Nat → Int32} {S S' : q_S} {N i j o : Nat} {g v pl : Nat → Nat} {ns : List v_Nd}
theorem v_mn_b (h : N ≤ 100) : v_mn N g ≤ N + 1 ∧ N ≤ v_mn N g := by
  unfold v_mn
  split <;> omega
theorem v_MP.q (h : v_MP S N g v pl i ns o) : v_MQ S N g v pl i ns := h.1
theorem v_MP.bd (h : v_MP S N g v pl i ns o) : i ≤ N ∧ N ≤ 100 ∧ v_mn N g ≤ N + 1 := ⟨h.1.2.1, h.1.1.1, (v_mn_b h.1.1.1).1⟩
theorem v_MP.op (h : v_MP S N g v pl i ns o) : q_iv S 1097 35 = nI o := h.2
theorem v_MP.at (h : v_MP S N g v pl i ns o) : q_iv S 1097 32 = nI i := h.1.2.2.1.1
theorem v_MP.mn (h : v_MP S N g v pl i ns o) : q_iv S 1102 6 = nI (v_mn N g) := h.1.2.2.1.2.1
theorem v_MP.nc (h : v_MP S N g v pl i ns o) : q_iv S 1108 6 = nI ns.length := h.1.2.2.2.1
theorem v_MP.tv (h : v_MP S N g v pl i ns o) (hj : j < N) : q_iv S 1100 (606 + j) = nI (v j) := h.1.2.2.1.2.2.2.1 j hj
theorem v_MP.tw (h : v_MP S N g v pl i ns o) (hj : j < N) : q_iv S 1099 (606 + j) = nI (v_wc (g j)) := (h.1.2.2.1.2.2.1 j (by have := (v_mn_b (g := g) h.1.1.1).2; omega)).1
theorem v_MP.lk (h : v_MP S N g v pl i ns o) (hj : j ≤ N) : (j < v_mn N g → q_iv S 1099 (606 + j) = nI (v_wc (g j))) ∧ (¬ j < v_mn N g → v_wc (g j) = 0) ∧ v_wc (g j) < 2000 := by
  refine ⟨fun hlt => (h.1.2.2.1.2.2.1 j hlt).1, fun hn => ?_, v_wc_lt _ (h.1.1.2 j hj).1⟩
  unfold v_mn at hn
  by_cases hg : g N = 32
  · rw [if_pos hg] at hn
    have : j = N := by omega
    rw [this, hg]
    rfl
  · rw [if_neg hg] at hn
    omega
theorem v_MP.fl (h : v_MP S N g v pl i ns o) (hj : j ≤ N) : (j < v_mn N g → q_iv S 1101 (606 + j) = nI (pl j)) ∧ (¬ j < v_mn N g → q_iv S 1097 3 = nI (pl j)) ∧ pl j < 2000 := by
  refine ⟨fun hlt => (h.1.2.2.1.2.2.1 j hlt).2, fun hn => ?_, by have := (h.1.1.2 j hj).2.2.1; omega⟩
  unfold v_mn at hn
  by_cases hg : g N = 32
  · rw [if_pos hg] at hn
    have : j = N := by omega
    rw [this]
    exact h.1.2.2.1.2.2.2.2 hg
  · rw [if_neg hg] at hn
    omega
/-- what a reading of an expression may change -/
def v_xm (a : Nat) : Bool := decide (a = 1097) || ((decide (1103 ≤ a) && decide (a ≤ 1108)) || (decide (1126 ≤ a) && decide (a ≤ 1130)))
def v_mr (f : Nat) (S S' : q_S) : Prop := v_fr v_xm S S' ∧ (∀ a, 1126 ≤ a → a ≤ 1130 → ∀ j, j < f → q_iv S' a j = q_iv S a j) ∧ (∀ k, k ≠ 32 → k ≠ 33 → k ≠ 35 → q_iv S' 1097 k = q_iv S 1097 k) ∧ (∀ a, 1103 ≤ a → a ≤ 1107 → ∀ j, j < 606 → q_iv S' a j = q_iv S a j) ∧ ∀ j, j ≠ 6 → q_iv S' 1108 j = q_iv S 1108 j
def v_mf (S S' : q_S) : Prop := v_fr v_xm S S' ∧ (∀ k, k ≠ 1 → k ≠ 32 → k ≠ 33 → k ≠ 35 → q_iv S' 1097 k = q_iv S 1097 k) ∧ (∀ a, 1103 ≤ a → a ≤ 1107 → ∀ j, j < 606 → q_iv S' a j = q_iv S a j) ∧ ∀ j, j ≠ 6 → q_iv S' 1108 j = q_iv S 1108 j
section VMR
variable {f f' a k : Nat} {x : Int32} {S1 S2 S3 : q_S}
theorem v_mr.refl : v_mr f S S := ⟨v_fr.refl, fun _ _ _ _ _ => rfl, fun _ _ _ _ => rfl, fun _ _ _ _ _ => rfl, fun _ _ => rfl⟩
theorem v_mr.trans (h : v_mr f S1 S2) (h' : v_mr f' S2 S3) (hf : f ≤ f') : v_mr f S1 S3 := ⟨h.1.trans h'.1, fun a h1 h2 j hj => (h'.2.1 a h1 h2 j (by omega)).trans (h.2.1 a h1 h2 j hj), fun k h1 h2 h3 => (h'.2.2.1 k h1 h2 h3).trans (h.2.2.1 k h1 h2 h3), fun a h1 h2 j hj => (h'.2.2.2.1 a h1 h2 j hj).trans (h.2.2.2.1 a h1 h2 j hj), fun j hj => (h'.2.2.2.2 j hj).trans (h.2.2.2.2 j hj)⟩
theorem v_mr.mf (h : v_mr f S1 S2) (h' : v_mf S2 S3) : v_mf S1 S3 := ⟨h.1.trans h'.1, fun k h0 h1 h2 h3 => (h'.2.1 k h0 h1 h2 h3).trans (h.2.2.1 k h1 h2 h3), fun a h1 h2 j hj => (h'.2.2.1 a h1 h2 j hj).trans (h.2.2.2.1 a h1 h2 j hj), fun j hj => (h'.2.2.2 j hj).trans (h.2.2.2.2 j hj)⟩
theorem v_mr.st (h : v_mr f S1 S2) (h1 : 1126 ≤ a) (h2 : a ≤ 1130) (hk : f ≤ k) : v_mr f S1 (q_sI S2 a k x) := by
  refine ⟨h.1.sI (by unfold v_xm; rw [decide_eq_true h1, decide_eq_true h2]; simp), fun b b1 b2 j hj => ?_, fun j j1 j2 j3 => ?_, fun b b1 b2 j hj => ?_, fun j hj => ?_⟩
  · rw [v_kI (by omega)]; exact h.2.1 b b1 b2 j hj
  · rw [v_aI (by omega)]; exact h.2.2.1 j j1 j2 j3
  · rw [v_aI (by omega)]; exact h.2.2.2.1 b b1 b2 j hj
  · rw [v_aI (by omega)]; exact h.2.2.2.2 j hj
theorem v_mr.nd (h : v_mr f S1 S2) (h1 : 1103 ≤ a) (h2 : a ≤ 1107) (hk : 606 ≤ k) : v_mr f S1 (q_sI S2 a k x) := by
  refine ⟨h.1.sI (by unfold v_xm; rw [decide_eq_true h1, decide_eq_true (show a ≤ 1108 by omega)]; simp), fun b b1 b2 j hj => ?_, fun j j1 j2 j3 => ?_, fun b b1 b2 j hj => ?_, fun j hj => ?_⟩
  · rw [v_aI (by omega)]; exact h.2.1 b b1 b2 j hj
  · rw [v_aI (by omega)]; exact h.2.2.1 j j1 j2 j3
  · rw [v_kI (by omega)]; exact h.2.2.2.1 b b1 b2 j hj
  · rw [v_aI (by omega)]; exact h.2.2.2.2 j hj
theorem v_mr.nm (h : v_mr f S1 S2) : v_mr f S1 (q_sI S2 1108 6 x) := by
  refine ⟨h.1.sI rfl, fun b b1 b2 j hj => ?_, fun j j1 j2 j3 => ?_, fun b b1 b2 j hj => ?_, fun j hj => ?_⟩
  · rw [v_aI (by omega)]; exact h.2.1 b b1 b2 j hj
  · rw [v_aI (by omega)]; exact h.2.2.1 j j1 j2 j3
  · rw [v_aI (by omega)]; exact h.2.2.2.1 b b1 b2 j hj
  · rw [v_kI hj]; exact h.2.2.2.2 j hj
theorem v_mr.fd (h : v_mr f S1 S2) (hk : k = 32 ∨ k = 33 ∨ k = 35) : v_mr f S1 (q_sI S2 1097 k x) := by
  refine ⟨h.1.sI rfl, fun b b1 b2 j hj => ?_, fun j j1 j2 j3 => ?_, fun b b1 b2 j hj => ?_, fun j hj => ?_⟩
  · rw [v_aI (by omega)]; exact h.2.1 b b1 b2 j hj
  · rw [v_kI (by omega)]; exact h.2.2.1 j j1 j2 j3
  · rw [v_aI (by omega)]; exact h.2.2.2.1 b b1 b2 j hj
  · rw [v_aI (by omega)]; exact h.2.2.2.2 j hj
theorem v_mr.wh (h : v_mr f S1 S2) : v_mf S1 (q_sI S2 1097 1 x) := ⟨h.1.sI rfl, fun j j0 j1 j2 j3 => by rw [v_kI (by omega)]; exact h.2.2.1 j j1 j2 j3, fun b b1 b2 j hj => by rw [v_aI (by omega)]; exact h.2.2.2.1 b b1 b2 j hj, fun j hj => by rw [v_aI (by omega)]; exact h.2.2.2.2 j hj⟩
end VMR
theorem v_MT.fr {X : Nat → Bool} (h : v_MT S N g v pl i) (hf : v_fr X S S') (h1 : X 1097 = false) (h2 : X 1099 = false) (h3 : X 1100 = false) (h4 : X 1101 = false) (h5 : X 1102 = false) : v_MT S' N g v pl i := by
  unfold v_MT
  rw [hf.iv h1, hf.iv h2, hf.iv h3, hf.iv h4, hf.iv h5]
  exact h
theorem v_MN.fr {X : Nat → Bool} {o b : Nat} (h : v_MN S o b ns) (hf : v_fr X S S') (h1 : ∀ a, 1103 ≤ a → a ≤ 1108 → X a = false) : v_MN S' o b ns := by
  unfold v_MN
  rw [hf.iv (h1 1103 (by omega) (by omega)), hf.iv (h1 1104 (by omega) (by omega)), hf.iv (h1 1105 (by omega) (by omega)), hf.iv (h1 1106 (by omega) (by omega)), hf.iv (h1 1107 (by omega) (by omega)), hf.iv (h1 1108 (by omega) (by omega))]
  exact h
section VMQ
variable {a k : Nat} {x : Int32}
theorem v_MQ.st (h : v_MQ S N g v pl i ns) (h1 : 1126 ≤ a) : v_MQ (q_sI S a k x) N g v pl i ns := by
  have hf : v_fr (fun b => decide (b = a)) S (q_sI S a k x) := v_fr.refl.sI (by simp)
  have key : ∀ b, b < 1126 → (fun b => decide (b = a)) b = false := fun b hb => decide_eq_false (by omega)
  exact ⟨h.1, h.2.1, h.2.2.1.fr hf (key _ (by omega)) (key _ (by omega)) (key _ (by omega)) (key _ (by omega)) (key _ (by omega)), h.2.2.2.fr hf (fun b _ _ => key b (by omega))⟩
theorem v_MQ.at {i' : Nat} (h : v_MQ S N g v pl i ns) (hi : i' ≤ N) : v_MQ (q_sI S 1097 32 (nI i')) N g v pl i' ns := ⟨h.1, hi, ⟨rfl, h.2.2.1.2⟩, h.2.2.2⟩
theorem v_MQ.fd (h : v_MQ S N g v pl i ns) (hk : k = 33 ∨ k = 35) : v_MQ (q_sI S 1097 k x) N g v pl i ns := by
  refine ⟨h.1, h.2.1, ?_, h.2.2.2⟩
  obtain ⟨a1, a2, a3, a4, a5⟩ := h.2.2.1
  exact ⟨by rw [v_kI (by omega)]; exact a1, a2, a3, a4, fun hg => by rw [v_kI (by omega)]; exact a5 hg⟩
/-- a node is made -/
def v_mk (S : q_S) (c : Nat) (w l r y t : Int32) : q_S := q_sI (q_sI (q_sI (q_sI (q_sI (q_sI S 1103 (606 + c) w) 1104 (606 + c) l) 1105 (606 + c) r) 1106 (606 + c) y) 1107 (606 + c) t) 1108 6 (nI (c + 1))
variable {c : Nat} {w l r y t : Int32}
theorem v_mk_W (h : w_W (q_S0 L xs) S) : w_W (q_S0 L xs) (v_mk S c w l r y t) := (((((h.sI (by decide)).sI (by decide)).sI (by decide)).sI (by decide)).sI (by decide)).sI (by decide)
theorem v_mk_mr {f : Nat} {S1 : q_S} (h : v_mr f S1 S) : v_mr f S1 (v_mk S c w l r y t) := (((((h.nd (by decide) (by decide) (by omega)).nd (by decide) (by decide) (by omega)).nd (by decide) (by decide) (by omega)).nd (by decide) (by decide) (by omega)).nd (by decide) (by decide) (by omega)).nm
theorem v_mk_o {b : Nat} (hb : b < 1103 ∨ 1108 < b) : q_iv (v_mk S c w l r y t) b j = q_iv S b j := by
  unfold v_mk
  rw [v_aI (by omega), v_aI (by omega), v_aI (by omega), v_aI (by omega), v_aI (by omega), v_aI (by omega)]
theorem v_mk_3 : q_iv (v_mk S c w l r y t) 1103 (606 + j) = if j = c then w else q_iv S 1103 (606 + j) := by
  unfold v_mk
  rw [v_aI (by decide), v_aI (by decide), v_aI (by decide), v_aI (by decide), v_aI (by decide)]
  by_cases h : j = c
  · rw [if_pos h, h]; exact v_hI
  · rw [if_neg h]; exact v_kI (by omega)
theorem v_mk_4 : q_iv (v_mk S c w l r y t) 1104 (606 + j) = if j = c then l else q_iv S 1104 (606 + j) := by
  unfold v_mk
  rw [v_aI (by decide), v_aI (by decide), v_aI (by decide), v_aI (by decide)]
  by_cases h : j = c
  · rw [if_pos h, h]; exact v_hI
  · rw [if_neg h, v_kI (by omega)]; exact v_aI (by decide)
theorem v_mk_5 : q_iv (v_mk S c w l r y t) 1105 (606 + j) = if j = c then r else q_iv S 1105 (606 + j) := by
  unfold v_mk
  rw [v_aI (by decide), v_aI (by decide), v_aI (by decide)]
  by_cases h : j = c
  · rw [if_pos h, h]; exact v_hI
  · rw [if_neg h, v_kI (by omega), v_aI (by decide)]; exact v_aI (by decide)
theorem v_mk_6 : q_iv (v_mk S c w l r y t) 1106 (606 + j) = if j = c then y else q_iv S 1106 (606 + j) := by
  unfold v_mk
  rw [v_aI (by decide), v_aI (by decide)]
  by_cases h : j = c
  · rw [if_pos h, h]; exact v_hI
  · rw [if_neg h, v_kI (by omega), v_aI (by decide), v_aI (by decide)]; exact v_aI (by decide)
theorem v_mk_7 : q_iv (v_mk S c w l r y t) 1107 (606 + j) = if j = c then t else q_iv S 1107 (606 + j) := by
  unfold v_mk
  rw [v_aI (by decide)]
  by_cases h : j = c
  · rw [if_pos h, h]; exact v_hI
  · rw [if_neg h, v_kI (by omega), v_aI (by decide), v_aI (by decide), v_aI (by decide)]; exact v_aI (by decide)
theorem v_MQ.mk {s tk z : Nat} {lo ro : Option Nat} (h : v_MQ S N g v pl i ns) (hw : w = nI (v_nw s ro)) (hl : l = v_ni lo) (hr : r = v_ni ro) (hy : y = nI z) (ht : t = nI tk) : v_MQ (v_mk S ns.length w l r y t) N g v pl i (ns ++ [(s, tk, z, lo, ro)]) := by
  refine ⟨h.1, h.2.1, ?_, ?_⟩
  · obtain ⟨a1, a2, a3, a4, a5⟩ := h.2.2.1
    refine ⟨?_, ?_, fun j hj => ?_, fun j hj => ?_, fun hg => ?_⟩
    · rw [v_mk_o (by omega)]; exact a1
    · rw [v_mk_o (by omega)]; exact a2
    · rw [v_mk_o (by omega), v_mk_o (by omega)]; exact a3 j hj
    · rw [v_mk_o (by omega)]; exact a4 j hj
    · rw [v_mk_o (by omega)]; exact a5 hg
  · refine ⟨?_, ?_⟩
    · rw [List.length_append]
      exact v_hI
    · intro j s' t' x' l' r' hj
      rw [v_mk_3, v_mk_4, v_mk_5, v_mk_6, v_mk_7]
      by_cases hjc : j = ns.length
      · subst hjc
        rw [v_last] at hj
        cases hj
        rw [if_pos rfl, if_pos rfl, if_pos rfl, if_pos rfl, if_pos rfl]
        exact ⟨hw, hl, hr, hy, ht⟩
      · rw [if_neg hjc, if_neg hjc, if_neg hjc, if_neg hjc, if_neg hjc]
        have hlt : j < ns.length := by
          obtain ⟨hi, _⟩ := List.getElem?_eq_some_iff.mp hj
          rw [List.length_append] at hi
          have : ([(s, tk, z, lo, ro)] : List v_Nd).length = 1 := rfl
          omega
        rw [List.getElem?_append_left hlt] at hj
        exact h.2.2.2.2 j s' t' x' l' r' hj
/-- a rule is called, a rule is done -/
def v_cl (S : q_S) (f : Nat) (r q : Int32) : q_S := q_sI (q_sI (q_sI (q_sI (q_sI S 1126 (f + 1) r) 1127 (f + 1) 0) 1128 (f + 1) (-1)) 1129 (f + 1) q) 1097 35 (nI (f + 2))
def v_dn (S : q_S) (f : Nat) (n : Int32) : q_S := q_sI (q_sI S 1097 35 (nI f)) 1097 33 n
variable {f : Nat} {q : Int32}
theorem v_cl_W (h : w_W (q_S0 L xs) S) : w_W (q_S0 L xs) (v_cl S f r q) := ((((h.sI (by decide)).sI (by decide)).sI (by decide)).sI (by decide)).sI (by decide)
theorem v_cl_mr {S1 : q_S} (h : v_mr f S1 S) : v_mr f S1 (v_cl S f r q) := ((((h.st (by decide) (by decide) (by omega)).st (by decide) (by decide) (by omega)).st (by decide) (by decide) (by omega)).st (by decide) (by decide) (by omega)).fd (Or.inr (Or.inr rfl))
theorem v_cl_MQ (h : v_MQ S N g v pl i ns) : v_MQ (v_cl S f r q) N g v pl i ns := ((((h.st (by decide)).st (by decide)).st (by decide)).st (by decide)).fd (Or.inr rfl)
theorem v_dn_W (h : w_W (q_S0 L xs) S) : w_W (q_S0 L xs) (v_dn S f w) := (h.sI (by decide)).sI (by decide)
theorem v_dn_mr {S1 : q_S} (h : v_mr f S1 S) : v_mr f S1 (v_dn S f w) := (h.fd (Or.inr (Or.inr rfl))).fd (Or.inr (Or.inl rfl))
theorem v_dn_MQ (h : v_MQ S N g v pl i ns) : v_MQ (v_dn S f w) N g v pl i ns := (h.fd (Or.inr rfl)).fd (Or.inl rfl)
theorem v_cl_lo {a : Nat} (ha : 1126 ≤ a) (hj : j ≤ f) : q_iv (v_cl S f r q) a j = q_iv S a j := by
  unfold v_cl
  rw [v_aI (by omega), v_kI (by omega), v_kI (by omega), v_kI (by omega), v_kI (by omega)]
theorem v_cl_r : q_iv (v_cl S f r q) 1126 (f + 1) = r := by
  unfold v_cl
  rw [v_aI (by omega), v_aI (by omega), v_aI (by omega), v_aI (by omega)]; exact v_hI
theorem v_cl_p : q_iv (v_cl S f r q) 1127 (f + 1) = 0 := by
  unfold v_cl
  rw [v_aI (by omega), v_aI (by omega), v_aI (by omega)]; exact v_hI
theorem v_cl_n : q_iv (v_cl S f r q) 1128 (f + 1) = -1 := by
  unfold v_cl
  rw [v_aI (by omega), v_aI (by omega)]; exact v_hI
theorem v_cl_d : q_iv (v_cl S f r q) 1129 (f + 1) = q := by
  unfold v_cl
  rw [v_aI (by omega)]; exact v_hI
theorem v_cl_o : q_iv (v_cl S f r q) 1097 35 = nI (f + 2) := v_hI
theorem v_dn_o : q_iv (v_dn S f w) 1097 35 = nI f := by
  unfold v_dn
  rw [v_kI (by decide)]; exact v_hI
theorem v_dn_r : q_iv (v_dn S f w) 1097 33 = w := v_hI
end VMQ
end VMP
