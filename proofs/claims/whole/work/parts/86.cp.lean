/-! THE CLASS WHILE IT READS: tokens in 1024 to 1027, nodes in the policy P. -/
def v_ni : Option Nat → Int32
  | none => -1
  | some k => nI k
def v_CT (S : q_S) (N : Nat) (g v pl : Nat → Nat) (i : Nat) : Prop := q_iv S 1024 5 = nI N ∧ q_iv S 1024 6 = nI i ∧ ∀ j, j ≤ N → q_rv S 1025 j = some (g j) ∧ q_iv S 1026 j = nI (pl j) ∧ q_iv S 1027 j = nI (v j)
def v_CN (S : q_S) (P : Nat) (pl : Nat → Nat) (ns : List v_Nd) : Prop := q_iv S P 10 = nI ns.length ∧ ∀ j s t x l r, ns[j]? = some (s, t, x, l, r) → q_rv S (P + 6) j = some s ∧ q_iv S (P + 7) j = nI (pl t) ∧ q_iv S (P + 8) j = nI x ∧ q_iv S (P + 9) j = v_ni l ∧ q_iv S (P + 10) j = v_ni r
def v_CP (S : q_S) (P N : Nat) (g v pl : Nat → Nat) (i : Nat) (ns : List v_Nd) : Prop := w_P P ∧ v_TK N g v pl ∧ i ≤ N ∧ ns.length ≤ i ∧ q_rv S 1023 1 = some P ∧ v_CT S N g v pl i ∧ v_CN S P pl ns
def v_xp (P a : Nat) : Bool := decide (a = 1024) || (decide (P ≤ a) && decide (a ≤ P + 10))
/-- what a reading of an expression may change -/
def v_cr (P : Nat) (S S' : q_S) : Prop := v_fr (v_xp P) S S' ∧ ∀ a k, (¬ (a = 1024 ∧ k = 6) ∧ ¬ (a = P ∧ k = 10) ∧ ¬ (P + 6 ≤ a ∧ a ≤ P + 10)) → q_iv S' a k = q_iv S a k
theorem v_cr.refl {P : Nat} {S : q_S} : v_cr P S S := ⟨v_fr.refl, fun _ _ _ => rfl⟩
theorem v_cr.trans {P : Nat} {S S1 S2 : q_S} (h : v_cr P S S1) (h' : v_cr P S1 S2) : v_cr P S S2 := ⟨h.1.trans h'.1, fun a k z => (h'.2 a k z).trans (h.2 a k z)⟩
/-- a node is put -/
def v_ad (S : q_S) (P c s : Nat) (p x l r : Int32) : q_S := q_sI (q_sI (q_sI (q_sI (q_sI (q_sR S (P + 6) c (some s)) (P + 7) c p) (P + 8) c x) (P + 9) c l) (P + 10) c r) P 10 (nI (c + 1))
section VCP
variable {L : Nat} {xs : Nat → Int32} {S S' : q_S} {P N i j : Nat} {g v pl : Nat → Nat} {ns : List v_Nd}
theorem v_CP.wp (h : v_CP S P N g v pl i ns) : w_P P := h.1
theorem v_CP.tk (h : v_CP S P N g v pl i ns) : v_TK N g v pl := h.2.1
theorem v_CP.bd (h : v_CP S P N g v pl i ns) : i ≤ N ∧ N ≤ 100 ∧ ns.length ≤ i := ⟨h.2.2.1, h.2.1.1, h.2.2.2.1⟩
theorem v_CP.md (h : v_CP S P N g v pl i ns) : q_rv S 1023 1 = some P := h.2.2.2.2.1
theorem v_CP.sz (h : v_CP S P N g v pl i ns) : q_iv S 1024 5 = nI N := h.2.2.2.2.2.1.1
theorem v_CP.nx (h : v_CP S P N g v pl i ns) : q_iv S 1024 6 = nI i := h.2.2.2.2.2.1.2.1
theorem v_CP.tg (h : v_CP S P N g v pl i ns) (hj : j ≤ N) : q_rv S 1025 j = some (g j) := (h.2.2.2.2.2.1.2.2 j hj).1
theorem v_CP.tp (h : v_CP S P N g v pl i ns) (hj : j ≤ N) : q_iv S 1026 j = nI (pl j) := (h.2.2.2.2.2.1.2.2 j hj).2.1
theorem v_CP.tv (h : v_CP S P N g v pl i ns) (hj : j ≤ N) : q_iv S 1027 j = nI (v j) := (h.2.2.2.2.2.1.2.2 j hj).2.2
theorem v_CP.nc (h : v_CP S P N g v pl i ns) : q_iv S P 10 = nI ns.length := h.2.2.2.2.2.2.1
theorem v_CP.gl (h : v_CP S P N g v pl i ns) (hj : j ≤ N) : g j < 34 := (h.2.1.2 j hj).1
theorem v_CT.fr {X : Nat → Bool} (h : v_CT S N g v pl i) (hf : v_fr X S S') (h1 : X 1024 = false) (h2 : X 1025 = false) (h3 : X 1026 = false) (h4 : X 1027 = false) : v_CT S' N g v pl i := by
  unfold v_CT
  rw [hf.iv h1, hf.rv h2, hf.iv h3, hf.iv h4]
  exact h
theorem v_CN.fr {X : Nat → Bool} (h : v_CN S P pl ns) (hf : v_fr X S S') (h1 : ∀ k, k ≤ 10 → X (P + k) = false) : v_CN S' P pl ns := by
  unfold v_CN
  rw [show q_iv S' P = q_iv S P from hf.iv (h1 0 (by omega)), hf.rv (h1 6 (by omega)), hf.iv (h1 7 (by omega)), hf.iv (h1 8 (by omega)), hf.iv (h1 9 (by omega)), hf.iv (h1 10 (by omega))]
  exact h
theorem v_xpP (P k : Nat) (h : k ≤ 10) : v_xp P (P + k) = true := by
  unfold v_xp
  rw [decide_eq_true (show P ≤ P + k by omega), decide_eq_true (show P + k ≤ P + 10 by omega), Bool.and_self, Bool.or_true]
theorem v_xp0 (P : Nat) : v_xp P P = true := v_xpP P 0 (by omega)
theorem v_xp4 (P : Nat) : v_xp P 1024 = true := rfl
theorem v_xpn (hp : w_P P) {a : Nat} (h : a < 1004 ∨ (1015 ≤ a ∧ a ≤ 1030 ∧ a ≠ 1024) ∨ 1097 ≤ a) : v_xp P a = false := by
  have := hp.rng
  unfold v_xp
  rw [decide_eq_false (show ¬ a = 1024 by omega), Bool.false_or]
  by_cases h1 : P ≤ a
  · rw [decide_eq_false (show ¬ a ≤ P + 10 by omega), Bool.and_false]
  · rw [decide_eq_false h1, Bool.false_and]
/-- the next token -/
def v_nx (S : q_S) (i : Nat) : q_S := q_sI S 1024 6 (nI i)
theorem v_nx_fr : v_fr (fun a => decide (a = 1024)) S (v_nx S i) := v_fr.refl.sI rfl
theorem v_CT.nx {k : Nat} (h : v_CT S N g v pl i) : v_CT (v_nx S k) N g v pl k := ⟨h.1, rfl, h.2.2⟩
theorem v_CN.nx {k : Nat} (h : v_CN S P pl ns) (hp : w_P P) : v_CN (v_nx S k) P pl ns := h.fr v_nx_fr (fun k hk => by
  have := hp.rng
  exact decide_eq_false (by omega))
theorem v_CP.step (h : v_CP S P N g v pl i ns) (hi : i < N) : v_CP (v_nx S (i + 1)) P N g v pl (i + 1) ns := ⟨h.1, h.2.1, hi, by have := h.2.2.2.1; omega, h.2.2.2.2.1, h.2.2.2.2.2.1.nx, h.2.2.2.2.2.2.nx h.1⟩
theorem v_nx_W (h : w_W (q_S0 L xs) S) : w_W (q_S0 L xs) (v_nx S i) := h.sI (by decide)
theorem v_nx_x : v_cr P S (v_nx S i) := ⟨v_fr.refl.sI rfl, fun a k h => if_neg h.1⟩
section VAD
variable {c s t x : Nat} {p y l r : Int32} {lo ro : Option Nat}
theorem v_ad_fr0 : v_fr (v_xp P) S (v_ad S P c s p y l r) :=
  (((((v_fr.refl.sR (v_xpP P 6 (by omega))).sI (v_xpP P 7 (by omega))).sI (v_xpP P 8 (by omega))).sI (v_xpP P 9 (by omega))).sI (v_xpP P 10 (by omega))).sI (v_xp0 P)
theorem v_ad_fr : v_cr P S (v_ad S P c s p y l r) := ⟨v_ad_fr0, fun a k h => by
  unfold v_ad
  rw [show ∀ S : q_S, q_iv (q_sI S P 10 (nI (c + 1))) a k = q_iv S a k from fun S => if_neg h.2.1, v_aI (by omega), v_aI (by omega), v_aI (by omega), v_aI (by omega)]
  rfl⟩
theorem v_ad_fr2 : v_fr (fun a => decide (P ≤ a) && decide (a ≤ P + 10)) S (v_ad S P c s p y l r) := by
  have key : ∀ k, k ≤ 10 → (fun a => decide (P ≤ a) && decide (a ≤ P + 10)) (P + k) = true := fun k hk => by
    show (decide (P ≤ P + k) && decide (P + k ≤ P + 10)) = true
    rw [decide_eq_true (show P ≤ P + k by omega), decide_eq_true (show P + k ≤ P + 10 by omega)]
    rfl
  exact (((((v_fr.refl.sR (key 6 (by omega))).sI (key 7 (by omega))).sI (key 8 (by omega))).sI (key 9 (by omega))).sI (key 10 (by omega))).sI (key 0 (by omega))
theorem v_ad_W (h : w_W (q_S0 L xs) S) (hp : w_P P) : w_W (q_S0 L xs) (v_ad S P c s p y l r) := by
  have hg := hp.ge
  exact (((((h.sR (by omega) (w_nfP hp rfl)).sI (by omega)).sI (by omega)).sI (by omega)).sI (by omega)).sI (by omega)
theorem v_ad_rv : q_rv (v_ad S P c s p y l r) (P + 6) j = if j = c then some s else q_rv S (P + 6) j := by
  show (if P + 6 = P + 6 ∧ j = c then some s else q_rv S (P + 6) j) = _
  by_cases h : j = c
  · rw [if_pos ⟨rfl, h⟩, if_pos h]
  · rw [if_neg (fun z => h z.2), if_neg h]
theorem v_ad_7 : q_iv (v_ad S P c s p y l r) (P + 7) j = if j = c then p else q_iv S (P + 7) j := by
  unfold v_ad
  rw [v_aI (by omega), v_aI (by omega), v_aI (by omega), v_aI (by omega)]
  by_cases h : j = c
  · rw [if_pos h, h]; exact v_hI
  · rw [if_neg h]; exact v_kI h
theorem v_ad_8 : q_iv (v_ad S P c s p y l r) (P + 8) j = if j = c then y else q_iv S (P + 8) j := by
  unfold v_ad
  rw [v_aI (by omega), v_aI (by omega), v_aI (by omega)]
  by_cases h : j = c
  · rw [if_pos h, h]; exact v_hI
  · rw [if_neg h, v_kI h]; exact v_aI (by omega)
theorem v_ad_9 : q_iv (v_ad S P c s p y l r) (P + 9) j = if j = c then l else q_iv S (P + 9) j := by
  unfold v_ad
  rw [v_aI (by omega), v_aI (by omega)]
  by_cases h : j = c
  · rw [if_pos h, h]; exact v_hI
  · rw [if_neg h, v_kI h, v_aI (by omega)]; exact v_aI (by omega)
theorem v_ad_10 : q_iv (v_ad S P c s p y l r) (P + 10) j = if j = c then r else q_iv S (P + 10) j := by
  unfold v_ad
  rw [v_aI (by omega)]
  by_cases h : j = c
  · rw [if_pos h, h]; exact v_hI
  · rw [if_neg h, v_kI h, v_aI (by omega), v_aI (by omega)]; exact v_aI (by omega)
theorem v_CN.add (h : v_CN S P pl ns) (hp : p = nI (pl t)) (hy : y = nI x) (hl : l = v_ni lo) (hr : r = v_ni ro) : v_CN (v_ad S P ns.length s p y l r) P pl (ns ++ [(s, t, x, lo, ro)]) := by
  refine ⟨?_, ?_⟩
  · rw [List.length_append]
    exact v_hI
  · intro j s' t' x' l' r' hj
    rw [v_ad_rv, v_ad_7, v_ad_8, v_ad_9, v_ad_10]
    by_cases hjc : j = ns.length
    · subst hjc
      rw [v_last] at hj
      cases hj
      rw [if_pos rfl, if_pos rfl, if_pos rfl, if_pos rfl, if_pos rfl]
      exact ⟨rfl, hp, hy, hl, hr⟩
    · rw [if_neg hjc, if_neg hjc, if_neg hjc, if_neg hjc, if_neg hjc]
      have hlt : j < ns.length := by
        obtain ⟨hi, _⟩ := List.getElem?_eq_some_iff.mp hj
        rw [List.length_append] at hi
        have : ([(s, t, x, lo, ro)] : List v_Nd).length = 1 := rfl
        omega
      rw [List.getElem?_append_left hlt] at hj
      exact h.2 j s' t' x' l' r' hj
theorem v_CP.add (h : v_CP S P N g v pl i ns) (hn : ns.length < i) (hp : p = nI (pl t)) (hy : y = nI x) (hl : l = v_ni lo) (hr : r = v_ni ro) : v_CP (v_ad S P ns.length s p y l r) P N g v pl i (ns ++ [(s, t, x, lo, ro)]) := by
  have hr' := h.1.rng
  have key : ∀ a, (1015 ≤ a ∧ a ≤ 1030) → (fun a => decide (P ≤ a) && decide (a ≤ P + 10)) a = false := fun a ha => by
    show (decide (P ≤ a) && decide (a ≤ P + 10)) = false
    by_cases h1 : P ≤ a
    · rw [decide_eq_false (show ¬ a ≤ P + 10 by omega), Bool.and_false]
    · rw [decide_eq_false h1, Bool.false_and]
  refine ⟨h.1, h.2.1, h.2.2.1, by rw [List.length_append]; show _ + 1 ≤ _; omega, ?_, h.2.2.2.2.2.1.fr v_ad_fr2 (key _ (by omega)) (key _ (by omega)) (key _ (by omega)) (key _ (by omega)), h.2.2.2.2.2.2.add hp hy hl hr⟩
  rw [v_ad_fr2.rv (key 1023 (by omega))]
  exact h.2.2.2.2.1
end VAD
end VCP
