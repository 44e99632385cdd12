/-! the reference while it reads: what of it is seen, and what it leaves alone -/
section VMQA
variable {S S' S1 : q_S} {N i j : Nat} {g v pl : Nat → Nat} {ns : List v_Nd}
theorem v_MQ.b (h : v_MQ S N g v pl i ns) : i ≤ N ∧ N ≤ 100 ∧ v_mn N g ≤ N + 1 := ⟨h.2.1, h.1.1, (v_mn_b h.1.1).1⟩
theorem v_MQ.a (h : v_MQ S N g v pl i ns) : q_iv S 1097 32 = nI i := h.2.2.1.1
theorem v_MQ.m (h : v_MQ S N g v pl i ns) : q_iv S 1102 6 = nI (v_mn N g) := h.2.2.1.2.1
theorem v_MQ.c (h : v_MQ S N g v pl i ns) : q_iv S 1108 6 = nI ns.length := h.2.2.2.1
theorem v_MQ.tv (h : v_MQ S N g v pl i ns) (hj : j < N) : q_iv S 1100 (606 + j) = nI (v j) := h.2.2.1.2.2.2.1 j hj
theorem v_MQ.lk (h : v_MQ S N g v pl i ns) (hj : j ≤ N) : (j < v_mn N g → q_iv S 1099 (606 + j) = nI (v_wc (g j))) ∧ (¬ j < v_mn N g → v_wc (g j) = 0) ∧ v_wc (g j) < 2000 := by
  refine ⟨fun hlt => (h.2.2.1.2.2.1 j hlt).1, fun hn => ?_, v_wc_all _⟩
  unfold v_mn at hn
  by_cases hg : g N = 32
  · rw [if_pos hg] at hn
    have : j = N := by omega
    rw [this, hg]
    rfl
  · rw [if_neg hg] at hn
    omega
theorem v_MQ.fl (h : v_MQ S N g v pl i ns) (hj : j ≤ N) : (j < v_mn N g → q_iv S 1101 (606 + j) = nI (pl j)) ∧ (¬ j < v_mn N g → q_iv S 1097 3 = nI (pl j)) ∧ pl j < 2000 := by
  refine ⟨fun hlt => (h.2.2.1.2.2.1 j hlt).2, fun hn => ?_, by have := (h.1.2 j hj).2.2.1; omega⟩
  unfold v_mn at hn
  by_cases hg : g N = 32
  · rw [if_pos hg] at hn
    have : j = N := by omega
    rw [this]
    exact h.2.2.1.2.2.2.2 hg
  · rw [if_neg hg] at hn
    omega
theorem v_MQ.ot {a k : Nat} {x : Int32} (h : v_MQ S N g v pl i ns) (h1 : 1109 ≤ a) : v_MQ (q_sI S a k x) N g v pl i ns := by
  have hf : v_fr (fun b => decide (b = a)) S (q_sI S a k x) := v_fr.refl.sI (by simp)
  have key : ∀ b, b < 1109 → (fun b => decide (b = a)) b = false := fun b hb => decide_eq_false (by omega)
  exact ⟨h.1, h.2.1, h.2.2.1.fr hf (key _ (by omega)) (key _ (by omega)) (key _ (by omega)) (key _ (by omega)) (key _ (by omega)), h.2.2.2.fr hf (fun b _ _ => key b (by omega))⟩
/-- the draft's places -/
def v_dr (a j : Nat) : Prop := (a = 1097 ∧ (j = 32 ∨ j = 33 ∨ j = 35)) ∨ (((1099 ≤ a ∧ a ≤ 1101) ∨ (1103 ≤ a ∧ a ≤ 1107)) ∧ 606 ≤ j) ∨ ((a = 1102 ∨ a = 1108 ∨ a = 1110 ∨ a = 1113 ∨ a = 1114) ∧ j = 6) ∨ ((a = 1111 ∨ a = 1112) ∧ 12 ≤ j) ∨ ((a = 1115 ∨ a = 1116) ∧ 120 ≤ j) ∨ (1126 ≤ a ∧ a ≤ 1130)
def v_md (S S' : q_S) : Prop := q_tp S' = q_tp S ∧ q_sm S' = q_sm S ∧ (∀ a, a < 1097 ∨ 1138 < a → q_same S S' a) ∧ ∀ a j, ¬ v_dr a j → q_iv S' a j = q_iv S a j
def v_me (S S' : q_S) : Prop := q_tp S' = q_tp S ∧ q_sm S' = q_sm S ∧ (∀ a, a < 1097 ∨ 1138 < a → q_same S S' a) ∧ ∀ a j, ¬ v_dr a j → ¬ (a = 1097 ∧ j = 1) → q_iv S' a j = q_iv S a j
theorem v_same_trans {a : Nat} (h : q_same S S1 a) (h' : q_same S1 S' a) : q_same S S' a := ⟨h'.1.trans h.1, h'.2.1.trans h.2.1, h'.2.2.1.trans h.2.2.1, h'.2.2.2.trans h.2.2.2⟩
theorem v_md.refl : v_md S S := ⟨rfl, rfl, fun _ _ => ⟨rfl, rfl, rfl, rfl⟩, fun _ _ _ => rfl⟩
theorem v_md.trans (h : v_md S S1) (h' : v_md S1 S') : v_md S S' := ⟨h'.1.trans h.1, h'.2.1.trans h.2.1, fun a ha => v_same_trans (h.2.2.1 a ha) (h'.2.2.1 a ha), fun a j hj => (h'.2.2.2 a j hj).trans (h.2.2.2 a j hj)⟩
theorem v_md.me (h : v_md S S1) (h' : v_me S1 S') : v_me S S' := ⟨h'.1.trans h.1, h'.2.1.trans h.2.1, fun a ha => v_same_trans (h.2.2.1 a ha) (h'.2.2.1 a ha), fun a j hj hk => (h'.2.2.2 a j hj hk).trans (h.2.2.2 a j hj)⟩
theorem v_md.w {a k : Nat} {x : Int32} (h : v_md S S1) (hd : v_dr a k) : v_md S (q_sI S1 a k x) := by
  refine ⟨h.1, h.2.1, fun b hb => v_same_trans (h.2.2.1 b hb) (q_sI_same (fun z => ?_)), fun b j hj => ?_⟩
  · subst z
    unfold v_dr at hd
    omega
  · show (if b = a ∧ j = k then x else q_iv S1 b j) = _
    rw [if_neg (fun z => hj (by rw [z.1, z.2]; exact hd))]
    exact h.2.2.2 b j hj
theorem v_md.wh {x : Int32} (h : v_md S S1) : v_me S (q_sI S1 1097 1 x) := by
  refine ⟨h.1, h.2.1, fun b hb => v_same_trans (h.2.2.1 b hb) (q_sI_same (fun z => by omega)), fun b j hj hk => ?_⟩
  show (if b = 1097 ∧ j = 1 then x else q_iv S1 b j) = _
  rw [if_neg hk]
  exact h.2.2.2 b j hj
theorem v_xm_out {a : Nat} (h : v_xm a = true) : a = 1097 ∨ (1103 ≤ a ∧ a ≤ 1108) ∨ (1126 ≤ a ∧ a ≤ 1130) := by
  unfold v_xm at h
  simp at h
  omega
theorem v_mr.md {f : Nat} (h : v_mr f S S') : v_md S S' := by
  refine ⟨h.1.1, h.1.2.1, fun a ha => h.1.2.2 a ?_, fun a j hj => ?_⟩
  · cases hx : v_xm a with
    | false => rfl
    | true => have := v_xm_out hx; omega
  · cases hx : v_xm a with
    | false => rw [h.1.iv hx]
    | true =>
      unfold v_dr at hj
      rcases v_xm_out hx with e | e | e
      · subst e; exact h.2.2.1 j (by omega) (by omega) (by omega)
      · by_cases e8 : a = 1108
        · subst e8; exact h.2.2.2.2 j (by omega)
        · exact h.2.2.2.1 a (by omega) (by omega) j (by omega)
      · omega
theorem v_mf.me (h : v_mf S S') : v_me S S' := by
  refine ⟨h.1.1, h.1.2.1, fun a ha => h.1.2.2 a ?_, fun a j hj hk => ?_⟩
  · cases hx : v_xm a with
    | false => rfl
    | true => have := v_xm_out hx; omega
  · cases hx : v_xm a with
    | false => rw [h.1.iv hx]
    | true =>
      unfold v_dr at hj
      rcases v_xm_out hx with e | e | e
      · subst e; exact h.2.1 j (by omega) (by omega) (by omega) (by omega)
      · by_cases e8 : a = 1108
        · subst e8; exact h.2.2.2 j (by omega)
        · exact h.2.2.1 a (by omega) (by omega) j (by omega)
      · omega
end VMQA
