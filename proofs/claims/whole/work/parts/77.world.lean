/-! THE WORLD OF THE LAW'S LOOP: the shapes of the 140 cells that the two constructors make, and the references among them that never change. -/
def w_TP : List (Nat × Nat) := [(1, 16), (2, 2), (2, 2), (102, 12), (100, 12), (100, 12), (125, 100), (100, 100), (100, 100), (100, 100), (100, 100)]
def w_T : List (Nat × Nat) := [(0, 11), (101, 100), (111, 6), (100, 6)] ++ w_TP ++ [(3, 4), (100, 16), (100, 16), (100, 48), (100, 48), (4, 2), (100, 9), (102, 9), (5, 2), (6, 7), (125, 101), (100, 101), (100, 101), (101, 0), (7, 4), (8, 4)] ++ w_TP ++ w_TP ++ w_TP ++ w_TP ++ w_TP ++ w_TP ++
  [(9, 53), (100, 100), (100, 707), (100, 707), (100, 707), (100, 7), (100, 707), (100, 707), (100, 707), (100, 707), (100, 707), (100, 7), (102, 7), (102, 7), (100, 14), (100, 14), (100, 7), (100, 7), (100, 140), (100, 140), (102, 16), (100, 16), (100, 16), (100, 48), (100, 48), (100, 9), (100, 9), (102, 9), (100, 6), (100, 120), (100, 120), (100, 120), (100, 120), (100, 120), (100, 120), (100, 120), (100, 120), (100, 120), (100, 707), (100, 707), (100, 707), (100, 707), (103, 1)]
/-- where the seven policies stand -/
def w_PL : List Nat := [1004, 1031, 1042, 1053, 1064, 1075, 1086]
def w_FP (p : Nat) : List (Nat × Nat × Nat) := [(p, 2, p + 1), (p, 3, p + 2), (p, 7, p + 3), (p, 8, p + 4), (p, 9, p + 5), (p, 11, p + 6), (p, 12, p + 7), (p, 13, p + 8), (p, 14, p + 9), (p, 15, p + 10)]
def w_F : List (Nat × Nat × Nat) := [(1000, 0, 1001), (1000, 3, 1002), (1000, 4, 1003), (1000, 6, 1015), (1000, 7, 1020), (1000, 8, 1023), (1000, 9, 1029), (1000, 10, 1030), (1015, 0, 1016), (1015, 1, 1017), (1015, 2, 1018), (1015, 3, 1019), (1020, 0, 1021), (1020, 1, 1022), (1023, 0, 1024), (1024, 0, 1025), (1024, 1, 1026), (1024, 2, 1027), (1029, 0, 1015), (1030, 0, 1015), (1030, 1, 1020),
  (1097, 2, 1098), (1097, 4, 1099), (1097, 5, 1100), (1097, 6, 1101), (1097, 7, 1102), (1097, 8, 1103), (1097, 9, 1104), (1097, 10, 1105), (1097, 11, 1106), (1097, 12, 1107), (1097, 13, 1108), (1097, 14, 1109), (1097, 15, 1110), (1097, 16, 1111), (1097, 17, 1112), (1097, 18, 1113), (1097, 19, 1114), (1097, 20, 1115), (1097, 21, 1116), (1097, 22, 1117), (1097, 23, 1118), (1097, 24, 1119), (1097, 25, 1120), (1097, 26, 1121), (1097, 27, 1122), (1097, 28, 1123), (1097, 29, 1124), (1097, 30, 1125), (1097, 36, 1126), (1097, 37, 1127), (1097, 38, 1128), (1097, 39, 1129), (1097, 40, 1130), (1097, 41, 1131), (1097, 42, 1132), (1097, 43, 1133), (1097, 44, 1134), (1097, 49, 1135), (1097, 50, 1136), (1097, 51, 1137), (1097, 52, 1138)]
  ++ w_PL.flatMap w_FP
/-- a reference stands in the list of those that never change -/
def w_fx (a k b : Nat) : Bool := w_F.any (fun q => q.1 == a && (q.2.1 == k && q.2.2 == b))
def w_dy (a k : Nat) : Bool := !(w_F.any (fun q => q.1 == a && q.2.1 == k))
def w_W (S0 S : q_S) : Prop := (∀ i, i < 140 → q_sh S (1000 + i) = w_T.getD i (0, 0)) ∧ 1140 ≤ q_tp S ∧ (∀ q ∈ w_F, q_rv S q.1 q.2.1 = some q.2.2) ∧ ∀ a, a < 1000 → q_same S0 S a
section WWLD
variable {S0 S : q_S} {a b k n t r i : Nat} {x : Int32} {p : Nat}
theorem w_W.sh (h : w_W S0 S) (ha : 1000 ≤ a) (h2 : w_T.getD (a - 1000) (0, 0) = (t, n)) (h3 : a < 1140) : q_sh S a = (t, n) := by
  have := h.1 (a - 1000) (by omega)
  rw [show 1000 + (a - 1000) = a by omega] at this
  rw [this, h2]
theorem w_W.rv (h : w_W S0 S) (hf : w_fx a k b = true) : q_rv S a k = some b := by
  obtain ⟨⟨q1, q2, q3⟩, hm, he⟩ := List.any_eq_true.mp hf
  simp only [Bool.and_eq_true, beq_iff_eq] at he
  obtain ⟨rfl, rfl, rfl⟩ := he
  exact h.2.2.1 _ hm
theorem w_W.fk (h : w_W S0 S) (ha : 1000 ≤ a) (h2 : w_T.getD (a - 1000) (0, 0) = (r / 128, q_nf (r / 128))) (h3 : a < 1140) (h10 : r / 128 < 10) : q_fk r a S = true := by
  unfold q_fk
  rw [h.sh ha h2 h3, decide_eq_true rfl, decide_eq_true (show 1000 ≤ a ↔ r / 128 < 10 from ⟨fun _ => h10, fun _ => ha⟩)]
  rfl
theorem w_W.sI (h : w_W S0 S) (ha : 1000 ≤ a) : w_W S0 (q_sI S a k x) := ⟨h.1, h.2.1, h.2.2.1, fun b hb => by
  obtain ⟨h1, h2, h3, h4⟩ := h.2.2.2 b hb
  obtain ⟨g1, g2, g3, g4⟩ := q_sI_same (S := S) (a := a) (k := k) (x := x) (b := b) (by omega)
  exact ⟨g1.trans h1, g2.trans h2, g3.trans h3, g4.trans h4⟩⟩
theorem w_W.sJ {v : Int64} (h : w_W S0 S) (ha : 1000 ≤ a) : w_W S0 (q_sJ S a k v) := ⟨h.1, h.2.1, h.2.2.1, fun b hb => by
  obtain ⟨h1, h2, h3, h4⟩ := h.2.2.2 b hb
  obtain ⟨g1, g2, g3, g4⟩ := q_sJ_same (S := S) (a := a) (k := k) (x := v) (b := b) (by omega)
  exact ⟨g1.trans h1, g2.trans h2, g3.trans h3, g4.trans h4⟩⟩
theorem w_W.sR {v : Option Nat} (h : w_W S0 S) (ha : 1000 ≤ a) (hd : ∀ q ∈ w_F, q.1 = a → q.2.1 = k → False) : w_W S0 (q_sR S a k v) := ⟨h.1, h.2.1, fun q hq => by
    show q_u2 (q_rv S) a k v q.1 q.2.1 = _
    unfold q_u2
    rw [if_neg (fun z => hd q hq z.1 z.2)]
    exact h.2.2.1 q hq, fun b hb => by
  obtain ⟨h1, h2, h3, h4⟩ := h.2.2.2 b hb
  obtain ⟨g1, g2, g3, g4⟩ := q_sR_same (S := S) (a := a) (k := k) (x := v) (b := b) (by omega)
  exact ⟨g1.trans h1, g2.trans h2, g3.trans h3, g4.trans h4⟩⟩
theorem w_W.new {s : Nat × Nat} (h : w_W S0 S) : w_W S0 (q_new S s n) := by
  have h2 := h.2.1
  have hF : w_F.all (fun q => decide (q.1 < 1140)) = true := by decide +kernel
  have same : ∀ b, b ≠ q_tp S → q_same S (q_new S s n) b := fun b hb => q_new_same hb
  refine ⟨fun i hi => ?_, by show 1140 ≤ q_tp S + 1; omega, fun q hq => ?_, fun b hb => ?_⟩
  · rw [(same (1000 + i) (by omega)).1]
    exact h.1 i hi
  · have := of_decide_eq_true (List.all_eq_true.mp hF q hq)
    rw [(same q.1 (by omega)).2.2.1]
    exact h.2.2.1 q hq
  · obtain ⟨h1, h2, h3, h4⟩ := h.2.2.2 b hb
    obtain ⟨g1, g2, g3, g4⟩ := same b (by omega)
    exact ⟨g1.trans h1, g2.trans h2, g3.trans h3, g4.trans h4⟩
/-- one of the seven policies: its parts -/
def w_P (p : Nat) : Prop := p ∈ w_PL
theorem w_P.cases {C : Nat → Prop} (hp : w_P p) (h : ∀ q ∈ w_PL, C q) : C p := h p hp
theorem w_P.sh (h : w_W S0 S) (hp : w_P p) (hi : i < 11) : q_sh S (p + i) = w_TP.getD i (0, 0) := by
  have key : ∀ q ∈ w_PL, ∀ i, i < 11 → 1000 ≤ q + i ∧ q + i < 1140 ∧ w_T.getD (q + i - 1000) (0, 0) = w_TP.getD i (0, 0) := by decide +kernel
  obtain ⟨h1, h2, h3⟩ := key p hp i hi
  have := h.1 (p + i - 1000) (by omega)
  rw [show 1000 + (p + i - 1000) = p + i by omega] at this
  rw [this, h3]
theorem w_P.ge (hp : w_P p) : 1000 ≤ p := by
  have key : ∀ q ∈ w_PL, 1000 ≤ q := by decide +kernel
  exact key p hp
theorem w_P.fk (h : w_W S0 S) (hp : w_P p) (hr : r / 128 = 1) : q_fk r p S = true := by
  have h1 := w_P.sh h hp (i := 0) (by decide)
  have hg := hp.ge
  unfold q_fk
  rw [hr]
  rw [show p + 0 = p from rfl] at h1
  rw [h1]
  rw [decide_eq_true (show 1000 ≤ p ↔ 1 < 10 from ⟨fun _ => by decide, fun _ => hg⟩)]
  rfl
theorem w_P.rv (h : w_W S0 S) (hp : w_P p) (hf : (w_FP p).any (fun q => q.1 == p && (q.2.1 == k && q.2.2 == b)) = true) : q_rv S p k = some b := by
  obtain ⟨⟨q1, q2, q3⟩, hm, he⟩ := List.any_eq_true.mp hf
  simp only [Bool.and_eq_true, beq_iff_eq] at he
  obtain ⟨rfl, rfl, rfl⟩ := he
  refine h.2.2.1 (q1, q2, q3) ?_
  unfold w_F
  exact List.mem_append_right _ (List.mem_flatMap.mpr ⟨q1, hp, hm⟩)
end WWLD
