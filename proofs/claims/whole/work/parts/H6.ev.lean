/-! THE CONSTRUCTORS, run by the kernel. -/
def c_A0 : q_S := q_new (q_S0 0 (fun _ => 0)) (0, q_nf 0) (q_nf 0)
def c_ck (o : q_O) (k : q_S → Bool) : Bool := match o with
  | some (.returned none, A) => k A
  | _ => false
theorem c_ck_e {o : q_O} {k : q_S → Bool} (h : c_ck o k = true) : ∃ A, o = some (.returned none, A) ∧ k A = true := by
  cases o with
  | none => cases h
  | some q =>
    obtain ⟨oc, A⟩ := q
    cases oc with
    | returned v =>
      cases v with
      | none => exact ⟨A, rfl, h⟩
      | some w => cases h
    | threw x => cases h
def c_F (S : q_S) : Bool := (List.range 140).all (fun i => decide (q_sh S (1000 + i) = w_T.getD i (0, 0))) && (w_F.all (fun q => decide (q_rv S q.1 q.2.1 = some q.2.2)) && ((List.range 16).all (fun e => decide (q_iv S 1016 e = -2) && (decide (q_iv S 1117 e = 0) && (decide (q_iv S 1017 e = 0) && decide (q_iv S 1119 e = 0)))) && ((List.range 48).all (fun j => decide (q_iv S 1018 j = 0)) && ((List.range 9).all (fun j => decide (q_iv S 1021 j = 0) && (decide (q_iv S 1122 j = 0) && (decide (q_iv S 1022 j = 0) && decide (q_iv S 1124 j = 0)))) && ((List.range 6).all (fun i => decide (q_iv S 1003 i = 0) && (decide (q_iv S 1125 i = 0) && (decide (q_rv S 1002 i = some (1031 + 11 * i)) && (decide (q_iv S (1031 + 11 * i) 0 = 0) && decide (q_iv S 1109 i = 0))))) && (decide (q_iv S 1000 1 = 0) && (decide (q_iv S 1097 3 = 0) && (decide (q_iv S 1000 2 = q_iv S 1097 1) && (decide (q_iv S 1097 31 = 0) && decide (q_rv S 1000 5 = some 1004))))))))))
def c_k3 (A3 : q_S) : Bool := decide (q_tp A3 = 1139) && (decide (q_sm (q_new A3 (103, 1) 1) ≤ 20000) && c_F (q_new A3 (103, 1) 1))
def c_k1 (A1 : q_S) : Bool := decide (q_tp A1 = 1097) && c_ck (c_exec 2047 400 142 [.ref 1097] (q_new A1 (9, q_nf 9) (q_nf 9))) c_k3
def c_full : Bool := c_ck (c_exec 2047 400 0 [.ref 1000] c_A0) c_k1
theorem c_full_t : c_full = true := by decide +kernel
/-- what the two constructors leave -/
theorem c_all : ∃ A1 A3, c_exec 2047 400 0 [.ref 1000] c_A0 = some (.returned none, A1) ∧ q_tp A1 = 1097 ∧ c_exec 2047 400 142 [.ref 1097] (q_new A1 (9, q_nf 9) (q_nf 9)) = some (.returned none, A3) ∧ q_tp A3 = 1139 ∧ q_sm (q_new A3 (103, 1) 1) ≤ 20000 ∧ c_F (q_new A3 (103, 1) 1) = true := by
  have h : c_ck (c_exec 2047 400 0 [.ref 1000] c_A0) c_k1 = true := c_full_t
  obtain ⟨A1, e1, h1⟩ := c_ck_e h
  obtain ⟨t1, h1⟩ := Bool.and_eq_true_iff.mp h1
  obtain ⟨A3, e3, h3⟩ := c_ck_e h1
  obtain ⟨t3, h3⟩ := Bool.and_eq_true_iff.mp h3
  obtain ⟨m3, h3⟩ := Bool.and_eq_true_iff.mp h3
  exact ⟨A1, A3, e1, of_decide_eq_true t1, e3, of_decide_eq_true t3, of_decide_eq_true m3, h3⟩
