/-! THE CONSTRUCTORS, run by the kernel. -/
def c_A0 : q_S := q_new (q_S0 0 (fun _ => 0)) (0, q_nf 0) (q_nf 0)
def c_rn (o : q_O) : Bool := match o with
  | some (.returned none, _) => true
  | _ => false
theorem c_rn_e {o : q_O} {S : q_S} (h : c_rn o = true) : o = some (.returned none, (o.getD (.returned none, S)).2) := by
  cases o with
  | none => cases h
  | some q =>
    obtain ⟨oc, S1⟩ := q
    cases oc with
    | returned v =>
      cases v with
      | none => rfl
      | some w => cases h
    | threw x => cases h
def c_O1 : q_O := c_exec 2047 400 0 [.ref 1000] c_A0
def c_A1 : q_S := (c_O1.getD (.returned none, c_A0)).2
def c_A2 : q_S := q_new c_A1 (9, q_nf 9) (q_nf 9)
def c_O3 : q_O := c_exec 2047 400 142 [.ref 1097] c_A2
def c_A3 : q_S := (c_O3.getD (.returned none, c_A2)).2
def c_A4 : q_S := q_new c_A3 (103, 1) 1
theorem c_k1 : (c_rn c_O1 && decide (q_tp c_A1 = 1097)) = true := by decide +kernel
theorem c_k3 : (c_rn c_O3 && (decide (q_tp c_A3 = 1139) && decide (q_sm c_A4 ≤ 20000))) = true := by decide +kernel
def c_chk : Bool := (List.range 140).all (fun i => decide (q_sh c_A4 (1000 + i) = w_T.getD i (0, 0))) && (w_F.all (fun q => decide (q_rv c_A4 q.1 q.2.1 = some q.2.2)) && ((List.range 16).all (fun e => decide (q_iv c_A4 1016 e = -2) && (decide (q_iv c_A4 1117 e = 0) && (decide (q_iv c_A4 1017 e = 0) && decide (q_iv c_A4 1119 e = 0)))) && ((List.range 48).all (fun j => decide (q_iv c_A4 1018 j = 0)) && ((List.range 9).all (fun j => decide (q_iv c_A4 1021 j = 0) && (decide (q_iv c_A4 1122 j = 0) && (decide (q_iv c_A4 1022 j = 0) && decide (q_iv c_A4 1124 j = 0)))) && ((List.range 6).all (fun i => decide (q_iv c_A4 1003 i = 0) && (decide (q_iv c_A4 1125 i = 0) && (decide (q_rv c_A4 1002 i = some (1031 + 11 * i)) && (decide (q_iv c_A4 (1031 + 11 * i) 0 = 0) && decide (q_iv c_A4 1109 i = 0))))) && (decide (q_iv c_A4 1000 1 = 0) && (decide (q_iv c_A4 1097 3 = 0) && (decide (q_iv c_A4 1000 2 = q_iv c_A4 1097 1) && (decide (q_iv c_A4 1097 31 = 0) && decide (q_rv c_A4 1000 5 = some 1004))))))))))
theorem c_chk_t : c_chk = true := by decide +kernel
