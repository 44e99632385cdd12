/-! MORE FACTS OF THE TABLES, decided: which instruction calls which kind of method, what a call of it asks, how an exception is made, which handlers there are. -/
def q_is (m pc : Nat) (i : Jvm.ClassFile.Instr) (len : Nat) : Bool := decide ((q_fetch m pc).map (fun z => (z.1, z.2.1)) = some (i, len))
def q_rw2 (m : Nat) (e : q_I) : Bool := match e.2.1 with
  | .putfield x => e.2.2.2 == 9998 || (!(q_fd e.2.2.2).2.2.2 || ((q_mm m).1.name == "<init>" && ((q_fd e.2.2.2).1 == q_cname (q_mm m).2.2.2.2.1 && q_fl.any (fun f => f.1 == (q_mm m).2.2.2.2.1 && (f.2.1 == x && (f.2.2.1 == e.2.2.2 && !f.2.2.2.1))))))
  | .invokestatic _ => e.2.2.2 == 9998 || (decide (e.2.2.2 < 205) && (q_mm e.2.2.2).2.2.2.2.2.2.1 == 0)
  | .invokevirtual _ => e.2.2.2 == 9998 || (decide (e.2.2.2 < 205) && (decide (0 < (q_mm e.2.2.2).2.2.2.2.2.2.1) && !((q_mm e.2.2.2).1.name == "<init>")))
  | .invokespecial _ => decide (205 ≤ e.2.2.2) || (decide (0 < (q_mm e.2.2.2).2.2.2.2.2.2.1) && ((q_mm e.2.2.2).1.name == "<init>" && decide ((q_mm e.2.2.2).2.2.2.1 = none)))
  | .new _ => decide (e.2.2.2 < 10) || ((q_mm m).2.2.2.2.1 == 0 && (decide (e.2.2.2 < 15) && ((q_hx m).isEmpty && (q_is m (e.1 + 3) .dup 1 && (q_tx.any (fun t => q_is m (e.1 + 4) (.ldc t.1) 2) && (q_is m (e.1 + 6) (.invokespecial (q_xc e.2.2.2)) 3 && q_is m (e.1 + 9) .athrow 1))))))
  | _ => true
def q_rc2 (m : Nat) : Bool := (q_code m).all (q_rw2 m)
def q_cal (r : Nat) : Bool := decide ((q_mm r).1.cls ≠ "java/lang/invoke/MethodHandle" ∧ (q_mm r).1.cls ≠ "java/lang/invoke/VarHandle") && ((decide (r = 27) || plainName (q_mm r).1.cls) && (decide (q_cname (q_mm r).2.2.2.2.1 = (q_mm r).1.cls) && (decide ((q_mm r).2.2.1 ≤ 11) && (match (q_mm r).2.2.2.2.2.2.1 with
  | 0 => decide ((parseMethodDescriptor (q_mm r).1.desc).map (fun d => d.parameters.length) = some (q_mm r).2.2.2.2.2.1)
  | c + 1 => (q_hx r).isEmpty && (decide (1 ≤ (q_mm r).2.2.2.2.2.1) && decide ((parseMethodDescriptor (q_mm r).1.desc).map (fun d => d.parameters.length) = some ((q_mm r).2.2.2.2.2.1 - 1)))))))
def q_hok (m : Nat) : Bool := decide ((q_hx m).map (fun h => (h.1, h.2.1, h.2.2.1)) = (q_mm m).2.2.2.2.2.2.2.map (fun h => (h.1, h.2.1, h.2.2.1))) && ((q_hx m).zip (q_mm m).2.2.2.2.2.2.2).all (fun z => decide (z.1.2.2.2 ≠ 0) && (decide (10 ≤ z.2.2.2.2) && (decide (z.2.2.2.2 < 15) && decide (Jvm.Cond.classLink (q_cname (q_mm m).2.2.2.2.1) z.1.2.2.2 (q_cname z.2.2.2.2) ∈ tables_1))))
set_option maxRecDepth 100000 in
theorem q_rc2_ok : (List.range 206).all q_rc2 = true := by decide +kernel
set_option maxRecDepth 100000 in
theorem q_cal_ok : (List.range 205).all q_cal = true := by decide +kernel
set_option maxRecDepth 100000 in
theorem q_hok_ok : (List.range 205).all q_hok = true := by decide +kernel
def q_sl2 (r : Nat) : Bool := match (q_mm r).2.2.2.2.2.2.1 with
  | 0 => true
  | c + 1 => (q_mm r).1.name == "<init>" || decide (Jvm.Cond.selects (q_cname c) (q_yl r) (q_mm r).1 ∈ lw_tbl)
set_option maxRecDepth 100000 in
theorem q_sl2_ok : (List.range 205).all q_sl2 = true := by decide +kernel
set_option maxRecDepth 100000 in
theorem q_ini_ok : (List.range 205).all (fun r => decide (Jvm.Cond.initialized (q_mm r).1.cls ∈ tables_1)) = true := by decide +kernel
def q_rw3 (m : Nat) (e : q_I) : Bool := match e.2.1, (q_mm m).2.2.2.1 with
  | .areturn, some (.object _) => true
  | .areturn, some (.array _) => true
  | .areturn, _ => false
  | _, _ => true
set_option maxRecDepth 100000 in
theorem q_rc3_ok : (List.range 206).all (fun m => (q_code m).all (q_rw3 m)) = true := by decide +kernel
theorem q_fetch_ok {m pc len r : Nat} {i : Jvm.ClassFile.Instr} (hm : m < 206) (h : q_fetch m pc = some (i, len, r)) :
    decode (q_mm m).2.1 pc = .ok (i, len) ∧ q_need i ≤ (q_mm m).2.2.1 ∧ q_lk (q_mm m).2.2.2.2.1 pc i r = true ∧ q_rw2 m (pc, i, len, r) = true ∧ q_rw3 m (pc, i, len, r) = true := by
  unfold q_fetch at h
  cases hf : (q_code m).find? (fun e => e.1 == pc) with
  | none => rw [hf] at h; cases h
  | some q =>
    rw [hf] at h
    have hmem : q ∈ q_code m := List.mem_of_find?_eq_some hf
    have hi : q.1 = pc := by simpa using List.find?_some hf
    have hv : q.2 = (i, len, r) := Option.some.inj h
    obtain ⟨q1, q2⟩ := q
    dsimp only at hi hv
    subst hi; subst hv
    have h1 := List.all_eq_true.mp (q_chks m hm) _ hmem
    have h2 := List.all_eq_true.mp (List.all_eq_true.mp q_rc2_ok m (List.mem_range.mpr hm)) _ hmem
    have h3 := List.all_eq_true.mp (List.all_eq_true.mp q_rc3_ok m (List.mem_range.mpr hm)) _ hmem
    unfold q_ck at h1
    rw [Bool.and_eq_true, Bool.and_eq_true] at h1
    exact ⟨of_decide_eq_true h1.1, of_decide_eq_true h1.2.1, h1.2.2, h2, h3⟩
theorem q_good_ok : (List.range 205).all (fun m => goodWord (q_wC m) && goodWord (q_wI m)) = true := by decide +kernel
set_option maxRecDepth 100000 in
theorem q_yl_ok : (List.range 205).all (fun r => decide (r = 64) || decide (q_yl r = (q_mm r).1)) = true := by decide +kernel
theorem q_rv_ok : (List.range 205).all (fun r => decide ((q_mm r).2.2.2.2.2.2.1 ≤ 10) || (decide ((q_mm r).2.2.2.2.2.2.1 = 16) || decide ((q_mm r).2.2.2.2.2.2.1 = 17))) = true := by decide +kernel
theorem q_64 : (q_mm 64).1 = ⟨"java/lang/Enum", "ordinal", "()I"⟩ ∧ q_yl 64 = ⟨"PolicyForge$Sign", "ordinal", "()I"⟩ := by decide +kernel
theorem q_ns_ok : q_ml.all (fun e => !e.2.2.2.1 || (decide (e.2.2.1 = 1) || (decide (e.2.2.1 = 2) || decide (e.2.2.1 = 4)))) = true := by decide +kernel
theorem q_ns3 : (q_mm 1).1.name = "<init>" ∧ (q_mm 2).1.name = "<init>" ∧ (q_mm 4).1.name = "<init>" ∧ (q_mm 1).2.2.2.2.2.2.1 ≠ 0 ∧ (q_mm 2).2.2.2.2.2.2.1 ≠ 0 ∧ (q_mm 4).2.2.2.2.2.2.1 ≠ 0 := by decide +kernel
set_option maxRecDepth 100000 in
theorem q_misc : Jvm.Cond.sameMethod "PolicyForge$Sign" "java/lang/Enum" "ordinal" "()I" ∈ tables_1 ∧ Jvm.Cond.instanceMethod Lib.objectInit ∈ tables_1 ∧ Jvm.Cond.code Lib.objectInit ⟨#[0xb1]⟩ 1 none ∈ tables_1 ∧ Jvm.Cond.initialized "java/lang/Math" ∈ tables_1 := by decide +kernel
theorem q_27 : (q_mm 27).1 = Lib.Math.min.name ∧ q_wC 27 = Jvm.Cond.code Lib.Math.min.name Lib.Math.min.code 2 (some .int) ∧ q_wI 27 = Jvm.Cond.static Lib.Math.min.name ∧ (q_mm 27).2.2.2.2.2.2.1 = 0 := by decide +kernel
theorem q_mlink {own x r : Nat} (h : q_in3 q_ml own x r = true) : ∃ nest : Bool, (if nest = true then Jvm.Cond.methodLinkNest (q_cname own) x (q_yl r) "PolicyForge" else Jvm.Cond.methodLink (q_cname own) x (q_yl r)) ∈ tables_1 ∧ (nest = true → r = 1 ∨ r = 2 ∨ r = 4) := by
  obtain ⟨⟨o, x', r', nest, p⟩, he, hh⟩ := List.any_eq_true.mp h
  simp only [Bool.and_eq_true, beq_iff_eq] at hh
  obtain ⟨rfl, rfl, rfl⟩ := hh
  have h1 := of_decide_eq_true (List.all_eq_true.mp q_ml_ok _ he)
  have h2 := List.all_eq_true.mp q_ns_ok _ he
  refine ⟨nest, List.mem_of_getElem? h1, fun hn => ?_⟩
  rw [hn] at h2
  simpa using h2
