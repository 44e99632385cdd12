/-! EVERY METHOD: what the pure machine answers, the machine does. -/
section QEXE
variable {l : Launch} {D : va_G} {cA : Nat → ClassId} {cv : q_M} {base : Nat} {S0 : q_S}
theorem q_nost {S : q_S} {H : Heap} (hcv : q_cvk cv base) (hR : q_R D cA cv base S H) : ∀ q : Nat, base ≤ q → ∀ cell, H[q]? = some cell → cell.vm.isStatics = false := by
  intro q hq cell hc
  have hlt : q < H.size := (Array.getElem?_eq_some_iff.mp hc).1
  have h1 := hR.1
  have h2 := hR.2.1
  have ha : cv.1 (q - base + 1000) = q := by rw [hcv _ (by omega)]; omega
  have hat := hR.2.2.1 (q - base + 1000) (by omega) (by omega)
  unfold q_at at hat
  rw [ha] at hat
  by_cases hx : 10 ≤ (q_sh S (q - base + 1000)).1 ∧ (q_sh S (q - base + 1000)).1 < 100
  · obtain ⟨cell', g1, -, g3⟩ := hat.1 hx
    cases hc.symm.trans g1
    rw [g3]
    rfl
  · have h3 := hat.2 hx
    unfold q_cE at h3
    by_cases h100 : (q_sh S (q - base + 1000)).1 < 100
    · rw [if_pos h100] at h3
      obtain ⟨q', -, cell', g1, -, g3, -⟩ := h3
      cases hc.symm.trans g1
      rw [g3]
      rfl
    · rw [if_neg h100] at h3
      have h4 : H[q]? = some (vp_cell (cA (q_sh S (q - base + 1000)).1) (q_ct cv S (q - base + 1000))) := h3
      cases hc.symm.trans h4
      unfold q_ct
      split
      · rfl
      · split <;> rfl
theorem q_exec_body (htr : ∀ e : Env, l.admits e → e.platform.stackTraces = false) (hcv : q_cvk cv base) (hinj : ∀ a b, q_cm a = true → q_cm b = true → cv.1 a = cv.1 b → a = b) {cf : Nat → List Value → q_S → q_O} {d n : Nat} (hup : q_upf cf) (hOK : ∀ d', d = d' + 1 → q_OK l D cA cv base S0 cf d') :
    q_OK l D cA cv base S0 (fun r as S => q_run cf d n r 0 (lv_args 0 as) [] S) d := by
  intro r as S o S' hr hr7 h ho hlen
  have hcal := List.all_eq_true.mp q_cal_ok r (List.mem_range.mpr hr)
  unfold q_cal at hcal
  rw [Bool.and_eq_true, Bool.and_eq_true, Bool.and_eq_true, Bool.and_eq_true] at hcal
  obtain ⟨-, hpn, hoc, -, -⟩ := hcal
  have hpn : plainName (q_mm r).1.cls = true := by
    rw [decide_eq_false hr7, Bool.false_or] at hpn
    exact hpn
  have hoc := of_decide_eq_true hoc
  have hw : q_wC r = Jvm.Cond.code (q_mm r).1 (q_mm r).2.1 (q_mm r).2.2.1 (q_mm r).2.2.2.1 ∨ ∃ hh, q_wC r = Jvm.Cond.codeWith (q_mm r).1 (q_mm r).2.1 (q_mm r).2.2.1 (q_mm r).2.2.2.1 hh := by
    unfold q_wC
    split
    · exact Or.inl rfl
    · exact Or.inr ⟨_, rfl⟩
  refine q_MX.ofW hpn hw ?_
  intro p e s m args below meth c s₁ B hml hP
  obtain ⟨rfl, hR, hE⟩ := hP
  have h1 := hR.1
  have h2 := hR.2.1
  have hword : (q_wC r).before (as.map (q_vv cv)).toArray s = true := atoms_spec (ws := [q_wC r]) B.pre _ List.mem_cons_self
  have htab : c.exceptionTable.toList.map (fun h => (h.startPc, h.endPc, h.handlerPc, h.catchType)) = q_hx r := by
    have hcode : meth.code = some c := by
      have h := B.here.code
      rw [State.code?_eq, show s₁.vm = s.vm from by rw [B.state]; rfl, B.method] at h
      exact h
    unfold q_wC at hword
    cases hx : q_hx r with
    | nil =>
      rw [hx] at hword
      obtain ⟨meth', c', g1, g2, -, -, -, -, g7, -⟩ := Cond.code_spec B.named hword
      cases B.method.symm.trans g1
      cases hcode.symm.trans g2
      have : c.exceptionTable.toList = [] := by
        have := Array.isEmpty_iff.mp g7
        rw [this]
      rw [this]
      rfl
    | cons a b =>
      rw [hx] at hword
      obtain ⟨m9, meth', c', g0, g1, g2, -, -, g7, -, -, -⟩ := Cond.codeWith_spec hword
      cases B.named.symm.trans g0
      cases B.method.symm.trans g1
      cases hcode.symm.trans g2
      exact g7
  have hC : q_Cx r p l s m meth c D cA cv base S0 := ⟨by omega, B.exec, B.bytes, hml, B.returns, B.notSynchronized, (name_of_methodNamed B.named B.method).1, by rw [hoc]; exact findClass_of_methodNamed B.named, hE, hcv, hinj, by omega, q_nost hcv hR, htab, htr⟩
  rw [lg_entry_eq]
  have hl : lv_has ((lg_sl (as.map (q_vv cv)) ++ List.replicate ((q_mm r).2.2.1 - (lg_sl (as.map (q_vv cv))).length) Slot.unset).toArray) (q_mm r).2.2.1 (q_lm cv (lv_args 0 as)) := by
    rw [← q_lm_args]
    exact lv_entry _ (by rw [q_sl_len]; exact hlen)
  exact q_run_W (R := q_rm d S S') hC (Nat.le_refl _) (Nat.le_refl _) hup hOK (Nat.le_refl _) (Nat.le_refl _) n 0 (lv_args 0 as) [] S s.heap [] 0 0 _ h hR ho ⟨Nat.le_refl _, fun _ _ _ => rfl, fun _ h => by cases h⟩ hl (Nat.zero_add _) (Nat.zero_add _)
theorem q_exec_OK (htr : ∀ e : Env, l.admits e → e.platform.stackTraces = false) (hcv : q_cvk cv base) (hinj : ∀ a b, q_cm a = true → q_cm b = true → cv.1 a = cv.1 b → a = b) : ∀ d n, q_OK l D cA cv base S0 (q_exec d n) d := by
  intro d
  induction d with
  | zero => intro n; exact q_exec_body htr hcv hinj (fun _ _ _ _ _ h => by cases h) (fun d' h => by omega)
  | succ d ih => intro n; exact q_exec_body htr hcv hinj (q_exec_up d n) (fun d' h => by cases h; exact ih n)
end QEXE
