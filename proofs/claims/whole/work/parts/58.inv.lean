/-! A METHOD'S BODY, from any place: what the pure machine answers, the machine does. -/
def q_out (cv : q_M) (o : Outcome) : Outcome := match o with
  | .returned v => .returned (v.map (q_vv cv))
  | .threw x => .threw (cv.1 x)
def q_Pc (D : va_G) (cA : Nat → ClassId) (cv : q_M) (base : Nat) (S0 : q_S) (as : List Value) (S : q_S) : Array Value → State → Prop := fun a U => a = (as.map (q_vv cv)).toArray ∧ q_R D cA cv base S U.heap ∧ q_E D cA cv base S0 U U.heap
def q_Qc (D : va_G) (cA : Nat → ClassId) (cv : q_M) (base : Nat) (S0 : q_S) (o : Outcome) (S' : q_S) : Array Value → State → Outcome → State → Prop := fun _ U o' t => o' = q_out cv o ∧ q_R D cA cv base S' t.heap ∧ q_eqo S' S0 ∧ U.heap.size ≤ t.heap.size ∧ ∀ q : Nat, q < U.heap.size → ¬ q_A base q → t.heap[q]? = U.heap[q]?
def q_rm (d : Nat) (S S' : q_S) : Room := { frames := d, cells := q_tp S' - q_tp S, slots := q_sm S' - q_sm S, locals := 30 * d }
def q_OK (l : Launch) (D : va_G) (cA : Nat → ClassId) (cv : q_M) (base : Nat) (S0 : q_S) (cf : Nat → List Value → q_S → q_O) (d : Nat) : Prop :=
  ∀ r as S o S', r < 205 → r ≠ 27 → cf r as S = some (o, S') → q_eqo S S0 → (lg_sl as).length ≤ (q_mm r).2.2.1 →
    q_MX l (q_mm r).1 [q_wC r] (q_rm d S S') (q_Pc D cA cv base S0 as S) (q_Qc D cA cv base S0 o S') (q_tp S' - q_tp S) (q_sm S' - q_sm S) (q_A base)
/-- what a body's walk leans on -/
def q_Cx (k : Nat) (p : Program) (l : Launch) (s : State) (m : MethodId) (meth : Method) (c : Code) (D : va_G) (cA : Nat → ClassId) (cv : q_M) (base : Nat) (S0 : q_S) : Prop :=
  k < 206 ∧ p.tables.exec = Jvm.exec ∧ c.code = (q_mm k).2.1 ∧ c.maxLocals = (q_mm k).2.2.1 ∧ meth.sig.returnType = (q_mm k).2.2.2.1 ∧ meth.locks = false ∧ meth.name = (q_mm k).1.name ∧ s.vm.findClass (q_cname (q_mm k).2.2.2.2.1) = some m.cls ∧ q_E D cA cv base S0 s s.heap ∧
  q_cvk cv base ∧ (∀ a b, q_cm a = true → q_cm b = true → cv.1 a = cv.1 b → a = b) ∧ base ≤ s.heap.size ∧ (∀ q : Nat, base ≤ q → ∀ cell, s.heap[q]? = some cell → cell.vm.isStatics = false) ∧ c.exceptionTable.toList.map (fun h => (h.startPc, h.endPc, h.handlerPc, h.catchType)) = q_hx k ∧ (∀ e : Env, l.admits e → e.platform.stackTraces = false)
theorem q_br_lk {own pc r : Nat} {i : Jvm.ClassFile.Instr} (hk : q_kd i r = 1) (h : q_lk own pc i r = true) : ∃ off, q_off i = some off ∧ (pc : Int) + off = (r : Int) := by
  cases i <;> first | (cases hk; done) | exact ⟨_, rfl, of_decide_eq_true h⟩ | (unfold q_kd at hk; dsimp only at hk; split at hk <;> cases hk; done)
theorem q_args {cv : q_M} (st : List Value) (n : Nat) : st.map (q_vv cv) = ((st.take n).reverse.map (q_vv cv)).reverse ++ (st.drop n).map (q_vv cv) := by
  rw [← List.map_reverse, List.reverse_reverse, ← List.map_append, List.take_append_drop]
theorem q_argsV {cv : q_M} {st : List Value} {n b : Nat} (hb : st[n]? = some (.ref b)) : (st.take (n + 1)).reverse.map (q_vv cv) = .ref (cv.1 b) :: (st.take n).reverse.map (q_vv cv) ∧ st.map (q_vv cv) = ((st.take n).reverse.map (q_vv cv)).reverse ++ .ref (cv.1 b) :: (st.drop (n + 1)).map (q_vv cv) := by
  have h1 : (st.take (n + 1)).reverse = .ref b :: (st.take n).reverse := by
    rw [List.take_add_one, hb]
    simp
  refine ⟨by rw [h1]; rfl, ?_⟩
  rw [q_args st (n + 1), h1]
  simp [q_vv]
theorem q_sl_len {cv : q_M} (as : List Value) : (lg_sl (as.map (q_vv cv))).length = (lg_sl as).length := by
  induction as with
  | nil => rfl
  | cons v vs ih =>
    unfold lg_sl at ih ⊢
    rw [List.map_cons, List.flatMap_cons, List.flatMap_cons, List.length_append, List.length_append, ih, q_vv_cat]
    split <;> rfl
theorem q_lm_args {cv : q_M} : ∀ (as : List Value) (k : Nat), lv_args k (as.map (q_vv cv)) = q_lm cv (lv_args k as) := by
  intro as
  induction as with
  | nil => intro k; rfl
  | cons v vs ih =>
    intro k
    show (k, q_vv cv v) :: lv_args (if (q_vv cv v).category = 2 then k + 2 else k + 1) (vs.map (q_vv cv)) = (k, q_vv cv v) :: q_lm cv (lv_args (if v.category = 2 then k + 2 else k + 1) vs)
    rw [q_vv_cat, ih]
section QRUN
variable {p : Program} {l : Launch} {e : Env} {R : Room} {s : State} {m : MethodId} {args : Array Value} {below : List Frame} {meth : Method} {c : Code} {H : Heap} {locs : List Loc} {cells slots : Nat} {Q : State → Prop}
variable {k pc : Nat} {ls : Array Slot} {D : va_G} {cA : Nat → ClassId} {cv : q_M} {base : Nat} {S0 S S' : q_S} {r len : Nat} {i : Jvm.ClassFile.Instr} {st st' : List Value} {T : State}
/-- the receiver's cell -/
theorem q_recv (hE : q_EF D cA cv base S0 s s.heap) (ho : q_eqo S S0) (hR : q_R D cA cv base S H) (hS : va_S (q_A base) s.heap H locs) {b ci : Nat} (hsh : (q_sh S b).1 = ci) (hw : 1000 ≤ b ↔ ci < 10) (hci : ci < 10 ∨ ci = 15 ∨ ci = 16) : ∃ cell : Cell, H[cv.1 b]? = some cell ∧ cell.vm.isStatics = false ∧ s.vm.findClass (q_cname ci) = some cell.cls := by
  rcases Nat.lt_or_ge ci 10 with h10 | h10
  · have h := q_obj hR (hw.mpr h10) (q_shp hsh) h10
    obtain ⟨q', h1, cell, g1, g2, g3, -⟩ := h
    have hq : q' = (q_cname ci, q_T ci, q_nf ci) := Option.some.inj (h1.symm.trans (q_cls_at (by omega)))
    exact ⟨cell, g1, by rw [g3]; rfl, by rw [g2]; exact (hE.2.2.2.1.1 ci _ (q_cls_at (by omega))).2.1⟩
  · have hb : b < 1000 := Nat.not_le.mp fun z => by have := hw.mp z; omega
    have hs0 := ho b hb
    have h0 : (q_sh S0 b).1 = ci := by rw [← hs0.1]; exact hsh
    have h1 := ((hE.2.2.2.2.2.1 b hb).1 (by rw [h0]; omega)).1
    rw [h0] at h1
    exact va_Orecv h1 hS
/-- the invoking instruction: it comes to the callee's invocation -/
theorem q_inv (hC : q_Cx k p l s m meth c D cA cv base S0) (hf : q_fetch k pc = some (i, 3, r)) (hk6 : q_kd i r = 6) (hr : r < 205) (hr7 : r ≠ 27) (hnp : (q_mm r).2.2.2.2.2.1 ≤ st.length) (hrcv : q_rcv r st S = true) (ho : q_eqo S S0) (hR : q_R D cA cv base S H) (hS : va_S (q_A base) s.heap H locs) (X : Stand p l e R s m args below meth c T locs cells slots) (hT : T.heap = H) :
    q_Inv p l e R s m args below meth c T locs cells slots (F0 m pc ls (st.map (q_vv cv))) ((st.drop (q_mm r).2.2.2.2.2.1).map (q_vv cv)) (q_mm r).1 (q_mm r).2.2.1 ((st.take (q_mm r).2.2.2.2.2.1).reverse.map (q_vv cv)).toArray := by
  obtain ⟨hkk, hexec, hb, hml, hret, hlocks, hnm, hown, hE, hcv, hinj, hbase, hst, htab, htr⟩ := hC
  obtain ⟨hdg, hneed, hlk, hrw, -⟩ := q_fetch_ok hkk hf
  have hcal := List.all_eq_true.mp q_cal_ok r (List.mem_range.mpr hr)
  have hsel := List.all_eq_true.mp q_sl2_ok r (List.mem_range.mpr hr)
  have hini : (Jvm.Cond.initialized (q_mm r).1.cls).before args s = true := hE.1.1 _ (List.mem_append_right _ (of_decide_eq_true (List.all_eq_true.mp q_ini_ok r (List.mem_range.mpr hr)))) rfl args
  have hgd := List.all_eq_true.mp q_good_ok r (List.mem_range.mpr hr)
  rw [Bool.and_eq_true] at hgd
  have hmp := q_mps r hr
  have hwC : (q_wC r).before args s = true := hE.1.1 _ (List.mem_append_right _ hmp.1) hgd.1 args
  have hwI : (q_wI r).before args s = true := hE.1.1 _ (List.mem_append_right _ hmp.2) hgd.2 args
  have hyl : r = 64 ∨ q_yl r = (q_mm r).1 := by
    have := List.all_eq_true.mp q_yl_ok r (List.mem_range.mpr hr)
    rw [Bool.or_eq_true] at this
    rcases this with h | h
    · exact Or.inl (of_decide_eq_true h)
    · exact Or.inr (of_decide_eq_true h)
  unfold q_cal at hcal
  rw [Bool.and_eq_true, Bool.and_eq_true, Bool.and_eq_true, Bool.and_eq_true] at hcal
  obtain ⟨hmh, -, -, -, hpar⟩ := hcal
  have hmh := of_decide_eq_true hmh
  have h98 : (r == 9998) = false := beq_false_of_ne (by omega)
  have hlen3 : (st.take (q_mm r).2.2.2.2.2.1).length = (q_mm r).2.2.2.2.2.1 := by rw [List.length_take]; omega
  have fns : ∀ {x : Nat}, q_in3 q_ml (q_mm k).2.2.2.2.1 x r = true → (¬ (r = 1 ∨ r = 2 ∨ r = 4)) → (Jvm.Cond.methodLink (q_cname (q_mm k).2.2.2.2.1) x (q_yl r)).before args s = true := by
    intro x h3 hn
    obtain ⟨nest, hlm, hns⟩ := q_mlink h3
    cases nest with
    | true => exact absurd (hns rfl) hn
    | false => exact hE.1.1 _ (List.mem_append_right _ hlm) rfl args
  cases i <;> first | (cases hk6; done) | (unfold q_kd at hk6; dsimp only at hk6; split at hk6 <;> cases hk6; done) | skip
  case invokestatic x =>
    have h3 : q_in3 q_ml (q_mm k).2.2.2.2.1 x r = true := by
      have : (r == 9998 || q_in3 q_ml (q_mm k).2.2.2.2.1 x r) = true := hlk
      rw [h98, Bool.false_or] at this
      exact this
    have hrc : (q_mm r).2.2.2.2.2.2.1 = 0 := by
      have : (r == 9998 || (decide (r < 205) && (q_mm r).2.2.2.2.2.2.1 == 0)) = true := hrw
      rw [h98, Bool.false_or, Bool.and_eq_true] at this
      exact beq_iff_eq.mp this.2
    have hlink := fns h3 (fun z => by
      obtain ⟨-, -, -, n1, n2, n3⟩ := q_ns3
      rcases z with rfl | rfl | rfl
      · exact n1 hrc
      · exact n2 hrc
      · exact n3 hrc)
    have hy : q_yl r = (q_mm r).1 := by
      rcases hyl with rfl | h
      · exact absurd hrc (by decide +kernel)
      · exact h
    rw [hy] at hlink
    rw [hrc] at hpar
    have hpar := of_decide_eq_true hpar
    have hlen : ∀ sig, parseMethodDescriptor (q_mm r).1.desc = some sig → ((st.take (q_mm r).2.2.2.2.2.1).reverse.map (q_vv cv)).length = sig.parameters.length := by
      intro sig hs
      rw [hs] at hpar
      rw [List.length_map, List.length_reverse, hlen3]
      exact (Option.some.inj hpar).symm
    unfold q_wI at hwI
    rw [hrc] at hwI
    unfold q_wC at hwC
    have hdg' : decode c.code pc = .ok (.invokestatic x, 3) := by rw [hb]; exact hdg
    cases hx : q_hx r with
    | nil =>
      rw [hx] at hwC
      exact q_invS X hexec hown hlink hwI hini hwC hmh rfl hlen (q_args st _) hdg'
    | cons a b =>
      rw [hx] at hwC
      exact q_invSW X hexec hown hlink hwI hini hwC hmh rfl hlen (q_args st _) hdg'
  case invokevirtual x =>
    have h3 : q_in3 q_ml (q_mm k).2.2.2.2.1 x r = true := by
      have : (r == 9998 || q_in3 q_ml (q_mm k).2.2.2.2.1 x r) = true := hlk
      rw [h98, Bool.false_or] at this
      exact this
    have hrc : 0 < (q_mm r).2.2.2.2.2.2.1 ∧ ¬ (q_mm r).1.name = "<init>" := by
      have : (r == 9998 || (decide (r < 205) && (decide (0 < (q_mm r).2.2.2.2.2.2.1) && !((q_mm r).1.name == "<init>")))) = true := hrw
      rw [h98, Bool.false_or, Bool.and_eq_true, Bool.and_eq_true] at this
      refine ⟨of_decide_eq_true this.2.1, fun z => ?_⟩
      have h2 := this.2.2
      rw [z] at h2
      exact absurd h2 (by decide)
    have hlink := fns h3 (fun z => by
      obtain ⟨n1, n2, n3, -, -, -⟩ := q_ns3
      rcases z with rfl | rfl | rfl
      · exact hrc.2 n1
      · exact hrc.2 n2
      · exact hrc.2 n3)
    obtain ⟨ci, hci⟩ : ∃ ci, (q_mm r).2.2.2.2.2.2.1 = ci + 1 := ⟨(q_mm r).2.2.2.2.2.2.1 - 1, by omega⟩
    have hcr : ci < 10 ∨ ci = 15 ∨ ci = 16 := by
      have := List.all_eq_true.mp q_rv_ok r (List.mem_range.mpr hr)
      rw [hci] at this
      simp only [Bool.or_eq_true, decide_eq_true_eq] at this
      omega
    rw [hci, Bool.and_eq_true, Bool.and_eq_true] at hpar
    obtain ⟨hhx, hnp1, hpar⟩ := hpar
    have hnp1 := of_decide_eq_true hnp1
    have hpar := of_decide_eq_true hpar
    obtain ⟨np, hnpe⟩ : ∃ np, (q_mm r).2.2.2.2.2.1 = np + 1 := ⟨(q_mm r).2.2.2.2.2.1 - 1, by omega⟩
    unfold q_rcv at hrcv
    rw [hci, hnpe, Nat.add_sub_cancel] at hrcv
    dsimp only at hrcv
    split at hrcv
    · rename_i b hbst
      rw [Bool.and_eq_true] at hrcv
      obtain ⟨cell, hc1, hc2, hc3⟩ := q_recv hE.1 ho hR hS (of_decide_eq_true hrcv.1) (of_decide_eq_true hrcv.2) hcr
      obtain ⟨ha1, ha2⟩ := q_argsV (cv := cv) hbst
      rw [hnpe, Nat.add_sub_cancel] at hpar
      have hlen : ∀ sig, parseMethodDescriptor (q_mm r).1.desc = some sig → ((st.take np).reverse.map (q_vv cv)).length = sig.parameters.length := by
        intro sig hs
        rw [hs] at hpar
        rw [List.length_map, List.length_reverse, List.length_take, Nat.min_eq_left (by omega)]
        exact (Option.some.inj hpar).symm
      have hdg' : decode c.code pc = .ok (.invokevirtual x, 3) := by rw [hb]; exact hdg
      unfold q_wI at hwI
      rw [hci] at hwI
      unfold q_wC at hwC
      rw [List.isEmpty_iff.mp hhx] at hwC
      have hsel' : (Jvm.Cond.selects (q_cname ci) (q_yl r) (q_mm r).1).before args s = true := by
        unfold q_sl2 at hsel
        rw [hci] at hsel
        dsimp only at hsel
        rw [Bool.or_eq_true] at hsel
        rcases hsel with h | h
        · exact absurd (beq_iff_eq.mp h) hrc.2
        · exact hE.1.1 _ (of_decide_eq_true h) rfl args
      rw [hnpe, ha1]
      rcases hyl with rfl | hy
      · obtain ⟨y1, y2⟩ := q_64
        have hlen' : ∀ sig, parseMethodDescriptor (q_yl 64).desc = some sig → ((st.take np).reverse.map (q_vv cv)).length = sig.parameters.length := by
          rw [y2]
          rw [y1] at hlen
          exact hlen
        have hd0 : va_Decl s ⟨"java/lang/Enum", (q_yl 64).name, (q_yl 64).desc⟩ := by
          rw [y2]
          rw [y1] at hwI hwC
          exact va_Decl.of hwI hwC
        have hsm : (Jvm.Cond.sameMethod (q_yl 64).cls "java/lang/Enum" (q_yl 64).name (q_yl 64).desc).before args s = true := by
          rw [y2]
          exact hE.1.1 _ (List.mem_append_right _ q_misc.1) rfl args
        exact q_invU X hexec hown hlink hsm hd0 (by decide) hsel' hwI hwC (by rw [hT]; exact hc1) hc2 hc3 rfl hlen' ha2 hdg'
      · rw [hy] at hlink hsel'
        exact q_invV X hexec hown hlink hwI hsel' hwC hmh (by rw [hT]; exact hc1) hc2 hc3 rfl hlen ha2 hdg'
    · cases hrcv
  case invokespecial x =>
    have h3 : q_in3 q_ml (q_mm k).2.2.2.2.1 x r = true := by
      have : (r == 9998 || q_in3 q_ml (q_mm k).2.2.2.2.1 x r) = true := hlk
      rw [h98, Bool.false_or] at this
      exact this
    have hrc : 0 < (q_mm r).2.2.2.2.2.2.1 ∧ (q_mm r).1.name = "<init>" ∧ (q_mm r).2.2.2.1 = none := by
      have : (decide (205 ≤ r) || (decide (0 < (q_mm r).2.2.2.2.2.2.1) && ((q_mm r).1.name == "<init>" && decide ((q_mm r).2.2.2.1 = none)))) = true := hrw
      rw [decide_eq_false (by omega), Bool.false_or, Bool.and_eq_true, Bool.and_eq_true] at this
      exact ⟨of_decide_eq_true this.1, beq_iff_eq.mp this.2.1, of_decide_eq_true this.2.2⟩
    obtain ⟨ci, hci⟩ : ∃ ci, (q_mm r).2.2.2.2.2.2.1 = ci + 1 := ⟨(q_mm r).2.2.2.2.2.2.1 - 1, by omega⟩
    rw [hci, Bool.and_eq_true, Bool.and_eq_true] at hpar
    obtain ⟨hhx, hnp1, hpar⟩ := hpar
    have hnp1 := of_decide_eq_true hnp1
    have hpar := of_decide_eq_true hpar
    obtain ⟨np, hnpe⟩ : ∃ np, (q_mm r).2.2.2.2.2.1 = np + 1 := ⟨(q_mm r).2.2.2.2.2.1 - 1, by omega⟩
    unfold q_rcv at hrcv
    rw [hci, hnpe, Nat.add_sub_cancel] at hrcv
    dsimp only at hrcv
    split at hrcv
    · rename_i b hbst
      obtain ⟨ha1, ha2⟩ := q_argsV (cv := cv) hbst
      rw [hnpe, Nat.add_sub_cancel] at hpar
      have hlen : ∀ sig, parseMethodDescriptor (q_mm r).1.desc = some sig → ((st.take np).reverse.map (q_vv cv)).length = sig.parameters.length := by
        intro sig hs
        rw [hs] at hpar
        rw [List.length_map, List.length_reverse, List.length_take, Nat.min_eq_left (by omega)]
        exact (Option.some.inj hpar).symm
      have hdg' : decode c.code pc = .ok (.invokespecial x, 3) := by rw [hb]; exact hdg
      unfold q_wI at hwI
      rw [hci] at hwI
      unfold q_wC at hwC
      rw [List.isEmpty_iff.mp hhx] at hwC
      dsimp only at hwC
      rw [hrc.2.2] at hwC
      have hy : q_yl r = (q_mm r).1 := by
        rcases hyl with rfl | h
        · exact absurd hrc.2.1 (by decide +kernel)
        · exact h
      obtain ⟨nest, hlm, -⟩ := q_mlink h3
      rw [hy] at hlm
      rw [hnpe, ha1]
      cases nest with
      | true =>
        have hlink := hE.1.2.1 _ hlm rfl args
        exact q_invIN X hexec hown hrc.2.1 hlink hwI hwC hmh rfl hlen ha2 hdg'
      | false =>
        have hlink := hE.1.1 _ (List.mem_append_right _ hlm) rfl args
        exact q_invI X hexec hown hrc.2.1 hlink hwI hwC hmh rfl hlen ha2 hdg'
    · cases hrcv
end QRUN
