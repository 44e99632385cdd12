/-! THE ENDS OF A BODY: returns, switches, an exception made and thrown, one caught. -/
theorem q_find {α : Type} {P : α → Bool} {a : α} : ∀ {l : List α}, l.find? P = some a → (∃ pre post, l = pre ++ a :: post ∧ ∀ y ∈ pre, P y = false) ∧ P a = true := by
  intro l
  induction l with
  | nil => intro h; cases h
  | cons x xs ih =>
    intro h
    rw [List.find?_cons] at h
    cases hx : P x with
    | true =>
      rw [hx] at h
      cases h
      exact ⟨⟨[], xs, rfl, fun _ h => by cases h⟩, hx⟩
    | false =>
      rw [hx] at h
      obtain ⟨⟨pre, post, h1, h2⟩, h3⟩ := ih h
      exact ⟨⟨x :: pre, post, by rw [h1]; rfl, fun y hy => by
        rcases List.mem_cons.mp hy with rfl | hy
        · exact hx
        · exact h2 y hy⟩, h3⟩
def q_rw4 (e : q_I) : Bool := match e.2.1 with
  | .new _ => e.2.2.1 == 3
  | _ => true
set_option maxRecDepth 100000 in
theorem q_rc4_ok : (List.range 206).all (fun m => (q_code m).all q_rw4) = true := by decide +kernel
theorem q_new3 {k pc x len r : Nat} (hk : k < 206) (h : q_fetch k pc = some (.new x, len, r)) : len = 3 := by
  unfold q_fetch at h
  obtain ⟨q, hq, he⟩ := Option.map_eq_some_iff.mp h
  have h4 := List.all_eq_true.mp (List.all_eq_true.mp q_rc4_ok k (List.mem_range.mpr hk)) q (List.mem_of_find?_eq_some hq)
  obtain ⟨q1, q2⟩ := q
  dsimp only at he
  subst he
  exact beq_iff_eq.mp h4
section QEND
variable {p : Program} {l : Launch} {e : Env} {R : Room} {s : State} {m : MethodId} {args : Array Value} {below : List Frame} {meth : Method} {c : Code} {H : Heap} {locs : List Loc} {cells slots : Nat} {Q : State → Prop}
variable {k pc : Nat} {ls : Array Slot} {D : va_G} {cA : Nat → ClassId} {cv : q_M} {base : Nat} {S0 S S' : q_S} {r len : Nat} {i : Jvm.ClassFile.Instr} {st st' : List Value} {T : State}
theorem q_xcls (hE : q_EF D cA cv base S0 s s.heap) {ci : Nat} (h : ci < 15) : s.vm.findClass (q_cname ci) = some (D.1 ci) ∧ ∃ kk, s.vm.classes[D.1 ci]? = some kk := by
  obtain ⟨-, h1, k1, h2, -⟩ := hE.2.2.2.1.1 ci _ (q_cls_at h)
  exact ⟨h1, k1, h2⟩
theorem q_ret_W (hC : q_Cx k p l s m meth c D cA cv base S0) (hf : q_fetch k pc = some (i, 1, r)) {v : Option Value} (h : q_rt k i st = some v) (hR : q_R D cA cv base S H) (ho : q_eqo S S0) (hS : va_S (q_A base) s.heap H locs) :
    W p l e R s m args below meth c H locs cells slots (q_MQ below (q_Qc D cA cv base S0 (.returned v) S) args s cells slots (q_A base)) (F0 m pc ls (st.map (q_vv cv))) := by
  obtain ⟨hkk, hexec, hb, hml, hret, hlocks, hnm, hown, hE, hcv, hinj, hbase, hst, htab, htr⟩ := hC
  obtain ⟨hdg, hneed, hlk, hrw, hrw3⟩ := q_fetch_ok hkk hf
  have hq : ∀ (v' : Option Value) (t : State), v' = v.map (q_vv cv) → t.heap = H → s.WarmedH t.vm → q_Qc D cA cv base S0 (.returned v) S args s (.returned v') t := by
    intro v' t hv ht _
    refine ⟨by rw [hv]; rfl, by rw [ht]; exact hR, ho, by rw [ht]; exact hS.1, by rw [ht]; exact hS.2.1⟩
  unfold q_rt at h
  split at h
  · split at h
    · rename_i x ty hty
      obtain ⟨hn, h⟩ := q_is2 h
      cases h
      exact q_Wm (fun t => q_MQ.of) (W.zret hexec hb (hret.trans hty) hn (fun t => hq _ t rfl) hS.2.2 hdg hlocks)
    · cases h
  · obtain ⟨hn, h⟩ := q_is2 h
    cases h
    exact q_Wm (fun t => q_MQ.of) (W.lret hexec hb (hret.trans hn) (fun t => hq _ t rfl) hS.2.2 hdg hlocks)
  · cases h
    have key : ∃ rt, (q_mm k).2.2.2.1 = some rt ∧ ((∃ n, rt = .object n) ∨ ∃ t, rt = .array t) := by
      have h3 : q_rw3 k (pc, .areturn, 1, r) = true := hrw3
      unfold q_rw3 at h3
      dsimp only at h3
      cases hr0 : (q_mm k).2.2.2.1 with
      | none => rw [hr0] at h3; cases h3
      | some ty =>
        rw [hr0] at h3
        cases ty <;> first | (cases h3; done) | exact ⟨_, rfl, Or.inl ⟨_, rfl⟩⟩ | exact ⟨_, rfl, Or.inr ⟨_, rfl⟩⟩
    obtain ⟨rt, hr0, hrt⟩ := key
    exact q_Wm (fun t => q_MQ.of) (W.aret hexec hb (hret.trans hr0) hrt (Or.inr ⟨_, rfl⟩) (fun t => hq _ t rfl) hS.2.2 hdg hlocks)
  · obtain ⟨hn, h⟩ := q_is2 h
    cases h
    exact q_Wm (fun t => q_MQ.of) (W.vret hexec hb (hret.trans hn) (fun t => hq _ t rfl) hS.2.2 hdg hlocks)
  · cases h
theorem q_pos_of {z : Int} {t : Nat} (h : q_pos z = some t) : z = (t : Int) := by
  unfold q_pos at h
  obtain ⟨h0, h⟩ := q_is2 h
  cases h
  omega
theorem q_sw_W (hexec : p.tables.exec = Jvm.exec) {cc : ByteArray} (hb : c.code = cc) {own : Nat} (hlk : q_lk own pc i r = true) (hdg : decode cc pc = .ok (i, len)) {x : Int32} {t : Nat} (h : q_sw i pc x = some t) {rest : List Value}
    (kk : W p l e R s m args below meth c H locs cells slots Q (F0 m t ls rest)) : W p l e R s m args below meth c H locs cells slots Q (F0 m pc ls (.int x :: rest)) := by
  unfold q_sw at h
  split at h
  · split at h
    · rename_i hx
      exact lv_tableOut hexec hb hdg hx (q_pos_of h) kk
    · rename_i hx
      obtain ⟨o, ho, h⟩ := q_bs h
      exact lv_tableIn hexec hb hdg (fun z => hx (Or.inl z)) (fun z => hx (Or.inr z)) ho (q_pos_of h) kk
  · exact lv_lookup hexec hb hdg hlk rfl (q_pos_of h) kk
  · cases h
/-- an exception is made and thrown: new, dup, ldc, the constructor, athrow -/
theorem q_thr_W (hC : q_Cx k p l s m meth c D cA cv base S0) (hf : q_fetch k pc = some (i, len, r)) (hk9 : q_kd i r = 9) (hfr : 6 ≤ R.frames) (hlo : 180 ≤ R.locals) (hsum : (st.map (fun v => v.category)).sum ≤ 8) (hR : q_R D cA cv base S H) (ho : q_eqo S S0) (hS : va_S (q_A base) s.heap H locs) (hls : ls.size = (q_mm k).2.2.1) (hce : cells + 1 ≤ R.cells) (hsl : slots + 6 ≤ R.slots) :
    W p l e R s m args below meth c H locs cells slots (q_MQ below (q_Qc D cA cv base S0 (.threw (q_tp S)) (q_new S (r, 6) 6)) args s (cells + 1) (slots + 6) (q_A base)) (F0 m pc ls (st.map (q_vv cv))) := by
  obtain ⟨hkk, hexec, hb, hml, hret, hlocks, hnm, hown, hE, hcv, hinj, hbase, hst, htab, htr⟩ := hC
  obtain ⟨hdg, hneed, hlk, hrw, -⟩ := q_fetch_ok hkk hf
  cases i <;> first | (cases hk9; done) | skip
  case new x =>
    have hr10 : ¬ r < 10 := fun z => by
      unfold q_kd at hk9
      dsimp only at hk9
      rw [if_pos z] at hk9
      cases hk9
    have hrw' : (decide (r < 10) || ((q_mm k).2.2.2.2.1 == 0 && (decide (r < 15) && ((q_hx k).isEmpty && (q_is k (pc + 3) .dup 1 && (q_tx.any (fun t => q_is k (pc + 4) (.ldc t.1) 2) && (q_is k (pc + 6) (.invokespecial (q_xc r)) 3 && q_is k (pc + 9) .athrow 1))))))) = true := hrw
    rw [decide_eq_false hr10, Bool.false_or] at hrw'
    simp only [Bool.and_eq_true] at hrw'
    obtain ⟨ho0, h15, hhx, hi3, hi4, hi6, hi9⟩ := hrw'
    have h15 := of_decide_eq_true h15
    have ho0 := beq_iff_eq.mp ho0
    rw [ho0] at hown hlk
    have hown : s.vm.findClass "PolicyForge" = some m.cls := hown
    have isd : ∀ {q n : Nat} {j : Jvm.ClassFile.Instr}, q_is k q j n = true → decode (q_mm k).2.1 q = .ok (j, n) := by
      intro q n j h
      have h := of_decide_eq_true h
      obtain ⟨z, hz, he⟩ := Option.map_eq_some_iff.mp h
      obtain ⟨z1, z2, z3⟩ := z
      cases he
      exact (q_fetch_ok hkk hz).1
    obtain ⟨tx, htx, hi4⟩ := List.any_eq_true.mp hi4
    have hlen : len = 3 := q_new3 hkk hf
    subst hlen
    have hnl : q_in4 q_nl 0 x r = true := hlk
    have hclink : (Jvm.Cond.classLink "PolicyForge" x (q_cname r)).before args s = true := hE.1.1 _ (List.mem_append_right _ (q_nlink hnl)) rfl args
    have hnf : q_nf r = 6 := by
      have : r = 10 ∨ r = 11 ∨ r = 12 ∨ r = 13 ∨ r = 14 := by omega
      rcases this with rfl | rfl | rfl | rfl | rfl <;> rfl
    have hins := q_inst (c := r) (by omega)
    rw [hnf] at hins
    obtain ⟨am, ham⟩ := hE.2.2.2.2.2 tx htx
    refine W.newc hexec hb hown hclink (hE.1.1 _ hins.1 rfl args) (hE.1.1 _ hins.2 rfl args) rfl hdg hce hsl (fun cC kC h1 h2 h3 h4 => ?_)
    refine lv_dup hexec hb (isd hi3) rfl ?_
    refine va_ldcS hexec hb hown ham (isd hi4) ?_
    intro V hV X
    obtain ⟨⟨x0, x1, x2, x5⟩, hfit, hm1, hm2⟩ := q_xrow (ci := r) (by omega) h15
    have htab0 : c.exceptionTable.toList = [] := by
      rw [List.isEmpty_iff.mp hhx] at htab
      exact List.map_eq_nil_iff.mp htab
    have hca := hV ▸ (rfl : V.heap = V.heap)
    obtain ⟨U, ce, L, u1, u2, u3, u4, u5, u6, u7, u8, u9⟩ := q_throw X hexec (htr e X.admits) x0 x1 x2 x5 hown hfit (by decide +kernel) q_sup_fit (hE.xa (by omega) h15 args) hm1 hm2
      (fun y hy cell hc => hst y.base (hS.2.2 y hy) cell hc) (a := H.size) h1 h2 (by rw [hV]; simp [Array.push, freshCell]) hS.1 (msg := .ref am) rfl (g := F0 m (pc + 6) ls (.ref am :: .ref H.size :: .ref H.size :: st.map (q_vv cv))) rfl (by rw [hml]; exact hls) rfl rfl (rest := st.map (q_vv cv)) rfl (by rw [hb]; exact isd hi6) (by rw [hb]; exact isd hi9) (by rw [htab0]; intro y hy; cases hy)
      (by show 1 + 4 < R.frames; omega) (by
        have hs2 : ((st.map (q_vv cv)).map fun v => v.category).sum = (st.map (fun v => v.category)).sum := by
          rw [List.map_map]
          congr 1
          exact List.map_congr_left (fun v _ => q_vv_cat cv v)
        show 2 * 0 + (1 + ((st.map (q_vv cv)).map fun v => v.category).sum) + (13 * (1 + 2) + 42) ≤ R.locals
        rw [hs2]; omega) hlocks
    have hcls : cC = D.1 r := Option.some.inj (h1.symm.trans (q_xcls hE.1 h15).1)
    have htop := hR.top hcv
    have hH1 : U.heap.size = H.size + 1 := by rw [u1, hV]; simp
    have hH2 : ∀ q : Nat, q < H.size → U.heap[q]? = H[q]? := fun q hq => by
      rw [u1, hV, Array.getElem?_setIfInBounds]
      rw [if_neg (by omega), Array.getElem?_push]
      rw [if_neg (by omega)]
    have hH3 : U.heap[H.size]? = some ce := by
      rw [u1, hV]
      simp
    have hgr := q_grow (A := q_A base) hS hH1 hH2
    have hR' : q_R D cA cv base (q_new S (r, 6) 6) U.heap := by
      refine hR.grow hcv hgr ?_
      unfold q_at
      rw [q_new_sh]
      refine ⟨fun _ => ⟨ce, by rw [htop]; exact hH3, by rw [u2, hcls], u3⟩, fun z => absurd (show 10 ≤ r ∧ r < 100 by omega) z⟩
    refine ⟨U, u5, .threw H.size, u6, u7, ⟨by rw [← htop]; rfl, hR', ho.new hR.1, hgr.2.2.1, hgr.2.2.2.1⟩, locs ++ L, ⟨u8, u9⟩, fun q hq => ?_⟩
    rcases List.mem_append.mp hq with h | h
    · exact hS.2.2 q h
    · rw [u4 q h]
      exact Nat.le_trans hbase hS.1
/-- the search for a handler, entry by entry -/
theorem q_rowsearch (hE : q_E D cA cv base S0 s s.heap) {own : Nat} (hown : s.vm.findClass (q_cname own) = some m.cls) {pl : Platform} (hpl : pl.magicAccessors = ({} : Platform).magicAccessors) {cls : Nat} (hc1 : 10 ≤ cls) (hc2 : cls < 15) {h : Nat × Nat × Nat × Nat} :
    ∀ (ET : List ExceptionTableEntry) (hs : List (Nat × Nat × Nat × Nat)), ET.map (fun h => (h.startPc, h.endPc, h.handlerPc)) = hs.map (fun h => (h.1, h.2.1, h.2.2.1)) →
      ((ET.map (fun h => (h.startPc, h.endPc, h.handlerPc, h.catchType))).zip hs).all (fun z => decide (z.1.2.2.2 ≠ 0) && (decide (10 ≤ z.2.2.2.2) && (decide (z.2.2.2.2 < 15) && decide (Jvm.Cond.classLink (q_cname own) z.1.2.2.2 (q_cname z.2.2.2.2) ∈ tables_1)))) = true →
      hs.find? (fun h => decide (h.1 ≤ pc) && (decide (pc < h.2.1) && decide (h.2.2.2 = cls))) = some h →
      ∃ pre x post, ET = pre ++ x :: post ∧ (∀ y ∈ pre, q_RP pl s m.cls pc (D.1 cls) y) ∧ x.handlerPc = h.2.2.1 ∧ q_RC pl s m.cls pc (D.1 cls) x := by
  intro ET
  induction ET with
  | nil =>
    intro hs h1 h2 h3
    cases hs with
    | nil => cases h3
    | cons a b => cases h1
  | cons y ys ih =>
    intro hs h1 h2 h3
    cases hs with
    | nil => cases h1
    | cons a b =>
      simp only [List.map_cons, List.cons.injEq, Prod.mk.injEq] at h1
      simp only [List.map_cons, List.zip_cons_cons, List.all_cons, Bool.and_eq_true] at h2
      obtain ⟨⟨e1, e2, e3⟩, h1⟩ := h1
      obtain ⟨⟨d0, d1, d2, d3⟩, h2⟩ := h2
      have g0 := of_decide_eq_true d0
      have g1 := of_decide_eq_true d1
      have g2 := of_decide_eq_true d2
      have g3 := of_decide_eq_true d3
      obtain ⟨cT, hcT, hcl⟩ := Cond.classLink_spec (args := #[]) (first := s) (o := none) (idx := []) hown (hE.1.1 _ (List.mem_append_right _ g3) rfl #[]) pl hpl
      have hcov : covers y pc = (decide (a.1 ≤ pc) && decide (pc < a.2.1)) := by rw [← e1, ← e2]
      rw [List.find?_cons] at h3
      cases hP : (decide (a.1 ≤ pc) && (decide (pc < a.2.1) && decide (a.2.2.2 = cls))) with
      | true =>
        rw [hP] at h3
        cases h3
        simp only [Bool.and_eq_true, decide_eq_true_eq] at hP
        obtain ⟨p1, p2, p3⟩ := hP
        refine ⟨[], y, ys, rfl, (fun _ h => by cases h), e3, (by rw [hcov]; simp [p1, p2]), g0, cT, hcl, ?_⟩
        have hcast : (Jvm.Cond.castable (q_cname cls) (q_cname cls)).before #[] s = true := by
          refine hE.2.1 _ ?_
          have : cls = 10 ∨ cls = 11 ∨ cls = 12 ∨ cls = 13 ∨ cls = 14 := by omega
          rcases this with rfl | rfl | rfl | rfl | rfl <;> simp [q_xw]
        obtain ⟨c3, c4, w1, w2, w3⟩ := Cond.castable_spec hcast
        have hx := (q_xcls hE.1 hc2).1
        rw [p3] at hcT
        cases hx.symm.trans hcT
        cases hx.symm.trans w1
        cases hx.symm.trans w2
        exact w3
      | false =>
        rw [hP] at h3
        obtain ⟨pre, x, post, i1, i2, i4, i5⟩ := ih b h1 h2 h3
        refine ⟨y :: pre, x, post, by rw [i1]; rfl, fun z hz => ?_, i4, i5⟩
        rcases List.mem_cons.mp hz with rfl | hz
        · by_cases hcv2 : covers z pc = true
          · rw [hcov] at hcv2
            rw [Bool.and_eq_true] at hcv2
            have hne : a.2.2.2 ≠ cls := by
              intro q
              rw [hcv2.1, hcv2.2, decide_eq_true q] at hP
              cases hP
            refine Or.inr ⟨g0, cT, hcl, ?_⟩
            obtain ⟨x1, x2, n1, n2, n3⟩ := hE.2.2.1 cls a.2.2.2 hc1 hc2 g1 g2 (fun q => hne q.symm)
            cases (q_xcls hE.1 hc2).1.symm.trans n1
            cases hcT.symm.trans n2
            exact n3
          · exact Or.inl (by simpa using hcv2)
        · exact i2 z hz
/-- caught -/
theorem q_catch (hC : q_Cx k p l s m meth c D cA cv base S0) (hk : k < 205) {U : State} {L : List Loc} {cells slots : Nat} (X : Stand p l e R s m args below meth c U L cells slots) (hR : q_R D cA cv base S U.heap) {x h : Nat} (hx : 1000 ≤ x) (hh : q_hs k pc (q_sh S x).1 = some h) {rest : List Value} :
    ∃ vm', Stand p l e R s m args below meth c (U.setVm vm') L cells slots ∧ ∀ target, Steps p.tables e below ((U.setVm vm').setTop (F0 m h ls [.ref (cv.1 x)])) target → Steps p.tables e below ((U.setTop (F0 m pc ls rest)).pushFrame (.throwing (cv.1 x))) target := by
  obtain ⟨hkk, hexec, hb, hml, hret, hlocks, hnm, hown, hE, hcv, hinj, hbase, hst, htab, htr⟩ := hC
  have hpl : e.platform.magicAccessors = ({} : Platform).magicAccessors := by rw [X.admits.platform]
  unfold q_hs at hh
  obtain ⟨hd, hfd, he⟩ := Option.map_eq_some_iff.mp hh
  have hok := List.all_eq_true.mp q_hok_ok k (List.mem_range.mpr hk)
  unfold q_hok at hok
  rw [Bool.and_eq_true] at hok
  have ok1 := of_decide_eq_true hok.1
  have ok2 := hok.2
  rw [← htab] at ok1 ok2
  rw [List.map_map] at ok1
  obtain ⟨⟨pr, po, hsp, -⟩, hP⟩ := q_find hfd
  simp only [Bool.and_eq_true, decide_eq_true_eq] at hP
  have hmem : hd ∈ (q_mm k).2.2.2.2.2.2.2 := by rw [hsp]; exact List.mem_append_right _ List.mem_cons_self
  have hcl : 10 ≤ (q_sh S x).1 ∧ (q_sh S x).1 < 15 := by
    have hlen : (c.exceptionTable.toList.map (fun h => (h.startPc, h.endPc, h.handlerPc, h.catchType))).length = (q_mm k).2.2.2.2.2.2.2.length := by
      have := congrArg List.length ok1
      simpa using this
    obtain ⟨j, hj, hjd⟩ := List.getElem_of_mem hmem
    have hz : (((c.exceptionTable.toList.map (fun h => (h.startPc, h.endPc, h.handlerPc, h.catchType)))[j]'(by rw [hlen]; exact hj)), hd) ∈ (c.exceptionTable.toList.map (fun h => (h.startPc, h.endPc, h.handlerPc, h.catchType))).zip (q_mm k).2.2.2.2.2.2.2 := by
      rw [List.mem_iff_getElem]
      refine ⟨j, by rw [List.length_zip, hlen]; omega, ?_⟩
      rw [List.getElem_zip, hjd]
    have := List.all_eq_true.mp ok2 _ hz
    simp only [Bool.and_eq_true, decide_eq_true_eq] at this
    rw [← hP.2.2]
    exact ⟨this.2.1, this.2.2.1⟩
  obtain ⟨cell, c1, c2, c3⟩ := (hR.2.2.1 x hx (hR.lt (by omega))).1 ⟨hcl.1, by omega⟩
  obtain ⟨pre, y, post, i1, i2, i4, i5⟩ := q_rowsearch (pc := pc) (m := m) hE hown hpl hcl.1 hcl.2 c.exceptionTable.toList _ ok1 ok2 hfd
  obtain ⟨vm', XV, hsteps⟩ := q_caught X (cv.1 x) (g := F0 m pc ls rest) rfl c1 (by rw [c3]; rfl) (by rw [c2]; exact (q_xcls hE.1 hcl.2).2) pre y post i1 (by rw [c2]; exact i2) (by rw [c2]; exact i5)
  refine ⟨vm', XV, fun target ht => ?_⟩
  refine hsteps target ?_
  rw [i4, he]
  exact ht
end QEND
