/-! THE SEARCH FOR A HANDLER through catch types that may never have been looked up, and the chain of an exception's constructors with entries of its own: over the library's laws of one step. -/
section QCLD
variable {e : Env} {s : State} {f : JFrame} {a : Addr}
/-- one entry that covers the place: its class is looked up and noted; it takes the object, or the search goes on -/
theorem q_go1 {Q : Handler → Pre} {E : CtlPost} {d : Bool} {acts : List Action} {y : ExceptionTableEntry} {ys : List ExceptionTableEntry} {c : ClassId} {cell : Cell} (hy : covers y f.pc = true) (h0 : y.catchType ≠ 0) (hl : s.vm.ClassLinks e.platform f.method.cls y.catchType c) (hcell : s.heap[a]? = some cell) (hobj : ∀ k, cell.vm ≠ .statics k) (hk : ∃ k, s.vm.classes[cell.cls]? = some k) (hc : ∃ k, s.vm.classes[c]? = some k) :
    wp (findHandler.go f a (y :: ys)) Q E e d acts s ↔ if s.vm.assignable cell.cls c = true then Q (.found y.handlerPc) d acts (s.setVm (s.vm.noted f.method.cls y.catchType (.cls c))) else wp (findHandler.go f a ys) Q E e d acts (s.setVm (s.vm.noted f.method.cls y.catchType (.cls c))) := by
  have hal : s.vm.Alike (s.vm.noted f.method.cls y.catchType (.cls c)) := (Vm.Alike.refl s.vm).noted _ _ _
  obtain ⟨g1, g2⟩ := (resolveClass_links e.toSetting hl).op (op := VmOp.resolveClass f.method.cls y.catchType) rfl
  obtain ⟨k1, hk1⟩ := hk
  obtain ⟨k2, hk2⟩ := hc
  obtain ⟨j1, hj1, -⟩ := hal.2.2 _ _ hk1
  obtain ⟨j2, hj2, -⟩ := hal.2.2 _ _ hk2
  have hay := hal.assignable cell.cls c
  simp only [covers] at hy
  cases ha : s.vm.assignable cell.cls c <;> rw [ha] at hay <;> simp [findHandler.go, hy, h0, g1, g2, hcell, hobj, hj1, hj2, hay, VmOp.dirties, VmOp.acts]
/-- an entry that lets the object of that class pass -/
def q_RP (pl : Platform) (s0 : State) (own : ClassId) (pc : Nat) (thr : ClassId) (y : ExceptionTableEntry) : Prop := covers y pc = false ∨ (y.catchType ≠ 0 ∧ ∃ c, s0.vm.ClassLinks pl own y.catchType c ∧ s0.vm.assignable thr c = false)
/-- an entry that takes it -/
def q_RC (pl : Platform) (s0 : State) (own : ClassId) (pc : Nat) (thr : ClassId) (y : ExceptionTableEntry) : Prop := covers y pc = true ∧ y.catchType ≠ 0 ∧ ∃ c, s0.vm.ClassLinks pl own y.catchType c ∧ s0.vm.assignable thr c = true
theorem q_gos {s0 : State} {cell : Cell} (hobj : ∀ k, cell.vm ≠ .statics k) (hk0 : ∃ k, s0.vm.classes[cell.cls]? = some k) {y : ExceptionTableEntry} {post : List ExceptionTableEntry} (hy : q_RC e.platform s0 f.method.cls f.pc cell.cls y) :
    ∀ (pre : List ExceptionTableEntry) (U : State), s0.WarmedH U.vm → U.heap[a]? = some cell → (∀ z ∈ pre, q_RP e.platform s0 f.method.cls f.pc cell.cls z) →
      ∃ vm', s0.WarmedH vm' ∧ ∀ (Q : Handler → Pre) (E : CtlPost) (d : Bool) (acts : List Action), wp (findHandler.go f a (pre ++ y :: post)) Q E e d acts U ↔ Q (.found y.handlerPc) d acts (U.setVm vm') := by
  obtain ⟨k0, hk0⟩ := hk0
  have look : ∀ (z : ExceptionTableEntry) (c : ClassId) (U : State), s0.WarmedH U.vm → s0.vm.ClassLinks e.platform f.method.cls z.catchType c → s0.WarmedH (U.vm.noted f.method.cls z.catchType (.cls c)) ∧ U.vm.ClassLinks e.platform f.method.cls z.catchType c ∧ (∃ k, U.vm.classes[cell.cls]? = some k) ∧ (∃ k, U.vm.classes[c]? = some k) ∧ U.vm.assignable cell.cls c = s0.vm.assignable cell.cls c := by
    intro z c U hW hl
    obtain ⟨dk, _, _, kt, hd, _, _, _, _, hkt, _, hopen⟩ := hl.here
    obtain ⟨k1, hk1, -⟩ := hW.alike.2.2 _ _ hk0
    obtain ⟨k2, hk2, -⟩ := hW.alike.2.2 _ _ hkt
    exact ⟨hW.noted hd hopen (State.rightAt_cls hl), hW.classLinks hl, ⟨k1, hk1⟩, ⟨k2, hk2⟩, hW.alike.assignable _ _⟩
  intro pre
  induction pre with
  | nil =>
    intro U hW hcell _
    obtain ⟨hcov, h0, c, hl, hfit⟩ := hy
    obtain ⟨l1, l2, l3, l4, l5⟩ := look y c U hW hl
    refine ⟨_, l1, fun Q E d acts => ?_⟩
    rw [List.nil_append, q_go1 hcov h0 l2 hcell hobj l3 l4, l5, if_pos hfit]
  | cons z zs ih =>
    intro U hW hcell hpass
    have hrest : ∀ w ∈ zs, q_RP e.platform s0 f.method.cls f.pc cell.cls w := fun w hw => hpass w (List.mem_cons_of_mem _ hw)
    cases hcov : covers z f.pc with
    | false =>
      obtain ⟨vm', h1, h2⟩ := ih U hW hcell hrest
      refine ⟨vm', h1, fun Q E d acts => ?_⟩
      rw [List.cons_append, W.findHandler_go_skip hcov]
      exact h2 Q E d acts
    | true =>
      rcases hpass z List.mem_cons_self with h | ⟨h0, c, hl, hno⟩
      · rw [h] at hcov; cases hcov
      · obtain ⟨l1, l2, l3, l4, l5⟩ := look z c U hW hl
        obtain ⟨vm', h1, h2⟩ := ih (U.setVm (U.vm.noted f.method.cls z.catchType (.cls c))) l1 hcell hrest
        refine ⟨vm', h1, fun Q E d acts => ?_⟩
        rw [List.cons_append, q_go1 hcov h0 l2 hcell hobj l3 l4, l5, if_neg (by rw [hno]; decide)]
        exact h2 Q E d acts
end QCLD
section QCLS
variable {p : Program} {l : Launch} {e : Env} {R : Room} {s : State} {m : MethodId} {args : Array Value} {below : List Frame} {meth : Method} {c : Code} {T : State} {locs : List Loc} {cells slots : Nat}
/-- caught in the method: it goes on at the handler, the reference alone on the stack -/
theorem q_caught (X : Stand p l e R s m args below meth c T locs cells slots) (a : Addr) {g : JFrame} (hg : g.method = m) {cell : Cell} (hcell : T.heap[a]? = some cell) (hobj : cell.vm.isStatics = false) (hk0 : ∃ k, s.vm.classes[cell.cls]? = some k) (pre : List ExceptionTableEntry) (y : ExceptionTableEntry) (post : List ExceptionTableEntry) (hsp : c.exceptionTable.toList = pre ++ y :: post)
    (hpass : ∀ z ∈ pre, q_RP e.platform s m.cls g.pc cell.cls z) (hy : q_RC e.platform s m.cls g.pc cell.cls y) :
    ∃ vm', Stand p l e R s m args below meth c (T.setVm vm') locs cells slots ∧ ∀ target, Steps p.tables e below ((T.setVm vm').setTop { g with pc := y.handlerPc, stack := [.ref a] }) target → Steps p.tables e below ((T.setTop g).pushFrame (.throwing a)) target := by
  subst hg
  obtain ⟨vm', hW', hq⟩ := q_gos (e := e) (f := g) (a := a) (VmData.ne_statics_of hobj) hk0 (post := post) hy pre ((T.setTop g).pushFrame (.throwing a)) (by rw [Stand.throwing_vm]; exact X.warmed) (by rw [Stand.throwing_heap]; exact hcell) hpass
  refine ⟨vm', X.noted hW', fun target hrest => ?_⟩
  obtain ⟨hgo, hw⟩ := X.here.throwing a
  refine Steps.head hgo hw ?_
  have hm : ((T.setTop g).pushFrame (.throwing a)).vm.method? g.method = some meth := by rw [Stand.throwing_vm]; exact X.method'
  have hfind : ∀ (Q : Handler → Pre) (E : CtlPost) (d : Bool) (acts : List Action), wp (findHandler g a) Q E e d acts ((T.setTop g).pushFrame (.throwing a)) ↔ Q (.found y.handlerPc) d acts (((T.setTop g).pushFrame (.throwing a)).setVm vm') := fun Q E d acts => by
    rw [W.findHandler_eq hm X.code, hsp]
    exact hq Q E d acts
  have hfr := frames_entered (s := T) (g := g) X.here.top (.throwing a)
  have hstep : (stepThrowing e ((T.setTop g).pushFrame (.throwing a)) a (.java g :: T.frames.tail)).Is ((((T.setTop g).pushFrame (.throwing a)).setVm vm').setFrames (.java { g with pc := y.handlerPc, stack := [.ref a] } :: T.frames.tail)) [] := by
    simp only [stepThrowing, searchFrame, vmDo]
    generalize hr : Sem.go _ e false [] ((T.setTop g).pushFrame (.throwing a)) = res
    obtain ⟨as, rfl, ha⟩ := Sem.eq_ok_of hr (a := Handler.found y.handlerPc) (s' := ((T.setTop g).pushFrame (.throwing a)).setVm vm') (acts' := []) (by simp [hfind _ _ _ _])
    exact ⟨rfl, ha⟩
  rw [stepThread_throwing hfr, hstep.1]
  obtain ⟨g0, hg0⟩ := X.frames_eq
  have hv : ∀ (F G : List Frame), ((T.setFrames F).setVm vm').setFrames G = (T.setVm vm').setFrames G := fun F G => by
    rw [show (T.setFrames F).setVm vm' = (T.setVm vm').setFrames F from rfl, State.setFrames_setFrames]
  have hT : (T.setVm vm').frames = .java g0 :: below := hg0
  rw [State.setTop_of_frames _ hT] at hrest
  rw [State.pushFrame, State.setTop_of_frames _ hg0, State.setFrames_setFrames, hv, hg0]
  exact hrest
/-- the constructors of an exception's class, one above the other -/
def q_chW (X Y : String) (ix : Nat) (rx : ByteArray) (up : List String) : List Jvm.Cond := Bundle.passSAtoms X Y ix rx ++ Bundle.chainSAtoms Y up
theorem q_chain {args : Array Value} {s : State} {pl : Platform} (hpl : pl.magicAccessors = ({} : Platform).magicAccessors) {top : MethodId} (htop : s.methodNamed? (Bundle.initS Bundle.tN) = some top) {X Y : String} {ix : Nat} {rx : ByteArray} {up : List String} (x0 : decode rx 0 = .ok (.aload_n 0, 1)) (x1 : decode rx 1 = .ok (.aload_n 1, 1)) (x2 : decode rx 2 = .ok (.invokespecial ix, 3)) (x5 : decode rx 5 = .ok (.return_, 1))
    (hX : Bundle.fit X = true) (hY : Bundle.fit Y = true) (hup : ∀ n ∈ up, Bundle.fit n = true) (h : ∀ w ∈ q_chW X Y ix rx up, w.before args s = true) :
    ∃ (P : PassC) (Ps : List PassC), Ps.length = up.length + 1 ∧ P.LinksS pl s ∧ (∀ K, K ∈ Ps → K.LinksS pl s) ∧ s.methodNamed? (Bundle.initS X) = some P.m ∧ PassesOn top ((P :: Ps).map (·.toPassT)) := by
  obtain ⟨P, LP, hm, hs⟩ := PassC.ofS_atoms (args := args) hpl (X := X) (Y := Y) (Bundle.fit_spec hX).1 (Bundle.fit_spec hY).2 x0 x1 x2 x5 (fun w hw => h w (List.mem_append_left _ hw))
  obtain ⟨P1, Ps, hlen, L1, hL, hm1, hl1, hl2⟩ := Bundle.chainS (args := args) hpl htop up Y hY hup (fun w hw => h w (List.mem_append_right _ hw))
  refine ⟨P, P1 :: Ps, by rw [List.length_cons, hlen], LP, fun K hK => ?_, hm, Option.some.inj (hs.symm.trans hm1), hl1, hl2⟩
  rcases List.mem_cons.mp hK with rfl | hK
  · exact L1
  · exact hL K hK
end QCLS
