/-! AN EXCEPTION MADE BY THE PROGRAM'S OWN CODE, in a launch without stack traces: its constructor with a text, and the throw that leaves the method. -/
def q_ownW (own : String) (ic : Nat) (X Y : String) (ix : Nat) (rx : ByteArray) (up : List String) : List Jvm.Cond :=
  Bundle.throwableAtoms ++ Bundle.throwableSAtoms ++ q_chW X Y ix rx up ++ [.methodLink own ic (Bundle.initS X), .instantiable X 6, .castable X X, .selects X Bundle.tFill0 Bundle.tFill0, .selects X Bundle.tFill Bundle.tFill, .lays X Bundle.tN "cause" "Ljava/lang/Throwable;", .lays X Bundle.tN "stackTrace" Bundle.steD, .lays X Bundle.tN "suppressedExceptions" Bundle.listD, .lays X Bundle.tN "detailMessage" "Ljava/lang/String;", .isRef (.static Bundle.tN "UNASSIGNED_STACK" Bundle.steD), .isRef (.static Bundle.tN "SUPPRESSED_SENTINEL" Bundle.listD), .fieldLink Bundle.tN 198 Bundle.tN "backtrace" "Ljava/lang/Object;", .lays Bundle.tN Bundle.tN "backtrace" "Ljava/lang/Object;", .lays X Bundle.tN "backtrace" "Ljava/lang/Object;"]
section QTHR
variable {p : Program} {l : Launch} {e : Env} {R : Room} {s : State} {m : MethodId} {args : Array Value} {below : List Frame} {meth : Method} {c : Code} {V : State} {locs : List Loc} {cells slots : Nat}
set_option maxHeartbeats 2000000 in
theorem q_throw (X : Stand p l e R s m args below meth c V locs cells slots) (hexec : p.tables.exec = Jvm.exec) (htr : e.platform.stackTraces = false) {own cls cl2 : String} {up : List String} {ic ix : Nat} {rx : ByteArray}
    (x0 : decode rx 0 = .ok (.aload_n 0, 1)) (x1 : decode rx 1 = .ok (.aload_n 1, 1)) (x2 : decode rx 2 = .ok (.invokespecial ix, 3)) (x5 : decode rx 5 = .ok (.return_, 1))
    (hown : s.vm.findClass own = some m.cls) (hcls : Bundle.fit cls = true) (hcl2 : Bundle.fit cl2 = true) (hnames : ∀ n ∈ up, Bundle.fit n = true) (hw : ∀ w ∈ q_ownW own ic cls cl2 ix rx up, w.before args s = true) (hmemI : Jvm.Cond.instanceMethod (Bundle.initS cls) ∈ q_ownW own ic cls cl2 ix rx up) (hmemC : Jvm.Cond.code (Bundle.initS cls) rx 2 none ∈ q_ownW own ic cls cl2 ix rx up)
    (hlocs : ∀ x ∈ locs, ∀ cell, s.heap[x.base]? = some cell → cell.vm.isStatics = false) {a : Addr} {cX : ClassId} {kX : Class} (hcX : s.vm.findClass cls = some cX) (hkX : s.vm.classes[cX]? = some kX) (hcell : V.heap[a]? = some (freshCell cX kX)) (hnew : s.heap.size ≤ a)
    {msg : Value} (hmsg : msg.isRef = true) {g : JFrame} (hg : g.method = m) (hsize : g.locals.size = c.maxLocals) (hlk : g.locked = none) (hent : g.entered = []) {rest : List Value} (hstack : g.stack = msg :: .ref a :: .ref a :: rest)
    (hd6 : decode c.code g.pc = .ok (.invokespecial ic, 3)) (hd9 : decode c.code (g.pc + 3) = .ok (.athrow, 1)) (hout : ∀ x ∈ c.exceptionTable.toList, covers x (g.pc + 3) = false)
    (hRf : up.length + 4 < R.frames) (hRl : 2 * g.monitorRoom + ((Value.ref a :: rest).map fun v => v.category).sum + (13 * (up.length + 2) + 42) ≤ R.locals) (hlocks : meth.locks = false) :
    ∃ (U : State) (ce : Cell) (L : List Loc), U.heap = V.heap.setIfInBounds a ce ∧ ce.cls = cX ∧ ce.vm = .none ∧ (∀ x ∈ L, x.base = a) ∧ Steps p.tables e below (V.setTop g) U ∧ U.status = .running ∧ Ended U below (.threw a) ∧ s.WarmedH U.vm ∧ s.sameButNew ({ U with vm := s.vm } : State) (locs ++ L) cells slots := by
  have hpf := X.admits.platform
  have f1 : e.platform.frameOwnsMonitors = true := by rw [hpf]
  have f2 : e.platform.finalization = false := by rw [hpf]
  have f3 : e.platform.magicAccessors = ({} : Platform).magicAccessors := by rw [hpf]
  have get : ∀ w, w ∈ q_ownW own ic cls cl2 ix rx up → w.holds args s none s [] = true := fun w h => hw w h
  have tail : ∀ w, w ∈ ([.methodLink own ic (Bundle.initS cls), .instantiable cls 6, .castable cls cls, .selects cls Bundle.tFill0 Bundle.tFill0, .selects cls Bundle.tFill Bundle.tFill, .lays cls Bundle.tN "cause" "Ljava/lang/Throwable;", .lays cls Bundle.tN "stackTrace" Bundle.steD, .lays cls Bundle.tN "suppressedExceptions" Bundle.listD, .lays cls Bundle.tN "detailMessage" "Ljava/lang/String;", .isRef (.static Bundle.tN "UNASSIGNED_STACK" Bundle.steD), .isRef (.static Bundle.tN "SUPPRESSED_SENTINEL" Bundle.listD), .fieldLink Bundle.tN 198 Bundle.tN "backtrace" "Ljava/lang/Object;", .lays Bundle.tN Bundle.tN "backtrace" "Ljava/lang/Object;", .lays cls Bundle.tN "backtrace" "Ljava/lang/Object;"] : List Jvm.Cond) → w.holds args s none s [] = true := fun w h => get w (List.mem_append_right _ h)
  obtain ⟨T, Z0, L, -, Y⟩ := ThrowableC.of_atoms (args := args) f1 f2 f3 (fun w h => hw w (List.mem_append_left _ (List.mem_append_left _ (List.mem_append_left _ h))))
  obtain ⟨Z, M, LZ, LM, hnZ⟩ := Init0T.ofS_atoms (args := args) f3 L Y (fun w h => hw w (List.mem_append_left _ (List.mem_append_left _ (List.mem_append_right _ h))))
  obtain ⟨P, Ps, hlen, LP, hLs, hPm, hl12⟩ := q_chain (args := args) f3 hnZ x0 x1 x2 x5 hcls hcl2 hnames (fun w h => hw w (List.mem_append_left _ (List.mem_append_right _ h)))
  have hfc : s.vm.findClass cls = some P.m.cls := findClass_of_methodNamed hPm
  obtain rfl : cX = P.m.cls := Option.some.inj (hcX.symm.trans hfc)
  obtain ⟨d1, k1, hd1, hk, hord, -, -, -⟩ := Cond.instantiable_spec (tail (.instantiable cls 6) (by simp))
  obtain rfl : d1 = P.m.cls := Option.some.inj (hd1.symm.trans hfc)
  obtain rfl : k1 = kX := Option.some.inj (hk.symm.trans hkX)
  have sel : ∀ (y : MethodName) (r : MethodId), s.methodNamed? y = some r → y.cls ≠ "java/lang/invoke/MethodHandle" ∧ y.cls ≠ "java/lang/invoke/VarHandle" → (Jvm.Cond.selects cls y y).holds args s none s [] = true → selectMethod e.platform s.vm P.m.cls r = .method r := by
    intro y r hn hy h
    obtain ⟨c2, r2, m2, q1, q2, q3, q4, -⟩ := Cond.selects_spec h
    obtain rfl : c2 = P.m.cls := Option.some.inj (q1.symm.trans hfc)
    obtain rfl : r2 = r := Option.some.inj (q2.symm.trans (State.methodFound?_of_named hn hy))
    obtain rfl : m2 = r2 := Option.some.inj (q3.symm.trans hn)
    rw [Launch.admits_selectMethod X.admits]
    exact q4
  have hsel0 := sel Bundle.tFill0 T.fill0 Y.fill0 (by decide) (tail _ (by simp))
  have hselF := sel Bundle.tFill T.fill Y.fill (by decide) (tail _ (by simp))
  obtain ⟨cS0, hcS0, hiS⟩ := Y.statics
  obtain ⟨u0, hu0⟩ := Cond.staticRefV Y.unassigned L.unassignedStatic L.statics hcS0 hiS (tail (.isRef (.static Bundle.tN "UNASSIGNED_STACK" Bundle.steD)) (by simp))
  obtain ⟨sen, hsen⟩ := Cond.staticRefV Y.sentinel L.sentinelStatic L.statics hcS0 hiS (tail (.isRef (.static Bundle.tN "SUPPRESSED_SENTINEL" Bundle.listD)) (by simp))
  obtain ⟨ci, i9, fB, hkB, hgB, haB, hsB, -, hnB, htB, hfB⟩ := Cond.ownField (t := .object "java/lang/Object") Y.found L.cls (by decide +kernel) (tail (.fieldLink Bundle.tN 198 Bundle.tN "backtrace" "Ljava/lang/Object;") (by simp)) (tail (.lays Bundle.tN Bundle.tN "backtrace" "Ljava/lang/Object;") (by simp)) e.platform f3
  obtain ⟨cS, hcS, heS, -, hkeep⟩ := X.same.2.2.2.2.2 T.aS cS0 hcS0
  have hno : ∀ i, (⟨T.aS, i⟩ : Loc) ∉ locs := fun i hm => by
    have := hlocs _ hm cS0 hcS0
    rw [hiS] at this
    cases this
  have hkS : cS.vm ≠ .unknown := by
    rw [heS]
    intro hu
    rw [show cS0.vm = .unknown from hu] at hiS
    cases hiS
  have hneS : T.aS ≠ a := Nat.ne_of_lt (Nat.lt_of_lt_of_le (Array.getElem?_eq_some_iff.mp hcS0).1 hnew)
  obtain ⟨iM, hfM⟩ := Y.msg
  obtain ⟨tC, dC, hdC, hnC⟩ := Cond.laysAt hfc hk Y.cause (tail (.lays cls Bundle.tN "cause" "Ljava/lang/Throwable;") (by simp))
  obtain ⟨tS, dS, hdS, hnS⟩ := Cond.laysAt hfc hk Y.stack (tail (.lays cls Bundle.tN "stackTrace" Bundle.steD) (by simp))
  obtain ⟨tP, dP, hdP, hnP⟩ := Cond.laysAt hfc hk Y.supp (tail (.lays cls Bundle.tN "suppressedExceptions" Bundle.listD) (by simp))
  obtain ⟨tM, dM, hdM, hnM⟩ := Cond.laysAt hfc hk hfM (tail (.lays cls Bundle.tN "detailMessage" "Ljava/lang/String;") (by simp))
  obtain ⟨tB, dB, hdB, hnB2⟩ := Cond.laysAt hfc hk hfB (tail (.lays cls Bundle.tN "backtrace" "Ljava/lang/Object;") (by simp))
  have b1 := Cond.laysApart hdB hdC hnB2 hnC (by rw [hnB, Y.causeName]; decide)
  have b2 := Cond.laysApart hdB hdS hnB2 hnS (by rw [hnB, Y.stackName]; decide)
  have b3 := Cond.laysApart hdB hdP hnB2 hnP (by rw [hnB, Y.suppName]; decide)
  have hskip : SkipFacts T e.platform s (fun u => u) u0 ((preparedCellV T.toThrowableT (freshCell P.m.cls k1) a u0 sen).withEntry V.cur) := by
    refine ⟨{ ci198 := ci, i198 := i9, fBack := fB }, ⟨hkB, hgB, haB, hsB⟩, ?_, fun _ _ => rfl⟩
    have hdef := fresh_default (c := P.m.cls) tB
    rw [htB] at hdef
    simpa [preparedCellV, Cell.setSlot, Cell.withEntry, Array.getElem?_setIfInBounds, b1, b2, b3, b1.symm, b2.symm, b3.symm, defaultValue] using hdef
  obtain ⟨tm, -, -, -, vm₁, hnC2, -, -, -, -, -, -, -, hW₁, st1⟩ := Steps.initColdS (tb := p.tables) (e := e) (below := below) (s := s) (U := V) X.here hexec X.warmed f3 hown (t := Bundle.initS cls) rfl rfl (Bundle.fit_spec hcls).2
    (tail (.methodLink own ic (Bundle.initS cls)) (by simp)) (hw _ hmemI) (bytes := rx) (maxL := 2) (hw _ hmemC) (f := g) hg (a := a) (msg := msg) (rest := .ref a :: rest) hstack hd6
  obtain rfl : tm = P.m := Option.some.inj (hnC2.symm.trans hPm)
  have X₁ := X.noted hW₁
  obtain ⟨vm₂, X₂, st2⟩ := X₁.ctorMessageOffV hexec (g := { g with stack := .ref a :: rest }) hg hsize T L Z LZ M LM (P :: Ps)
    (fun Q hQ => by rcases List.mem_cons.mp hQ with rfl | hQ; exact LP; exact hLs Q hQ) hl12 (u0 := u0) (sen := sen) (self := a) hmsg (cell := freshCell P.m.cls k1) (cellS := cS)
    hcell (fun _ => by simp) (by simp) rfl rfl hsel0 hselF hcS hneS hkS (by rw [hkeep _ (hno _)]; exact hu0) (by rw [hkeep _ (hno _)]; exact hsen)
    (Takes.of_laid hk hord tC (by rw [Y.causeType]; rfl)) (Takes.of_laid hk hord tS (by rw [Y.stackType]; exact fits_refV_array _ u0)) (Takes.of_laid hk hord tP (by rw [Y.suppType]; exact fits_refV_object _ sen))
    (Takes.of_laid hk hord tM (by rw [Y.msgType]; exact fits_refV_object _ ⟨msg, hmsg⟩)) Y.objLocals hskip htr [] hd6 (by simp only [List.length_cons, hlen]; omega) (by simp only [List.length_cons, hlen]; exact hRl)
  obtain ⟨hwalk, hrun, hend, hWU, hsame⟩ := X₂.athrowLeaves hexec (g := { g with stack := .ref a :: rest, pc := g.pc + 3 }) hg hlk hent hout (a := a) (rest := rest) rfl hd9 hlocks
  refine ⟨_, plainBareV T.toThrowableT (freshCell P.m.cls k1) a u0 sen msg, _, rfl, rfl, rfl, ?_, st1 _ (fun acts => ?_), hrun, hend, hWU, hsame⟩
  · intro x hx
    simp only [List.mem_cons, List.not_mem_nil, or_false] at hx
    rcases hx with rfl | rfl | rfl | rfl | rfl <;> rfl
  · rw [doInvoke_state]
    exact st2 _ hwalk
end QTHR
