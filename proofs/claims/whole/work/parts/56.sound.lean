/-! WHAT THE PURE MACHINE ANSWERS, THE MACHINE DOES: first what grows, the ends, the calls' two missing forms. -/
theorem q_hp_up {i : Jvm.ClassFile.Instr} {r len : Nat} {st st' : List Value} {S S' : q_S} (h : q_hp i r st S = some (len, st', S')) : q_tp S ≤ q_tp S' ∧ q_sm S ≤ q_sm S' := by
  unfold q_hp at h
  split at h
  all_goals first
    | (cases h; done)
    | (split at h
       · cases h; first | exact ⟨Nat.le_refl _, Nat.le_refl _⟩ | exact ⟨Nat.le_succ _, Nat.le_add_right _ _⟩
       · cases h)
    | (cases h; first | exact ⟨Nat.le_refl _, Nat.le_refl _⟩ | exact ⟨Nat.le_succ _, Nat.le_add_right _ _⟩)
    | (obtain ⟨v, -, hv⟩ := Option.map_eq_some_iff.mp h; cases hv; exact ⟨Nat.le_refl _, Nat.le_refl _⟩)
def q_upf (f : Nat → List Value → q_S → q_O) : Prop := ∀ r as S o S', f r as S = some (o, S') → q_tp S ≤ q_tp S' ∧ q_sm S ≤ q_sm S'
theorem q_bs {α β : Type} {x : Option α} {f : α → Option β} {b : β} (h : x.bind f = some b) : ∃ a, x = some a ∧ f a = some b := Option.bind_eq_some_iff.mp h
theorem q_is2 {α : Type} {c : Prop} [Decidable c] {x : Option α} {b : α} (h : (if c then x else none) = some b) : c ∧ x = some b := by
  by_cases hc : c
  · rw [if_pos hc] at h; exact ⟨hc, h⟩
  · rw [if_neg hc] at h; cases h
set_option maxHeartbeats 4000000 in
theorem q_run_up {cf : Nat → List Value → q_S → q_O} {d : Nat} (hc : q_upf cf) : ∀ (n m pc : Nat) (lv : List (Nat × Value)) (st : List Value) (S : q_S) (o : Outcome) (S' : q_S), q_run cf d n m pc lv st S = some (o, S') → q_tp S ≤ q_tp S' ∧ q_sm S ≤ q_sm S' := by
  intro n
  induction n with
  | zero => intro m pc lv st S o S' h; exact absurd h (by unfold q_run; exact fun z => by cases z)
  | succ n ih =>
    intro m pc lv st S o S' h
    unfold q_run at h
    split at h
    · cases h
    · rename_i i len r hf
      try dsimp only at h
      split at h
      · obtain ⟨q, -, h⟩ := q_bs h
        exact ih _ _ _ _ _ _ _ (q_is2 h).2
      · obtain ⟨q, -, h⟩ := q_bs h
        exact ih _ _ _ _ _ _ _ (q_is2 h).2
      · obtain ⟨q, -, h⟩ := q_bs h
        obtain ⟨v, -, h⟩ := q_bs h
        exact ih _ _ _ _ _ _ _ (q_is2 h).2
      · obtain ⟨q, -, h⟩ := q_bs h
        exact ih _ _ _ _ _ _ _ (q_is2 h).2
      · split at h
        · split at h
          · exact ih _ _ _ _ _ _ _ (q_is2 h).2
          · cases h
        · cases h
      · obtain ⟨q, hq, h⟩ := q_bs h
        have h1 := q_hp_up (len := q.1) (st' := q.2.1) (S' := q.2.2) hq
        have h2 := ih _ _ _ _ _ _ _ (q_is2 h).2
        exact ⟨Nat.le_trans h1.1 h2.1, Nat.le_trans h1.2 h2.2⟩
      · by_cases hr : r = 9999
        · rw [if_pos hr] at h
          split at h
          · exact ih _ _ _ _ _ _ _ (q_is2 h).2
          · cases h
        · rw [if_neg hr] at h
          by_cases hr7 : r = 27
          · rw [if_pos hr7] at h
            split at h
            · exact ih _ _ _ _ _ _ _ (q_is2 h).2
            · cases h
          · rw [if_neg hr7] at h
            have h := (q_is2 h).2
            split at h
            · rename_i v S1 hcf
              have h1 := hc _ _ _ _ _ hcf
              have h2 := ih _ _ _ _ _ _ _ h
              exact ⟨Nat.le_trans h1.1 h2.1, Nat.le_trans h1.2 h2.2⟩
            · rename_i x S1 hcf
              have h1 := hc _ _ _ _ _ hcf
              split at h
              · have h2 := ih _ _ _ _ _ _ _ (q_is2 h).2
                exact ⟨Nat.le_trans h1.1 h2.1, Nat.le_trans h1.2 h2.2⟩
              · have h := (q_is2 h).2
                cases h
                exact h1
            · cases h
      · obtain ⟨q, -, h⟩ := q_bs h
        have h := (q_is2 h).2
        cases h
        exact ⟨Nat.le_refl _, Nat.le_refl _⟩
      · split at h
        · obtain ⟨q, -, h⟩ := q_bs h
          exact ih _ _ _ _ _ _ _ h
        · cases h
      · have h := (q_is2 h).2
        cases h
        exact ⟨Nat.le_succ _, Nat.le_add_right _ _⟩
      · cases h
theorem q_exec_up : ∀ (d n : Nat), q_upf (q_exec d n) := by
  intro d
  induction d with
  | zero => intro n r as S o S' h; exact q_run_up (fun _ _ _ _ _ h => by cases h) n _ _ _ _ _ _ _ h
  | succ d ih => intro n r as S o S' h; exact q_run_up (ih n) n _ _ _ _ _ _ _ h
/-- the end of a method: it returned or threw; what was asked holds; nothing moved but what may -/
def q_MQ (below : List Frame) (Qc : Array Value → State → Outcome → State → Prop) (a : Array Value) (s : State) (mc ms : Nat) (free : Addr → Prop) : State → Prop := fun t =>
  ∃ o, t.status = .running ∧ Ended t below o ∧ Qc a s o t ∧ ∃ L, (s.WarmedH t.vm ∧ s.sameButNew ({ t with vm := s.vm } : State) L mc ms) ∧ ∀ q ∈ L, free q.base
theorem q_MQ.of {below : List Frame} {Qc : Array Value → State → Outcome → State → Prop} {a : Array Value} {s : State} {mc ms : Nat} {free : Addr → Prop} {t : State} (h : MQ below Qc a s mc ms free t) : q_MQ below Qc a s mc ms free t := by
  obtain ⟨o, h1, h2, h3, L, h4, h5⟩ := h
  exact ⟨o, h1, h2, h3, L, h4.2, h5⟩
section QSND
variable {p : Program} {l : Launch} {e : Env} {R : Room} {s : State} {m : MethodId} {args : Array Value} {below : List Frame} {meth : Method} {c : Code} {T : State} {H : Heap} {locs : List Loc} {cells slots : Nat}
theorem q_Wm {Q Q' : State → Prop} {g : JFrame} (h : ∀ t, Q t → Q' t) (k : W p l e R s m args below meth c H locs cells slots Q g) : W p l e R s m args below meth c H locs cells slots Q' g := by
  intro T hT X
  obtain ⟨t, a, b⟩ := k T hT X
  exact ⟨t, a, h t b⟩
/-- a method's contract out of its body's walk -/
theorem q_MX.ofW {y : MethodName} {w : Jvm.Cond} {rm : Room} {Pc : Array Value → State → Prop} {Qc : Array Value → State → Outcome → State → Prop} {mc ms : Nat} {free : Addr → Prop} {cc : ByteArray} {maxL : Nat} {ret : Option FieldType}
    (hy : plainName y.cls = true) (hw : w = Jvm.Cond.code y cc maxL ret ∨ ∃ hh, w = Jvm.Cond.codeWith y cc maxL ret hh)
    (body : ∀ p e s m args below meth c s₁, BodyLoose p l y (headSpec [w] rm) cc maxL ret e s m args below meth c s₁ → c.maxLocals = maxL → Pc args s →
      W p l e (headSpec [w] rm).room s m args below meth c s.heap [] 0 0 (q_MQ below Qc args s mc ms free) (entryFrame m args maxL)) : q_MX l y [w] rm Pc Qc mc ms free := by
  refine MetFree.of_bodyS (code := cc) (maxLocals := maxL) (ret := ret) hy ?_ ?_
  · intro args s m h hn
    have h0 := atoms_spec (ws := [w]) h w List.mem_cons_self
    rcases hw with rfl | ⟨hh, rfl⟩
    · obtain ⟨meth, c, h1, h2, h3, h4, h5, h6, -, -⟩ := Cond.code_spec hn h0
      exact ⟨meth, c, h1, h2, h3, h4, h5, h6⟩
    · obtain ⟨m9, meth, c, hn9, h1, h2, h3, h4, -, h5, h6, -⟩ := Cond.codeWith_spec h0
      cases hn.symm.trans hn9
      exact ⟨meth, c, h1, h2, h3, h4, h5, h6⟩
  · intro p e s m args below meth c s₁ B hml hP _
    have hh0 : s₁.heap = s.heap := by rw [B.state]; rfl
    obtain ⟨t, a1, o, b1, b2, b3⟩ := body p e s m args below meth c s₁ B hml hP s₁ hh0 (Stand.of_body B)
    exact ⟨t, o, a1, b1, b2, ⟨b3.1, b3.2⟩⟩
variable {y : MethodName} {bytes : ByteArray} {maxL index : Nat} {ret : Option FieldType} {own C host : String} {g : JFrame} {argsL rest : List Value}
theorem q_invSW (X : Stand p l e R s m args below meth c T locs cells slots) (hexec : p.tables.exec = Jvm.exec) {hh : List (Nat × Nat × Nat × Nat)}
    (hown : s.vm.findClass own = some m.cls) (hlink : (Jvm.Cond.methodLink own index y).before args s = true) (hstat : (Jvm.Cond.static y).before args s = true) (hinit : (Jvm.Cond.initialized y.cls).before args s = true)
    (hcode : (Jvm.Cond.codeWith y bytes maxL ret hh).before args s = true) (hy : y.cls ≠ "java/lang/invoke/MethodHandle" ∧ y.cls ≠ "java/lang/invoke/VarHandle")
    (hg : g.method = m) (hlen : ∀ sig, parseMethodDescriptor y.desc = some sig → argsL.length = sig.parameters.length)
    (hstack : g.stack = argsL.reverse ++ rest) (hdg : decode c.code g.pc = .ok (.invokestatic index, 3)) :
    q_Inv p l e R s m args below meth c T locs cells slots g rest y maxL argsL.toArray := by
  obtain ⟨mk, methM, cM, hnamed, hmethM, hcM, -, hlM, -, -, -, hsigM⟩ := Cond.codeWith_spec hcode
  have hstatic : methM.isStatic = true := Cond.static_spec hnamed hmethM hstat
  obtain ⟨kP, hkP, -⟩ := className_of_methodNamed hnamed
  have hinitP : kP.init = .initialized := Cond.initialized_spec (findClass_of_methodNamed hnamed) hkP hinit
  obtain ⟨vm₁, X₁, hstep₁⟩ := X.invokestatic hexec hown hlink hnamed hmethM hstatic hkP hinitP hy (g := g) hg (argsL := argsL) (rest := rest) (hlen _ hsigM) hstack hdg
  exact ⟨vm₁, mk, X₁, X₁.named hnamed, ⟨methM, cM, by rw [X₁.warmed.alike.method?]; exact hmethM, hcM, hlM⟩, fun target h => hstep₁ _ fun acts => by rw [doInvoke_state]; exact h⟩
theorem q_invU (X : Stand p l e R s m args below meth c T locs cells slots) (hexec : p.tables.exec = Jvm.exec) {owner : String} {x : MethodName}
    (hown : s.vm.findClass own = some m.cls) (hlink : (Jvm.Cond.methodLink own index x).before args s = true) (hsame : (Jvm.Cond.sameMethod x.cls owner x.name x.desc).before args s = true)
    (hd0 : va_Decl s ⟨owner, x.name, x.desc⟩) (howner : owner ≠ "java/lang/invoke/MethodHandle" ∧ owner ≠ "java/lang/invoke/VarHandle")
    (hsel : (Jvm.Cond.selects C x y).before args s = true) (hinst : (Jvm.Cond.instanceMethod y).before args s = true) (hcode : (Jvm.Cond.code y bytes maxL ret).before args s = true)
    {b : Addr} {cellB : Cell} (hcell : T.heap[b]? = some cellB) (hobj : cellB.vm.isStatics = false) (hcls : s.vm.findClass C = some cellB.cls)
    (hg : g.method = m) (hlen : ∀ sig, parseMethodDescriptor x.desc = some sig → argsL.length = sig.parameters.length)
    (hstack : g.stack = argsL.reverse ++ .ref b :: rest) (hdg : decode c.code g.pc = .ok (.invokevirtual index, 3)) :
    q_Inv p l e R s m args below meth c T locs cells slots g rest y maxL (Value.ref b :: argsL).toArray := by
  obtain ⟨r0, r, hn, hrm, hstR, hsigR⟩ := hd0
  obtain ⟨cn, ck, r1, hcn, hck, hni, hf, hn1⟩ := Cond.sameMethod_found hsame
  cases hn.symm.trans hn1
  obtain ⟨mk, methM, hnamed, hmethM, -, habM⟩ := Cond.instanceMethod_spec hinst
  obtain ⟨methM', cM, hmethM', hcM, -, hlM, -, -, -, -⟩ := Cond.code_spec hnamed hcode
  cases hmethM.symm.trans hmethM'
  obtain ⟨c2, r2, m2, q1, q2, q3, q4, kP, hkP, hkPi⟩ := Cond.selects_spec hsel
  cases hcls.symm.trans q1
  cases hf.symm.trans q2
  cases hnamed.symm.trans q3
  have hselP : selectMethod e.platform s.vm cellB.cls r0 = .method mk := by rw [Launch.admits_selectMethod X.admits]; exact q4
  obtain ⟨vm₁, X₁, hstep₁⟩ := X.invokevirtualUp hexec hown hlink hsame howner hn hrm hstR (a := b) (cell := cellB) hcell
    (fun z h => by rw [h] at hobj; cases hobj) hselP hmethM habM hkP hkPi (g := g) hg (argsL := argsL) (rest := rest) (hlen _ hsigR) hstack hdg
  exact ⟨vm₁, mk, X₁, X₁.named hnamed, ⟨methM, cM, by rw [X₁.warmed.alike.method?]; exact hmethM, hcM, hlM⟩, fun target h => hstep₁ _ fun acts => by rw [doInvoke_state]; exact h⟩
end QSND
