/-! WHAT THE THROWS AND THE CATCHES ASK OF THE SURROUNDINGS, and that it stays. -/
/-- a static of Throwable: it is laid, and holds a reference or null; its cell is none of the free ones -/
def q_LS (n d : String) (A : Nat → Prop) (U : State) (H : Heap) : Prop :=
  ∃ (c : Nat) (k : Class) (i : Nat) (f : Field) (a : Nat) (cell : Cell) (v : Value), U.vm.findClass Bundle.tN = some c ∧ U.fieldFound? Bundle.tN n d = some (c, k, i, f) ∧ f.isStatic = true ∧ k.statics = some a ∧ H[a]? = some cell ∧ cell.vm.isStatics = true ∧ cell.cls = c ∧ f.slot < cell.slots.size ∧ k.staticTypes[f.slot]? = some f.type ∧ cell.slots[f.slot]? = some v ∧ v.isRef = true ∧ ¬ A a
theorem q_LS.moved {n d : String} {A : Nat → Prop} {u U : State} {H : Heap} (hvm : u.vm.Alike U.vm) (h : q_LS n d A u H) : q_LS n d A U H := by
  obtain ⟨c, k, i, f, a, cell, v, h0, h1, h2, h3, h4, h5, h6, h7, h8, h9⟩ := h
  obtain ⟨k', hi', he⟩ := State.fieldFound?_setVm hvm h1
  exact ⟨c, k', i, f, a, cell, v, by rw [hvm.findClass]; exact h0, hi', h2, by rw [he]; exact h3, h4, h5, h6, h7, by rw [he]; exact h8, h9⟩
theorem q_LS.kept {n d : String} {A : Nat → Prop} {U : State} {H H1 : Heap} (h : q_LS n d A U H) (hq : ∀ a : Nat, a < H.size → ¬ A a → H1[a]? = H[a]?) : q_LS n d A U H1 := by
  obtain ⟨c, k, i, f, a, cell, v, h0, h1, h2, h3, h4, h5, h6, h7, h8, h9, h10, h11⟩ := h
  exact ⟨c, k, i, f, a, cell, v, h0, h1, h2, h3, by rw [hq a (Array.getElem?_eq_some_iff.mp h4).1 h11]; exact h4, h5, h6, h7, h8, h9, h10, h11⟩
theorem q_LS.lays {n d : String} {A : Nat → Prop} {s : State} (h : q_LS n d A s s.heap) (args : Array Value) : (Jvm.Cond.laysStatic Bundle.tN n d).before args s = true := by
  obtain ⟨c, k, i, f, a, cell, v, h0, h1, h2, h3, h4, h5, h6, h7, h8, h9, h10, h11⟩ := h
  simp [Cond.before, Cond.holds, Cond.value, h0, h1, h2, h3, h4, h5, h6, h7, h8]
theorem q_LS.isRef {n d : String} {A : Nat → Prop} {s : State} (h : q_LS n d A s s.heap) (args : Array Value) : (Jvm.Cond.isRef (.static Bundle.tN n d)).before args s = true := by
  obtain ⟨c, k, i, f, a, cell, v, h0, h1, h2, h3, h4, h5, h6, h7, h8, h9, h10, h11⟩ := h
  have he : (Term.static Bundle.tN n d).eval args s none [] s = some v := by
    simp [Term.eval, State.fieldNamed?, h1, h2, h3, h4, h5, h9]
  simp only [Cond.before, Cond.holds, Cond.value, he]
  cases v <;> first | rfl | (cases h10; done) | simp
def q_sup : List String := ["java/lang/Exception"]
/-- words on the tables that stay, but that the kit's reader doesn't carry -/
def q_xw : List Jvm.Cond := [.declares (Bundle.initS "java/lang/RuntimeException"), .declares (Bundle.initS "java/lang/Exception"), .declares (Bundle.initS Bundle.tN), .castable (q_cname 10) (q_cname 10), .castable (q_cname 11) (q_cname 11), .castable (q_cname 12) (q_cname 12), .castable (q_cname 13) (q_cname 13), .castable (q_cname 14) (q_cname 14)]
/-- one exception's class is none of another's -/
def q_NC (c d : Nat) (U : State) : Prop := ∃ a b, U.vm.findClass (q_cname c) = some a ∧ U.vm.findClass (q_cname d) = some b ∧ U.vm.assignable a b = false
/-- the texts of the exceptions: entry, text -/
def q_tx : List (Nat × String) := [(82, "a byte is no character"), (89, "the text would be too long"), (104, "the text is no policy"), (204, "a number is not as said"), (127, "parents never go in circles"), (206, "there is no such entity"), (158, "there is no such policy"), (175, "something is not of the sort that is wanted"), (178, "an attribute is missing"), (182, "a number is beyond ints")]
def q_EX (A : Nat → Prop) (U : State) (H : Heap) : Prop :=
  (∀ w ∈ q_xw, w.before #[] U = true) ∧ (∀ c d, 10 ≤ c → c < 15 → 10 ≤ d → d < 15 → c ≠ d → q_NC c d U) ∧ q_LS "UNASSIGNED_STACK" Bundle.steD A U H ∧ q_LS "SUPPRESSED_SENTINEL" Bundle.listD A U H ∧ ∀ t ∈ q_tx, ∃ a, vk_R "PolicyForge" t.1 t.2 a U
theorem q_xw_on : q_xw.all (fun w => w.onTables && w.faceAtom) = true := by decide +kernel
theorem q_EX.move {A : Nat → Prop} {s U : State} {H H1 : Heap} (E : q_EX A s H) (hW : s.WarmedH U.vm) (hq : ∀ q : Nat, q < H.size → ¬ A q → H1[q]? = H[q]?) : q_EX A U H1 := by
  obtain ⟨e1, e2, e3, e4, e5⟩ := E
  have hal := hW.alike
  refine ⟨fun w hw => ?_, fun c d h1 h2 h3 h4 h5 => ?_, (e3.moved hal).kept hq, (e4.moved hal).kept hq, fun t ht => ?_⟩
  · have hon := List.all_eq_true.mp q_xw_on w hw
    rw [Bool.and_eq_true] at hon
    have h1 := Cond.faceAtom_setVm (args := #[]) hal w hon.2 (e1 w hw)
    have e := Cond.onTables_vm (A := #[]) (A' := #[]) (U := s) (U' := U) U.vm w hon.1
    have hU : U.setVm U.vm = U := rfl
    rw [hU] at e
    rw [← e]
    exact h1
  · obtain ⟨a, b, g1, g2, g3⟩ := e2 c d h1 h2 h3 h4 h5
    exact ⟨a, b, by rw [hal.findClass]; exact g1, by rw [hal.findClass]; exact g2, by rw [hal.assignable]; exact g3⟩
  · obtain ⟨a, ha⟩ := e5 t ht
    exact ⟨a, ha.warm hW⟩
theorem q_EX.word {A : Nat → Prop} {s : State} {H : Heap} (E : q_EX A s H) {w : Jvm.Cond} (hw : w ∈ q_xw) (args : Array Value) : w.before args s = true := by
  have hon := List.all_eq_true.mp q_xw_on w hw
  rw [Bool.and_eq_true] at hon
  exact va_any hon.1 (E.1 w hw)
/-- how an exception's constructor calls its superclass's, and by which entry the program calls it -/
def q_xi (ci : Nat) : Nat := if ci = 12 then 13 else 7
def q_rx (ci : Nat) : ByteArray := if ci = 12 then ⟨#[0x2a, 0x2b, 0xb7, 0x00, 0x0d, 0xb1]⟩ else ⟨#[0x2a, 0x2b, 0xb7, 0x00, 0x07, 0xb1]⟩
def q_xc (ci : Nat) : Nat := if ci = 10 then 84 else if ci = 11 then 91 else if ci = 12 then 160 else if ci = 13 then 177 else 184
def q_xa (ci : Nat) : List Jvm.Cond := q_ownW "PolicyForge" (q_xc ci) (q_cname ci) "java/lang/RuntimeException" (q_xi ci) (q_rx ci) q_sup
def q_x4 : List Jvm.Cond := [.laysStatic Bundle.tN "UNASSIGNED_STACK" Bundle.steD, .laysStatic Bundle.tN "SUPPRESSED_SENTINEL" Bundle.listD, .isRef (.static Bundle.tN "UNASSIGNED_STACK" Bundle.steD), .isRef (.static Bundle.tN "SUPPRESSED_SENTINEL" Bundle.listD)]
def q_xt (ci : Nat) : Bool := (q_xa ci).all (fun w => (decide (w ∈ tables_1) && goodWord w) || (decide (w ∈ q_xw) || decide (w ∈ q_x4)))
set_option maxRecDepth 100000 in
theorem q_xt10 : q_xt 10 = true := by decide +kernel
set_option maxRecDepth 100000 in
theorem q_xt11 : q_xt 11 = true := by decide +kernel
set_option maxRecDepth 100000 in
theorem q_xt12 : q_xt 12 = true := by decide +kernel
set_option maxRecDepth 100000 in
theorem q_xt13 : q_xt 13 = true := by decide +kernel
set_option maxRecDepth 100000 in
theorem q_xt14 : q_xt 14 = true := by decide +kernel
theorem q_xts {ci : Nat} (h1 : 10 ≤ ci) (h2 : ci < 15) : q_xt ci = true := by
  have : ci = 10 ∨ ci = 11 ∨ ci = 12 ∨ ci = 13 ∨ ci = 14 := by omega
  rcases this with rfl | rfl | rfl | rfl | rfl
  · exact q_xt10
  · exact q_xt11
  · exact q_xt12
  · exact q_xt13
  · exact q_xt14
theorem q_xrow {ci : Nat} (h1 : 10 ≤ ci) (h2 : ci < 15) : (decode (q_rx ci) 0 = .ok (.aload_n 0, 1) ∧ decode (q_rx ci) 1 = .ok (.aload_n 1, 1) ∧ decode (q_rx ci) 2 = .ok (.invokespecial (q_xi ci), 3) ∧ decode (q_rx ci) 5 = .ok (.return_, 1)) ∧ Bundle.fit (q_cname ci) = true ∧ Jvm.Cond.instanceMethod (Bundle.initS (q_cname ci)) ∈ q_xa ci ∧ Jvm.Cond.code (Bundle.initS (q_cname ci)) (q_rx ci) 2 none ∈ q_xa ci := by
  have : ci = 10 ∨ ci = 11 ∨ ci = 12 ∨ ci = 13 ∨ ci = 14 := by omega
  rcases this with rfl | rfl | rfl | rfl | rfl <;> decide +kernel
theorem q_sup_fit : ∀ n ∈ q_sup, Bundle.fit n = true := by decide +kernel
/-- all that holds of the surroundings -/
def q_E (D : va_G) (cA : Nat → ClassId) (cv : q_M) (base : Nat) (S0 : q_S) (U : State) (H : Heap) : Prop := q_EF D cA cv base S0 U H ∧ q_EX (q_A base) U H
theorem q_E.move {D : va_G} {cA : Nat → ClassId} {cv : q_M} {base : Nat} {S0 : q_S} {s U : State} {H H1 : Heap} (E : q_E D cA cv base S0 s H) (hW : s.WarmedH U.vm) (hq : ∀ q : Nat, q < H.size → ¬ q_A base q → H1[q]? = H[q]?) : q_E D cA cv base S0 U H1 := ⟨E.1.move hW hq, E.2.move hW hq⟩
theorem q_E.xa {D : va_G} {cA : Nat → ClassId} {cv : q_M} {base : Nat} {S0 : q_S} {s : State} (E : q_E D cA cv base S0 s s.heap) {ci : Nat} (h1 : 10 ≤ ci) (h2 : ci < 15) (args : Array Value) : ∀ w ∈ q_xa ci, w.before args s = true := by
  intro w hw
  have h := List.all_eq_true.mp (q_xts h1 h2) w hw
  rw [Bool.or_eq_true, Bool.or_eq_true, Bool.and_eq_true] at h
  rcases h with ⟨h, hg⟩ | h | h
  · exact E.1.1 w (List.mem_append_right _ (of_decide_eq_true h)) hg args
  · exact E.2.word (of_decide_eq_true h) args
  · have h := of_decide_eq_true h
    simp only [q_x4, List.mem_cons, List.not_mem_nil, or_false] at h
    rcases h with rfl | rfl | rfl | rfl
    · exact E.2.2.2.1.lays args
    · exact E.2.2.2.2.1.lays args
    · exact E.2.2.2.1.isRef args
    · exact E.2.2.2.2.1.isRef args
