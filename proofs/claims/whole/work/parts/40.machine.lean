/-! THE PURE MACHINE, second part: heap, calls, runs. A state: the shape of each cell (number of its class and of its fields; of an array the number of its type, 100 and more, and its length), how many cells there are (numbers from 1000 on are made by the run, those below are there from the start) and how many slots the run has made in all, what the ints, the references and the longs are, by cell and place. -/
abbrev q_S : Type := (Nat → Nat × Nat) × (Nat × Nat) × (Nat → Nat → Int32) × (Nat → Nat → Option Nat) × (Nat → Nat → Int64)
abbrev q_sh (S : q_S) : Nat → Nat × Nat := S.1
abbrev q_tp (S : q_S) : Nat := S.2.1.1
abbrev q_sm (S : q_S) : Nat := S.2.1.2
abbrev q_iv (S : q_S) : Nat → Nat → Int32 := S.2.2.1
abbrev q_rv (S : q_S) : Nat → Nat → Option Nat := S.2.2.2.1
abbrev q_jv (S : q_S) : Nat → Nat → Int64 := S.2.2.2.2
def q_u2 {α : Type} (f : Nat → Nat → α) (a k : Nat) (v : α) : Nat → Nat → α := fun x y => if x = a ∧ y = k then v else f x y
def q_u1 {α : Type} (f : Nat → α) (a : Nat) (v : α) : Nat → α := fun x => if x = a then v else f x
def q_z {α : Type} (f : Nat → Nat → α) (a : Nat) (v : α) : Nat → Nat → α := fun x y => if x = a then v else f x y
def q_rf (r : Option Nat) : Value := match r with
  | none => .null
  | some a => .ref a
def q_sI (S : q_S) (a k : Nat) (x : Int32) : q_S := (q_sh S, (q_tp S, q_sm S), q_u2 (q_iv S) a k x, q_rv S, q_jv S)
def q_sR (S : q_S) (a k : Nat) (x : Option Nat) : q_S := (q_sh S, (q_tp S, q_sm S), q_iv S, q_u2 (q_rv S) a k x, q_jv S)
def q_sJ (S : q_S) (a k : Nat) (x : Int64) : q_S := (q_sh S, (q_tp S, q_sm S), q_iv S, q_rv S, q_u2 (q_jv S) a k x)
/-- a new cell of a shape, zeros in it, with so many slots -/
def q_new (S : q_S) (sh : Nat × Nat) (n : Nat) : q_S := (q_u1 (q_sh S) (q_tp S) sh, (q_tp S + 1, q_sm S + n), q_z (q_iv S) (q_tp S) 0, q_z (q_rv S) (q_tp S) none, q_z (q_jv S) (q_tp S) 0)
/-- the types of arrays, and which are of references -/
def q_ty (t : Nat) : Option FieldType := if t = 100 then some .int else if t = 101 then some .char else if t = 102 then some .boolean else if t = 103 then some .long else if t = 104 then some .byte else if t = 111 then some (.object "PolicyForge$Policy") else if t = 125 then some (.object "PolicyForge$Sign") else none
def q_tr (t : Nat) : Bool := decide (t = 111) || decide (t = 125)
def q_ix (j : Int32) (n : Nat) : Bool := decide (¬ j < 0) && decide (j.toNatClampNeg < n)
/-- the cell is an object that has field r -/
def q_fk (r a : Nat) (S : q_S) : Bool := decide (q_sh S a = (r / 128, q_nf (r / 128))) && decide (1000 ≤ a ↔ r / 128 < 10)
/-- what a field of truths may hold -/
def q_fz (r : Nat) (x : Int32) : Bool := !((q_fd r).2.2.1 == "Z") || (decide (x = 0) || decide (x = 1))
/-- fields, statics, constants, arrays: the length, the operand stack and the state behind -/
def q_hp (i : Jvm.ClassFile.Instr) (r : Nat) (st : List Value) (S : q_S) : Option (Nat × List Value × q_S) := match i, st with
  | .getfield _, .ref a :: st => if q_fk r a S = true then some (3, (if r % 2 = 0 then .int (q_iv S a (r / 2 % 64)) else q_rf (q_rv S a (r / 2 % 64))) :: st, S) else none
  | .putfield _, .int x :: .ref a :: st => if (q_fk r a S && (decide (1000 ≤ a) && (decide (r % 2 = 0) && q_fz r x))) = true then some (3, st, q_sI S a (r / 2 % 64) x) else none
  | .putfield _, .ref b :: .ref a :: st => if (q_fk r a S && (decide (1000 ≤ a) && decide (r % 2 = 1))) = true then some (3, st, q_sR S a (r / 2 % 64) (some b)) else none
  | .getstatic _, st => (q_sv r).map (fun v => (3, v :: st, S))
  | .ldc2_w _, st => (q_longs[r]?).map (fun v => (3, .long v :: st, S))
  | .newarray _, .int n :: st => if (decide (100 ≤ r) && (decide (¬ n < 0) && decide (n.toNatClampNeg ≤ 100000))) = true then some (2, .ref (q_tp S) :: st, q_new S (r, n.toNatClampNeg) n.toNatClampNeg) else none
  | .anewarray _, .int n :: st => if (decide (¬ n < 0) && decide (n.toNatClampNeg ≤ 100000)) = true then some (3, .ref (q_tp S) :: st, q_new S (r, n.toNatClampNeg) n.toNatClampNeg) else none
  | .new _, st => some (3, .ref (q_tp S) :: st, q_new S (r, q_nf r) (q_nf r))
  | .iaload, .int j :: .ref a :: st => if (decide ((q_sh S a).1 = 100) && q_ix j (q_sh S a).2) = true then some (1, .int (q_iv S a j.toNatClampNeg) :: st, S) else none
  | .caload, .int j :: .ref a :: st => if (decide ((q_sh S a).1 = 101) && q_ix j (q_sh S a).2) = true then some (1, .int (q_iv S a j.toNatClampNeg) :: st, S) else none
  | .baload, .int j :: .ref a :: st => if ((decide ((q_sh S a).1 = 102) || decide ((q_sh S a).1 = 104)) && q_ix j (q_sh S a).2) = true then some (1, .int (q_iv S a j.toNatClampNeg) :: st, S) else none
  | .laload, .int j :: .ref a :: st => if (decide ((q_sh S a).1 = 103) && q_ix j (q_sh S a).2) = true then some (1, .long (q_jv S a j.toNatClampNeg) :: st, S) else none
  | .aaload, .int j :: .ref a :: st => if (q_tr (q_sh S a).1 && q_ix j (q_sh S a).2) = true then some (1, q_rf (q_rv S a j.toNatClampNeg) :: st, S) else none
  | .iastore, .int x :: .int j :: .ref a :: st => if (decide (1000 ≤ a) && (decide ((q_sh S a).1 = 100) && q_ix j (q_sh S a).2)) = true then some (1, st, q_sI S a j.toNatClampNeg x) else none
  | .castore, .int x :: .int j :: .ref a :: st => if (decide (1000 ≤ a) && (decide ((q_sh S a).1 = 101) && q_ix j (q_sh S a).2)) = true then some (1, st, q_sI S a j.toNatClampNeg (vp_nar .char x)) else none
  | .bastore, .int x :: .int j :: .ref a :: st => if (decide (1000 ≤ a) && (decide ((q_sh S a).1 = 102) && q_ix j (q_sh S a).2)) = true then some (1, st, q_sI S a j.toNatClampNeg (vp_nar .boolean x)) else none
  | .lastore, .long x :: .int j :: .ref a :: st => if (decide (1000 ≤ a) && (decide ((q_sh S a).1 = 103) && q_ix j (q_sh S a).2)) = true then some (1, st, q_sJ S a j.toNatClampNeg x) else none
  | .aastore, .ref v :: .int j :: .ref a :: st => if (decide (1000 ≤ a) && (q_tr (q_sh S a).1 && (decide ((q_sh S v).1 = (q_sh S a).1 - 110) && (decide ((q_sh S a).1 = 111 ↔ 1000 ≤ v) && q_ix j (q_sh S a).2)))) = true then some (1, st, q_sR S a j.toNatClampNeg (some v)) else none
  | .arraylength, .ref a :: st => if (q_ty (q_sh S a).1).isSome = true then some (1, .int (nI (q_sh S a).2) :: st, S) else none
  | _, _ => none
/-- returns -/
def q_rt (m : Nat) (i : Jvm.ClassFile.Instr) (st : List Value) : Option (Option Value) := match i, st with
  | .ireturn, [.int x] => match (q_mm m).2.2.2.1 with
    | some ty => if narrow ty (.int x) = .int x then some (some (.int x)) else none
    | none => none
  | .lreturn, [.long x] => if (q_mm m).2.2.2.1 = some .long then some (some (.long x)) else none
  | .areturn, [.ref a] => some (some (.ref a))
  | .return_, [] => if (q_mm m).2.2.2.1 = none then some none else none
  | _, _ => none
def q_pos (z : Int) : Option Nat := if 0 ≤ z then some z.toNat else none
/-- where a switch leads -/
def q_sw (i : Jvm.ClassFile.Instr) (pc : Nat) (x : Int32) : Option Nat := match i with
  | .tableswitch d lo hi offs => if x.toInt < lo ∨ hi < x.toInt then q_pos ((pc : Int) + d) else (offs[(x.toInt - lo).toNat]?).bind (fun o => q_pos ((pc : Int) + o))
  | .lookupswitch d ps => q_pos ((pc : Int) + Op.lookupswitch.offset ps.toList d x.toInt)
  | _ => none
/-- the handler of an exception of a class -/
def q_hs (m pc cls : Nat) : Option Nat := ((q_mm m).2.2.2.2.2.2.2.find? (fun h => decide (h.1 ≤ pc) && (decide (pc < h.2.1) && decide (h.2.2.2 = cls)))).map (fun h => h.2.2.1)
/-- how an instruction is done: 0 the operand stack alone, 1 a branch, 2 a local read, 3 a local written, 4 iinc, 5 the heap, 6 a call, 7 a return, 8 a switch, 9 an exception made and thrown -/
def q_kd (i : Jvm.ClassFile.Instr) (r : Nat) : Nat := match i with
  | .ifCond _ _ => 1
  | .if_icmp _ _ => 1
  | .if_acmp _ _ => 1
  | .ifnull _ => 1
  | .ifnonnull _ => 1
  | .goto _ => 1
  | .iload_n _ => 2
  | .iload _ => 2
  | .aload_n _ => 2
  | .aload _ => 2
  | .lload_n _ => 2
  | .lload _ => 2
  | .istore_n _ => 3
  | .istore _ => 3
  | .astore_n _ => 3
  | .astore _ => 3
  | .lstore_n _ => 3
  | .lstore _ => 3
  | .iinc _ _ => 4
  | .getfield _ => 5
  | .putfield _ => 5
  | .getstatic _ => 5
  | .ldc _ => 10
  | .ldc2_w _ => 5
  | .newarray _ => 5
  | .anewarray _ => 5
  | .new _ => if r < 10 then 5 else 9
  | .iaload => 5
  | .caload => 5
  | .baload => 5
  | .laload => 5
  | .aaload => 5
  | .iastore => 5
  | .castore => 5
  | .bastore => 5
  | .lastore => 5
  | .aastore => 5
  | .arraylength => 5
  | .invokestatic _ => 6
  | .invokevirtual _ => 6
  | .invokespecial _ => 6
  | .ireturn => 7
  | .lreturn => 7
  | .areturn => 7
  | .return_ => 7
  | .tableswitch _ _ _ _ => 8
  | .lookupswitch _ _ => 8
  | .athrow => 10
  | _ => 0
/-- the receiver is of the method's class -/
def q_rcv (r : Nat) (st : List Value) (S : q_S) : Bool := match (q_mm r).2.2.2.2.2.2.1 with
  | 0 => true
  | c + 1 => match st[(q_mm r).2.2.2.2.2.1 - 1]? with
    | some (.ref b) => decide ((q_sh S b).1 = c) && decide (1000 ≤ b ↔ c < 10)
    | _ => false
/-- what must hold at a call of method r: enough on the stack, little below, the receiver, a level left -/
def q_cc (d r : Nat) (st : List Value) (S : q_S) : Bool := decide (r < 205) && (decide ((q_mm r).2.2.2.2.2.1 ≤ st.length) && (decide (((st.drop (q_mm r).2.2.2.2.2.1).map (fun v => v.category)).sum ≤ 8) && (q_rcv r st S && (decide (0 < d) && decide ((lg_sl (st.take (q_mm r).2.2.2.2.2.1).reverse).length ≤ (q_mm r).2.2.1)))))
abbrev q_O : Type := Option (Outcome × q_S)
/-- the run of a method's body from a place on; d: how many levels of calls are left; n: fuel -/
def q_run (cf : Nat → List Value → q_S → q_O) (d : Nat) : Nat → Nat → Nat → List (Nat × Value) → List Value → q_S → q_O
  | 0, _, _, _, _, _ => none
  | n + 1, m, pc, lv, st, S => match q_fetch m pc with
    | none => none
    | some (i, len, r) => match q_kd i r with
      | 0 => (q_op i st).bind (fun q => if q.1 = len then q_run cf d n m (pc + len) lv q.2 S else none)
      | 1 => (q_br i st).bind (fun q => if len = 3 then q_run cf d n m (if q.1 = true then r else pc + 3) lv q.2 S else none)
      | 2 => (q_rd i).bind (fun q => (q_ld lv q.1).bind (fun v => if q.2 = len ∧ q_rk i v = true then q_run cf d n m (pc + len) lv (v :: st) S else none))
      | 3 => (q_wr i lv st).bind (fun q => if q.1 = len then q_run cf d n m (pc + len) q.2.1 q.2.2 S else none)
      | 4 => match i with
        | .iinc j k => match q_ld lv j with
          | some (.int x) => if len = 3 then q_run cf d n m (pc + 3) (q_s1 lv j (.int (x + Int32.ofInt k))) st S else none
          | _ => none
        | _ => none
      | 5 => (q_hp i r st S).bind (fun q => if q.1 = len ∧ r ≠ 9998 then q_run cf d n m (pc + len) lv q.2.1 q.2.2 else none)
      | 6 => if r = 9999 then match st with
          | .ref _ :: st => if len = 3 ∧ 0 < d ∧ (st.map (fun v => v.category)).sum ≤ 8 then q_run cf d n m (pc + 3) lv st S else none
          | _ => none
        else if r = 27 then match st with
          | .int y :: .int x :: st => if len = 3 ∧ 0 < d ∧ (st.map (fun v => v.category)).sum ≤ 8 then q_run cf d n m (pc + 3) lv (.int (if y < x then y else x) :: st) S else none
          | _ => none
        else if len = 3 ∧ q_cc d r st S = true then match cf r (st.take (q_mm r).2.2.2.2.2.1).reverse S with
          | some (.returned v, S') => q_run cf d n m (pc + 3) lv (v.toList ++ st.drop (q_mm r).2.2.2.2.2.1) S'
          | some (.threw x, S') => match q_hs m pc (q_sh S' x).1 with
            | some h => if 1000 ≤ x then q_run cf d n m h lv [.ref x] S' else none
            | none => if (q_mm m).2.2.2.2.2.2.2 = [] then some (.threw x, S') else none
          | none => none
        else none
      | 7 => (q_rt m i st).bind (fun o => if len = 1 then some (.returned o, S) else none)
      | 8 => match st with
        | .int x :: st => (q_sw i pc x).bind (fun t => q_run cf d n m t lv st S)
        | _ => none
      | 9 => if 6 ≤ d ∧ (st.map (fun v => v.category)).sum ≤ 8 then some (.threw (q_tp S), q_new S (r, 6) 6) else none
      | _ => none
/-- a method, from its entry -/
def q_exec : Nat → Nat → Nat → List Value → q_S → q_O
  | 0 => fun n m as S => q_run (fun _ _ _ => none) 0 n m 0 (lv_args 0 as) [] S
  | d + 1 => fun n m as S => q_run (q_exec d n) (d + 1) n m 0 (lv_args 0 as) [] S
/-! more fuel does no harm -/
def q_le (f g : Nat → List Value → q_S → q_O) : Prop := ∀ r as S o, f r as S = some o → g r as S = some o
theorem q_bind {α β : Type} {x : Option α} {f g : α → Option β} {b : β} (h : x.bind f = some b) (hfg : ∀ a, x = some a → f a = some b → g a = some b) : x.bind g = some b := by
  cases x with
  | none => cases h
  | some a => exact hfg a rfl h
theorem q_ite {α : Type} {c : Prop} [Decidable c] {x y : Option α} {b : α} (h : (if c then x else none) = some b) (hxy : c → x = some b → y = some b) : (if c then y else none) = some b := by
  by_cases hc : c
  · rw [if_pos hc] at h ⊢; exact hxy hc h
  · rw [if_neg hc] at h; cases h
set_option maxHeartbeats 4000000 in
theorem q_run_le {cf cg : Nat → List Value → q_S → q_O} {d : Nat} (hc : q_le cf cg) : ∀ (n n' m pc : Nat) (lv : List (Nat × Value)) (st : List Value) (S : q_S) (o : Outcome × q_S), n ≤ n' → q_run cf d n m pc lv st S = some o → q_run cg d n' m pc lv st S = some o := by
  intro n
  induction n with
  | zero => intro n' m pc lv st S o _ h; exact absurd h (by unfold q_run; exact fun z => by cases z)
  | succ n ih =>
    intro n' m pc lv st S o hn h
    obtain ⟨n', rfl⟩ : ∃ k, n' = k + 1 := ⟨n' - 1, by omega⟩
    have hn' : n ≤ n' := by omega
    unfold q_run at h ⊢
    split at h
    · cases h
    · rename_i i len r hf
      try rw [hf]
      try dsimp only at h ⊢
      split at h
      · rename_i hk; try rw [hk]
        exact q_bind h fun q _ h => q_ite h fun _ h => ih _ _ _ _ _ _ _ hn' h
      · rename_i hk; try rw [hk]
        exact q_bind h fun q _ h => q_ite h fun _ h => ih _ _ _ _ _ _ _ hn' h
      · rename_i hk; try rw [hk]
        exact q_bind h fun q _ h => q_bind h fun v _ h => q_ite h fun _ h => ih _ _ _ _ _ _ _ hn' h
      · rename_i hk; try rw [hk]
        exact q_bind h fun q _ h => q_ite h fun _ h => ih _ _ _ _ _ _ _ hn' h
      · rename_i hk
        try rw [hk]
        try dsimp only
        split at h
        · rename_i j k
          split at h
          · rename_i x hx
            try rw [hx]
            exact q_ite h fun _ h => ih _ _ _ _ _ _ _ hn' h
          · cases h
        · cases h
      · rename_i hk; try rw [hk]
        exact q_bind h fun q _ h => q_ite h fun _ h => ih _ _ _ _ _ _ _ hn' h
      · rename_i hk
        try rw [hk]
        try dsimp only
        by_cases hr : r = 9999
        · rw [if_pos hr] at h ⊢
          split at h
          · exact q_ite h fun _ h => ih _ _ _ _ _ _ _ hn' h
          · cases h
        · rw [if_neg hr] at h ⊢
          by_cases hr7 : r = 27
          · rw [if_pos hr7] at h ⊢
            split at h
            · exact q_ite h fun _ h => ih _ _ _ _ _ _ _ hn' h
            · cases h
          rw [if_neg hr7] at h ⊢
          refine q_ite h fun _ h => ?_
          cases hcf : cf r (List.take (q_mm r).2.2.2.2.2.1 st).reverse S with
          | none => rw [hcf] at h; cases h
          | some q =>
            rw [hcf] at h
            rw [hc _ _ _ _ hcf]
            obtain ⟨oc, S'⟩ := q
            cases oc with
            | returned v => exact ih _ _ _ _ _ _ _ hn' h
            | threw x =>
              dsimp only at h ⊢
              cases hh : q_hs m pc (q_sh S' x).1 with
              | none => rw [hh] at h; exact h
              | some t => rw [hh] at h; exact q_ite h fun _ h => ih _ _ _ _ _ _ _ hn' h
      · rename_i hk; try rw [hk]
        exact h
      · rename_i hk
        try rw [hk]
        try dsimp only
        split at h
        · exact q_bind h fun q _ h => ih _ _ _ _ _ _ _ hn' h
        · cases h
      · rename_i hk; try rw [hk]
        exact h
      · cases h
theorem q_exec_le : ∀ (d n n' : Nat), n ≤ n' → q_le (q_exec d n) (q_exec d n') := by
  intro d
  induction d with
  | zero => intro n n' hn r as S o h; exact q_run_le (fun _ _ _ _ h => h) n n' _ _ _ _ _ _ hn h
  | succ d ih => intro n n' hn r as S o h; exact q_run_le (ih n n' hn) n n' _ _ _ _ _ _ hn h
