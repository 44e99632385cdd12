/-! THE CONSTRUCTORS: a closed run, done once by the kernel; where the script lies makes no difference to it. -/
def c_T (L : Nat) (xs : Nat → Int32) (S : q_S) : q_S := (fun a => if a = 999 then (100, L) else q_sh S a, (q_tp S, q_sm S), fun a k => if a = 999 then xs k else q_iv S a k, q_rv S, q_jv S)
def c_v9 (v : Value) : Bool := match v with
  | .ref a => !decide (a = 999)
  | _ => true
def c_g (st : List Value) : Bool := st.all c_v9
def c_ok (i : Jvm.ClassFile.Instr) : Bool := match i with
  | .getfield _ => true
  | .putfield _ => true
  | .getstatic _ => true
  | .newarray _ => true
  | .anewarray _ => true
  | .new _ => true
  | .iastore => true
  | .aastore => true
  | _ => false
def c_run (cf : Nat → List Value → q_S → q_O) (d : Nat) : Nat → Nat → Nat → List (Nat × Value) → List Value → q_S → q_O
  | 0, _, _, _, _, _ => none
  | n + 1, m, pc, lv, st, S => match q_fetch m pc with
    | none => none
    | some (i, len, r) => match q_kd i r with
      | 0 => (q_op i st).bind (fun q => if q.1 = len then c_run cf d n m (pc + len) lv q.2 S else none)
      | 1 => (q_br i st).bind (fun q => if len = 3 then c_run cf d n m (if q.1 = true then r else pc + 3) lv q.2 S else none)
      | 2 => (q_rd i).bind (fun q => (q_ld lv q.1).bind (fun v => if q.2 = len ∧ q_rk i v = true then c_run cf d n m (pc + len) lv (v :: st) S else none))
      | 3 => (q_wr i lv st).bind (fun q => if q.1 = len then c_run cf d n m (pc + len) q.2.1 q.2.2 S else none)
      | 4 => match i with
        | .iinc j k => match q_ld lv j with
          | some (.int x) => if len = 3 then c_run cf d n m (pc + 3) (q_s1 lv j (.int (x + Int32.ofInt k))) st S else none
          | _ => none
        | _ => none
      | 5 => if c_ok i = true ∧ c_g st = true ∧ 1000 ≤ q_tp S then (q_hp i r st S).bind (fun q => if q.1 = len ∧ r ≠ 9998 then c_run cf d n m (pc + len) lv q.2.1 q.2.2 else none) else none
      | 6 => if r = 9999 then match st with
          | .ref _ :: st => if len = 3 ∧ 0 < d ∧ (st.map (fun v => v.category)).sum ≤ 8 then c_run cf d n m (pc + 3) lv st S else none
          | _ => none
        else if r = 27 then none
        else if len = 3 ∧ q_cc d r st S = true ∧ c_g st = true then match cf r (st.take (q_mm r).2.2.2.2.2.1).reverse S with
          | some (.returned v, S') => c_run cf d n m (pc + 3) lv (v.toList ++ st.drop (q_mm r).2.2.2.2.2.1) S'
          | _ => none
        else none
      | 7 => (q_rt m i st).bind (fun o => if len = 1 then some (.returned o, S) else none)
      | _ => none
def c_exec : Nat → Nat → Nat → List Value → q_S → q_O
  | 0 => fun n m as S => c_run (fun _ _ _ => none) 0 n m 0 (lv_args 0 as) [] S
  | d + 1 => fun n m as S => c_run (c_exec d n) (d + 1) n m 0 (lv_args 0 as) [] S
section CTR
variable {L a k n r d : Nat} {xs : Nat → Int32} {S S1 S2 S3 : q_S} {x : Int32} {v : Option Nat} {st st' : List Value} {sh : Nat × Nat} {i : Jvm.ClassFile.Instr}
theorem c_sh (h : a ≠ 999) : q_sh (c_T L xs S) a = q_sh S a := if_neg h
theorem c_iv (h : a ≠ 999) : q_iv (c_T L xs S) a k = q_iv S a k := if_neg h
theorem c_sI (h : a ≠ 999) : q_sI (c_T L xs S) a k x = c_T L xs (q_sI S a k x) := by
  have e : q_u2 (fun a k => if a = 999 then xs k else q_iv S a k) a k x = fun a' k' => if a' = 999 then xs k' else q_u2 (q_iv S) a k x a' k' := by
    funext a' k'
    unfold q_u2
    dsimp only
    by_cases h1 : a' = 999
    · rw [if_neg (fun z => h (z.1.symm.trans h1)), if_pos h1, if_pos h1]
    · rw [if_neg h1, if_neg h1]
  exact congrArg (fun z => ((q_sh (c_T L xs S), (q_tp S, q_sm S), z, q_rv S, q_jv S) : q_S)) e
theorem c_sR : q_sR (c_T L xs S) a k v = c_T L xs (q_sR S a k v) := rfl
theorem c_new (h : q_tp S ≠ 999) : q_new (c_T L xs S) sh n = c_T L xs (q_new S sh n) := by
  have e1 : q_u1 (fun a => if a = 999 then (100, L) else q_sh S a) (q_tp S) sh = fun a' => if a' = 999 then (100, L) else q_u1 (q_sh S) (q_tp S) sh a' := by
    funext a'
    unfold q_u1
    dsimp only
    by_cases h1 : a' = 999
    · rw [if_neg (fun z => h (z.symm.trans h1)), if_pos h1, if_pos h1]
    · rw [if_neg h1, if_neg h1]
  have e2 : q_z (fun a k => if a = 999 then xs k else q_iv S a k) (q_tp S) 0 = fun a' k' => if a' = 999 then xs k' else q_z (q_iv S) (q_tp S) 0 a' k' := by
    funext a' k'
    unfold q_z
    dsimp only
    by_cases h1 : a' = 999
    · rw [if_neg (fun z => h (z.symm.trans h1)), if_pos h1, if_pos h1]
    · rw [if_neg h1, if_neg h1]
  show ((q_u1 (fun a => if a = 999 then (100, L) else q_sh S a) (q_tp S) sh, (q_tp S + 1, q_sm S + n), q_z (fun a k => if a = 999 then xs k else q_iv S a k) (q_tp S) 0, q_z (q_rv S) (q_tp S) none, q_z (q_jv S) (q_tp S) 0) : q_S) = _
  rw [e1, e2]
  rfl
theorem c_g1 (h : c_g (.ref a :: st) = true) : a ≠ 999 ∧ c_g st = true := by
  unfold c_g at h ⊢
  rw [List.all_cons, Bool.and_eq_true] at h
  refine ⟨fun z => ?_, h.2⟩
  have h1 := h.1
  rw [z] at h1
  exact absurd h1 (by decide)
theorem c_g2 {y : Int32} (h : c_g (.int y :: st) = true) : c_g st = true := by
  unfold c_g at h ⊢
  rw [List.all_cons, Bool.and_eq_true] at h
  exact h.2
theorem c_fk (h : a ≠ 999) : q_fk r a (c_T L xs S) = q_fk r a S := by
  unfold q_fk
  rw [c_sh h]
/-- nothing that was there before has changed -/
def c_B (S S' : q_S) : Prop := q_tp S ≤ q_tp S' ∧ ∀ a, a < 1000 → q_same S S' a
theorem c_B.refl : c_B S S := ⟨Nat.le_refl _, fun _ _ => ⟨rfl, rfl, rfl, rfl⟩⟩
theorem c_B.trans (h : c_B S S1) (h' : c_B S1 S2) : c_B S S2 := ⟨Nat.le_trans h.1 h'.1, fun a ha => by
  obtain ⟨a1, a2, a3, a4⟩ := h.2 a ha
  obtain ⟨b1, b2, b3, b4⟩ := h'.2 a ha
  exact ⟨b1.trans a1, b2.trans a2, b3.trans a3, b4.trans a4⟩⟩
theorem c_BI (h : 1000 ≤ a) : c_B S (q_sI S a k x) := ⟨Nat.le_refl _, fun b hb => q_sI_same (by omega)⟩
theorem c_BR (h : 1000 ≤ a) : c_B S (q_sR S a k v) := ⟨Nat.le_refl _, fun b hb => q_sR_same (by omega)⟩
theorem c_BN (h : 1000 ≤ q_tp S) : c_B S (q_new S sh n) := ⟨Nat.le_succ _, fun b hb => q_new_same (by omega)⟩
theorem c_ite {α : Type} {c : Prop} [Decidable c] {x : Option α} {b : α} (h : (if c then x else none) = some b) : c ∧ x = some b := by
  by_cases hc : c
  · rw [if_pos hc] at h
    exact ⟨hc, h⟩
  · rw [if_neg hc] at h
    cases h
theorem c_ite2 {α : Type} {c : Prop} [Decidable c] {y : Option α} {b : α} (hc : c) (h : y = some b) : (if c then y else none) = some b := by
  rw [if_pos hc]
  exact h
theorem c_bind {α β : Type} {x : Option α} {f : α → Option β} {b : β} (h : x.bind f = some b) : ∃ y, x = some y ∧ f y = some b := by
  cases x with
  | none => cases h
  | some y => exact ⟨y, rfl, h⟩
theorem c_hp {q : Nat × List Value × q_S} (hok : c_ok i = true) (hg : c_g st = true) (ht : 1000 ≤ q_tp S) (h : q_hp i r st S = some q) : q_hp i r st (c_T L xs S) = some (q.1, q.2.1, c_T L xs q.2.2) ∧ c_B S q.2.2 := by
  unfold q_hp at h
  split at h
  · obtain ⟨ha, _⟩ := c_g1 hg
    obtain ⟨hc, h⟩ := c_ite h
    cases h
    refine ⟨?_, c_B.refl⟩
    unfold q_hp
    dsimp only
    rw [if_pos (by rw [c_fk ha]; exact hc), c_iv ha]
    rfl
  · obtain ⟨ha, _⟩ := c_g1 (c_g2 hg)
    obtain ⟨hc, h⟩ := c_ite h
    cases h
    have h1 : 1000 ≤ _ := of_decide_eq_true (Bool.and_eq_true_iff.mp (Bool.and_eq_true_iff.mp hc).2).1
    refine ⟨?_, c_BI h1⟩
    unfold q_hp
    dsimp only
    rw [if_pos (by rw [c_fk ha]; exact hc), c_sI ha]
  · obtain ⟨_, hg'⟩ := c_g1 hg
    obtain ⟨ha, _⟩ := c_g1 hg'
    obtain ⟨hc, h⟩ := c_ite h
    cases h
    have h1 : 1000 ≤ _ := of_decide_eq_true (Bool.and_eq_true_iff.mp (Bool.and_eq_true_iff.mp hc).2).1
    refine ⟨?_, c_BR h1⟩
    unfold q_hp
    dsimp only
    rw [if_pos (by rw [c_fk ha]; exact hc), c_sR]
  · unfold q_hp
    dsimp only
    cases hv : q_sv r with
    | none =>
      rw [hv] at h
      cases h
    | some y =>
      rw [hv] at h
      cases h
      exact ⟨rfl, c_B.refl⟩
  · exact absurd hok (by simp [c_ok])
  · obtain ⟨hc, h⟩ := c_ite h
    cases h
    refine ⟨?_, c_BN ht⟩
    unfold q_hp
    dsimp only
    rw [if_pos hc, c_new (by omega)]
    rfl
  · obtain ⟨hc, h⟩ := c_ite h
    cases h
    refine ⟨?_, c_BN ht⟩
    unfold q_hp
    dsimp only
    rw [if_pos hc, c_new (by omega)]
    rfl
  · cases h
    refine ⟨?_, c_BN ht⟩
    unfold q_hp
    dsimp only
    rw [c_new (by omega)]
    rfl
  · exact absurd hok (by simp [c_ok])
  · exact absurd hok (by simp [c_ok])
  · exact absurd hok (by simp [c_ok])
  · exact absurd hok (by simp [c_ok])
  · exact absurd hok (by simp [c_ok])
  · obtain ⟨ha, _⟩ := c_g1 (c_g2 (c_g2 hg))
    obtain ⟨hc, h⟩ := c_ite h
    cases h
    have h1 : 1000 ≤ _ := of_decide_eq_true (Bool.and_eq_true_iff.mp hc).1
    refine ⟨?_, c_BI h1⟩
    unfold q_hp
    dsimp only
    rw [c_sh ha, if_pos hc, c_sI ha]
  · exact absurd hok (by simp [c_ok])
  · exact absurd hok (by simp [c_ok])
  · exact absurd hok (by simp [c_ok])
  · obtain ⟨hv, hg'⟩ := c_g1 hg
    obtain ⟨ha, _⟩ := c_g1 (c_g2 hg')
    obtain ⟨hc, h⟩ := c_ite h
    cases h
    have h1 : 1000 ≤ _ := of_decide_eq_true (Bool.and_eq_true_iff.mp hc).1
    refine ⟨?_, c_BR h1⟩
    unfold q_hp
    dsimp only
    rw [c_sh ha, c_sh hv, if_pos hc, c_sR]
  · exact absurd hok (by simp [c_ok])
  · cases h
theorem c_rcv (hg : c_g st = true) : q_rcv r st (c_T L xs S) = q_rcv r st S := by
  unfold q_rcv
  split
  · rfl
  · cases hb : st[(q_mm r).2.2.2.2.2.1 - 1]? with
    | none => rfl
    | some w =>
      have hm := List.all_eq_true.mp hg w (List.mem_of_getElem? hb)
      cases w <;> try rfl
      rename_i b
      have h9 : b ≠ 999 := fun z => by
        rw [z] at hm
        exact absurd hm (by decide)
      dsimp only
      rw [c_sh h9]
theorem c_cc (hg : c_g st = true) : q_cc d r st (c_T L xs S) = q_cc d r st S := by
  unfold q_cc
  rw [c_rcv hg]
set_option maxHeartbeats 4000000 in
theorem c_run_T {cf cg : Nat → List Value → q_S → q_O} (hcf : ∀ r as S v S', 1000 ≤ q_tp S → cf r as S = some (.returned v, S') → cg r as (c_T L xs S) = some (.returned v, c_T L xs S') ∧ c_B S S') : ∀ (n m pc : Nat) (lv : List (Nat × Value)) (st : List Value) (S : q_S) (o : Option Value) (S' : q_S), 1000 ≤ q_tp S → c_run cf d n m pc lv st S = some (.returned o, S') → q_run cg d n m pc lv st (c_T L xs S) = some (.returned o, c_T L xs S') ∧ c_B S S' := by
  intro n
  induction n with
  | zero =>
    intro m pc lv st S o S' _ h
    exact absurd h (by unfold c_run; exact fun z => by cases z)
  | succ n ih =>
    intro m pc lv st S o S' ht h
    unfold c_run at h
    unfold q_run
    split at h
    · cases h
    · rename_i i len r hf
      try rw [hf]
      try dsimp only at h ⊢
      split at h
      · rename_i hk
        try rw [hk]
        try dsimp only
        obtain ⟨q, e1, h⟩ := c_bind h
        obtain ⟨e2, h⟩ := c_ite h
        obtain ⟨h1, h2⟩ := ih _ _ _ _ _ _ _ ht h
        rw [e1]
        refine ⟨?_, h2⟩
        show (if q.1 = len then _ else none) = _
        rw [if_pos e2]
        exact h1
      · rename_i hk
        try rw [hk]
        try dsimp only
        obtain ⟨q, e1, h⟩ := c_bind h
        obtain ⟨e2, h⟩ := c_ite h
        obtain ⟨h1, h2⟩ := ih _ _ _ _ _ _ _ ht h
        rw [e1]
        refine ⟨?_, h2⟩
        show (if len = 3 then _ else none) = _
        rw [if_pos e2]
        exact h1
      · rename_i hk
        try rw [hk]
        try dsimp only
        obtain ⟨q, e1, h⟩ := c_bind h
        obtain ⟨w, e3, h⟩ := c_bind h
        obtain ⟨e2, h⟩ := c_ite h
        obtain ⟨h1, h2⟩ := ih _ _ _ _ _ _ _ ht h
        rw [e1]
        refine ⟨?_, h2⟩
        show (q_ld lv q.1).bind _ = _
        rw [e3]
        show (if q.2 = len ∧ q_rk i w = true then _ else none) = _
        rw [if_pos e2]
        exact h1
      · rename_i hk
        try rw [hk]
        try dsimp only
        obtain ⟨q, e1, h⟩ := c_bind h
        obtain ⟨e2, h⟩ := c_ite h
        obtain ⟨h1, h2⟩ := ih _ _ _ _ _ _ _ ht h
        rw [e1]
        refine ⟨?_, h2⟩
        show (if q.1 = len then _ else none) = _
        rw [if_pos e2]
        exact h1
      · rename_i hk
        try rw [hk]
        try dsimp only
        split at h
        · rename_i j k
          split at h
          · rename_i y hy
            obtain ⟨e2, h⟩ := c_ite h
            obtain ⟨h1, h2⟩ := ih _ _ _ _ _ _ _ ht h
            refine ⟨?_, h2⟩
            show (match q_ld lv j with
              | some (.int x1) => if len = 3 then q_run cg d n m (pc + 3) (q_s1 lv j (.int (x1 + Int32.ofInt k))) st (c_T L xs S) else none
              | _ => none) = _
            rw [hy]
            exact c_ite2 e2 h1
          · cases h
        · cases h
      · rename_i hk
        try rw [hk]
        try dsimp only
        obtain ⟨⟨g1, g2, g3⟩, h⟩ := c_ite h
        obtain ⟨q, e1, h⟩ := c_bind h
        obtain ⟨e2, h⟩ := c_ite h
        obtain ⟨p1, p2⟩ := c_hp (L := L) (xs := xs) g1 g2 g3 e1
        obtain ⟨h1, h2⟩ := ih _ _ _ _ _ _ _ (Nat.le_trans ht p2.1) h
        rw [p1]
        refine ⟨?_, p2.trans h2⟩
        show (if q.1 = len ∧ r ≠ 9998 then _ else none) = _
        rw [if_pos e2]
        exact h1
      · rename_i hk
        try rw [hk]
        try dsimp only
        by_cases hr : r = 9999
        · rw [if_pos hr] at h ⊢
          split at h
          · obtain ⟨e2, h⟩ := c_ite h
            obtain ⟨h1, h2⟩ := ih _ _ _ _ _ _ _ ht h
            refine ⟨?_, h2⟩
            exact c_ite2 e2 h1
          · cases h
        · rw [if_neg hr] at h ⊢
          by_cases hr7 : r = 27
          · rw [if_pos hr7] at h
            cases h
          rw [if_neg hr7] at h ⊢
          obtain ⟨⟨g1, g2, g3⟩, h⟩ := c_ite h
          cases hc : cf r (List.take (q_mm r).2.2.2.2.2.1 st).reverse S with
          | none =>
            rw [hc] at h
            cases h
          | some q =>
            rw [hc] at h
            obtain ⟨oc, S1⟩ := q
            cases oc with
            | returned w =>
              obtain ⟨p1, p2⟩ := hcf _ _ _ _ _ ht hc
              obtain ⟨h1, h2⟩ := ih _ _ _ _ _ _ _ (Nat.le_trans ht p2.1) h
              refine ⟨?_, p2.trans h2⟩
              rw [if_pos ⟨g1, by rw [c_cc g3]; exact g2⟩, p1]
              exact h1
            | threw y => cases h
      · rename_i hk
        try rw [hk]
        try dsimp only
        obtain ⟨q, e1, h⟩ := c_bind h
        obtain ⟨e2, h⟩ := c_ite h
        rw [e1]
        cases h
        refine ⟨?_, c_B.refl⟩
        show (if len = 1 then _ else none) = _
        rw [if_pos e2]
      · cases h
theorem c_exec_T : ∀ (d n m : Nat) (as : List Value) (S : q_S) (o : Option Value) (S' : q_S), 1000 ≤ q_tp S → c_exec d n m as S = some (.returned o, S') → q_exec d n m as (c_T L xs S) = some (.returned o, c_T L xs S') ∧ c_B S S' := by
  intro d
  induction d with
  | zero =>
    intro n m as S o S' ht h
    exact c_run_T (cf := fun _ _ _ => none) (cg := fun _ _ _ => none) (fun _ _ _ _ _ _ z => by cases z) n m 0 _ _ S o S' ht h
  | succ d ih =>
    intro n m as S o S' ht h
    exact c_run_T (cf := c_exec d n) (cg := q_exec d n) (fun r as S v S' ht hc => ih n r as S v S' ht hc) n m 0 _ _ S o S' ht h
theorem c_T0 : c_T L xs (q_S0 0 (fun _ => 0)) = q_S0 L xs := by
  have e1 : (fun a => if a = 999 then (100, L) else q_sh (q_S0 0 (fun _ => 0)) a) = q_sh (q_S0 L xs) := by
    funext a
    by_cases h : a = 999
    · rw [if_pos h, h]
      rfl
    · rw [if_neg h]
      show (if a < 34 then _ else if a = 200 then _ else if a = 201 then _ else if 300 ≤ a ∧ a < 334 then _ else if 400 ≤ a ∧ a < 434 then _ else if a = 999 then _ else _) = (if a < 34 then _ else if a = 200 then _ else if a = 201 then _ else if 300 ≤ a ∧ a < 334 then _ else if 400 ≤ a ∧ a < 434 then _ else if a = 999 then _ else _)
      rw [if_neg h, if_neg h]
  have e2 : (fun a k => if a = 999 then xs k else q_iv (q_S0 0 (fun _ => 0)) a k) = q_iv (q_S0 L xs) := by
    funext a k
    by_cases h : a = 999
    · rw [if_pos h, h]
      rfl
    · rw [if_neg h]
      show (if a < 34 then _ else if a = 201 then _ else if 400 ≤ a ∧ a < 434 then _ else if a = 999 then _ else _) = (if a < 34 then _ else if a = 201 then _ else if 400 ≤ a ∧ a < 434 then _ else if a = 999 then _ else _)
      rw [if_neg h, if_neg h]
  show ((fun a => if a = 999 then (100, L) else q_sh (q_S0 0 (fun _ => 0)) a, (1000, 0), (fun a k => if a = 999 then xs k else q_iv (q_S0 0 (fun _ => 0)) a k), q_rv (q_S0 0 (fun _ => 0)), q_jv (q_S0 0 (fun _ => 0))) : q_S) = _
  rw [e1, e2]
  rfl
end CTR
