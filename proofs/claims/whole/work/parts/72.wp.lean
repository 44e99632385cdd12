/-! A LOGIC OF RUNS of the pure machine: w_R says that the run from a place on ends, and that Q holds of its end; w_X the same of a method. -/
def w_cf (d n : Nat) : Nat → List Value → q_S → q_O := match d with
  | 0 => fun _ _ _ => none
  | d + 1 => q_exec d n
def w_R (d m pc : Nat) (lv : List (Nat × Value)) (st : List Value) (S : q_S) (Q : Outcome → q_S → Prop) : Prop := ∃ (n : Nat) (o : Outcome) (S' : q_S), q_run (w_cf d n) d n m pc lv st S = some (o, S') ∧ Q o S'
def w_X (d m : Nat) (as : List Value) (S : q_S) (Q : Outcome → q_S → Prop) : Prop := w_R d m 0 (lv_args 0 as) [] S Q
theorem w_exec (d n m : Nat) (as : List Value) (S : q_S) : q_exec d n m as S = q_run (w_cf d n) d n m 0 (lv_args 0 as) [] S := by
  cases d <;> rfl
theorem w_cf_le {d n n' : Nat} (h : n ≤ n') : q_le (w_cf d n) (w_cf d n') := by
  cases d with
  | zero => intro r as S o h; exact h
  | succ d => exact q_exec_le d n n' h
theorem w_R.mono {d m pc : Nat} {lv : List (Nat × Value)} {st : List Value} {S : q_S} {Q Q' : Outcome → q_S → Prop} (h : w_R d m pc lv st S Q) (hq : ∀ o S', Q o S' → Q' o S') : w_R d m pc lv st S Q' := by
  obtain ⟨n, o, S', h1, h2⟩ := h
  exact ⟨n, o, S', h1, hq o S' h2⟩
/-- one step -/
theorem w_step {d m pc pc' : Nat} {lv lv' : List (Nat × Value)} {st st' : List Value} {S S' : q_S} {Q : Outcome → q_S → Prop} (hs : ∀ cf n, q_run cf d (n + 1) m pc lv st S = q_run cf d n m pc' lv' st' S') (k : w_R d m pc' lv' st' S' Q) : w_R d m pc lv st S Q := by
  obtain ⟨n, o, S1, h1, h2⟩ := k
  refine ⟨n + 1, o, S1, ?_, h2⟩
  rw [hs]
  exact q_run_le (w_cf_le (Nat.le_succ n)) n n _ _ _ _ _ _ (Nat.le_refl _) h1
/-! fewer locals do no harm -/
def w_subs (lv : List (Nat × Value)) : List (Nat × Value) → Prop
  | [] => True
  | q :: l => q_ld lv q.1 = some q.2 ∧ w_subs lv l
def w_nd : List (Nat × Value) → Bool
  | [] => true
  | q :: l => !(l.any (fun r => r.1 == q.1)) && w_nd l
def w_sub (l lv : List (Nat × Value)) : Prop := w_nd l = true ∧ ∀ q ∈ l, q_ld lv q.1 = some q.2
theorem w_sub_of {l lv : List (Nat × Value)} (h1 : w_nd l = true) (h2 : w_subs lv l) : w_sub l lv := by
  refine ⟨h1, ?_⟩
  clear h1
  induction l with
  | nil => intro q hq; cases hq
  | cons a b ih =>
    intro q hq
    rcases List.mem_cons.mp hq with rfl | hq
    · exact h2.1
    · exact ih h2.2 q hq
theorem w_ld_mem {l : List (Nat × Value)} {i : Nat} {v : Value} (h : q_ld l i = some v) : (i, v) ∈ l := by
  unfold q_ld at h
  obtain ⟨q, hq, he⟩ := Option.map_eq_some_iff.mp h
  have h1 : q.1 = i := by simpa using List.find?_some hq
  obtain ⟨q1, q2⟩ := q
  dsimp only at h1 he
  subst h1; subst he
  exact List.mem_of_find?_eq_some hq
theorem w_sub.ld {l lv : List (Nat × Value)} (h : w_sub l lv) {i : Nat} {v : Value} (hl : q_ld l i = some v) : q_ld lv i = some v := h.2 (i, v) (w_ld_mem hl)
theorem w_nd_filter {l : List (Nat × Value)} (P : Nat × Value → Bool) (h : w_nd l = true) : w_nd (l.filter P) = true := by
  induction l with
  | nil => rfl
  | cons a b ih =>
    unfold w_nd at h
    rw [Bool.and_eq_true] at h
    rw [List.filter_cons]
    split
    · unfold w_nd
      rw [Bool.and_eq_true]
      refine ⟨?_, ih h.2⟩
      have h1 := h.1
      rw [Bool.not_eq_true'] at h1 ⊢
      rw [List.any_eq_false] at h1 ⊢
      intro x hx
      exact h1 x (List.mem_filter.mp hx).1
    · exact ih h.2
theorem w_ld_filter {lv : List (Nat × Value)} {P : Nat × Value → Bool} {i : Nat} {v : Value} (h : q_ld lv i = some v) (hP : P (i, v) = true) : q_ld (lv.filter P) i = some v := by
  induction lv with
  | nil => cases h
  | cons a b ih =>
    unfold q_ld at h ih ⊢
    rw [List.find?_cons] at h
    rw [List.filter_cons]
    cases ha : (a.1 == i) with
    | true =>
      rw [ha] at h
      have he : a = (i, v) := by
        obtain ⟨a1, a2⟩ := a
        have h1 : a1 = i := by simpa using ha
        have h2 : a2 = v := by simpa using h
        rw [h1, h2]
      rw [he, if_pos hP, List.find?_cons]
      simp
    | false =>
      rw [ha] at h
      split
      · rw [List.find?_cons, ha]
        exact ih h
      · exact ih h
theorem w_sub.st {l lv : List (Nat × Value)} (h : w_sub l lv) (i : Nat) (v : Value) (P : Nat × Value → Bool) (hP : ∀ w, P (i, w) = false) : w_sub ((i, v) :: l.filter P) ((i, v) :: lv.filter P) := by
  refine ⟨?_, ?_⟩
  · unfold w_nd
    rw [Bool.and_eq_true, Bool.not_eq_true', List.any_eq_false]
    refine ⟨fun x hx => ?_, w_nd_filter P h.1⟩
    intro hxi
    have hxi : x.1 = i := by simpa using hxi
    have hp := (List.mem_filter.mp hx).2
    obtain ⟨x1, x2⟩ := x
    dsimp only at hxi
    subst hxi
    rw [hP x2] at hp
    cases hp
  · intro q hq
    rcases List.mem_cons.mp hq with rfl | hq
    · unfold q_ld
      simp
    · obtain ⟨h1, h2⟩ := List.mem_filter.mp hq
      have h3 := w_ld_filter (h.2 q h1) h2
      have hne : ¬ q.1 = i := fun z => by
        obtain ⟨q1, q2⟩ := q
        dsimp only at z
        subst z
        rw [hP q2] at h2
        cases h2
      unfold q_ld at h3 ⊢
      rw [List.find?_cons]
      have : ((i, v).1 == q.1) = false := by simpa using fun z => hne z.symm
      rw [this]
      exact h3
theorem w_sub.s1 {l lv : List (Nat × Value)} (h : w_sub l lv) (i : Nat) (v : Value) : w_sub (q_s1 l i v) (q_s1 lv i v) := h.st i v _ (fun w => by simp)
theorem w_sub.s2 {l lv : List (Nat × Value)} (h : w_sub l lv) (i : Nat) (v : Value) : w_sub (q_s2 l i v) (q_s2 lv i v) := h.st i v _ (fun w => by simp)
theorem w_sub.wr {l lv l' : List (Nat × Value)} {i : Jvm.ClassFile.Instr} {st st' : List Value} {len : Nat} (h : w_sub l lv) (hw : q_wr i l st = some (len, l', st')) : ∃ lv', q_wr i lv st = some (len, lv', st') ∧ w_sub l' lv' := by
  unfold q_wr at hw ⊢
  split at hw <;> cases hw
  · exact ⟨_, rfl, h.s1 _ _⟩
  · exact ⟨_, rfl, h.s1 _ _⟩
  · exact ⟨_, rfl, h.s1 _ _⟩
  · exact ⟨_, rfl, h.s1 _ _⟩
  · exact ⟨_, rfl, h.s1 _ _⟩
  · exact ⟨_, rfl, h.s1 _ _⟩
  · exact ⟨_, rfl, h.s2 _ _⟩
  · exact ⟨_, rfl, h.s2 _ _⟩
set_option maxHeartbeats 4000000 in
theorem w_run_sub {cf : Nat → List Value → q_S → q_O} {d : Nat} : ∀ (n m pc : Nat) (l lv : List (Nat × Value)) (st : List Value) (S : q_S) (o : Outcome × q_S), w_sub l lv → q_run cf d n m pc l st S = some o → q_run cf d n m pc lv st S = some o := by
  intro n
  induction n with
  | zero => intro m pc l lv st S o _ h; exact absurd h (by unfold q_run; exact fun z => by cases z)
  | succ n ih =>
    intro m pc l lv st S o hs h
    unfold q_run at h ⊢
    split at h
    · cases h
    · rename_i i len r hf
      try rw [hf]
      try dsimp only at h ⊢
      split at h
      · rename_i hk; try rw [hk]
        exact q_bind h fun q _ h => q_ite h fun _ h => ih _ _ _ _ _ _ _ hs h
      · rename_i hk; try rw [hk]
        exact q_bind h fun q _ h => q_ite h fun _ h => ih _ _ _ _ _ _ _ hs h
      · rename_i hk; try rw [hk]
        try dsimp only
        obtain ⟨q, hq, h⟩ := q_bs h
        obtain ⟨v, hv, h⟩ := q_bs h
        rw [hq, Option.bind_some, hs.ld hv, Option.bind_some]
        exact q_ite h fun _ h => ih _ _ _ _ _ _ _ hs h
      · rename_i hk; try rw [hk]
        try dsimp only
        obtain ⟨q, hq, h⟩ := q_bs h
        obtain ⟨q1, q2, q3⟩ := q
        obtain ⟨lv', hw, hs'⟩ := hs.wr hq
        rw [hw, Option.bind_some]
        exact q_ite h fun _ h => ih _ _ _ _ _ _ _ hs' h
      · rename_i hk
        try rw [hk]
        try dsimp only
        split at h
        · rename_i j k
          split at h
          · rename_i x hx
            rw [hs.ld hx]
            exact q_ite h fun _ h => ih _ _ _ _ _ _ _ (hs.s1 _ _) h
          · cases h
        · cases h
      · rename_i hk; try rw [hk]
        exact q_bind h fun q _ h => q_ite h fun _ h => ih _ _ _ _ _ _ _ hs h
      · rename_i hk
        try rw [hk]
        try dsimp only
        by_cases hr : r = 9999
        · rw [if_pos hr] at h ⊢
          split at h
          · exact q_ite h fun _ h => ih _ _ _ _ _ _ _ hs h
          · cases h
        · rw [if_neg hr] at h ⊢
          by_cases hr7 : r = 27
          · rw [if_pos hr7] at h ⊢
            split at h
            · exact q_ite h fun _ h => ih _ _ _ _ _ _ _ hs h
            · cases h
          rw [if_neg hr7] at h ⊢
          refine q_ite h fun _ h => ?_
          cases hcf : cf r (List.take (q_mm r).2.2.2.2.2.1 st).reverse S with
          | none => rw [hcf] at h; cases h
          | some q =>
            rw [hcf] at h
            obtain ⟨oc, S'⟩ := q
            cases oc with
            | returned v => exact ih _ _ _ _ _ _ _ hs h
            | threw x =>
              dsimp only at h ⊢
              cases hh : q_hs m pc (q_sh S' x).1 with
              | none => rw [hh] at h; exact h
              | some t => rw [hh] at h; exact q_ite h fun _ h => ih _ _ _ _ _ _ _ hs h
      · rename_i hk; try rw [hk]
        exact h
      · rename_i hk
        try rw [hk]
        try dsimp only
        split at h
        · exact q_bind h fun q _ h => ih _ _ _ _ _ _ _ hs h
        · cases h
      · rename_i hk; try rw [hk]
        exact h
      · cases h
theorem w_re {d m pc : Nat} {l lv : List (Nat × Value)} {st : List Value} {S : q_S} {Q : Outcome → q_S → Prop} (h1 : w_nd l = true) (h2 : w_subs lv l) (k : w_R d m pc l st S Q) : w_R d m pc lv st S Q := by
  obtain ⟨n, o, S', h, hq⟩ := k
  exact ⟨n, o, S', w_run_sub n m pc l lv st S _ (w_sub_of h1 h2) h, hq⟩
