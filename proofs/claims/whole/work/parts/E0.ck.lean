/-! WHAT A CHECK FINDS, as a function; the class's checker finds it. A type is a number: 0 wrong, 1, 2, and 3 + 4 * kinds. -/
def u_as (su : Nat → Nat → Bool) (ki a : Nat) : Bool := (decide (ki % 2 = 0) || su 0 a) && ((decide (ki / 2 % 2 = 0) || su 1 a) && (decide (ki / 4 % 2 = 0) || su 2 a))
def u_cs1 (b : Bool) (t : Nat) (c : Option Nat) : Option Nat := match c with
  | none => none
  | some c => if b = true then (if t = 0 then none else if c = 0 ∨ c = t then some t else none) else some c
def u_ct (dt : Nat → Nat → Nat) (ki a : Nat) : Nat := (u_cs1 (decide (ki / 4 % 2 = 1)) (dt 2 a) (u_cs1 (decide (ki / 2 % 2 = 1)) (dt 1 a) (u_cs1 (decide (ki % 2 = 1)) (dt 0 a) (some 0)))).getD 0
def u_tc (t : Nat) : Int32 := if t = 0 then -1 else nI t
def u_kk (ke : Nat → Nat) (c : Nat × Nat) : Nat := if c.1 = 1 then ke c.2 else 7
def u_kb (sg x : Nat) : Int32 := if sg = 6 then (1 : Int32) <<< (nI x &&& 31) else if sg = 7 then ((1 : Int32) <<< (nI x &&& 31)) <<< ((3 : Int32) &&& 31) else 0
def u_sg (ns : List v_Nd) (i : Nat) : Nat := match ns[i]? with
  | some (s, _) => s
  | none => 0
def u_lft (ke : Nat → Nat) (hd : v_Hd) (s x : Nat) : Nat := if s = 30 then 1 else if s = 4 ∨ s = 5 then 2 else if s = 6 then 4 * u_kk ke hd.2.1 + 3 else if s = 7 then 4 * u_kk ke hd.2.2.2 + 3 else 4 * ke x + 3
def u_one (dt : Nat → Nat → Nat) (su : Nat → Nat → Bool) (sg : Nat) (kn : Int32) (s x t : Nat) : Nat :=
  if s = 18 then (if t % 4 = 2 then t else 0) else if s = 28 then (if t % 4 = 1 then t else 0) else if s = 26 then (if t % 4 = 3 then 2 else 0)
  else if t % 4 = 3 then (if u_as su (t / 4) x = true then u_ct dt (t / 4) x else if kn &&& u_kb sg x = 0 then 0 else u_ct dt (t / 4) x) else 0
def u_two (s t r : Nat) : Nat :=
  if s = 21 ∨ s = 22 then (if t % 4 = r % 4 then 2 else 0) else if s = 19 ∨ s = 20 then (if t % 4 = r % 4 then (if t % 4 = 2 then 2 else 0) else 0)
  else if s = 25 then (if t % 4 = r % 4 then (if t % 4 = 3 then 2 else 0) else 0) else if s = 23 ∨ s = 24 then (if t % 4 = r % 4 then (if t % 4 = 1 then 2 else 0) else 0)
  else (if t % 4 = r % 4 then (if t % 4 = 1 then 1 else 0) else 0)
def u_mk (ns : List v_Nd) : Nat → Nat → Int32
  | 0, _ => 0
  | h + 1, i => match ns[i]? with
    | some (s, _, x, some a, none) => if s = 26 then u_kb (u_sg ns a) x else 0
    | some (s, _, _, some a, some b) => if s = 20 then u_mk ns h a ||| u_mk ns h b else if s = 19 then u_mk ns h a &&& u_mk ns h b else 0
    | _ => 0
def u_ck (ke : Nat → Nat) (dt : Nat → Nat → Nat) (su : Nat → Nat → Bool) (hd : v_Hd) (ns : List v_Nd) : Nat → Int32 → Nat → Nat × Nat
  | 0, _, _ => (0, 0)
  | h + 1, kn, i => match ns[i]? with
    | none => (0, 0)
    | some (s, t, x, none, _) => (u_lft ke hd s x, t)
    | some (s, t, x, some a, none) => if (u_ck ke dt su hd ns h kn a).1 = 0 then u_ck ke dt su hd ns h kn a else (u_one dt su (u_sg ns a) kn s x (u_ck ke dt su hd ns h kn a).1, t)
    | some (s, t, _, some a, some b) =>
      if (u_ck ke dt su hd ns h kn a).1 = 0 then u_ck ke dt su hd ns h kn a
      else if (u_ck ke dt su hd ns h (kn ||| (if s = 20 then u_mk ns h a else 0)) b).1 = 0 then u_ck ke dt su hd ns h (kn ||| (if s = 20 then u_mk ns h a else 0)) b
      else (u_two s (u_ck ke dt su hd ns h kn a).1 (u_ck ke dt su hd ns h (kn ||| (if s = 20 then u_mk ns h a else 0)) b).1, t)
/-- the check of a policy: the token at fault -/
def u_fw (ke : Nat → Nat) (dt : Nat → Nat → Nat) (su : Nat → Nat → Bool) (hd : v_Hd) (ns : List v_Nd) : Int32 → List v_Cd → Option Nat
  | _, [] => none
  | kn, c :: cs => if (u_ck ke dt su hd ns 50 kn c.2.2).1 = 0 then some (u_ck ke dt su hd ns 50 kn c.2.2).2 else if (u_ck ke dt su hd ns 50 kn c.2.2).1 = 2 then u_fw ke dt su hd ns (kn ||| (if c.1 = 0 then 0 else u_mk ns 50 c.2.2)) cs else some c.2.1
/-- the tables that a check looks at -/
def u_KT (ke : Nat → Nat) (dt : Nat → Nat → Nat) : Prop := (∀ e, e < 16 → ke e = 0 ∨ ∃ k, k < 3 ∧ ke e = 2 ^ k) ∧ ∀ k a, k < 3 → a < 3 → dt k a = 0 ∨ dt k a = 1 ∨ dt k a = 2 ∨ ∃ o, o < 3 ∧ dt k a = 4 * 2 ^ o + 3
def u_KC (S : q_S) (ke : Nat → Nat) (dt : Nat → Nat → Nat) (su : Nat → Nat → Bool) : Prop := (∀ e, e < 16 → (q_iv S 1016 e = -2 ∧ ke e = 0) ∨ ∃ k, k < 3 ∧ q_iv S 1016 e = nI k ∧ ke e = 2 ^ k) ∧ ∀ k a, k < 3 → a < 3 → q_iv S 1021 (3 * k + a) = nI (dt k a) ∧ q_iv S 1022 (3 * k + a) = if su k a = true then 1 else 0
/-- what may be a type -/
def u_ok (t : Nat) : Prop := t = 1 ∨ t = 2 ∨ (t % 4 = 3 ∧ t < 32)
theorem u_p2 {k : Nat} (h : k < 3) : 2 ^ k = 1 ∨ 2 ^ k = 2 ∨ 2 ^ k = 4 := by
  have : k = 0 ∨ k = 1 ∨ k = 2 := by omega
  rcases this with rfl | rfl | rfl <;> decide
theorem u_sh1 {k : Nat} (h : k < 3) : (1 : Int32) <<< (nI k &&& 31) = nI (2 ^ k) := by
  have : k = 0 ∨ k = 1 ∨ k = 2 := by omega
  rcases this with rfl | rfl | rfl <;> decide
section VCK
variable {d L P N : Nat} {xs : Nat → Int32} {S : q_S} {pl : Nat → Nat} {ke : Nat → Nat} {dt : Nat → Nat → Nat} {su : Nat → Nat → Bool} {hd : v_Hd} {ns : List v_Nd} {cs : List v_Cd} {Q : Outcome → q_S → Prop}
theorem u_KT.dl (h : u_KT ke dt) {k a : Nat} (hk : k < 3) (ha : a < 3) : dt k a < 32 ∧ (dt k a = 0 ∨ u_ok (dt k a)) := by
  unfold u_ok
  rcases h.2 k a hk ha with e | e | e | ⟨o, ho, e⟩
  · omega
  · omega
  · omega
  · rcases u_p2 ho with f | f | f <;> omega
theorem u_KT.kl (h : u_KT ke dt) {e : Nat} (he : e < 16) : ke e < 8 := by
  rcases h.1 e he with f | ⟨k, hk, f⟩
  · omega
  · rcases u_p2 hk with g | g | g <;> omega
theorem u_cs1_ok {b : Bool} {t : Nat} {c : Option Nat} (h : ∀ x, c = some x → x = 0 ∨ u_ok x) (ht : t = 0 ∨ u_ok t) : ∀ x, u_cs1 b t c = some x → x = 0 ∨ u_ok x := by
  intro x hx
  unfold u_cs1 at hx
  cases c with
  | none => cases hx
  | some c =>
    dsimp only at hx
    repeat' split at hx
    all_goals first | (cases hx; exact ht) | (cases hx; exact h _ rfl) | cases hx
theorem u_ct_ok (h : u_KT ke dt) {ki a : Nat} (ha : a < 3) : u_ct dt ki a = 0 ∨ u_ok (u_ct dt ki a) := by
  have h0 := (h.dl (k := 0) (by decide) ha).2
  have h1 := (h.dl (k := 1) (by decide) ha).2
  have h2 := (h.dl (k := 2) (by decide) ha).2
  unfold u_ct
  have := u_cs1_ok (b := decide (ki / 4 % 2 = 1)) (u_cs1_ok (b := decide (ki / 2 % 2 = 1)) (u_cs1_ok (b := decide (ki % 2 = 1)) (c := some 0) (fun x hx => Or.inl (by cases hx; rfl)) h0) h1) h2
  revert this
  generalize u_cs1 (decide (ki / 4 % 2 = 1)) (dt 2 a) _ = c
  intro this
  cases c with
  | none => exact Or.inl rfl
  | some c => exact this c rfl
theorem u_ok_lt {t : Nat} (h : u_ok t) : 1 ≤ t ∧ t < 32 := by unfold u_ok at h; omega
theorem u_lft_ok (h : u_KT ke dt) {N : Nat} {g : Nat → Nat} (hF : v_WF N g hd ns cs) {s x : Nat} (hx : s = 31 → x < 16) (hs : v_lf s = true) : u_ok (u_lft ke hd s x) := by
  have hk : ∀ c : Nat × Nat, c.2 < 16 → u_kk ke c < 8 := by
    intro c hc
    unfold u_kk
    split
    · exact h.kl hc
    · omega
  have k1 := hk hd.2.1 hF.1.2.2.1
  have k2 := hk hd.2.2.2 hF.1.2.2.2.2.2
  have h6 : s = 30 ∨ s = 4 ∨ s = 5 ∨ s = 31 ∨ s = 6 ∨ s = 7 := by
    unfold v_lf at hs
    simp only [Bool.or_eq_true, decide_eq_true_eq] at hs
    exact hs
  unfold u_lft u_ok
  rcases h6 with rfl | rfl | rfl | rfl | rfl | rfl
  · simp
  · simp
  · simp
  · have := h.kl (hx rfl)
    simp
    omega
  · simp
    omega
  · simp
    omega
theorem u_one_ok (h : u_KT ke dt) {sg s x t : Nat} {kn : Int32} (ht : u_ok t) (hx : s = 18 ∨ s = 28 ∨ ((s = 16 ∨ s = 26) ∧ x < 3)) : u_one dt su sg kn s x t = 0 ∨ u_ok (u_one dt su sg kn s x t) := by
  have two : u_ok 2 := Or.inr (Or.inl rfl)
  generalize hy : u_one dt su sg kn s x t = y
  unfold u_one at hy
  rcases hx with rfl | rfl | ⟨rfl | rfl, hx⟩
  · repeat' split at hy
    all_goals first | (subst hy; exact Or.inr ht) | (subst hy; exact Or.inl rfl) | omega
  · repeat' split at hy
    all_goals first | (subst hy; exact Or.inr ht) | (subst hy; exact Or.inl rfl) | omega
  · have := u_ct_ok h (ki := t / 4) hx
    repeat' split at hy
    all_goals first | omega | (subst hy; exact this) | (subst hy; exact Or.inl rfl)
  · repeat' split at hy
    all_goals first | omega | (subst hy; exact Or.inr two) | (subst hy; exact Or.inl rfl)
theorem u_two_ok {s t r : Nat} : u_two s t r = 0 ∨ u_ok (u_two s t r) := by
  generalize hy : u_two s t r = y
  unfold u_two at hy
  unfold u_ok
  repeat' split at hy
  all_goals omega
theorem u_ck_ok (h : u_KT ke dt) {N : Nat} {g : Nat → Nat} (hF : v_WF N g hd ns cs) : ∀ n lo i kn, v_tr n ns lo i → (u_ck ke dt su hd ns n kn i).1 = 0 ∨ u_ok (u_ck ke dt su hd ns n kn i).1 := by
  intro n
  induction n with
  | zero => intro lo i kn h; exact h.elim
  | succ n ih =>
    intro lo i kn ht
    obtain ⟨s, t, x, lf, rt, e1, e2⟩ := ht
    unfold u_ck
    rw [e1]
    rcases e2 with ⟨rfl, rfl, _, f3, f4, f5⟩ | ⟨a, rfl, rfl, ha, f3, f4⟩ | ⟨a, b, rfl, rfl, hb, f3, f4, f5, f6⟩
    · exact Or.inr (u_lft_ok h hF f4 f3)
    · dsimp only
      have := ih lo a kn f4
      split
      · exact this
      · rename_i hne
        exact u_one_ok h (this.resolve_left hne) f3
    · dsimp only
      repeat' split
      · exact ih lo a kn f5
      · exact ih _ b _ f6
      · exact u_two_ok
      all_goals first | exact ih lo a kn f5 | exact ih _ b _ f6 | exact u_two_ok
/-- the class: a kind, the kinds of a scope -/
theorem x100 (hW : w_W (q_S0 L xs) S) (hK : u_KC S ke dt su) {e : Nat} (he : e < 16) (kk : Q (.returned (some (.int (nI (ke e))))) S) : w_X (d + 1) 100 [.ref 1015, .int (nI e)] S Q := by
  rcases hK.1 e he with ⟨h1, h2⟩ | ⟨k, hk, h1, h2⟩
  · rw [h2] at kk
    exact k100_n hW he h1 kk
  · rw [h2, ← u_sh1 hk] at kk
    exact k100_y hW he hk h1 kk
theorem x107 (hW : w_W (q_S0 L xs) S) (hp : w_P P) (hK : u_KC S ke dt su) {c : Nat × Nat} {j : Nat} (hj : j = 1 ∨ j = 2) (h1 : q_iv S (P + j) 0 = nI c.1) (h2 : q_iv S (P + j) 1 = nI c.2) (c1 : c.1 ≤ 2) (c2 : c.2 < 16) (kk : Q (.returned (some (.int (nI (u_kk ke c))))) S) : w_X (d + 2) 107 [.ref (P + j), .ref 1015] S Q := by
  obtain ⟨r, f⟩ := c
  dsimp only at h1 h2 c1 c2
  have hr : r = 0 ∨ r = 1 ∨ r = 2 := by omega
  rcases hr with rfl | rfl | rfl
  · rcases hj with rfl | rfl
    · exact k107_1_0 hW hp c2 h2 h1 kk
    · exact k107_2_0 hW hp c2 h2 h1 kk
  · have fin : w_X (d + 1) 100 [.ref 1015, .int (nI f)] S (w_k (d + 2) 107 13 [] [] Q) := x100 hW hK c2 (k107_r hW kk)
    rcases hj with rfl | rfl
    · exact k107_1_1 hW hp c2 h2 h1 fin
    · exact k107_2_1 hW hp c2 h2 h1 fin
  · rcases hj with rfl | rfl
    · exact k107_1_2 hW hp c2 h2 h1 kk
    · exact k107_2_2 hW hp c2 h2 h1 kk
theorem u_nb (b : Bool) : narrow .boolean (.int (if b = true then 1 else 0)) = .int (if b = true then 1 else 0) := by cases b <;> rfl
theorem u_n0 {b : Bool} (h : ¬ ((if b = true then (1 : Int32) else 0) = 0)) : b = true := by cases b with
  | true => rfl
  | false => exact absurd rfl h
theorem u_e0 {b : Bool} (h : (if b = true then (1 : Int32) else 0) = 0) : b = false := by cases b with
  | true => exact absurd h (by decide)
  | false => rfl
theorem x112 (hW : w_W (q_S0 L xs) S) (hK : u_KC S ke dt su) {ki a : Nat} (hk : ki < 8) (ha : a < 3) (kk : Q (.returned (some (.int (if u_as su ki a = true then 1 else 0)))) S) : w_X (d + 1) 112 [.ref 1020, .int (nI ki), .int (nI a)] S Q := by
  have e0 : q_iv S 1022 (0 + a) = if su 0 a = true then 1 else 0 := (hK.2 0 a (by decide) ha).2
  have e1 : q_iv S 1022 (3 + a) = if su 1 a = true then 1 else 0 := (hK.2 1 a (by decide) ha).2
  have e2 : q_iv S 1022 (6 + a) = if su 2 a = true then 1 else 0 := (hK.2 2 a (by decide) ha).2
  unfold u_as at kk
  have hc : ki = 0 ∨ ki = 1 ∨ ki = 2 ∨ ki = 3 ∨ ki = 4 ∨ ki = 5 ∨ ki = 6 ∨ ki = 7 := by omega
  rcases hc with rfl | rfl | rfl | rfl | rfl | rfl | rfl | rfl
  · exact k112_0 hW ha kk
  · exact k112_1 hW ha e0 (u_nb _) (fun c => by simpa [u_n0 c] using kk) (fun c => by simpa [u_e0 c] using kk)
  · exact k112_2 hW ha e1 (u_nb _) (fun c => by simpa [u_n0 c] using kk) (fun c => by simpa [u_e0 c] using kk)
  · exact k112_3 hW ha e0 (u_nb _) (fun _ => e1) (fun _ => u_nb _) (fun c d => by simpa [u_n0 c, u_n0 d] using kk) (fun c d => by simpa [u_n0 c, u_e0 d] using kk) (fun c => by simpa [u_e0 c] using kk)
  · exact k112_4 hW ha e2 (u_nb _) (fun c => by simpa [u_n0 c] using kk) (fun c => by simpa [u_e0 c] using kk)
  · exact k112_5 hW ha e0 (u_nb _) (fun _ => e2) (fun _ => u_nb _) (fun c d => by simpa [u_n0 c, u_n0 d] using kk) (fun c d => by simpa [u_n0 c, u_e0 d] using kk) (fun c => by simpa [u_e0 c] using kk)
  · exact k112_6 hW ha e1 (u_nb _) (fun _ => e2) (fun _ => u_nb _) (fun c d => by simpa [u_n0 c, u_n0 d] using kk) (fun c d => by simpa [u_n0 c, u_e0 d] using kk) (fun c => by simpa [u_e0 c] using kk)
  · exact k112_7 hW ha e0 (u_nb _) (fun _ => e1) (fun _ => u_nb _) (fun _ _ => e2) (fun _ _ => u_nb _) (fun c d e => by simpa [u_n0 c, u_n0 d, u_n0 e] using kk) (fun c d e => by simpa [u_n0 c, u_n0 d, u_e0 e] using kk) (fun c d => by simpa [u_n0 c, u_e0 d] using kk) (fun c => by simpa [u_e0 c] using kk)
theorem x114 (hW : w_W (q_S0 L xs) S) (hT : u_KT ke dt) (hK : u_KC S ke dt su) {ki a : Nat} (hk : ki < 8) (ha : a < 3) (kk : Q (.returned (some (.int (u_tc (u_ct dt ki a))))) S) : w_X (d + 1) 114 [.ref 1020, .int (nI ki), .int (nI a)] S Q := by
  have e0 : q_iv S 1021 (0 + a) = nI (dt 0 a) := (hK.2 0 a (by decide) ha).1
  have e1 : q_iv S 1021 (3 + a) = nI (dt 1 a) := (hK.2 1 a (by decide) ha).1
  have e2 : q_iv S 1021 (6 + a) = nI (dt 2 a) := (hK.2 2 a (by decide) ha).1
  have l0 := (hT.dl (k := 0) (by decide) ha).1
  have l1 := (hT.dl (k := 1) (by decide) ha).1
  have l2 := (hT.dl (k := 2) (by decide) ha).1
  unfold u_ct u_cs1 u_tc at kk
  have hc : ki = 0 ∨ ki = 1 ∨ ki = 2 ∨ ki = 3 ∨ ki = 4 ∨ ki = 5 ∨ ki = 6 ∨ ki = 7 := by omega
  rcases hc with rfl | rfl | rfl | rfl | rfl | rfl | rfl | rfl
  · exact k114_0 hW ha kk
  · exact k114_1 hW ha l0 e0 (fun c => by simpa [c] using kk) (fun c => by simpa [c] using kk)
  · exact k114_2 hW ha l1 e1 (fun c => by simpa [c] using kk) (fun c => by simpa [c] using kk)
  · exact k114_3 hW ha l0 e0 l1 (fun _ => e1) (fun c => by simpa [c] using kk) (fun c d => by simpa [c, d] using kk) (fun c d e => by simpa [c, d, e] using kk) (fun c d e => by simpa [c, d, e] using kk)
  · exact k114_4 hW ha l2 e2 (fun c => by simpa [c] using kk) (fun c => by simpa [c] using kk)
  · exact k114_5 hW ha l0 e0 l2 (fun _ => e2) (fun c => by simpa [c] using kk) (fun c d => by simpa [c, d] using kk) (fun c d e => by simpa [c, d, e] using kk) (fun c d e => by simpa [c, d, e] using kk)
  · exact k114_6 hW ha l1 e1 l2 (fun _ => e2) (fun c => by simpa [c] using kk) (fun c d => by simpa [c, d] using kk) (fun c d e => by simpa [c, d, e] using kk) (fun c d e => by simpa [c, d, e] using kk)
  · exact k114_7 hW ha l0 e0 l1 (fun _ => e1) l2 (fun _ _ _ => e2) (fun c => by simpa [c] using kk) (fun c d => by simpa [c, d] using kk) (fun c d e f => by simpa [c, d, e, f] using kk) (fun c d e f g => by simpa [c, d, e, f, g] using kk) (fun c d e f g => by simpa [c, d, e, f, g] using kk) (fun c d e => by simpa [c, d, e] using kk)
end VCK
