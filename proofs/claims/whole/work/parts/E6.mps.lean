/-! THE REFERENCE'S CHECK: its three passes. -/
def u_PM (S : q_S) (o : Nat) (ns : List v_Nd) : Nat → Nat → Prop
  | 0, _ => True
  | h + 1, i => q_iv S 1137 (o + i) = u_mk ns (h + 1) i ∧ match ns[i]? with
    | some (_, _, _, some a, none) => u_PM S o ns h a
    | some (_, _, _, some a, some b) => u_PM S o ns h a ∧ u_PM S o ns h b
    | _ => True
def u_PK (S : q_S) (o : Nat) (ns : List v_Nd) : Nat → Int32 → Nat → Prop
  | 0, _, _ => True
  | h + 1, kn, i => q_iv S 1138 (o + i) = kn ∧ match ns[i]? with
    | some (_, _, _, some a, none) => u_PK S o ns h kn a
    | some (s, _, _, some a, some b) => u_PK S o ns h kn a ∧ u_PK S o ns h (kn ||| (if s = 20 then u_mk ns h a else 0)) b
    | _ => True
def u_xi (c a : Nat) : Bool := decide (a = c)
theorem u_xi_no {c a : Nat} (h : a ≠ c) : u_xi c a = false := decide_eq_false h
def u_x2 (a : Nat) : Bool := decide (a = 1135) || decide (a = 1136)
theorem u_x2_no {a : Nat} (h : a ≠ 1135) (h' : a ≠ 1136) : u_x2 a = false := by
  unfold u_x2
  rw [decide_eq_false h, decide_eq_false h']
  rfl
abbrev u_L1 (i lo : Nat) (kn : Int32) (j r : Nat) (n : Int32) : List (Nat × Value) := [(0, .ref 1097), (1, .int (nI i)), (2, .int (nI (101 * i))), (3, .int (nI lo)), (4, .int kn), (5, .int (nI (20 * i + j))), (6, .int (nI r)), (7, .int n)]
abbrev u_L3 (i : Nat) (kn : Int32) (j r : Nat) (n : Int32) : List (Nat × Value) := [(0, .ref 1097), (1, .int (nI i)), (2, .int (nI (101 * i))), (4, .int kn), (5, .int (nI (20 * i + j))), (6, .int (nI r)), (7, .int n)]
theorem u_m1 : ∀ n, n < 101 → nI (n + 1) + Int32.ofInt (-1) = nI n := by decide +kernel
theorem u_ml : ∀ n, n < 101 → nI n + Int32.ofInt (-1) < nI n := by decide +kernel
section VMP
variable {d L i j r lo0 : Nat} {kn0 : Int32} {xs : Nat → Int32} {ns : List v_Nd} {Q : Outcome → q_S → Prop} {ke : Nat → Nat} {dt : Nat → Nat → Nat} {su : Nat → Nat → Bool} {hd : v_Hd} {cs : List v_Cd} {T : List v_Tk}
theorem u_PM_congr {o : Nat} {S S' : q_S} : ∀ h lo i, v_tr h ns lo i → (∀ j, lo ≤ j → j ≤ i → q_iv S' 1137 (o + j) = q_iv S 1137 (o + j)) → u_PM S o ns h i → u_PM S' o ns h i := by
  intro h
  induction h with
  | zero => intro lo i h; exact h.elim
  | succ h ih =>
    intro lo i ht he hp
    have hl := v_tr_lo ht
    obtain ⟨s, t, x, lf, rt, e1, e2⟩ := ht
    obtain ⟨p1, p2⟩ := hp
    refine ⟨(he i hl.1 (Nat.le_refl _)).trans p1, ?_⟩
    rw [e1] at p2 ⊢
    rcases e2 with ⟨rfl, rfl, _⟩ | ⟨a, rfl, rfl, ha, f3, f4⟩ | ⟨a, b, rfl, rfl, hb, f3, f4, f5, f6⟩
    · trivial
    · exact ih lo a f4 (fun j h1 h2 => he j h1 (by omega)) p2
    · have ib := v_tr_lo f6
      have ia := v_tr_lo f5
      exact ⟨ih lo a f5 (fun j h1 h2 => he j h1 (by omega)) p2.1, ih (a + 1) b f6 (fun j h1 h2 => he j (by omega) (by omega)) p2.2⟩
theorem u_PK_congr {o : Nat} {S S' : q_S} : ∀ h lo i kn, v_tr h ns lo i → (∀ j, lo ≤ j → j ≤ i → q_iv S' 1138 (o + j) = q_iv S 1138 (o + j)) → u_PK S o ns h kn i → u_PK S' o ns h kn i := by
  intro h
  induction h with
  | zero => intro lo i kn h; exact h.elim
  | succ h ih =>
    intro lo i kn ht he hp
    have hl := v_tr_lo ht
    obtain ⟨s, t, x, lf, rt, e1, e2⟩ := ht
    obtain ⟨p1, p2⟩ := hp
    refine ⟨(he i hl.1 (Nat.le_refl _)).trans p1, ?_⟩
    rw [e1] at p2 ⊢
    rcases e2 with ⟨rfl, rfl, _⟩ | ⟨a, rfl, rfl, ha, f3, f4⟩ | ⟨a, b, rfl, rfl, hb, f3, f4, f5, f6⟩
    · trivial
    · exact ih lo a kn f4 (fun j h1 h2 => he j h1 (by omega)) p2
    · have ib := v_tr_lo f6
      have ia := v_tr_lo f5
      exact ⟨ih lo a kn f5 (fun j h1 h2 => he j h1 (by omega)) p2.1, ih (a + 1) b _ f6 (fun j h1 h2 => he j (by omega) (by omega)) p2.2⟩
/-- what a pass leaves -/
def u_cg (c lo i o : Nat) (S S' : q_S) : Prop := v_fr (u_xi c) S S' ∧ ∀ j, j < lo ∨ i < j → q_iv S' c (o + j) = q_iv S c (o + j)
theorem u_p1 (hi : i < 6) (hj : j < 13) (hr : r < 100) (hlo : lo0 ≤ 100) (hlen : ns.length ≤ 100) : ∀ h lo n S, v_tr h ns lo n → n ≤ r → w_W (q_S0 L xs) S → v_MN S (101 * i) i ns → (∀ S', w_W (q_S0 L xs) S' → u_cg 1137 lo n (101 * i) S S' → u_PM S' (101 * i) ns h n → w_R (d + 1) 198 79 (u_L1 i lo0 kn0 j r (nI (n + 1))) [] S' Q) → w_R (d + 1) 198 79 (u_L1 i lo0 kn0 j r (nI lo)) [] S Q := by
  intro h
  induction h with
  | zero => intro lo n S h; exact h.elim
  | succ h ih =>
    intro lo n S ht hnr hW hN kk
    have hl := v_tr_lo ht
    have sg := v_tr_sg ht
    have ht0 := ht
    obtain ⟨s, t, x, lf, rt, e1, e2⟩ := ht
    obtain ⟨s', t', x', l', r', e1', e2', e3'⟩ := sg
    rw [e1] at e1'
    cases e1'
    -- the step at n itself
    have fin : ∀ S1, w_W (q_S0 L xs) S1 → u_cg 1137 lo (n - 1) (101 * i) S S1 → (∀ y, y = u_mk ns (h + 1) n → w_R (d + 1) 198 79 (u_L1 i lo0 kn0 j r (nI (n + 1))) [] (q_sI S1 1137 (101 * i + n) y) Q) → True := fun _ _ _ _ => trivial
    have wr : ∀ S1 y, w_W (q_S0 L xs) S1 → v_fr (u_xi 1137) S S1 → (∀ j, j < lo ∨ n < j → q_iv S1 1137 (101 * i + j) = q_iv S 1137 (101 * i + j)) → (∀ a, (∃ lo', v_tr h ns lo' a ∧ a < n) → u_PM S1 (101 * i) ns h a → u_PM (q_sI S1 1137 (101 * i + n) y) (101 * i) ns h a) → y = u_mk ns (h + 1) n → (match ns[n]? with
        | some (_, _, _, some a, none) => u_PM (q_sI S1 1137 (101 * i + n) y) (101 * i) ns h a
        | some (_, _, _, some a, some b) => u_PM (q_sI S1 1137 (101 * i + n) y) (101 * i) ns h a ∧ u_PM (q_sI S1 1137 (101 * i + n) y) (101 * i) ns h b
        | _ => True) → w_R (d + 1) 198 79 (u_L1 i lo0 kn0 j r (nI (n + 1))) [] (q_sI S1 1137 (101 * i + n) y) Q := by
      intro S1 y hW1 hf ho _ hy hm
      refine kk _ (hW1.sI (by decide)) ⟨hf.sI (by decide), fun j hj => ?_⟩ ⟨by rw [v_hI, hy], hm⟩
      rw [v_kI (by omega)]
      exact ho j hj
    have keep : ∀ S1 y a lo', v_tr h ns lo' a → a < n → u_PM S1 (101 * i) ns h a → u_PM (q_sI S1 1137 (101 * i + n) y) (101 * i) ns h a := by
      intro S1 y a lo' hta han hp
      exact u_PM_congr h lo' a hta (fun j h1 h2 => v_kI (by omega)) hp
    rcases e2 with ⟨rfl, rfl, hlo', f3, f4, f5⟩ | ⟨a, rfl, rfl, ha, f3, f4⟩ | ⟨a, b, rfl, rfl, hb, f3, f4, f5, f6⟩
    · subst hlo'
      obtain ⟨n1, n2, n3, n4, n5⟩ := hN.2 lo s t x none none e1
      refine c198_79L hW hi hj (by omega) (by omega) hlo (by omega) hnr (by omega) n2 ?_
      refine wr S 0 hW v_fr.refl (fun _ _ => rfl) (fun a ⟨lo', h1, h2⟩ hp => keep S 0 a lo' h1 h2 hp) ?_ ?_
      · unfold u_mk; rw [e1]
      · rw [e1]; trivial
    · have ia := v_tr_lo f4
      refine ih lo a S f4 (by omega) hW hN (fun S1 hW1 hc1 hp1 => ?_)
      have hN1 : v_MN S1 (101 * i) i ns := hN.fr hc1.1 (fun a h1 h2 => u_xi_no (by omega))
      obtain ⟨n1, n2, n3, n4, n5⟩ := hN1.2 n s t x (some a) none e1
      rw [ha]
      have go : ∀ y, y = u_mk ns (h + 1) n → w_R (d + 1) 198 79 (u_L1 i lo0 kn0 j r (nI (n + 1))) [] (q_sI S1 1137 (101 * i + n) y) Q := by
        intro y hy
        refine wr S1 y hW1 hc1.1 (fun j hj => hc1.2 j (by omega)) (fun a ⟨lo', h1, h2⟩ hp => keep S1 y a lo' h1 h2 hp) hy ?_
        rw [e1]
        exact keep S1 y a lo f4 (by omega) hp1
      have em : u_mk ns (h + 1) n = if s = 26 then u_kb (u_sg ns a) x else 0 := by unfold u_mk; rw [e1]
      have w := u_nw (s := s) (r := none) e3'
      by_cases h26 : s = 26
      · subst h26
        obtain ⟨sa, ta, xa, la, ra, g1, g2, g3⟩ := v_tr_sg f4
        have ma := (hN1.2 a sa ta xa la ra g1).1
        have wa := u_nw (s := sa) (r := ra) g3
        rw [if_pos rfl, g2] at em
        have hx3 : x < 3 := by omega
        by_cases h6 : sa = 6
        · refine c198_79Hp (u := x) (a := a) hW1 hi hj (by omega) (by omega) hlo (by omega) (by omega) hnr (by omega) n2 n1 n3 (by rw [ma, wa.1.mpr h6]; rfl) hx3 n4 (go _ ?_)
          rw [em]; unfold u_kb; rw [if_pos h6]
        · by_cases h7 : sa = 7
          · refine c198_79Hr (u := x) (a := a) hW1 hi hj (by omega) (by omega) hlo (by omega) (by omega) hnr (by omega) n2 n1 n3 (by rw [ma, wa.2.1.mpr h7]; rfl) hx3 n4 (go _ ?_)
            rw [em]; unfold u_kb; rw [if_neg h6, if_pos h7, u_kb7 hx3]
          · refine c198_79Ho (wx := v_nw sa ra) (a := a) hW1 hi hj (by omega) (by omega) hlo (by omega) (by omega) hnr (by omega) (fun z => h6 (wa.1.mp z)) (fun z => h7 (wa.2.1.mp z)) n2 n1 n3 wa.2.2.2.2.2 ma (go _ ?_)
            rw [em]; unfold u_kb; rw [if_neg h6, if_neg h7]
      · rw [if_neg h26] at em
        exact c198_79U (w := v_nw s none) (a := a) hW1 hi hj (by omega) (by omega) hlo (by omega) (by omega) hnr (by omega) (fun z => by have := w.2.2.1.mp z; omega) (fun z => by have := w.2.2.2.1.mp z; omega) (fun z => h26 (w.2.2.2.2.1.mp z)) n2 w.2.2.2.2.2 n1 n3 (go _ em.symm)
    · have ia := v_tr_lo f5
      have ib := v_tr_lo f6
      refine ih lo a S f5 (by omega) hW hN (fun S1 hW1 hc1 hp1 => ?_)
      have hN1 : v_MN S1 (101 * i) i ns := hN.fr hc1.1 (fun a h1 h2 => u_xi_no (by omega))
      refine ih (a + 1) b S1 f6 (by omega) hW1 hN1 (fun S2 hW2 hc2 hp2 => ?_)
      have hN2 : v_MN S2 (101 * i) i ns := hN1.fr hc2.1 (fun a h1 h2 => u_xi_no (by omega))
      obtain ⟨n1, n2, n3, n4, n5⟩ := hN2.2 n s t x (some a) (some b) e1
      have hp1' : u_PM S2 (101 * i) ns h a := u_PM_congr h lo a f5 (fun j h1 h2 => hc2.2 j (by omega)) hp1
      rw [hb]
      have go : ∀ y, y = u_mk ns (h + 1) n → w_R (d + 1) 198 79 (u_L1 i lo0 kn0 j r (nI (n + 1))) [] (q_sI S2 1137 (101 * i + n) y) Q := by
        intro y hy
        refine wr S2 y hW2 (hc1.1.trans hc2.1) (fun j hj => (hc2.2 j (by omega)).trans (hc1.2 j (by omega))) (fun a ⟨lo', h1, h2⟩ hp => keep S2 y a lo' h1 h2 hp) hy ?_
        rw [e1]
        exact ⟨keep S2 y a lo f5 (by omega) hp1', keep S2 y b (a + 1) f6 (by omega) hp2⟩
      have em : u_mk ns (h + 1) n = if s = 20 then u_mk ns h a ||| u_mk ns h b else if s = 19 then u_mk ns h a &&& u_mk ns h b else 0 := by conv => lhs; unfold u_mk; rw [e1]
      have w := u_nw (s := s) (r := some b) e3'
      obtain ⟨h, rfl⟩ : ∃ q, h = q + 1 := by
        cases h with
        | zero => exact f5.elim
        | succ q => exact ⟨q, rfl⟩
      have ka : q_iv S2 1137 (101 * i + a) = u_mk ns (h + 1) a := hp1'.1
      have kb : q_iv S2 1137 (101 * i + b) = u_mk ns (h + 1) b := hp2.1
      by_cases h20 : s = 20
      · rw [if_pos h20] at em
        exact c198_79B204 (a := a) (b := b) hW2 hi hj (by omega) (by omega) hlo (by omega) (by omega) (by omega) (by omega) hnr (by omega) n2 (by rw [n1, w.2.2.1.mpr h20]; rfl) n3 ka kb (go _ em.symm)
      · rw [if_neg h20] at em
        by_cases h19 : s = 19
        · rw [if_pos h19] at em
          exact c198_79B205 (a := a) (b := b) hW2 hi hj (by omega) (by omega) hlo (by omega) (by omega) (by omega) (by omega) hnr (by omega) n2 (by rw [n1, w.2.2.2.1.mpr h19]; rfl) n3 ka kb (go _ em.symm)
        · rw [if_neg h19] at em
          exact c198_79B (w := v_nw s (some b)) (a := a) (b := b) hW2 hi hj (by omega) (by omega) hlo (by omega) (by omega) (by omega) (by omega) hnr (by omega) (fun z => h20 (w.2.2.1.mp z)) (fun z => h19 (w.2.2.2.1.mp z)) (fun z => f4 (w.2.2.2.2.1.mp z)) n2 w.2.2.2.2.2 n1 n3 (go _ em.symm)
end VMP
