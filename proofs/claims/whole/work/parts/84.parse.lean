/-! THE GRAMMAR, read by a function: tokens g (signs) and v (numbers); nodes stand in a row, parts first: sign, token, number, left, right. -/
abbrev v_Nd : Type := Nat × Nat × Nat × Option Nat × Option Nat
abbrev v_Rs : Type := Option Nat × Nat × List v_Nd
def v_lv (s : Nat) : Nat := if s = 19 then 0 else if s = 20 then 1 else if 21 ≤ s ∧ s ≤ 26 then 2 else if s = 27 ∨ s = 28 then 3 else if s = 29 then 4 else 9
def v_at (s : Nat) : Bool := decide (8 ≤ s) && decide (s ≤ 10)
def v_lf (s : Nat) : Bool := decide (s = 30) || (decide (s = 4) || (decide (s = 5) || (decide (s = 31) || (decide (s = 6) || decide (s = 7)))))
def v_bd (q : Option v_Rs) (f : Nat → Nat → List v_Nd → Option v_Rs) : Option v_Rs := match q with
  | none => none
  | some (none, p, ns) => some (none, p, ns)
  | some (some r, p, ns) => f r p ns
def v_pz (g v : Nat → Nat) : Nat → Nat → Nat → Nat → Nat → List v_Nd → Option v_Rs
  | 0, _, _, _, _, _ => none
  | n + 1, md, dp, lf, ps, ns =>
    if md < 5 then v_bd (v_pz g v n (md + 1) dp 0 ps ns) (fun r p ns => v_pz g v n (10 + md) dp r p ns)
    else if md = 5 then
      if 7 ≤ dp then some (none, ps, ns)
      else if g ps = 18 ∨ g ps = 28 then v_bd (v_pz g v n 5 (dp + 1) 0 (ps + 1) ns) (fun r p ns => some (some ns.length, p, ns ++ [(g ps, ps, 0, some r, none)]))
      else v_pz g v n 6 dp 0 ps ns
    else if md = 6 then
      if v_lf (g ps) = true then v_pz g v n 16 dp ns.length (ps + 1) (ns ++ [(g ps, ps, v ps, none, none)])
      else if g ps = 11 then v_bd (v_pz g v n 0 (dp + 1) 0 (ps + 1) ns) (fun r p ns => if g p = 12 then v_pz g v n 16 dp r (p + 1) ns else some (none, p, ns))
      else some (none, ps, ns)
    else if md = 16 then
      if g ps = 16 then (if v_at (g (ps + 1)) = true then v_pz g v n 16 dp ns.length (ps + 2) (ns ++ [(16, ps, g (ps + 1) - 8, some lf, none)]) else some (none, ps + 1, ns))
      else some (some lf, ps, ns)
    else
      if v_lv (g ps) = md - 10 then
        if g ps = 26 then (if v_at (g (ps + 1)) = true then some (some ns.length, ps + 2, ns ++ [(26, ps, g (ps + 1) - 8, some lf, none)]) else some (none, ps + 1, ns))
        else v_bd (v_pz g v n (md - 9) dp 0 (ps + 1) ns) (fun r p ns => if md = 12 then some (some ns.length, p, ns ++ [(g ps, ps, 0, some lf, some r)]) else v_pz g v n md dp ns.length p (ns ++ [(g ps, ps, 0, some lf, some r)]))
      else some (some lf, ps, ns)
def v_TK (N : Nat) (g v pl : Nat → Nat) : Prop := N ≤ 100 ∧ ∀ j, j ≤ N → g j < 34 ∧ v j < 1000000 ∧ pl j ≤ 100 ∧ (j < N → g j ≠ 32 ∧ g j ≠ 33) ∧ (j = N → g j = 32 ∨ g j = 33) ∧ (g j = 31 → v j < 16)
theorem v_TK.lt {N : Nat} {g v pl : Nat → Nat} (h : v_TK N g v pl) {j : Nat} (hj : j ≤ N) (h1 : g j ≠ 32) (h2 : g j ≠ 33) : j < N := by
  rcases Nat.lt_or_eq_of_le hj with h3 | h3
  · exact h3
  · rcases (h.2 j hj).2.2.2.2.1 h3 with h4 | h4
    · exact absurd h4 h1
    · exact absurd h4 h2
/-- a tree: node i, its parts from lo on, h levels at most -/
def v_tr : Nat → List v_Nd → Nat → Nat → Prop
  | 0, _, _, _ => False
  | h + 1, ns, lo, i => ∃ s t x l r, ns[i]? = some (s, t, x, l, r) ∧ (
      (l = none ∧ r = none ∧ lo = i ∧ v_lf s = true ∧ (s = 31 → x < 16) ∧ x < 1000000) ∨
      (∃ a, l = some a ∧ r = none ∧ a + 1 = i ∧ (s = 18 ∨ s = 28 ∨ ((s = 16 ∨ s = 26) ∧ x < 3)) ∧ v_tr h ns lo a) ∨
      (∃ a b, l = some a ∧ r = some b ∧ b + 1 = i ∧ v_lv s < 5 ∧ s ≠ 26 ∧ v_tr h ns lo a ∧ v_tr h ns (a + 1) b))
theorem v_app {α : Type} {ns e : List α} {i : Nat} {x : α} (h : ns[i]? = some x) : (ns ++ e)[i]? = some x := by
  obtain ⟨hi, _⟩ := List.getElem?_eq_some_iff.mp h
  rw [List.getElem?_append_left hi]
  exact h
theorem v_last {α : Type} {ns : List α} {x : α} : (ns ++ [x])[ns.length]? = some x := by
  rw [List.getElem?_append_right (Nat.le_refl _), Nat.sub_self]
  rfl
theorem v_tr_app {h : Nat} : ∀ {ns e : List v_Nd} {lo i : Nat}, v_tr h ns lo i → v_tr h (ns ++ e) lo i := by
  induction h with
  | zero => intro ns e lo i h; exact h.elim
  | succ h ih =>
    intro ns e lo i hh
    obtain ⟨s, t, x, l, r, h1, h2⟩ := hh
    refine ⟨s, t, x, l, r, v_app h1, ?_⟩
    rcases h2 with h2 | ⟨a, e1, e2, e3, e4, e5⟩ | ⟨a, b, e1, e2, e3, e4, e5, e6, e7⟩
    · exact Or.inl h2
    · exact Or.inr (Or.inl ⟨a, e1, e2, e3, e4, ih e5⟩)
    · exact Or.inr (Or.inr ⟨a, b, e1, e2, e3, e4, e5, ih e6, ih e7⟩)
theorem v_tr_mono {h : Nat} : ∀ {h' : Nat} {ns : List v_Nd} {lo i : Nat}, h ≤ h' → v_tr h ns lo i → v_tr h' ns lo i := by
  induction h with
  | zero => intro h' ns lo i _ h; exact h.elim
  | succ h ih =>
    intro h' ns lo i hle hh
    obtain ⟨h', rfl⟩ : ∃ k, h' = k + 1 := ⟨h' - 1, by omega⟩
    obtain ⟨s, t, x, l, r, h1, h2⟩ := hh
    refine ⟨s, t, x, l, r, h1, ?_⟩
    rcases h2 with h2 | ⟨a, e1, e2, e3, e4, e5⟩ | ⟨a, b, e1, e2, e3, e4, e5, e6, e7⟩
    · exact Or.inl h2
    · exact Or.inr (Or.inl ⟨a, e1, e2, e3, e4, ih (by omega) e5⟩)
    · exact Or.inr (Or.inr ⟨a, b, e1, e2, e3, e4, e5, ih (by omega) e6, ih (by omega) e7⟩)
theorem v_tr_lo {h : Nat} : ∀ {ns : List v_Nd} {lo i : Nat}, v_tr h ns lo i → lo ≤ i ∧ i < ns.length := by
  induction h with
  | zero => intro ns lo i h; exact h.elim
  | succ h ih =>
    intro ns lo i hh
    obtain ⟨s, t, x, l, r, h1, h2⟩ := hh
    obtain ⟨hi, _⟩ := List.getElem?_eq_some_iff.mp h1
    refine ⟨?_, hi⟩
    rcases h2 with h2 | ⟨a, e1, e2, e3, e4, e5⟩ | ⟨a, b, e1, e2, e3, e4, e5, e6, e7⟩
    · have := h2.2.2.1; omega
    · have := (ih e5).1; omega
    · have := (ih e6).1; have := (ih e7).1; omega
section VTR
variable {ns : List v_Nd} {s t x lo a b h h' : Nat}
theorem v_tr_leaf (h1 : v_lf s = true) (h2 : s = 31 → x < 16) (h3 : x < 1000000) : v_tr 1 (ns ++ [(s, t, x, none, none)]) ns.length ns.length :=
  ⟨s, t, x, none, none, v_last, Or.inl ⟨rfl, rfl, rfl, h1, h2, h3⟩⟩
theorem v_tr_un (h1 : v_tr h ns lo a) (h2 : a + 1 = ns.length) (h3 : s = 18 ∨ s = 28 ∨ ((s = 16 ∨ s = 26) ∧ x < 3)) : v_tr (h + 1) (ns ++ [(s, t, x, some a, none)]) lo ns.length :=
  ⟨s, t, x, some a, none, v_last, Or.inr (Or.inl ⟨a, rfl, rfl, h2, h3, v_tr_app h1⟩)⟩
theorem v_tr_bin (h1 : v_tr h ns lo a) (h1' : v_tr h' ns (a + 1) b) (h2 : b + 1 = ns.length) (h3 : v_lv s < 5) (h4 : s ≠ 26) : v_tr (max h h' + 1) (ns ++ [(s, t, x, some a, some b)]) lo ns.length :=
  ⟨s, t, x, some a, some b, v_last, Or.inr (Or.inr ⟨a, b, rfl, rfl, h2, h3, h4, v_tr_mono (Nat.le_max_left _ _) (v_tr_app h1), v_tr_mono (Nat.le_max_right _ _) (v_tr_app h1')⟩)⟩
end VTR
theorem v_bd_some {q : Option v_Rs} {f : Nat → Nat → List v_Nd → Option v_Rs} {res : v_Rs} (h : v_bd q f = some res) : (∃ p ns, q = some (none, p, ns) ∧ res = (none, p, ns)) ∨ (∃ r p ns, q = some (some r, p, ns) ∧ f r p ns = some res) := by
  match q with
  | none => cases h
  | some (none, p, ns) => exact Or.inl ⟨p, ns, rfl, (Option.some.inj h).symm⟩
  | some (some r, p, ns) => exact Or.inr ⟨r, p, ns, rfl, h⟩
/-- what is true of a reading -/
def v_po (N md dp lf ps : Nat) (ns : List v_Nd) (r : Option Nat) (p : Nat) (ns' : List v_Nd) : Prop :=
  (∃ e, ns' = ns ++ e) ∧ ps ≤ p ∧ p ≤ N ∧ ns'.length + ps ≤ ns.length + p ∧
  (md < 7 → ∀ q, r = some q → ps < p ∧ q + 1 = ns'.length ∧ ∃ h, v_tr h ns' ns.length q ∧ 2 * h + dp + ps ≤ p + 7) ∧
  (7 ≤ md → ∀ q, r = some q → ∀ st lo h0, st < ps → lf + 1 = ns.length → v_tr h0 ns lo lf → 2 * h0 + dp + st ≤ ps + 7 → q + 1 = ns'.length ∧ ∃ h, v_tr h ns' lo q ∧ 2 * h + dp + st ≤ p + 7)
theorem v_po_none {N md dp lf ps p : Nat} {ns e : List v_Nd} (h1 : ps ≤ p) (h2 : p ≤ N) (h3 : e.length + ps ≤ p) : v_po N md dp lf ps ns none p (ns ++ e) :=
  ⟨⟨e, rfl⟩, h1, h2, by rw [List.length_append]; omega, (fun _ q h => absurd h (fun z => nomatch z)), (fun _ q h => absurd h (fun z => nomatch z))⟩
theorem v_po_none0 {N md dp lf ps p : Nat} {ns : List v_Nd} (h1 : ps ≤ p) (h2 : p ≤ N) : v_po N md dp lf ps ns none p ns :=
  ⟨⟨[], (List.append_nil _).symm⟩, h1, h2, by omega, (fun _ q h => absurd h (fun z => nomatch z)), (fun _ q h => absurd h (fun z => nomatch z))⟩
theorem v_lv_lt {s : Nat} (h : v_lv s < 5) : s ≠ 32 ∧ s ≠ 33 := by
  constructor <;> (intro e; rw [e] at h; exact absurd h (by decide))
theorem v_lf_ne {s : Nat} (h : v_lf s = true) : s ≠ 32 ∧ s ≠ 33 := by
  constructor <;> (intro e; rw [e] at h; exact absurd h (by decide))
theorem v_at_ne {s : Nat} (h : v_at s = true) : 8 ≤ s ∧ s ≤ 10 := by
  unfold v_at at h
  rw [Bool.and_eq_true] at h
  exact ⟨of_decide_eq_true h.1, of_decide_eq_true h.2⟩
set_option maxHeartbeats 2000000 in
theorem v_pz_post {N : Nat} {g v pl : Nat → Nat} (hT : v_TK N g v pl) : ∀ n md dp lf ps ns r p ns', v_pz g v n md dp lf ps ns = some (r, p, ns') → ps ≤ N → dp ≤ 7 → (md < 7 ∨ md = 16 ∨ 10 ≤ md ∧ md < 15) → (md = 6 → dp < 7) → v_po N md dp lf ps ns r p ns' := by
  intro n
  induction n with
  | zero => intro md dp lf ps ns r p ns' h; cases h
  | succ n ih =>
    intro md dp lf ps ns r p ns' h hps hdp hmd h67
    unfold v_pz at h
    by_cases h5 : md < 5
    · rw [if_pos h5] at h
      rcases v_bd_some h with ⟨p1, ns1, e1, e2⟩ | ⟨r1, p1, ns1, e1, e2⟩
      · cases e2
        obtain ⟨⟨e, rfl⟩, a1, a2, a3, _, _⟩ := ih _ _ _ _ _ _ _ _ e1 hps hdp (by omega) (by omega)
        rw [List.length_append] at a3
        exact v_po_none a1 a2 (by omega)
      · obtain ⟨⟨e, rfl⟩, a1, a2, a3, a4, _⟩ := ih _ _ _ _ _ _ _ _ e1 hps hdp (by omega) (by omega)
        obtain ⟨a5, a6, h0, a7, a8⟩ := a4 (by omega) r1 rfl
        obtain ⟨⟨e', rfl⟩, b1, b2, b3, _, b4⟩ := ih _ _ _ _ _ _ _ _ e2 a2 hdp (by omega) (by omega)
        refine ⟨⟨e ++ e', by rw [List.append_assoc]⟩, by omega, b2, by omega, fun _ q hq => ?_, fun z => absurd z (by omega)⟩
        obtain ⟨c1, h', c2, c3⟩ := b4 (by omega) q hq ps ns.length h0 a5 a6 a7 a8
        exact ⟨by omega, c1, h', c2, c3⟩
    rw [if_neg h5] at h
    by_cases h5 : md = 5
    · rw [if_pos h5] at h
      subst h5
      by_cases h7 : 7 ≤ dp
      · rw [if_pos h7] at h
        cases h
        exact v_po_none0 (Nat.le_refl _) hps
      rw [if_neg h7] at h
      by_cases hs : g ps = 18 ∨ g ps = 28
      · rw [if_pos hs] at h
        have hlt : ps < N := hT.lt hps (by omega) (by omega)
        rcases v_bd_some h with ⟨p1, ns1, e1, e2⟩ | ⟨r1, p1, ns1, e1, e2⟩
        · cases e2
          obtain ⟨⟨e, rfl⟩, a1, a2, a3, _, _⟩ := ih _ _ _ _ _ _ _ _ e1 hlt (by omega) (by omega) (by omega)
          rw [List.length_append] at a3
          exact v_po_none (by omega) a2 (by omega)
        · obtain ⟨⟨e, rfl⟩, a1, a2, a3, a4, _⟩ := ih _ _ _ _ _ _ _ _ e1 hlt (by omega) (by omega) (by omega)
          obtain ⟨a5, a6, h0, a7, a8⟩ := a4 (by omega) r1 rfl
          cases e2
          refine ⟨⟨e ++ [(g ps, ps, 0, some r1, none)], by rw [List.append_assoc]⟩, by omega, a2, by rw [List.length_append]; show _ + 1 + _ ≤ _; omega, fun _ q hq => ?_, fun z => absurd z (by omega)⟩
          cases hq
          refine ⟨by omega, by rw [List.length_append (bs := [_])]; rfl, h0 + 1, v_tr_un a7 a6 (by omega), by omega⟩
      rw [if_neg hs] at h
      obtain ⟨a0, a1, a2, a3, a4, _⟩ := ih _ _ _ _ _ _ _ _ h hps hdp (by omega) (by omega)
      exact ⟨a0, a1, a2, a3, fun _ => a4 (by omega), fun z => absurd z (by omega)⟩
    rw [if_neg h5] at h
    by_cases h6 : md = 6
    · rw [if_pos h6] at h
      subst h6
      by_cases hl : v_lf (g ps) = true
      · rw [if_pos hl] at h
        have hlt : ps < N := hT.lt hps (v_lf_ne hl).1 (v_lf_ne hl).2
        obtain ⟨⟨e, rfl⟩, a1, a2, a3, _, a4⟩ := ih _ _ _ _ _ _ _ _ h hlt hdp (by omega) (by omega)
        have hlen : (ns ++ [(g ps, ps, v ps, none, none)]).length = ns.length + 1 := by rw [List.length_append]; rfl
        refine ⟨⟨[(g ps, ps, v ps, none, none)] ++ e, by rw [List.append_assoc]⟩, by omega, a2, by omega, fun _ q hq => ?_, fun z => absurd z (by omega)⟩
        have hk := hT.2 ps hps
        obtain ⟨c1, h', c2, c3⟩ := a4 (by omega) q hq ps ns.length 1 (by omega) (by omega) (v_tr_leaf hl hk.2.2.2.2.2 hk.2.1) (by omega)
        exact ⟨by omega, c1, h', c2, c3⟩
      rw [if_neg hl] at h
      by_cases ho : g ps = 11
      · rw [if_pos ho] at h
        have hlt : ps < N := hT.lt hps (by omega) (by omega)
        have h7 := h67 rfl
        rcases v_bd_some h with ⟨p1, ns1, e1, e2⟩ | ⟨r1, p1, ns1, e1, e2⟩
        · cases e2
          obtain ⟨⟨e, rfl⟩, a1, a2, a3, _, _⟩ := ih _ _ _ _ _ _ _ _ e1 hlt (by omega) (by omega) (by omega)
          rw [List.length_append] at a3
          exact v_po_none (by omega) a2 (by omega)
        · obtain ⟨⟨e, rfl⟩, a1, a2, a3, a4, _⟩ := ih _ _ _ _ _ _ _ _ e1 hlt (by omega) (by omega) (by omega)
          obtain ⟨a5, a6, h0, a7, a8⟩ := a4 (by omega) r1 rfl
          by_cases hc : g p1 = 12
          · rw [if_pos hc] at e2
            have hlt1 : p1 < N := hT.lt a2 (by omega) (by omega)
            obtain ⟨⟨e', rfl⟩, b1, b2, b3, _, b4⟩ := ih _ _ _ _ _ _ _ _ e2 hlt1 hdp (by omega) (by omega)
            refine ⟨⟨e ++ e', by rw [List.append_assoc]⟩, by omega, b2, by omega, fun _ q hq => ?_, fun z => absurd z (by omega)⟩
            obtain ⟨c1, h', c2, c3⟩ := b4 (by omega) q hq ps ns.length h0 (by omega) a6 a7 (by omega)
            exact ⟨by omega, c1, h', c2, c3⟩
          · rw [if_neg hc] at e2
            cases e2
            rw [List.length_append] at a3
            exact v_po_none (by omega) a2 (by omega)
      rw [if_neg ho] at h
      cases h
      exact v_po_none0 (Nat.le_refl _) hps
    rw [if_neg h6] at h
    by_cases h16 : md = 16
    · rw [if_pos h16] at h
      subst h16
      by_cases hd : g ps = 16
      · rw [if_pos hd] at h
        have hlt : ps < N := hT.lt hps (by omega) (by omega)
        by_cases ha : v_at (g (ps + 1)) = true
        · rw [if_pos ha] at h
          have ha' := v_at_ne ha
          have hlt1 : ps + 1 < N := hT.lt hlt (by omega) (by omega)
          obtain ⟨⟨e, rfl⟩, a1, a2, a3, _, a4⟩ := ih _ _ _ _ _ _ _ _ h hlt1 hdp (by omega) (by omega)
          have hlen : (ns ++ [(16, ps, g (ps + 1) - 8, some lf, none)] : List v_Nd).length = ns.length + 1 := by rw [List.length_append]; rfl
          refine ⟨⟨[(16, ps, g (ps + 1) - 8, some lf, none)] ++ e, by rw [List.append_assoc]⟩, by omega, a2, by omega, fun z => absurd z (by omega), fun _ q hq st lo h0 d1 d2 d3 d4 => ?_⟩
          exact a4 (by omega) q hq st lo (h0 + 1) (by omega) (by omega) (v_tr_un d3 d2 (Or.inr (Or.inr ⟨Or.inl rfl, by omega⟩))) (by omega)
        · rw [if_neg ha] at h
          cases h
          exact v_po_none0 (by omega) hlt
      · rw [if_neg hd] at h
        cases h
        refine ⟨⟨[], (List.append_nil _).symm⟩, Nat.le_refl _, hps, Nat.le_refl _, fun z => absurd z (by omega), fun _ q hq st lo h0 d1 d2 d3 d4 => ?_⟩
        cases hq
        exact ⟨d2, h0, d3, d4⟩
    rw [if_neg h16] at h
    by_cases hv : v_lv (g ps) = md - 10
    · rw [if_pos hv] at h
      have hv5 : v_lv (g ps) < 5 := by omega
      have hlt : ps < N := hT.lt hps (v_lv_lt hv5).1 (v_lv_lt hv5).2
      by_cases hh : g ps = 26
      · rw [if_pos hh] at h
        by_cases ha : v_at (g (ps + 1)) = true
        · rw [if_pos ha] at h
          have ha' := v_at_ne ha
          have hlt1 : ps + 1 < N := hT.lt hlt (by omega) (by omega)
          cases h
          refine ⟨⟨_, rfl⟩, by omega, hlt1, by rw [List.length_append]; show _ + 1 + _ ≤ _; omega, fun z => absurd z (by omega), fun _ q hq st lo h0 d1 d2 d3 d4 => ?_⟩
          cases hq
          exact ⟨by rw [List.length_append]; rfl, h0 + 1, v_tr_un d3 d2 (Or.inr (Or.inr ⟨Or.inr rfl, by omega⟩)), by omega⟩
        · rw [if_neg ha] at h
          cases h
          exact v_po_none0 (by omega) hlt
      · rw [if_neg hh] at h
        rcases v_bd_some h with ⟨p1, ns1, e1, e2⟩ | ⟨r1, p1, ns1, e1, e2⟩
        · cases e2
          obtain ⟨⟨e, rfl⟩, a1, a2, a3, _, _⟩ := ih _ _ _ _ _ _ _ _ e1 hlt hdp (by omega) (by omega)
          rw [List.length_append] at a3
          exact v_po_none (by omega) a2 (by omega)
        · obtain ⟨⟨e, rfl⟩, a1, a2, a3, a4, _⟩ := ih _ _ _ _ _ _ _ _ e1 hlt hdp (by omega) (by omega)
          obtain ⟨a5, a6, h1, a7, a8⟩ := a4 (by omega) r1 rfl
          have hlen : (ns ++ e ++ [(g ps, ps, 0, some lf, some r1)] : List v_Nd).length = (ns ++ e).length + 1 := by rw [List.length_append]; rfl
          by_cases h12 : md = 12
          · rw [if_pos h12] at e2
            cases e2
            refine ⟨⟨e ++ [(g ps, ps, 0, some lf, some r1)], by rw [List.append_assoc]⟩, by omega, a2, by omega, fun z => absurd z (by omega), fun _ q hq st lo h0 d1 d2 d3 d4 => ?_⟩
            cases hq
            rw [← d2] at a7
            exact ⟨hlen.symm, max h0 h1 + 1, v_tr_bin (v_tr_app d3) a7 a6 hv5 hh, by omega⟩
          · rw [if_neg h12] at e2
            obtain ⟨⟨e', rfl⟩, b1, b2, b3, _, b4⟩ := ih _ _ _ _ _ _ _ _ e2 a2 hdp (by omega) (by omega)
            refine ⟨⟨e ++ [(g ps, ps, 0, some lf, some r1)] ++ e', by simp only [List.append_assoc]⟩, by omega, b2, by omega, fun z => absurd z (by omega), fun _ q hq st lo h0 d1 d2 d3 d4 => ?_⟩
            rw [← d2] at a7
            exact b4 (by omega) q hq st lo (max h0 h1 + 1) (by omega) hlen.symm (v_tr_bin (v_tr_app d3) a7 a6 hv5 hh) (by omega)
    · rw [if_neg hv] at h
      cases h
      refine ⟨⟨[], (List.append_nil _).symm⟩, Nat.le_refl _, hps, Nat.le_refl _, fun z => absurd z (by omega), fun _ q hq st lo h0 d1 d2 d3 d4 => ?_⟩
      cases hq
      exact ⟨d2, h0, d3, d4⟩
