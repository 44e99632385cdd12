/-! WHAT IS TRUE OF A POLICY that was read. -/
def v_rg (ns : List v_Nd) : Nat → List v_Cd → Prop
  | _, [] => True
  | lo, c :: cs => v_tr 50 ns lo c.2.2 ∧ v_rg ns (c.2.2 + 1) cs
def v_re : Nat → List v_Cd → Nat
  | lo, [] => lo
  | _, c :: cs => v_re (c.2.2 + 1) cs
theorem v_rg_add {ns : List v_Nd} {c : v_Cd} : ∀ cs lo, v_rg ns lo cs → v_tr 50 ns (v_re lo cs) c.2.2 → v_rg ns lo (cs ++ [c]) := by
  intro cs
  induction cs with
  | nil => intro lo _ h; exact ⟨h, trivial⟩
  | cons a cs ih => intro lo h h'; exact ⟨h.1, ih _ h.2 h'⟩
theorem v_re_add {c : v_Cd} : ∀ cs lo, v_re lo (cs ++ [c]) = c.2.2 + 1 := by
  intro cs
  induction cs with
  | nil => intro lo; rfl
  | cons a cs ih => intro lo; exact ih _
theorem v_rg_app {ns e : List v_Nd} : ∀ cs lo, v_rg ns lo cs → v_rg (ns ++ e) lo cs := by
  intro cs
  induction cs with
  | nil => intro lo _; trivial
  | cons a cs ih => intro lo h; exact ⟨v_tr_app h.1, ih _ h.2⟩
/-- every node's token was read -/
def v_tkn (ns : List v_Nd) (p : Nat) : Prop := ∀ (j s t x : Nat) (l r : Option Nat), ns[j]? = some (s, t, x, l, r) → t < p
theorem v_tkn_add {ns : List v_Nd} {p p' s t x : Nat} {l r : Option Nat} (h : v_tkn ns p) (hp : p ≤ p') (ht : t < p') : v_tkn (ns ++ [(s, t, x, l, r)]) p' := by
  intro j s' t' x' l' r' hj
  by_cases hjc : j < ns.length
  · rw [List.getElem?_append_left hjc] at hj
    have := h j s' t' x' l' r' hj
    omega
  · obtain ⟨hi, _⟩ := List.getElem?_eq_some_iff.mp hj
    rw [List.length_append] at hi
    have : ([(s, t, x, l, r)] : List v_Nd).length = 1 := rfl
    have e : j = ns.length := by omega
    subst e
    rw [v_last] at hj
    cases hj
    exact ht
set_option maxHeartbeats 2000000 in
theorem v_pz_tkn {g v : Nat → Nat} {N : Nat} {pl : Nat → Nat} (hT : v_TK N g v pl) : ∀ n md dp lf ps ns r p ns', v_pz g v n md dp lf ps ns = some (r, p, ns') → ps ≤ N → dp ≤ 7 → (md < 7 ∨ md = 16 ∨ 10 ≤ md ∧ md < 15) → (md = 6 → dp < 7) → v_tkn ns ps → v_tkn ns' p := by
  intro n
  induction n with
  | zero => intro md dp lf ps ns r p ns' h; cases h
  | succ n ih =>
    intro md dp lf ps ns r p ns' h hps hdp hmd h67 hk
    have hmon : ∀ {q}, ps ≤ q → v_tkn ns q := fun hq j s t x l r hj => by have := hk j s t x l r hj; omega
    unfold v_pz at h
    by_cases h5 : md < 5
    · rw [if_pos h5] at h
      rcases v_bd_some h with ⟨p1, ns1, e1, e2⟩ | ⟨r1, p1, ns1, e1, e2⟩
      · cases e2
        exact ih _ _ _ _ _ _ _ _ e1 hps hdp (by omega) (by omega) hk
      · obtain ⟨_, a1, a2, _⟩ := v_pz_post hT _ _ _ _ _ _ _ _ _ e1 hps hdp (by omega) (by omega)
        exact ih _ _ _ _ _ _ _ _ e2 a2 hdp (by omega) (by omega) (ih _ _ _ _ _ _ _ _ e1 hps hdp (by omega) (by omega) hk)
    rw [if_neg h5] at h
    by_cases h5 : md = 5
    · rw [if_pos h5] at h
      by_cases h7 : 7 ≤ dp
      · rw [if_pos h7] at h; cases h; exact hk
      rw [if_neg h7] at h
      by_cases hs : g ps = 18 ∨ g ps = 28
      · rw [if_pos hs] at h
        have hlt : ps < N := hT.lt hps (by omega) (by omega)
        rcases v_bd_some h with ⟨p1, ns1, e1, e2⟩ | ⟨r1, p1, ns1, e1, e2⟩
        · cases e2
          exact ih _ _ _ _ _ _ _ _ e1 hlt (by omega) (by omega) (by omega) (hmon (by omega))
        · cases e2
          obtain ⟨_, a1, a2, _⟩ := v_pz_post hT _ _ _ _ _ _ _ _ _ e1 hlt (by omega) (by omega) (by omega)
          exact v_tkn_add (ih _ _ _ _ _ _ _ _ e1 hlt (by omega) (by omega) (by omega) (hmon (by omega))) (Nat.le_refl _) (by omega)
      · rw [if_neg hs] at h
        exact ih _ _ _ _ _ _ _ _ h hps hdp (by omega) (by omega) hk
    rw [if_neg h5] at h
    by_cases h6 : md = 6
    · rw [if_pos h6] at h
      by_cases hl : v_lf (g ps) = true
      · rw [if_pos hl] at h
        have hlt : ps < N := hT.lt hps (v_lf_ne hl).1 (v_lf_ne hl).2
        exact ih _ _ _ _ _ _ _ _ h hlt hdp (by omega) (by omega) (v_tkn_add hk (by omega) (by omega))
      rw [if_neg hl] at h
      by_cases ho : g ps = 11
      · rw [if_pos ho] at h
        have h7 := h67 h6
        have hlt : ps < N := hT.lt hps (by omega) (by omega)
        rcases v_bd_some h with ⟨p1, ns1, e1, e2⟩ | ⟨r1, p1, ns1, e1, e2⟩
        · cases e2
          exact ih _ _ _ _ _ _ _ _ e1 hlt (by omega) (by omega) (by omega) (hmon (by omega))
        · obtain ⟨_, a1, a2, _⟩ := v_pz_post hT _ _ _ _ _ _ _ _ _ e1 hlt (by omega) (by omega) (by omega)
          have hk1 := ih _ _ _ _ _ _ _ _ e1 hlt (by omega) (by omega) (by omega) (hmon (by omega))
          by_cases hc : g p1 = 12
          · rw [if_pos hc] at e2
            have hlt1 : p1 < N := hT.lt a2 (by omega) (by omega)
            exact ih _ _ _ _ _ _ _ _ e2 hlt1 hdp (by omega) (by omega) (fun j s t x l r hj => by have := hk1 j s t x l r hj; omega)
          · rw [if_neg hc] at e2; cases e2; exact hk1
      · rw [if_neg ho] at h; cases h; exact hk
    rw [if_neg h6] at h
    by_cases h16 : md = 16
    · rw [if_pos h16] at h
      by_cases hd : g ps = 16
      · rw [if_pos hd] at h
        have hlt : ps < N := hT.lt hps (by omega) (by omega)
        by_cases ha : v_at (g (ps + 1)) = true
        · rw [if_pos ha] at h
          have ha' := v_at_ne ha
          have hlt1 : ps + 1 < N := hT.lt hlt (by omega) (by omega)
          exact ih _ _ _ _ _ _ _ _ h hlt1 hdp (by omega) (by omega) (v_tkn_add hk (by omega) (by omega))
        · rw [if_neg ha] at h; cases h; exact hmon (by omega)
      · rw [if_neg hd] at h; cases h; exact hk
    rw [if_neg h16] at h
    by_cases hv : v_lv (g ps) = md - 10
    · rw [if_pos hv] at h
      have hv5 : v_lv (g ps) < 5 := by omega
      have hlt : ps < N := hT.lt hps (v_lv_lt hv5).1 (v_lv_lt hv5).2
      by_cases hh : g ps = 26
      · rw [if_pos hh] at h
        by_cases ha : v_at (g (ps + 1)) = true
        · rw [if_pos ha] at h; cases h; exact v_tkn_add hk (by omega) (by omega)
        · rw [if_neg ha] at h; cases h; exact hmon (by omega)
      · rw [if_neg hh] at h
        rcases v_bd_some h with ⟨p1, ns1, e1, e2⟩ | ⟨r1, p1, ns1, e1, e2⟩
        · cases e2
          exact ih _ _ _ _ _ _ _ _ e1 hlt hdp (by omega) (by omega) (hmon (by omega))
        · obtain ⟨_, a1, a2, _⟩ := v_pz_post hT _ _ _ _ _ _ _ _ _ e1 hlt hdp (by omega) (by omega)
          have hk1 := ih _ _ _ _ _ _ _ _ e1 hlt hdp (by omega) (by omega) (hmon (by omega))
          by_cases h12 : md = 12
          · rw [if_pos h12] at e2; cases e2; exact v_tkn_add hk1 (Nat.le_refl _) (by omega)
          · rw [if_neg h12] at e2
            exact ih _ _ _ _ _ _ _ _ e2 a2 hdp (by omega) (by omega) (v_tkn_add hk1 (Nat.le_refl _) (by omega))
    · rw [if_neg hv] at h; cases h; exact hk
/-- a policy as it must be -/
def v_WF (N : Nat) (g : Nat → Nat) (hd : v_Hd) (ns : List v_Nd) (cs : List v_Cd) : Prop := (hd.1 ≤ 1 ∧ hd.2.1.1 ≤ 2 ∧ hd.2.1.2 < 16 ∧ (∀ a, hd.2.2.1 = some a → a < 10) ∧ hd.2.2.2.1 ≤ 2 ∧ hd.2.2.2.2 < 16) ∧ N ≤ 100 ∧ ns.length ≤ 100 ∧ cs.length ≤ 12 ∧ v_tkn ns N ∧ v_rg ns 0 cs ∧ v_re 0 cs = ns.length ∧ ∀ (j w t r : Nat), cs[j]? = some (w, t, r) → t < N ∧ w = if g t = 2 then 1 else 0
theorem v_cs_wf {N : Nat} {g v pl : Nat → Nat} (hT : v_TK N g v pl) (hG : v_TG N g pl) : ∀ n p ns cs q ns' cs', v_cs g v n p ns cs = some (true, q, ns', cs') → p ≤ N → 8 ≤ p → 13 + 7 * cs.length ≤ pl p → ns.length ≤ p → v_tkn ns p → v_rg ns 0 cs → v_re 0 cs = ns.length → (∀ (j w t r : Nat), cs[j]? = some (w, t, r) → t < N ∧ w = if g t = 2 then 1 else 0) → ns'.length ≤ 100 ∧ cs'.length ≤ 12 ∧ v_tkn ns' N ∧ v_rg ns' 0 cs' ∧ v_re 0 cs' = ns'.length ∧ ∀ (j w t r : Nat), cs'[j]? = some (w, t, r) → t < N ∧ w = if g t = 2 then 1 else 0 := by
  intro n
  induction n with
  | zero => intro p ns cs q ns' cs' h; cases h
  | succ n ih =>
    intro p ns cs q ns' cs' h hp h8 hpl hn hk hr he hc
    have hN := hT.1
    have hpp := (hT.2 p hp).2.2.1
    unfold v_cs at h
    by_cases h32 : g p = 32
    · rw [if_pos h32] at h
      cases h
      exact ⟨by omega, by omega, fun j s t x l r hj => by have := hk j s t x l r hj; omega, hr, he, hc⟩
    rw [if_neg h32] at h
    by_cases h23 : g p = 2 ∨ g p = 3
    · rw [if_pos h23] at h
      have hlt : p < N := hT.lt hp (by omega) (by omega)
      by_cases h13 : g (p + 1) = 13
      · rw [if_pos h13] at h
        have hlt1 : p + 1 < N := hT.lt hlt (by omega) (by omega)
        cases hz : v_pz g v 2000 0 0 0 (p + 2) ns with
        | none => rw [hz] at h; cases h
        | some res =>
          obtain ⟨r, q1, ns1⟩ := res
          rw [hz] at h
          cases r with
          | none => cases h
          | some r =>
            dsimp only at h
            obtain ⟨⟨e, he1⟩, a1, a2, a3, a4, _⟩ := v_pz_post hT _ _ _ _ _ _ _ _ _ hz hlt1 (by omega) (by omega) (by omega)
            obtain ⟨a5, a6, h0, a7, a8⟩ := a4 (by omega) r rfl
            have hk1 := v_pz_tkn hT _ _ _ _ _ _ _ _ _ hz hlt1 (by omega) (by omega) (by omega) (fun j s t x l r hj => by have := hk j s t x l r hj; omega)
            by_cases h14 : g q1 = 14
            · rw [if_pos h14] at h
              have hlt2 : q1 < N := hT.lt a2 (by omega) (by omega)
              have hp7 := hG.cond h23 a5 hlt2
              have hpq := (hT.2 (q1 + 1) hlt2).2.2.1
              refine ih _ _ _ _ _ _ h hlt2 (by omega) ?_ (by omega) (fun j s t x l r hj => by have := hk1 j s t x l r hj; omega) ?_ ?_ ?_
              · rw [List.length_append]
                show 13 + 7 * (cs.length + 1) ≤ _
                omega
              · refine v_rg_add _ _ (by rw [he1]; exact v_rg_app _ _ hr) ?_
                rw [he]
                exact v_tr_mono (by omega) a7
              · rw [v_re_add]; exact a6
              · intro j w t r' hj
                by_cases hjc : j < cs.length
                · rw [List.getElem?_append_left hjc] at hj
                  exact hc j w t r' hj
                · obtain ⟨hi, _⟩ := List.getElem?_eq_some_iff.mp hj
                  rw [List.length_append] at hi
                  have : ([((if g p = 2 then 1 else 0), p, r)] : List v_Cd).length = 1 := rfl
                  have ej : j = cs.length := by omega
                  subst ej
                  rw [v_last] at hj
                  cases hj
                  exact ⟨hlt, rfl⟩
            · rw [if_neg h14] at h; cases h
      · rw [if_neg h13] at h; cases h
    · rw [if_neg h23] at h; cases h
theorem v_sc_wf {N : Nat} {g v pl : Nat → Nat} (hT : v_TK N g v pl) {p q : Nat} {a : Nat × Nat} (hp : p ≤ N) (h : v_sc g v p = (some a, q)) : a.1 ≤ 2 ∧ a.2 < 16 := by
  unfold v_sc at h
  split at h
  · cases h; exact ⟨by decide, by decide⟩
  · split at h
    · split at h
      · rename_i h25 h31
        have hlt : p < N := hT.lt hp (by omega) (by omega)
        cases h
        exact ⟨Nat.le_refl 2, (hT.2 (p + 1) hlt).2.2.2.2.2 h31⟩
      · cases h
    · split at h
      · rename_i h31
        cases h
        exact ⟨(Nat.le_succ 1 : (1:Nat) ≤ 2), (hT.2 p hp).2.2.2.2.2 h31⟩
      · cases h
theorem v_rd_wf {N : Nat} {g v pl : Nat → Nat} (hT : v_TK N g v pl) (hG : v_TG N g pl) {hd : v_Hd} {ns : List v_Nd} {cs : List v_Cd} {q : Nat} (h : v_rd g v = (some (hd, ns, cs), q)) : v_WF N g hd ns cs := by
  unfold v_rd at h
  have hle := v_hd_le hT hG
  cases hh : v_hd g v with
  | mk hd0 p =>
    rw [hh] at h hle
    cases hd0 with
    | none => cases h
    | some h0 =>
      dsimp only at h hle
      obtain ⟨l1, l2⟩ := hle
      obtain ⟨l8, l13⟩ := l2 rfl
      split at h
      · rename_i q' ns1 cs1 hcs
        cases h
        refine ⟨?_, hT.1, v_cs_wf hT hG _ _ _ _ _ _ _ hcs l1 l8 (by show 13 + 7 * 0 ≤ _; omega) (Nat.zero_le _) (fun j s t x l r hj => by cases hj) trivial rfl (fun j w t r hj => by cases hj)⟩
        unfold v_hd at hh
        split at hh
        · rename_i h01
          have hlt0 : 0 < N := hT.lt (Nat.zero_le _) (by omega) (by omega)
          split at hh
          · rename_i h11
            have hlt1 : 1 < N := hT.lt hlt0 (by omega) (by omega)
            unfold v_hd1 at hh
            have s1 := v_sc_le hT (p := 2) hlt1
            cases hs : v_sc g v 2 with
            | mk ra pa =>
              rw [hs] at hh s1
              cases ra with
              | none => cases hh
              | some a =>
                dsimp only at hh s1
                have wa := v_sc_wf hT hlt1 hs
                split at hh
                · rename_i h15
                  have hltp : pa < N := hT.lt s1.2.1 (by omega) (by omega)
                  unfold v_hd2 at hh
                  have s2 := v_ac_le hT (p := pa + 1) hltp
                  cases hs2 : v_ac g v (pa + 1) with
                  | mk rb pb =>
                    rw [hs2] at hh s2
                    cases rb with
                    | none => cases hh
                    | some b =>
                      dsimp only at hh s2
                      have wb : ∀ x, b = some x → x < 10 := by
                        intro x hx
                        unfold v_ac at hs2
                        split at hs2
                        · cases hs2; cases hx
                        · split at hs2
                          · rename_i h30; cases hs2; cases hx; exact h30.2
                          · cases hs2
                      split at hh
                      · rename_i h15'
                        have hltq : pb < N := hT.lt s2.2.1 (by omega) (by omega)
                        unfold v_hd3 at hh
                        cases hs3 : v_sc g v (pb + 1) with
                        | mk rc pc =>
                          rw [hs3] at hh
                          cases rc with
                          | none => cases hh
                          | some c =>
                            dsimp only at hh
                            have wc := v_sc_wf hT hltq hs3
                            split at hh
                            · cases hh
                              exact ⟨by show g 0 ≤ 1; omega, wa.1, wa.2, wb, wc.1, wc.2⟩
                            · cases hh
                      · cases hh
                · cases hh
          · cases hh
        · cases hh
      · cases h
      · cases h
