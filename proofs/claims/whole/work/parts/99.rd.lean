/-! conditions end; a whole text as a function -/
theorem v_cs_fuel {N : Nat} {g v pl : Nat → Nat} (hT : v_TK N g v pl) : ∀ n p ns cs, p ≤ N → N + 1 - p ≤ n → ∃ res, v_cs g v n p ns cs = some res := by
  intro n
  induction n with
  | zero => intro p ns cs h1 h2; omega
  | succ n ih =>
    intro p ns cs hp hn
    unfold v_cs
    by_cases h32 : g p = 32
    · rw [if_pos h32]; exact ⟨_, rfl⟩
    rw [if_neg h32]
    by_cases h23 : g p = 2 ∨ g p = 3
    · rw [if_pos h23]
      have hlt : p < N := hT.lt hp (by omega) (by omega)
      by_cases h13 : g (p + 1) = 13
      · rw [if_pos h13]
        have hlt1 : p + 1 < N := hT.lt hlt (by omega) (by omega)
        obtain ⟨⟨r, q, ns1⟩, hz⟩ := v_pz_fuel hT 2000 0 0 0 (p + 2) ns hlt1 (by omega) (by omega) (by omega) (by unfold v_fl; have := hT.1; rw [if_pos (by omega)]; omega)
        rw [hz]
        cases r with
        | none => exact ⟨_, rfl⟩
        | some r =>
          dsimp only
          obtain ⟨_, a1, a2, a3, a4, _⟩ := v_pz_post hT _ _ _ _ _ _ _ _ _ hz hlt1 (by omega) (by omega) (by omega)
          by_cases h14 : g q = 14
          · rw [if_pos h14]
            have hlt2 : q < N := hT.lt a2 (by omega) (by omega)
            exact ih _ _ _ hlt2 (by omega)
          · rw [if_neg h14]; exact ⟨_, rfl⟩
      · rw [if_neg h13]; exact ⟨_, rfl⟩
    · rw [if_neg h23]; exact ⟨_, rfl⟩
theorem v_hd_le {N : Nat} {g v pl : Nat → Nat} (hT : v_TK N g v pl) (hG : v_TG N g pl) : (v_hd g v).2 ≤ N ∧ ((v_hd g v).1.isSome = true → 8 ≤ (v_hd g v).2 ∧ 13 ≤ pl (v_hd g v).2) := by
  unfold v_hd
  by_cases h01 : g 0 = 0 ∨ g 0 = 1
  · rw [if_pos h01]
    have hlt0 : 0 < N := hT.lt (Nat.zero_le _) (by omega) (by omega)
    have g0 := hG 0 hlt0
    have l6 : v_ln (g 0) = 6 := by rcases h01 with z | z <;> rw [z] <;> rfl
    by_cases h11 : g 1 = 11
    · rw [if_pos h11]
      have hlt1 : 1 < N := hT.lt hlt0 (by omega) (by omega)
      unfold v_hd1
      have s1 := v_sc_le hT (p := 2) hlt1
      cases hs : v_sc g v 2 with
      | mk ra pa =>
        rw [hs] at s1
        dsimp only at s1
        cases ra with
        | none => exact ⟨s1.2.1, fun z => by cases z⟩
        | some a =>
          have s1' := s1.2.2 rfl
          dsimp only
          by_cases h15 : g pa = 15
          · rw [if_pos h15]
            have hltp : pa < N := hT.lt s1.2.1 (by omega) (by omega)
            unfold v_hd2
            have s2 := v_ac_le hT (p := pa + 1) hltp
            cases hs2 : v_ac g v (pa + 1) with
            | mk rb pb =>
              rw [hs2] at s2
              dsimp only at s2
              cases rb with
              | none => exact ⟨s2.2.1, fun z => by cases z⟩
              | some b =>
                have s2' := s2.2.2 rfl
                dsimp only
                by_cases h15' : g pb = 15
                · rw [if_pos h15']
                  have hltq : pb < N := hT.lt s2.2.1 (by omega) (by omega)
                  unfold v_hd3
                  have s3 := v_sc_le hT (p := pb + 1) hltq
                  cases hs3 : v_sc g v (pb + 1) with
                  | mk rc pc =>
                    rw [hs3] at s3
                    dsimp only at s3
                    cases rc with
                    | none => exact ⟨s3.2.1, fun z => by cases z⟩
                    | some c =>
                      have s3' := s3.2.2 rfl
                      dsimp only
                      by_cases h12 : g pc = 12
                      · rw [if_pos h12]
                        have hltr : pc < N := hT.lt s3.2.1 (by omega) (by omega)
                        refine ⟨hltr, fun _ => ?_⟩
                        have hm := hG.mono (j := 1) (pc + 1 - 1) (by omega)
                        have e : 1 + (pc + 1 - 1) = pc + 1 := by omega
                        rw [e] at hm
                        show 8 ≤ pc + 1 ∧ 13 ≤ pl (pc + 1)
                        have e0 : pl (0 + 1) = pl 1 := rfl
                        omega
                      · rw [if_neg h12]; exact ⟨s3.2.1, fun z => by cases z⟩
                · rw [if_neg h15']; exact ⟨s2.2.1, fun z => by cases z⟩
          · rw [if_neg h15]; exact ⟨s1.2.1, fun z => by cases z⟩
    · rw [if_neg h11]; exact ⟨hlt0, fun z => by cases z⟩
  · rw [if_neg h01]; exact ⟨Nat.zero_le _, fun z => by cases z⟩
/-- what a text is: a policy (head, nodes, conditions), or a fault at a token -/
def v_rd (g v : Nat → Nat) : Option (v_Hd × List v_Nd × List v_Cd) × Nat := match v_hd g v with
  | (none, p) => (none, p)
  | (some h, p) => match v_cs g v 200 p [] [] with
    | some (true, q, ns, cs) => (some (h, ns, cs), q)
    | some (false, q, _, _) => (none, q)
    | none => (none, 0)
