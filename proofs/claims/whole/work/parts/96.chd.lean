/-! HEAD AND CONDITIONS as functions, and how the class reads a head. -/
abbrev v_Hd : Type := Nat × (Nat × Nat) × Option Nat × (Nat × Nat)
def v_sc (g v : Nat → Nat) (p : Nat) : Option (Nat × Nat) × Nat := if g p = 17 then (some (0, 0), p + 1) else if g p = 25 then (if g (p + 1) = 31 then (some (2, v (p + 1)), p + 2) else (none, p + 1)) else if g p = 31 then (some (1, v p), p + 1) else (none, p)
def v_ac (g v : Nat → Nat) (p : Nat) : Option (Option Nat) × Nat := if g p = 17 then (some none, p + 1) else if g p = 30 ∧ v p < 10 then (some (some (v p)), p + 1) else (none, p)
def v_hd3 (g v : Nat → Nat) (a : Nat × Nat) (b : Option Nat) (q : Nat) : Option v_Hd × Nat := match v_sc g v q with
  | (none, r) => (none, r)
  | (some c, r) => if g r = 12 then (some (g 0, a, b, c), r + 1) else (none, r)
def v_hd2 (g v : Nat → Nat) (a : Nat × Nat) (p : Nat) : Option v_Hd × Nat := match v_ac g v p with
  | (none, q) => (none, q)
  | (some b, q) => if g q = 15 then v_hd3 g v a b (q + 1) else (none, q)
def v_hd1 (g v : Nat → Nat) : Option v_Hd × Nat := match v_sc g v 2 with
  | (none, p) => (none, p)
  | (some a, p) => if g p = 15 then v_hd2 g v a (p + 1) else (none, p)
def v_hd (g v : Nat → Nat) : Option v_Hd × Nat := if g 0 = 0 ∨ g 0 = 1 then (if g 1 = 11 then v_hd1 g v else (none, 1)) else (none, 0)
def v_CH (S : q_S) (P : Nat) (h : v_Hd) : Prop := q_iv S P 1 = (if h.1 = 0 then 1 else 0) ∧ q_iv S (P + 1) 0 = nI h.2.1.1 ∧ q_iv S (P + 1) 1 = nI h.2.1.2 ∧ q_iv S P 4 = v_ni h.2.2.1 ∧ q_iv S (P + 2) 0 = nI h.2.2.2.1 ∧ q_iv S (P + 2) 1 = nI h.2.2.2.2
section VCHD
variable {d L : Nat} {xs : Nat → Int32} {S S' : q_S} {P N i : Nat} {g v pl : Nat → Nat} {ns : List v_Nd} {Q : Outcome → q_S → Prop}
theorem v_sc_le (hT : v_TK N g v pl) {p : Nat} (hp : p ≤ N) : p ≤ (v_sc g v p).2 ∧ (v_sc g v p).2 ≤ N ∧ ((v_sc g v p).1.isSome = true → p < (v_sc g v p).2) := by
  unfold v_sc
  split
  · rename_i h
    have := hT.lt hp (by omega) (by omega)
    exact ⟨by show p ≤ p + 1; omega, this, fun _ => by show p < p + 1; omega⟩
  · split
    · rename_i h
      have h1 := hT.lt hp (by omega) (by omega)
      split
      · rename_i h'
        have := hT.lt (j := p + 1) h1 (by omega) (by omega)
        exact ⟨by show p ≤ p + 2; omega, this, fun _ => by show p < p + 2; omega⟩
      · exact ⟨by show p ≤ p + 1; omega, h1, fun _ => by show p < p + 1; omega⟩
    · split
      · rename_i h
        have := hT.lt hp (by omega) (by omega)
        exact ⟨by show p ≤ p + 1; omega, this, fun _ => by show p < p + 1; omega⟩
      · exact ⟨Nat.le_refl _, hp, fun z => by cases z⟩
theorem v_CP.pw {a k : Nat} {x : Int32} (h : v_CP S P N g v pl i ns) (ha : (a = P ∧ k ≠ 10) ∨ (P < a ∧ a ≤ P + 5)) : v_CP (q_sI S a k x) P N g v pl i ns := by
  have hr := h.1.rng
  obtain ⟨h1, h2, h3, h4, h5, ⟨c1, c2, c3⟩, n1, n2⟩ := h
  refine ⟨h1, h2, h3, h4, h5, ⟨?_, ?_, fun j hj => ⟨(c3 j hj).1, ?_, ?_⟩⟩, ?_, fun j s t x l r hj => ⟨(n2 j s t x l r hj).1, ?_, ?_, ?_, ?_⟩⟩
  · rw [v_aI (by omega)]; exact c1
  · rw [v_aI (by omega)]; exact c2
  · rw [v_aI (by omega)]; exact (c3 j hj).2.1
  · rw [v_aI (by omega)]; exact (c3 j hj).2.2
  · rcases ha with ⟨e1, e2⟩ | e
    · rw [v_kI (fun z => e2 z.symm)]; exact n1
    · rw [v_aI (by omega)]; exact n1
  · rw [v_aI (by omega)]; exact (n2 j s t x l r hj).2.1
  · rw [v_aI (by omega)]; exact (n2 j s t x l r hj).2.2.1
  · rw [v_aI (by omega)]; exact (n2 j s t x l r hj).2.2.2.1
  · rw [v_aI (by omega)]; exact (n2 j s t x l r hj).2.2.2.2
theorem x51 {s : Nat} (hW : w_W (q_S0 L xs) S) (hC : v_CP S P N g v pl i ns) (hs : s < 32) (ky : g i = s → Q (.returned (some (.int 1))) (v_nx S (i + 1))) (kn : ¬ g i = s → Q (.returned (some (.int 0))) S) : w_X (d + 1) 51 [.ref 1024, .ref s] S Q := c51_0 hW hC hs (by omega) ky kn
def v_x2 (P k a : Nat) : Bool := decide (a = 1024) || decide (a = P + k)
theorem v_cscope {kk p : Nat} {r : Option (Nat × Nat)} (hk : kk = 1 ∨ kk = 2) (hW : w_W (q_S0 L xs) S) (hC : v_CP S P N g v pl i ns) (hz : v_sc g v i = (r, p)) (k : ∀ S', w_W (q_S0 L xs) S' → v_fr (v_x2 P kk) S S' → v_CP S' P N g v pl p ns → (∀ a, r = some a → q_iv S' (P + kk) 0 = nI a.1 ∧ q_iv S' (P + kk) 1 = nI a.2) → Q (.returned (some (.int (if r.isSome then 1 else 0)))) S') : w_X (d + 2) 53 [.ref 1023, .ref (P + kk)] S Q := by
  have hb := hC.bd
  have hr := hC.wp.rng
  have x4 : v_x2 P kk 1024 = true := rfl
  have xk : v_x2 P kk (P + kk) = true := by unfold v_x2; simp
  have two : ∀ {S0 : q_S} {y z : Int32}, q_iv (q_sI (q_sI S0 (P + kk) 0 y) (P + kk) 1 z) (P + kk) 0 = y ∧ q_iv (q_sI (q_sI S0 (P + kk) 0 y) (P + kk) 1 z) (P + kk) 1 = z := fun {S0 y z} => ⟨by rw [v_kI (by decide)]; exact v_hI, v_hI⟩
  unfold v_sc at hz
  by_cases h17 : g i = 17
  · rw [if_pos h17] at hz
    cases hz
    have hlt : i < N := hC.tk.lt hb.1 (by omega) (by omega)
    have hC1 : v_CP (q_sI (q_sI (v_nx S (i + 1)) (P + kk) 0 0) (P + kk) 1 0) P N g v pl (i + 1) ns := ((hC.step hlt).pw (by omega)).pw (by omega)
    have hW1 : w_W (q_S0 L xs) (q_sI (q_sI (v_nx S (i + 1)) (P + kk) 0 0) (P + kk) 1 0) := ((v_nx_W hW).sI (by omega)).sI (by omega)
    have K := k _ hW1 (((v_fr.refl.sI x4).sI xk).sI xk) hC1 (fun a ha => by cases ha; exact two)
    rcases hk with rfl | rfl
    · exact c53_0a1 hW hC h17 K
    · exact c53_0a2 hW hC h17 K
  rw [if_neg h17] at hz
  by_cases h25 : g i = 25
  · rw [if_pos h25] at hz
    have hlt : i < N := hC.tk.lt hb.1 (by omega) (by omega)
    have hC1 : v_CP (q_sI (q_sI (v_nx S (i + 1)) (P + kk) 0 2) (P + kk) 1 (nI (v (i + 1)))) P N g v pl (i + 1) ns := ((hC.step hlt).pw (by omega)).pw (by omega)
    have hW1 : w_W (q_S0 L xs) (q_sI (q_sI (v_nx S (i + 1)) (P + kk) 0 2) (P + kk) 1 (nI (v (i + 1)))) := ((v_nx_W hW).sI (by omega)).sI (by omega)
    have hf1 : v_fr (v_x2 P kk) S (q_sI (q_sI (v_nx S (i + 1)) (P + kk) 0 2) (P + kk) 1 (nI (v (i + 1)))) := ((v_fr.refl.sI x4).sI xk).sI xk
    by_cases h31 : g (i + 1) = 31
    · rw [if_pos h31] at hz
      cases hz
      have hlt1 : i + 1 < N := hC.tk.lt hlt (by omega) (by omega)
      have K := k _ (v_nx_W (i := i + 1 + 1) hW1) (hf1.sI x4) (hC1.step hlt1) (fun a ha => by
        cases ha
        constructor
        · show q_iv (q_sI _ 1024 6 _) (P + kk) 0 = _
          rw [v_aI (by omega)]; exact two.1
        · show q_iv (q_sI _ 1024 6 _) (P + kk) 1 = _
          rw [v_aI (by omega)]; exact two.2)
      rcases hk with rfl | rfl
      · exact c53_0b1 hW hC h17 h25 hlt (fun _ => K) (fun z => absurd h31 z)
      · exact c53_0b2 hW hC h17 h25 hlt (fun _ => K) (fun z => absurd h31 z)
    · rw [if_neg h31] at hz
      cases hz
      have K := k _ hW1 hf1 hC1 (fun a ha => by cases ha)
      rcases hk with rfl | rfl
      · exact c53_0b1 hW hC h17 h25 hlt (fun z => absurd z h31) (fun _ => K)
      · exact c53_0b2 hW hC h17 h25 hlt (fun z => absurd z h31) (fun _ => K)
  rw [if_neg h25] at hz
  have hC1 : v_CP (q_sI (q_sI S (P + kk) 0 1) (P + kk) 1 (nI (v i))) P N g v pl i ns := (hC.pw (by omega)).pw (by omega)
  have hW1 : w_W (q_S0 L xs) (q_sI (q_sI S (P + kk) 0 1) (P + kk) 1 (nI (v i))) := (hW.sI (by omega)).sI (by omega)
  have hf1 : v_fr (v_x2 P kk) S (q_sI (q_sI S (P + kk) 0 1) (P + kk) 1 (nI (v i))) := (v_fr.refl.sI xk).sI xk
  by_cases h31 : g i = 31
  · rw [if_pos h31] at hz
    cases hz
    have hlt : i < N := hC.tk.lt hb.1 (by omega) (by omega)
    have K := k _ (v_nx_W (i := i + 1) hW1) (hf1.sI x4) (hC1.step hlt) (fun a ha => by
      cases ha
      constructor
      · show q_iv (q_sI _ 1024 6 _) (P + kk) 0 = _
        rw [v_aI (by omega)]; exact two.1
      · show q_iv (q_sI _ 1024 6 _) (P + kk) 1 = _
        rw [v_aI (by omega)]; exact two.2)
    rcases hk with rfl | rfl
    · exact c53_0c1 hW hC h17 h25 (fun _ => K) (fun z => absurd h31 z)
    · exact c53_0c2 hW hC h17 h25 (fun _ => K) (fun z => absurd h31 z)
  · rw [if_neg h31] at hz
    cases hz
    have K := k _ hW1 hf1 hC1 (fun a ha => by cases ha)
    rcases hk with rfl | rfl
    · exact c53_0c1 hW hC h17 h25 (fun z => absurd z h31) (fun _ => K)
    · exact c53_0c2 hW hC h17 h25 (fun z => absurd z h31) (fun _ => K)
theorem v_ac_le (hT : v_TK N g v pl) {p : Nat} (hp : p ≤ N) : p ≤ (v_ac g v p).2 ∧ (v_ac g v p).2 ≤ N ∧ ((v_ac g v p).1.isSome = true → p < (v_ac g v p).2) := by
  unfold v_ac
  split
  · rename_i h
    have := hT.lt hp (by omega) (by omega)
    exact ⟨by show p ≤ p + 1; omega, this, fun _ => by show p < p + 1; omega⟩
  · split
    · rename_i h
      have := hT.lt hp (by omega) (by omega)
      exact ⟨by show p ≤ p + 1; omega, this, fun _ => by show p < p + 1; omega⟩
    · exact ⟨Nat.le_refl _, hp, fun z => by cases z⟩
theorem v_caction {p : Nat} {r : Option (Option Nat)} (hW : w_W (q_S0 L xs) S) (hC : v_CP S P N g v pl i ns) (hz : v_ac g v i = (r, p)) (k : ∀ S', w_W (q_S0 L xs) S' → v_fr (v_x2 P 0) S S' → (∀ j, j ≠ 4 → q_iv S' P j = q_iv S P j) → v_CP S' P N g v pl p ns → (∀ a, r = some a → q_iv S' P 4 = v_ni a) → Q (.returned (some (.int (if r.isSome then 1 else 0)))) S') : w_X (d + 2) 56 [.ref 1023] S Q := by
  have hb := hC.bd
  have hr := hC.wp.rng
  have hv := (hC.tk.2 i hb.1).2.1
  have x4 : v_x2 P 0 1024 = true := rfl
  have xk : v_x2 P 0 P = true := by unfold v_x2; simp
  unfold v_ac at hz
  by_cases h17 : g i = 17
  · rw [if_pos h17] at hz
    cases hz
    have hlt : i < N := hC.tk.lt hb.1 (by omega) (by omega)
    refine c56_0a hW hC h17 (k _ ((v_nx_W hW).sI (by omega)) ((v_fr.refl.sI x4).sI xk) (fun j hj => ?_) ((hC.step hlt).pw (by omega)) (fun a ha => by cases ha; exact v_hI))
    rw [v_kI hj]; exact v_aI (by omega)
  rw [if_neg h17] at hz
  by_cases h30 : g i = 30 ∧ v i < 10
  · rw [if_pos h30] at hz
    cases hz
    have hlt : i < N := hC.tk.lt hb.1 (by omega) (by omega)
    refine c56_0b hW hC h17 hv (fun z => absurd z (by omega)) (fun _ _ => k _ (v_nx_W (i := i + 1) (hW.sI (by omega))) ((v_fr.refl.sI xk).sI x4) (fun j hj => ?_) (v_CP.step (hC.pw (by omega)) hlt) (fun a ha => ?_)) (fun _ z => absurd h30.1 z)
    · show q_iv (q_sI _ 1024 6 _) P j = _
      rw [v_aI (by omega)]; exact v_kI hj
    · cases ha
      show q_iv (q_sI _ 1024 6 _) P 4 = _
      rw [v_aI (by omega)]; exact v_hI
  · rw [if_neg h30] at hz
    cases hz
    have K := k _ (hW.sI (a := P) (k := 4) (x := nI (v i)) (by omega)) (v_fr.refl.sI xk) (fun j hj => v_kI hj) (hC.pw (by omega)) (fun a ha => by cases ha)
    exact c56_0b hW hC h17 hv (fun _ => K) (fun z1 z2 => absurd ⟨z2, by omega⟩ h30) (fun _ _ => K)
def v_cq (P : Nat) (S S' : q_S) : Prop := v_fr (v_xp P) S S' ∧ ∀ j, j ≠ 1 → j ≠ 4 → j ≠ 10 → q_iv S' P j = q_iv S P j
theorem v_x2p {kk a : Nat} (h : kk ≤ 10) : v_xp P a = false → v_x2 P kk a = false := by
  intro z
  unfold v_xp at z
  unfold v_x2
  simp at z ⊢
  omega
/-- the class reads a head -/
theorem v_chead {hd : Option v_Hd} {p : Nat} (hW : w_W (q_S0 L xs) S) (hC : v_CP S P N g v pl 0 ns) (hz : v_hd g v = (hd, p)) (k : ∀ S', w_W (q_S0 L xs) S' → v_cq P S S' → v_CP S' P N g v pl p ns → (∀ h, hd = some h → v_CH S' P h) → Q (.returned (some (.int (if hd.isSome then 1 else 0)))) S') : w_X (d + 3) 49 [.ref 1023] S Q := by
  have hr := hC.wp.rng
  have hT := hC.tk
  unfold v_hd at hz
  have hper : ∀ y, (y = (if g 0 = 0 then 1 else 0)) → w_X (d + 2) 51 [.ref 1024, .ref 0] (q_sI S P 1 y) (w_k (d + 3) 49 32 [(0, .ref 1023)] [] Q) := by
    intro y hy
    have hW1 : w_W (q_S0 L xs) (q_sI S P 1 y) := hW.sI (by omega)
    have hC1 : v_CP (q_sI S P 1 y) P N g v pl 0 ns := hC.pw (by omega)
    have hq1 : v_cq P S (q_sI S P 1 y) := ⟨v_fr.refl.sI (v_xp0 P), fun j j1 j2 j3 => v_kI j1⟩
    have h1y : q_iv (q_sI S P 1 y) P 1 = y := v_hI
    -- behind the first token
    have opn : (g 0 = 0 ∨ g 0 = 1) → ∀ S1, w_W (q_S0 L xs) S1 → v_CP S1 P N g v pl 1 ns → v_cq P S S1 → q_iv S1 P 1 = y → w_X (d + 2) 51 [.ref 1024, .ref 11] S1 (w_k (d + 3) 49 58 [(0, .ref 1023)] [] Q) := by
      intro h01 S1 hW1 hC1 hq1 hy1
      rw [if_pos h01] at hz
      refine x51 hW1 hC1 (by decide) (fun h11 => ?_) (fun h11 => ?_)
      · rw [if_pos h11] at hz
        have hb := hC1.bd
        have hlt : 1 < N := hT.lt hb.1 (by omega) (by omega)
        have hW2 := v_nx_W (i := 2) hW1
        have hC2 := hC1.step hlt
        refine c49_61y hW2 hC2 ?_
        unfold v_hd1 at hz
        cases hs : v_sc g v 2 with
        | mk ra pa =>
          have hle := v_sc_le hT (p := 2) hlt
          rw [hs] at hz hle
          refine v_cscope (kk := 1) (Or.inl rfl) hW2 hC2 hs (fun S3 hW3 hf3 hC3 hv3 => ?_)
          have hq3 : v_cq P S S3 := ⟨(hq1.1.sI (k := 6) (x := nI 2) (v_xp4 P)).trans (hf3.mono (fun a => v_x2p (by omega))), fun j j1 j2 j3 => by rw [hf3.iv (a := P) (by unfold v_x2; simp; omega)]; show q_iv (q_sI S1 1024 6 _) P j = _; rw [v_aI (by omega)]; exact hq1.2 j j1 j2 j3⟩
          have hy3 : q_iv S3 P 1 = y := by rw [hf3.iv (a := P) (by unfold v_x2; simp; omega)]; show q_iv (q_sI S1 1024 6 _) P 1 = _; rw [v_aI (by omega)]; exact hy1
          cases ra with
          | none =>
            dsimp only at hz
            cases hz
            exact c49_75n hW3 hC3 (k S3 hW3 hq3 hC3 (fun h z => by cases z))
          | some a =>
            dsimp only at hz
            obtain ⟨va1, va2⟩ := hv3 a rfl
            refine c49_75y hW3 hC3 (x51 hW3 hC3 (by decide) (fun h15 => ?_) (fun h15 => ?_))
            · rw [if_pos h15] at hz
              have hb3 := hC3.bd
              have hlt3 : pa < N := hT.lt hb3.1 (by omega) (by omega)
              have hW4 := v_nx_W (i := pa + 1) hW3
              have hC4 := hC3.step hlt3
              refine c49_88y hW4 hC4 ?_
              unfold v_hd2 at hz
              cases hs2 : v_ac g v (pa + 1) with
              | mk rb pb =>
                have hle2 := v_ac_le hT (p := pa + 1) hlt3
                rw [hs2] at hz hle2
                refine v_caction hW4 hC4 hs2 (fun S5 hW5 hf5 hp5 hC5 hv5 => ?_)
                have hq5 : v_cq P S S5 := ⟨(hq3.1.sI (k := 6) (x := nI (pa + 1)) (v_xp4 P)).trans (hf5.mono (fun a => v_x2p (by omega))), fun j j1 j2 j3 => by rw [hp5 j j2]; show q_iv (q_sI S3 1024 6 _) P j = _; rw [v_aI (by omega)]; exact hq3.2 j j1 j2 j3⟩
                have hy5 : q_iv S5 P 1 = y := by rw [hp5 1 (by decide)]; show q_iv (q_sI S3 1024 6 _) P 1 = _; rw [v_aI (by omega)]; exact hy3
                have f51 : q_iv S5 (P + 1) = q_iv S3 (P + 1) := by
                  rw [hf5.iv (a := P + 1) (by unfold v_x2; simp; omega)]
                  funext j
                  show q_iv (q_sI S3 1024 6 _) (P + 1) j = _
                  exact v_aI (by omega)
                cases rb with
                | none =>
                  dsimp only at hz
                  cases hz
                  exact c49_95n hW5 hC5 (k S5 hW5 hq5 hC5 (fun h z => by cases z))
                | some b =>
                  dsimp only at hz
                  have vb := hv5 b rfl
                  refine c49_95y hW5 hC5 (x51 hW5 hC5 (by decide) (fun h15' => ?_) (fun h15' => ?_))
                  · rw [if_pos h15'] at hz
                    have hb5 := hC5.bd
                    have hlt5 : pb < N := hT.lt hb5.1 (by omega) (by omega)
                    have hW6 := v_nx_W (i := pb + 1) hW5
                    have hC6 := hC5.step hlt5
                    refine c49_108y hW6 hC6 ?_
                    unfold v_hd3 at hz
                    cases hs3 : v_sc g v (pb + 1) with
                    | mk rc pc =>
                      rw [hs3] at hz
                      refine v_cscope (kk := 2) (Or.inr rfl) hW6 hC6 hs3 (fun S7 hW7 hf7 hC7 hv7 => ?_)
                      have hq7 : v_cq P S S7 := ⟨(hq5.1.sI (k := 6) (x := nI (pb + 1)) (v_xp4 P)).trans (hf7.mono (fun a => v_x2p (by omega))), fun j j1 j2 j3 => by rw [hf7.iv (a := P) (by unfold v_x2; simp; omega)]; show q_iv (q_sI S5 1024 6 _) P j = _; rw [v_aI (by omega)]; exact hq5.2 j j1 j2 j3⟩
                      have fP : ∀ j, q_iv S7 P j = q_iv S5 P j := fun j => by rw [hf7.iv (a := P) (by unfold v_x2; simp; omega)]; show q_iv (q_sI S5 1024 6 _) P j = _; exact v_aI (by omega)
                      have f1 : ∀ j, q_iv S7 (P + 1) j = q_iv S3 (P + 1) j := fun j => by rw [hf7.iv (a := P + 1) (by unfold v_x2; simp; omega), ← f51]; show q_iv (q_sI S5 1024 6 _) (P + 1) j = _; exact v_aI (by omega)
                      cases rc with
                      | none =>
                        dsimp only at hz
                        cases hz
                        exact c49_122n hW7 hC7 (k S7 hW7 hq7 hC7 (fun h z => by cases z))
                      | some c =>
                        dsimp only at hz
                        obtain ⟨vc1, vc2⟩ := hv7 c rfl
                        refine c49_122y hW7 hC7 (x51 hW7 hC7 (by decide) (fun h12 => ?_) (fun h12 => ?_))
                        · rw [if_pos h12] at hz
                          cases hz
                          have hb7 := hC7.bd
                          have hlt7 : pc < N := hT.lt hb7.1 (by omega) (by omega)
                          have hW8 := v_nx_W (i := pc + 1) hW7
                          have hC8 := hC7.step hlt7
                          refine c49_135y hW8 hC8 (k _ hW8 ⟨hq7.1.sI (v_xp4 P), fun j j1 j2 j3 => ?_⟩ hC8 (fun h z => ?_))
                          · show q_iv (q_sI S7 1024 6 _) P j = _
                            rw [v_aI (by omega)]; exact hq7.2 j j1 j2 j3
                          · cases z
                            have o : ∀ a j, a ≠ 1024 → q_iv (v_nx S7 (pc + 1)) a j = q_iv S7 a j := fun a j ha => v_aI ha
                            refine ⟨?_, ?_, ?_, ?_, ?_, ?_⟩
                            · rw [o P 1 (by omega), fP, hy5]; exact hy
                            · rw [o (P + 1) 0 (by omega), f1]; exact va1
                            · rw [o (P + 1) 1 (by omega), f1]; exact va2
                            · rw [o P 4 (by omega), fP]; exact vb
                            · rw [o (P + 2) 0 (by omega)]; exact vc1
                            · rw [o (P + 2) 1 (by omega)]; exact vc2
                        · rw [if_neg h12] at hz
                          cases hz
                          exact c49_135n hW7 hC7 (k S7 hW7 hq7 hC7 (fun h z => by cases z))
                  · rw [if_neg h15'] at hz
                    cases hz
                    exact c49_108n hW5 hC5 (k S5 hW5 hq5 hC5 (fun h z => by cases z))
            · rw [if_neg h15] at hz
              cases hz
              exact c49_88n hW3 hC3 (k S3 hW3 hq3 hC3 (fun h z => by cases z))
      · rw [if_neg h11] at hz
        cases hz
        exact c49_61n hW1 hC1 (k S1 hW1 hq1 hC1 (fun h z => by cases z))
    have nxt : ∀ S2, S2 = q_sI S P 1 y → (g 0 = 0 ∨ g 0 = 1) → w_X (d + 2) 51 [.ref 1024, .ref 11] (v_nx S2 1) (w_k (d + 3) 49 58 [(0, .ref 1023)] [] Q) := by
      intro S2 e h01
      subst e
      have hlt : 0 < N := hT.lt (Nat.zero_le _) (by omega) (by omega)
      refine opn h01 _ (v_nx_W hW1) (hC1.step hlt) ⟨hq1.1.sI (v_xp4 P), fun j j1 j2 j3 => ?_⟩ ?_
      · show q_iv (q_sI _ 1024 6 _) P j = _
        rw [v_aI (by omega)]; exact hq1.2 j j1 j2 j3
      · show q_iv (q_sI _ 1024 6 _) P 1 = _
        rw [v_aI (by omega)]; exact h1y
    have hlt : (g 0 = 0 ∨ g 0 = 1) → 0 < N := fun h01 => hT.lt (Nat.zero_le _) (by omega) (by omega)
    refine x51 hW1 hC1 (by decide) (fun h0 => ?_) (fun h0 => ?_)
    · exact c49_35y (v_nx_W hW1) (hC1.step (hlt (Or.inl h0))) (nxt _ rfl (Or.inl h0))
    · refine c49_35n hW1 hC1 (x51 hW1 hC1 (by decide) (fun h1 => ?_) (fun h1 => ?_))
      · exact c49_48y (v_nx_W hW1) (hC1.step (hlt (Or.inr h1))) (nxt _ rfl (Or.inr h1))
      · rw [if_neg (by omega)] at hz
        cases hz
        exact c49_48n hW1 hC1 (k _ hW1 hq1 hC1 (fun h z => by cases z))
  refine c49_0 hW hC (fun h => hper 0 (by rw [if_neg h])) (fun h => hper 1 (by rw [if_pos h]))
end VCHD
