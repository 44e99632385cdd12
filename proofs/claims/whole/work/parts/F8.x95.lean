/-! ONE CALL: conforms, an attribute. -/
def j_cf (s t : Nat) (b : Bool) (q : Option Nat) : Bool := if s = 0 then (decide (t = 0) || !b) else if s = 3 then (match q with | none => false | some i => decide (t = if i = 0 then 7 else if i = 1 then 11 else 19)) else decide (t = s)
def j_at (S : q_S) (e k a s t : Nat) (b : Bool) (q : Option Nat) : Prop := (e < 16 ∧ k < 3 ∧ a < 3 ∧ s < 4 ∧ u_dv t) ∧ (q_iv S 1016 e = nI k ∧ q_iv S 1117 e = 1 ∧ q_iv S 1118 e = nI k) ∧ (q_iv S 1018 (e * 3 + a) = nI s ∧ q_iv S 1120 (3 * e + a) = nI s) ∧ (q_iv S 1021 (k * 3 + a) = nI t ∧ q_iv S 1122 (3 * k + a) = nI (t % 4) ∧ (t % 4 = 3 → q_iv S 1123 (3 * k + a) = nI (u_of t))) ∧ (q_iv S 1022 (k * 3 + a) = (if b = true then 1 else 0) ∧ q_iv S 1124 (3 * k + a) = (if b = true then 1 else 0)) ∧ (s = 3 → ∃ f, f < 16 ∧ q_iv S 1019 (e * 3 + a) = nI f ∧ q_iv S 1121 (3 * e + a) = nI f ∧ ((q = none ∧ q_iv S 1016 f = -2 ∧ q_iv S 1117 f = 0) ∨ ∃ i, i < 3 ∧ q = some i ∧ q_iv S 1016 f = nI i ∧ q_iv S 1117 f = 1 ∧ q_iv S 1118 f = nI i))
section JO5
variable {d L p e k a s t : Nat} {b cf : Bool} {q : Option Nat} {xs : Nat → Int32} {S : q_S} {Q : Outcome → q_S → Prop}
theorem x95 (hW : w_W (q_S0 L xs) S) (h : j_at S e k a s t b q) (hcf : cf = j_cf s t b q) (kk : Q (.returned (some (.int (if cf = true then (1 : Int32) else 0)))) S) : w_X (d + 2) 95 [.ref 1000, .int (nI e), .int (nI a)] S Q := by
  obtain ⟨⟨he, hk, ha, hs, hd⟩, ⟨h16, h117, h118⟩, ⟨h18, h120⟩, ⟨h21, h122, h123⟩, ⟨h22, h124⟩, h3⟩ := h
  have ht : t < 100000 := by
    unfold u_dv at hd
    omega
  have k1 : cf = true → Q (.returned (some (.int 1))) S := fun z => by
    rw [z] at kk
    exact kk
  have k0 : cf = false → Q (.returned (some (.int 0))) S := fun z => by
    rw [z] at kk
    exact kk
  obtain rfl | rfl | rfl | rfl : s = 0 ∨ s = 1 ∨ s = 2 ∨ s = 3 := by omega
  · cases b with
    | false => exact h95_00 (d := d + 1) hW he ha (by omega) (by omega) (by omega) (by omega) hk h16 ht h21 h18 (fun _ => h22) (fun _ => k1 (by rw [hcf]; simp [j_cf])) (fun _ => k1 (by rw [hcf]; simp [j_cf]))
    | true => exact h95_01 (d := d + 1) hW he ha (by omega) (by omega) (by omega) (by omega) hk h16 ht h21 h18 (fun _ => h22) (fun z => k1 (by rw [hcf]; simp [j_cf, z])) (fun z => k0 (by rw [hcf]; simp [j_cf, z]))
  · exact h95_1 (d := d + 1) hW he ha (by omega) (by omega) (by omega) (by omega) hk h16 ht h21 h18 (fun z => k0 (by rw [hcf]; simp [j_cf, z])) (fun z => k1 (by rw [hcf]; simp [j_cf, z]))
  · exact h95_2 (d := d + 1) hW he ha (by omega) (by omega) (by omega) (by omega) hk h16 ht h21 h18 (fun z => k0 (by rw [hcf]; simp [j_cf, z])) (fun z => k1 (by rw [hcf]; simp [j_cf, z]))
  · obtain ⟨f, hf, h19, h121, ⟨rfl, g1, g2⟩ | ⟨i, hi, rfl, g1, g2, g3⟩⟩ := h3 rfl
    · exact h95_3n hW he ha (by omega) (by omega) (by omega) (by omega) hk h16 ht h21 h18 hf h19 g1 (k0 (by rw [hcf]; simp [j_cf]))
    · obtain rfl | rfl | rfl : i = 0 ∨ i = 1 ∨ i = 2 := by omega
      · exact h95_30 hW he ha (by omega) (by omega) (by omega) (by omega) hk h16 ht h21 h18 hf h19 g1 (fun z => k0 (by rw [hcf]; simp [j_cf, z])) (fun z => k1 (by rw [hcf]; simp [j_cf, z]))
      · exact h95_31 hW he ha (by omega) (by omega) (by omega) (by omega) hk h16 ht h21 h18 hf h19 g1 (fun z => k0 (by rw [hcf]; simp [j_cf, z])) (fun z => k1 (by rw [hcf]; simp [j_cf, z]))
      · exact h95_32 hW he ha (by omega) (by omega) (by omega) (by omega) hk h16 ht h21 h18 hf h19 g1 (fun z => k0 (by rw [hcf]; simp [j_cf, z])) (fun z => k1 (by rw [hcf]; simp [j_cf, z]))
theorem j_181 (hW : w_W (q_S0 L xs) S) (h : j_at S e k a s t b q) (hcf : cf = j_cf s t b q) (kT : cf = true → w_R d 181 39 [(0, .ref 1097), (1, .int (nI e)), (2, .int (nI (a + 1)))] [] S Q) (kF : cf = false → Q (.returned (some (.int 0))) S) : w_R d 181 39 [(0, .ref 1097), (1, .int (nI e)), (2, .int (nI a))] [] S Q := by
  obtain ⟨⟨he, hk, ha, hs, hd⟩, ⟨h16, h117, h118⟩, ⟨h18, h120⟩, ⟨h21, h122, h123⟩, ⟨h22, h124⟩, h3⟩ := h
  unfold u_dv at hd
  obtain rfl | rfl | rfl | rfl : s = 0 ∨ s = 1 ∨ s = 2 ∨ s = 3 := by omega
  · cases b with
    | false => exact m181_00 hW he (by omega) (by omega) hk h118 h120 (q := t % 4) (by omega) h122 (fun _ => h124) (fun _ => kT (by rw [hcf]; simp [j_cf])) (fun _ => kT (by rw [hcf]; simp [j_cf]))
    | true => exact m181_01 hW he (by omega) (by omega) hk h118 h120 (q := t % 4) (by omega) h122 (fun _ => h124) (fun z => kT (by rw [hcf]; have : t = 0 := (by omega); simp [j_cf, this])) (fun z => kF (by rw [hcf]; have : ¬ t = 0 := (by omega); simp [j_cf, this]))
  · exact m181_1 hW he (by omega) (by omega) hk h118 h120 (q := t % 4) (by omega) h122 (fun z => kF (by rw [hcf]; have : ¬ t = 1 := (by omega); simp [j_cf, this])) (fun z => kT (by rw [hcf]; have : t = 1 := (by omega); simp [j_cf, this]))
  · exact m181_2 hW he (by omega) (by omega) hk h118 h120 (q := t % 4) (by omega) h122 (fun z => kF (by rw [hcf]; have : ¬ t = 2 := (by omega); simp [j_cf, this])) (fun z => kT (by rw [hcf]; have : t = 2 := (by omega); simp [j_cf, this]))
  · have h3' := h3 rfl
    clear h3
    obtain ⟨f, hf, h19, h121, ⟨rfl, g1, g2⟩ | ⟨i, hi, rfl, g1, g2, g3⟩⟩ := h3'
    · exact m181_3n hW he (by omega) (by omega) hk h118 h120 hf h121 (q := t % 4) (by omega) h122 (fun _ => g2) (fun _ => kF (by rw [hcf]; simp [j_cf])) (fun _ => kF (by rw [hcf]; simp [j_cf]))
    · obtain rfl | rfl | rfl : i = 0 ∨ i = 1 ∨ i = 2 := by omega
      · exact m181_30 hW he (by omega) (by omega) hk h118 h120 hf h121 (q := t % 4) (by omega) h122 (fun _ => g2) (fun _ => g3) (o := u_of t) (by omega) (fun z => h123 z.symm) (fun z => kF (by rw [hcf]; have : ¬ t = 7 := (by omega); simp [j_cf, this])) (fun z1 z2 => kT (by rw [hcf]; have : t = 7 := (by omega); simp [j_cf, this])) (fun z1 z2 => kF (by rw [hcf]; have : ¬ t = 7 := (by omega); simp [j_cf, this]))
      · exact m181_31 hW he (by omega) (by omega) hk h118 h120 hf h121 (q := t % 4) (by omega) h122 (fun _ => g2) (fun _ => g3) (o := u_of t) (by omega) (fun z => h123 z.symm) (fun z => kF (by rw [hcf]; have : ¬ t = 11 := (by omega); simp [j_cf, this])) (fun z1 z2 => kT (by rw [hcf]; have : t = 11 := (by omega); simp [j_cf, this])) (fun z1 z2 => kF (by rw [hcf]; have : ¬ t = 11 := (by omega); simp [j_cf, this]))
      · exact m181_32 hW he (by omega) (by omega) hk h118 h120 hf h121 (q := t % 4) (by omega) h122 (fun _ => g2) (fun _ => g3) (o := u_of t) (by omega) (fun z => h123 z.symm) (fun z => kF (by rw [hcf]; have : ¬ t = 19 := (by omega); simp [j_cf, this])) (fun z1 z2 => kT (by rw [hcf]; have : t = 19 := (by omega); simp [j_cf, this])) (fun z1 z2 => kF (by rw [hcf]; have : ¬ t = 19 := (by omega); simp [j_cf, this]))
theorem j_at_ex (hE : u_JE S) (hD : u_JD S) (he : e < 16) (hk : k < 3) (h16 : q_iv S 1016 e = nI k) (h117 : q_iv S 1117 e = 1) (h118 : q_iv S 1118 e = nI k) (ha : a < 3) : ∃ z : Nat × Nat × Bool × Option Nat, j_at S e k a z.1 z.2.1 z.2.2.1 z.2.2.2 := by
  obtain ⟨s, hs, s1, _, s3, s4, _, s6⟩ := hE.2.2 e a he ha
  obtain ⟨⟨t, ht, t1, t2, t3⟩, b, b1, b2⟩ := hD k a hk ha
  have e3 : 3 * k + a = k * 3 + a := by omega
  have hn : ¬ q_iv S 1117 e = 0 := by
    rw [h117]
    decide
  by_cases h3 : s = 3
  · obtain ⟨f, hf, f1⟩ := s6 h3
    have f2 := s4 (by omega)
    rcases hE.1 f hf with ⟨g1, g2⟩ | ⟨i, hi, g1, g2, g3⟩
    · exact ⟨(s, t, b, none), ⟨he, hk, ha, hs, ht⟩, ⟨h16, h117, h118⟩, ⟨s1, s3 hn⟩, ⟨by rw [← e3]; exact t1, t2, t3⟩, ⟨by rw [← e3]; exact b1, b2⟩, fun _ => ⟨f, hf, f1, f2.trans f1, Or.inl ⟨rfl, g1, g2⟩⟩⟩
    · exact ⟨(s, t, b, some i), ⟨he, hk, ha, hs, ht⟩, ⟨h16, h117, h118⟩, ⟨s1, s3 hn⟩, ⟨by rw [← e3]; exact t1, t2, t3⟩, ⟨by rw [← e3]; exact b1, b2⟩, fun _ => ⟨f, hf, f1, f2.trans f1, Or.inr ⟨i, hi, rfl, g1, g2, g3⟩⟩⟩
  · exact ⟨(s, t, b, none), ⟨he, hk, ha, hs, ht⟩, ⟨h16, h117, h118⟩, ⟨s1, s3 hn⟩, ⟨by rw [← e3]; exact t1, t2, t3⟩, ⟨by rw [← e3]; exact b1, b2⟩, fun z => absurd z h3⟩
end JO5
