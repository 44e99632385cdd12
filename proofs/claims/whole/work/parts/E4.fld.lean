/-! THE REFERENCE'S isField: the type of an attribute. -/
def u_of (t : Nat) : Nat := if t = 7 then 0 else if t = 11 then 1 else 2
def u_dv (t : Nat) : Prop := (t = 0 ∧ u_of t = 2) ∨ (t = 1 ∧ u_of t = 2) ∨ (t = 2 ∧ u_of t = 2) ∨ (t = 7 ∧ u_of t = 0) ∨ (t = 11 ∧ u_of t = 1) ∨ (t = 19 ∧ u_of t = 2)
def u_KM (S : q_S) (ke : Nat → Nat) (dt : Nat → Nat → Nat) (su : Nat → Nat → Bool) : Prop := (∀ e, e < 16 → (q_iv S 1117 e = 0 ∧ ke e = 0) ∨ ∃ k, k < 3 ∧ q_iv S 1117 e = 1 ∧ q_iv S 1118 e = nI k ∧ ke e = 2 ^ k) ∧ ∀ k a, k < 3 → a < 3 → q_iv S 1122 (3 * k + a) = nI (dt k a % 4) ∧ (dt k a % 4 = 3 → q_iv S 1123 (3 * k + a) = nI (u_of (dt k a))) ∧ q_iv S 1124 (3 * k + a) = if su k a = true then 1 else 0
section VFD
variable {d L : Nat} {xs : Nat → Int32} {S : q_S} {ke : Nat → Nat} {dt : Nat → Nat → Nat} {su : Nat → Nat → Bool} {Q : Outcome → q_S → Prop}
theorem u_KT.dv (h : u_KT ke dt) {k a : Nat} (hk : k < 3) (ha : a < 3) : u_dv (dt k a) := by
  unfold u_dv
  rcases h.2 k a hk ha with e | e | e | ⟨o, ho, e⟩
  · rw [e]; decide
  · rw [e]; decide
  · rw [e]; decide
  · have : o = 0 ∨ o = 1 ∨ o = 2 := by omega
    rcases this with rfl | rfl | rfl <;> (rw [e]; decide)
theorem u_ct0 {a : Nat} : u_ct dt 0 a = 0 := rfl
theorem u_ct1 {a : Nat} : u_ct dt 1 a = dt 0 a := by unfold u_ct u_cs1; by_cases h0 : dt 0 a = 0 <;> simp_all
theorem u_ct2 {a : Nat} : u_ct dt 2 a = dt 1 a := by unfold u_ct u_cs1; by_cases h0 : dt 1 a = 0 <;> simp_all
theorem u_ct4 {a : Nat} : u_ct dt 4 a = dt 2 a := by unfold u_ct u_cs1; by_cases h0 : dt 2 a = 0 <;> simp_all
theorem u_ct3 {a : Nat} : u_ct dt 3 a = if dt 0 a = dt 1 a then dt 0 a else 0 := by unfold u_ct u_cs1; by_cases h0 : dt 0 a = 0 <;> by_cases h1 : dt 1 a = 0 <;> by_cases h : dt 0 a = dt 1 a <;> simp_all
theorem u_ct5 {a : Nat} : u_ct dt 5 a = if dt 0 a = dt 2 a then dt 0 a else 0 := by unfold u_ct u_cs1; by_cases h0 : dt 0 a = 0 <;> by_cases h1 : dt 2 a = 0 <;> by_cases h : dt 0 a = dt 2 a <;> simp_all
theorem u_ct6 {a : Nat} : u_ct dt 6 a = if dt 1 a = dt 2 a then dt 1 a else 0 := by unfold u_ct u_cs1; by_cases h0 : dt 1 a = 0 <;> by_cases h1 : dt 2 a = 0 <;> by_cases h : dt 1 a = dt 2 a <;> simp_all
theorem u_ct7 {a : Nat} : u_ct dt 7 a = if dt 0 a = dt 1 a ∧ dt 1 a = dt 2 a then dt 0 a else 0 := by unfold u_ct u_cs1; by_cases h0 : dt 0 a = 0 <;> by_cases h1 : dt 1 a = 0 <;> by_cases h2 : dt 2 a = 0 <;> by_cases h : dt 0 a = dt 1 a <;> by_cases h' : dt 1 a = dt 2 a <;> simp_all
theorem u_ofl (t : Nat) : u_of t < 3 := by unfold u_of; split <;> (try split) <;> omega
theorem u_fA1 {i n a u : Nat} (hW : w_W (q_S0 L xs) S) (hT : u_KT ke dt) (hK : u_KM S ke dt su) (hi : i < 6) (hn : n < 100) (ha : a < n) (hu : u < 3) (hx : q_iv S 1104 (101 * i + n) = nI a) (hv : q_iv S 1106 (101 * i + n) = nI u) (h5 : q_iv S 1135 (101 * i + a) = 3) (h6 : q_iv S 1136 (101 * i + a) = nI 1) (k0 : u_ct dt 1 u = 0 → Q (.returned (some (.int 0))) S) (k1 : ∀ k, k < 3 → ¬ u_ct dt 1 u = 0 → dt k u = u_ct dt 1 u → w_R d 203 165 [(0, .ref 1097), (2, .int (nI (101 * i + n))), (3, .int (nI (101 * i + a))), (4, .int (nI u)), (5, .int (nI (3 * k + u))), (6, .int (if u_as su 1 u = true then 1 else 0))] [] S Q) : w_X d 203 [.ref 1097, .int (nI (101 * i)), .int (nI (101 * i + n))] S Q := by
  obtain ⟨e0, f0, g0⟩ := hK.2 0 u (by decide) hu
  replace e0 : q_iv S 1122 (0 + u) = nI (dt 0 u % 4) := e0
  replace f0 : dt 0 u % 4 = 3 → q_iv S 1123 (0 + u) = nI (u_of (dt 0 u)) := f0
  replace g0 : q_iv S 1124 (0 + u) = if su 0 u = true then 1 else 0 := g0
  have D0 := hT.dv (k := 0) (by decide) hu
  unfold u_dv at D0
  have al : ((1 : Int32) &&& (if su 0 u = true then 1 else 0)) = if u_as su 1 u = true then 1 else 0 := by
    unfold u_as
    cases su 0 u <;> cases su 1 u <;> cases su 2 u <;> decide
  exact c203_1 hW hi hn ha hu hx hv h5 h6 (by omega) (e0) (fun c0 c1 => g0) (u_ofl (dt 0 u)) (fun c0 c1 => f0 (by omega)) (fun c0 c1 => g0) (fun c0 c1 => by rw [al]; exact k1 0 (by decide) (by have := u_ct1 (dt := dt) (a := u); omega) (by have := u_ct1 (dt := dt) (a := u); omega)) (fun c0 c1 => by rw [al]; exact k1 0 (by decide) (by have := u_ct1 (dt := dt) (a := u); omega) (by have := u_ct1 (dt := dt) (a := u); omega)) (fun c0 => k0 (by have := u_ct1 (dt := dt) (a := u); omega))
theorem u_fA2 {i n a u : Nat} (hW : w_W (q_S0 L xs) S) (hT : u_KT ke dt) (hK : u_KM S ke dt su) (hi : i < 6) (hn : n < 100) (ha : a < n) (hu : u < 3) (hx : q_iv S 1104 (101 * i + n) = nI a) (hv : q_iv S 1106 (101 * i + n) = nI u) (h5 : q_iv S 1135 (101 * i + a) = 3) (h6 : q_iv S 1136 (101 * i + a) = nI 2) (k0 : u_ct dt 2 u = 0 → Q (.returned (some (.int 0))) S) (k1 : ∀ k, k < 3 → ¬ u_ct dt 2 u = 0 → dt k u = u_ct dt 2 u → w_R d 203 165 [(0, .ref 1097), (2, .int (nI (101 * i + n))), (3, .int (nI (101 * i + a))), (4, .int (nI u)), (5, .int (nI (3 * k + u))), (6, .int (if u_as su 2 u = true then 1 else 0))] [] S Q) : w_X d 203 [.ref 1097, .int (nI (101 * i)), .int (nI (101 * i + n))] S Q := by
  obtain ⟨e1, f1, g1⟩ := hK.2 1 u (by decide) hu
  replace e1 : q_iv S 1122 (3 + u) = nI (dt 1 u % 4) := e1
  replace f1 : dt 1 u % 4 = 3 → q_iv S 1123 (3 + u) = nI (u_of (dt 1 u)) := f1
  replace g1 : q_iv S 1124 (3 + u) = if su 1 u = true then 1 else 0 := g1
  have D1 := hT.dv (k := 1) (by decide) hu
  unfold u_dv at D1
  have al : ((1 : Int32) &&& (if su 1 u = true then 1 else 0)) = if u_as su 2 u = true then 1 else 0 := by
    unfold u_as
    cases su 0 u <;> cases su 1 u <;> cases su 2 u <;> decide
  exact c203_2 hW hi hn ha hu hx hv h5 h6 (by omega) (e1) (fun c0 c1 => g1) (u_ofl (dt 1 u)) (fun c0 c1 => f1 (by omega)) (fun c0 c1 => g1) (fun c0 c1 => by rw [al]; exact k1 1 (by decide) (by have := u_ct2 (dt := dt) (a := u); omega) (by have := u_ct2 (dt := dt) (a := u); omega)) (fun c0 c1 => by rw [al]; exact k1 1 (by decide) (by have := u_ct2 (dt := dt) (a := u); omega) (by have := u_ct2 (dt := dt) (a := u); omega)) (fun c0 => k0 (by have := u_ct2 (dt := dt) (a := u); omega))
theorem u_fA3 {i n a u : Nat} (hW : w_W (q_S0 L xs) S) (hT : u_KT ke dt) (hK : u_KM S ke dt su) (hi : i < 6) (hn : n < 100) (ha : a < n) (hu : u < 3) (hx : q_iv S 1104 (101 * i + n) = nI a) (hv : q_iv S 1106 (101 * i + n) = nI u) (h5 : q_iv S 1135 (101 * i + a) = 3) (h6 : q_iv S 1136 (101 * i + a) = nI 3) (k0 : u_ct dt 3 u = 0 → Q (.returned (some (.int 0))) S) (k1 : ∀ k, k < 3 → ¬ u_ct dt 3 u = 0 → dt k u = u_ct dt 3 u → w_R d 203 165 [(0, .ref 1097), (2, .int (nI (101 * i + n))), (3, .int (nI (101 * i + a))), (4, .int (nI u)), (5, .int (nI (3 * k + u))), (6, .int (if u_as su 3 u = true then 1 else 0))] [] S Q) : w_X d 203 [.ref 1097, .int (nI (101 * i)), .int (nI (101 * i + n))] S Q := by
  obtain ⟨e0, f0, g0⟩ := hK.2 0 u (by decide) hu
  replace e0 : q_iv S 1122 (0 + u) = nI (dt 0 u % 4) := e0
  replace f0 : dt 0 u % 4 = 3 → q_iv S 1123 (0 + u) = nI (u_of (dt 0 u)) := f0
  replace g0 : q_iv S 1124 (0 + u) = if su 0 u = true then 1 else 0 := g0
  have D0 := hT.dv (k := 0) (by decide) hu
  unfold u_dv at D0
  obtain ⟨e1, f1, g1⟩ := hK.2 1 u (by decide) hu
  replace e1 : q_iv S 1122 (3 + u) = nI (dt 1 u % 4) := e1
  replace f1 : dt 1 u % 4 = 3 → q_iv S 1123 (3 + u) = nI (u_of (dt 1 u)) := f1
  replace g1 : q_iv S 1124 (3 + u) = if su 1 u = true then 1 else 0 := g1
  have D1 := hT.dv (k := 1) (by decide) hu
  unfold u_dv at D1
  have al : (((1 : Int32) &&& (if su 0 u = true then 1 else 0)) &&& (if su 1 u = true then 1 else 0)) = if u_as su 3 u = true then 1 else 0 := by
    unfold u_as
    cases su 0 u <;> cases su 1 u <;> cases su 2 u <;> decide
  exact c203_3 hW hi hn ha hu hx hv h5 h6 (by omega) (e0) (fun c0 c1 => g0) (by omega) (fun c0 c1 => e1) (fun c0 c1 c2 c3 c4 => g1) (u_ofl (dt 1 u)) (fun c0 c1 c2 c3 c4 => f1 (by omega)) (u_ofl (dt 0 u)) (fun c0 c1 c2 c3 c4 => f0 (by omega)) (fun c0 c1 c2 c3 c4 c5 => g1) (fun c0 c1 => f0 (by omega)) (fun c0 c1 => g0) (fun c0 c1 => e1) (fun c0 c1 c2 c3 c4 => g1) (fun c0 c1 c2 c3 c4 => f1 (by omega)) (fun c0 c1 c2 c3 c4 c5 => g1) (fun c0 c1 c2 c3 => k0 (by rw [u_ct3]; split <;> omega)) (fun c0 c1 c2 c3 c4 => by rw [al]; exact k1 0 (by decide) (by rw [u_ct3]; split <;> omega) (by rw [u_ct3]; split <;> omega)) (fun c0 c1 c2 c3 c4 c5 => by rw [al]; exact k1 0 (by decide) (by rw [u_ct3]; split <;> omega) (by rw [u_ct3]; split <;> omega)) (fun c0 c1 c2 c3 c4 c5 => k0 (by rw [u_ct3]; split <;> omega)) (fun c0 c1 c2 => k0 (by rw [u_ct3]; split <;> omega)) (fun c0 c1 c2 c3 => k0 (by rw [u_ct3]; split <;> omega)) (fun c0 c1 c2 c3 c4 => by rw [al]; exact k1 0 (by decide) (by rw [u_ct3]; split <;> omega) (by rw [u_ct3]; split <;> omega)) (fun c0 c1 c2 c3 c4 c5 => by rw [al]; exact k1 0 (by decide) (by rw [u_ct3]; split <;> omega) (by rw [u_ct3]; split <;> omega)) (fun c0 c1 c2 c3 c4 c5 => k0 (by rw [u_ct3]; split <;> omega)) (fun c0 c1 c2 => k0 (by rw [u_ct3]; split <;> omega)) (fun c0 => k0 (by rw [u_ct3]; split <;> omega))
theorem u_fA4 {i n a u : Nat} (hW : w_W (q_S0 L xs) S) (hT : u_KT ke dt) (hK : u_KM S ke dt su) (hi : i < 6) (hn : n < 100) (ha : a < n) (hu : u < 3) (hx : q_iv S 1104 (101 * i + n) = nI a) (hv : q_iv S 1106 (101 * i + n) = nI u) (h5 : q_iv S 1135 (101 * i + a) = 3) (h6 : q_iv S 1136 (101 * i + a) = nI 4) (k0 : u_ct dt 4 u = 0 → Q (.returned (some (.int 0))) S) (k1 : ∀ k, k < 3 → ¬ u_ct dt 4 u = 0 → dt k u = u_ct dt 4 u → w_R d 203 165 [(0, .ref 1097), (2, .int (nI (101 * i + n))), (3, .int (nI (101 * i + a))), (4, .int (nI u)), (5, .int (nI (3 * k + u))), (6, .int (if u_as su 4 u = true then 1 else 0))] [] S Q) : w_X d 203 [.ref 1097, .int (nI (101 * i)), .int (nI (101 * i + n))] S Q := by
  obtain ⟨e2, f2, g2⟩ := hK.2 2 u (by decide) hu
  replace e2 : q_iv S 1122 (6 + u) = nI (dt 2 u % 4) := e2
  replace f2 : dt 2 u % 4 = 3 → q_iv S 1123 (6 + u) = nI (u_of (dt 2 u)) := f2
  replace g2 : q_iv S 1124 (6 + u) = if su 2 u = true then 1 else 0 := g2
  have D2 := hT.dv (k := 2) (by decide) hu
  unfold u_dv at D2
  have al : ((1 : Int32) &&& (if su 2 u = true then 1 else 0)) = if u_as su 4 u = true then 1 else 0 := by
    unfold u_as
    cases su 0 u <;> cases su 1 u <;> cases su 2 u <;> decide
  exact c203_4 hW hi hn ha hu hx hv h5 h6 (by omega) (e2) (fun c0 c1 => g2) (u_ofl (dt 2 u)) (fun c0 c1 => f2 (by omega)) (fun c0 c1 => g2) (fun c0 c1 => by rw [al]; exact k1 2 (by decide) (by have := u_ct4 (dt := dt) (a := u); omega) (by have := u_ct4 (dt := dt) (a := u); omega)) (fun c0 c1 => by rw [al]; exact k1 2 (by decide) (by have := u_ct4 (dt := dt) (a := u); omega) (by have := u_ct4 (dt := dt) (a := u); omega)) (fun c0 => k0 (by have := u_ct4 (dt := dt) (a := u); omega))
theorem u_fA5 {i n a u : Nat} (hW : w_W (q_S0 L xs) S) (hT : u_KT ke dt) (hK : u_KM S ke dt su) (hi : i < 6) (hn : n < 100) (ha : a < n) (hu : u < 3) (hx : q_iv S 1104 (101 * i + n) = nI a) (hv : q_iv S 1106 (101 * i + n) = nI u) (h5 : q_iv S 1135 (101 * i + a) = 3) (h6 : q_iv S 1136 (101 * i + a) = nI 5) (k0 : u_ct dt 5 u = 0 → Q (.returned (some (.int 0))) S) (k1 : ∀ k, k < 3 → ¬ u_ct dt 5 u = 0 → dt k u = u_ct dt 5 u → w_R d 203 165 [(0, .ref 1097), (2, .int (nI (101 * i + n))), (3, .int (nI (101 * i + a))), (4, .int (nI u)), (5, .int (nI (3 * k + u))), (6, .int (if u_as su 5 u = true then 1 else 0))] [] S Q) : w_X d 203 [.ref 1097, .int (nI (101 * i)), .int (nI (101 * i + n))] S Q := by
  obtain ⟨e0, f0, g0⟩ := hK.2 0 u (by decide) hu
  replace e0 : q_iv S 1122 (0 + u) = nI (dt 0 u % 4) := e0
  replace f0 : dt 0 u % 4 = 3 → q_iv S 1123 (0 + u) = nI (u_of (dt 0 u)) := f0
  replace g0 : q_iv S 1124 (0 + u) = if su 0 u = true then 1 else 0 := g0
  have D0 := hT.dv (k := 0) (by decide) hu
  unfold u_dv at D0
  obtain ⟨e2, f2, g2⟩ := hK.2 2 u (by decide) hu
  replace e2 : q_iv S 1122 (6 + u) = nI (dt 2 u % 4) := e2
  replace f2 : dt 2 u % 4 = 3 → q_iv S 1123 (6 + u) = nI (u_of (dt 2 u)) := f2
  replace g2 : q_iv S 1124 (6 + u) = if su 2 u = true then 1 else 0 := g2
  have D2 := hT.dv (k := 2) (by decide) hu
  unfold u_dv at D2
  have al : (((1 : Int32) &&& (if su 0 u = true then 1 else 0)) &&& (if su 2 u = true then 1 else 0)) = if u_as su 5 u = true then 1 else 0 := by
    unfold u_as
    cases su 0 u <;> cases su 1 u <;> cases su 2 u <;> decide
  exact c203_5 hW hi hn ha hu hx hv h5 h6 (by omega) (e0) (fun c0 c1 => g0) (by omega) (fun c0 c1 => e2) (fun c0 c1 c2 c3 c4 => g2) (u_ofl (dt 2 u)) (fun c0 c1 c2 c3 c4 => f2 (by omega)) (u_ofl (dt 0 u)) (fun c0 c1 c2 c3 c4 => f0 (by omega)) (fun c0 c1 c2 c3 c4 c5 => g2) (fun c0 c1 => f0 (by omega)) (fun c0 c1 => g0) (fun c0 c1 => e2) (fun c0 c1 c2 c3 c4 => g2) (fun c0 c1 c2 c3 c4 => f2 (by omega)) (fun c0 c1 c2 c3 c4 c5 => g2) (fun c0 c1 c2 c3 => k0 (by rw [u_ct5]; split <;> omega)) (fun c0 c1 c2 c3 c4 => by rw [al]; exact k1 0 (by decide) (by rw [u_ct5]; split <;> omega) (by rw [u_ct5]; split <;> omega)) (fun c0 c1 c2 c3 c4 c5 => by rw [al]; exact k1 0 (by decide) (by rw [u_ct5]; split <;> omega) (by rw [u_ct5]; split <;> omega)) (fun c0 c1 c2 c3 c4 c5 => k0 (by rw [u_ct5]; split <;> omega)) (fun c0 c1 c2 => k0 (by rw [u_ct5]; split <;> omega)) (fun c0 c1 c2 c3 => k0 (by rw [u_ct5]; split <;> omega)) (fun c0 c1 c2 c3 c4 => by rw [al]; exact k1 0 (by decide) (by rw [u_ct5]; split <;> omega) (by rw [u_ct5]; split <;> omega)) (fun c0 c1 c2 c3 c4 c5 => by rw [al]; exact k1 0 (by decide) (by rw [u_ct5]; split <;> omega) (by rw [u_ct5]; split <;> omega)) (fun c0 c1 c2 c3 c4 c5 => k0 (by rw [u_ct5]; split <;> omega)) (fun c0 c1 c2 => k0 (by rw [u_ct5]; split <;> omega)) (fun c0 => k0 (by rw [u_ct5]; split <;> omega))
theorem u_fA6 {i n a u : Nat} (hW : w_W (q_S0 L xs) S) (hT : u_KT ke dt) (hK : u_KM S ke dt su) (hi : i < 6) (hn : n < 100) (ha : a < n) (hu : u < 3) (hx : q_iv S 1104 (101 * i + n) = nI a) (hv : q_iv S 1106 (101 * i + n) = nI u) (h5 : q_iv S 1135 (101 * i + a) = 3) (h6 : q_iv S 1136 (101 * i + a) = nI 6) (k0 : u_ct dt 6 u = 0 → Q (.returned (some (.int 0))) S) (k1 : ∀ k, k < 3 → ¬ u_ct dt 6 u = 0 → dt k u = u_ct dt 6 u → w_R d 203 165 [(0, .ref 1097), (2, .int (nI (101 * i + n))), (3, .int (nI (101 * i + a))), (4, .int (nI u)), (5, .int (nI (3 * k + u))), (6, .int (if u_as su 6 u = true then 1 else 0))] [] S Q) : w_X d 203 [.ref 1097, .int (nI (101 * i)), .int (nI (101 * i + n))] S Q := by
  obtain ⟨e1, f1, g1⟩ := hK.2 1 u (by decide) hu
  replace e1 : q_iv S 1122 (3 + u) = nI (dt 1 u % 4) := e1
  replace f1 : dt 1 u % 4 = 3 → q_iv S 1123 (3 + u) = nI (u_of (dt 1 u)) := f1
  replace g1 : q_iv S 1124 (3 + u) = if su 1 u = true then 1 else 0 := g1
  have D1 := hT.dv (k := 1) (by decide) hu
  unfold u_dv at D1
  obtain ⟨e2, f2, g2⟩ := hK.2 2 u (by decide) hu
  replace e2 : q_iv S 1122 (6 + u) = nI (dt 2 u % 4) := e2
  replace f2 : dt 2 u % 4 = 3 → q_iv S 1123 (6 + u) = nI (u_of (dt 2 u)) := f2
  replace g2 : q_iv S 1124 (6 + u) = if su 2 u = true then 1 else 0 := g2
  have D2 := hT.dv (k := 2) (by decide) hu
  unfold u_dv at D2
  have al : (((1 : Int32) &&& (if su 1 u = true then 1 else 0)) &&& (if su 2 u = true then 1 else 0)) = if u_as su 6 u = true then 1 else 0 := by
    unfold u_as
    cases su 0 u <;> cases su 1 u <;> cases su 2 u <;> decide
  exact c203_6 hW hi hn ha hu hx hv h5 h6 (by omega) (e1) (fun c0 c1 => g1) (by omega) (fun c0 c1 => e2) (fun c0 c1 c2 c3 c4 => g2) (u_ofl (dt 2 u)) (fun c0 c1 c2 c3 c4 => f2 (by omega)) (u_ofl (dt 1 u)) (fun c0 c1 c2 c3 c4 => f1 (by omega)) (fun c0 c1 c2 c3 c4 c5 => g2) (fun c0 c1 => f1 (by omega)) (fun c0 c1 => g1) (fun c0 c1 => e2) (fun c0 c1 c2 c3 c4 => g2) (fun c0 c1 c2 c3 c4 => f2 (by omega)) (fun c0 c1 c2 c3 c4 c5 => g2) (fun c0 c1 c2 c3 => k0 (by rw [u_ct6]; split <;> omega)) (fun c0 c1 c2 c3 c4 => by rw [al]; exact k1 1 (by decide) (by rw [u_ct6]; split <;> omega) (by rw [u_ct6]; split <;> omega)) (fun c0 c1 c2 c3 c4 c5 => by rw [al]; exact k1 1 (by decide) (by rw [u_ct6]; split <;> omega) (by rw [u_ct6]; split <;> omega)) (fun c0 c1 c2 c3 c4 c5 => k0 (by rw [u_ct6]; split <;> omega)) (fun c0 c1 c2 => k0 (by rw [u_ct6]; split <;> omega)) (fun c0 c1 c2 c3 => k0 (by rw [u_ct6]; split <;> omega)) (fun c0 c1 c2 c3 c4 => by rw [al]; exact k1 1 (by decide) (by rw [u_ct6]; split <;> omega) (by rw [u_ct6]; split <;> omega)) (fun c0 c1 c2 c3 c4 c5 => by rw [al]; exact k1 1 (by decide) (by rw [u_ct6]; split <;> omega) (by rw [u_ct6]; split <;> omega)) (fun c0 c1 c2 c3 c4 c5 => k0 (by rw [u_ct6]; split <;> omega)) (fun c0 c1 c2 => k0 (by rw [u_ct6]; split <;> omega)) (fun c0 => k0 (by rw [u_ct6]; split <;> omega))
theorem u_fA7 {i n a u : Nat} (hW : w_W (q_S0 L xs) S) (hT : u_KT ke dt) (hK : u_KM S ke dt su) (hi : i < 6) (hn : n < 100) (ha : a < n) (hu : u < 3) (hx : q_iv S 1104 (101 * i + n) = nI a) (hv : q_iv S 1106 (101 * i + n) = nI u) (h5 : q_iv S 1135 (101 * i + a) = 3) (h6 : q_iv S 1136 (101 * i + a) = nI 7) (k0 : u_ct dt 7 u = 0 → Q (.returned (some (.int 0))) S) (k1 : ∀ k, k < 3 → ¬ u_ct dt 7 u = 0 → dt k u = u_ct dt 7 u → w_R d 203 165 [(0, .ref 1097), (2, .int (nI (101 * i + n))), (3, .int (nI (101 * i + a))), (4, .int (nI u)), (5, .int (nI (3 * k + u))), (6, .int (if u_as su 7 u = true then 1 else 0))] [] S Q) : w_X d 203 [.ref 1097, .int (nI (101 * i)), .int (nI (101 * i + n))] S Q := by
  obtain ⟨e0, f0, g0⟩ := hK.2 0 u (by decide) hu
  replace e0 : q_iv S 1122 (0 + u) = nI (dt 0 u % 4) := e0
  replace f0 : dt 0 u % 4 = 3 → q_iv S 1123 (0 + u) = nI (u_of (dt 0 u)) := f0
  replace g0 : q_iv S 1124 (0 + u) = if su 0 u = true then 1 else 0 := g0
  have D0 := hT.dv (k := 0) (by decide) hu
  unfold u_dv at D0
  obtain ⟨e1, f1, g1⟩ := hK.2 1 u (by decide) hu
  replace e1 : q_iv S 1122 (3 + u) = nI (dt 1 u % 4) := e1
  replace f1 : dt 1 u % 4 = 3 → q_iv S 1123 (3 + u) = nI (u_of (dt 1 u)) := f1
  replace g1 : q_iv S 1124 (3 + u) = if su 1 u = true then 1 else 0 := g1
  have D1 := hT.dv (k := 1) (by decide) hu
  unfold u_dv at D1
  obtain ⟨e2, f2, g2⟩ := hK.2 2 u (by decide) hu
  replace e2 : q_iv S 1122 (6 + u) = nI (dt 2 u % 4) := e2
  replace f2 : dt 2 u % 4 = 3 → q_iv S 1123 (6 + u) = nI (u_of (dt 2 u)) := f2
  replace g2 : q_iv S 1124 (6 + u) = if su 2 u = true then 1 else 0 := g2
  have D2 := hT.dv (k := 2) (by decide) hu
  unfold u_dv at D2
  have al : ((((1 : Int32) &&& (if su 0 u = true then 1 else 0)) &&& (if su 1 u = true then 1 else 0)) &&& (if su 2 u = true then 1 else 0)) = if u_as su 7 u = true then 1 else 0 := by
    unfold u_as
    cases su 0 u <;> cases su 1 u <;> cases su 2 u <;> decide
  exact c203_7 hW hi hn ha hu hx hv h5 h6 (by omega) (e0) (fun c0 c1 => g0) (by omega) (fun c0 c1 => e1) (fun c0 c1 c2 c3 c4 => g1) (by omega) (fun c0 c1 c2 c3 c4 => e2) (fun c0 c1 c2 c3 c4 c5 c6 c7 => g2) (u_ofl (dt 2 u)) (fun c0 c1 c2 c3 c4 c5 c6 c7 => f2 (by omega)) (u_ofl (dt 0 u)) (fun c0 c1 c2 c3 c4 c5 c6 c7 => f0 (by omega)) (fun c0 c1 c2 c3 c4 c5 c6 c7 c8 => g2) (u_ofl (dt 1 u)) (fun c0 c1 c2 c3 c4 => f1 (by omega)) (fun c0 c1 c2 c3 c4 => f0 (by omega)) (fun c0 c1 c2 c3 c4 c5 => g1) (fun c0 c1 c2 c3 c4 c5 => e2) (fun c0 c1 c2 c3 c4 c5 c6 c7 c8 => g2) (fun c0 c1 c2 c3 c4 c5 c6 c7 c8 => f2 (by omega)) (fun c0 c1 c2 c3 c4 c5 c6 c7 c8 c9 => g2) (fun c0 c1 => f0 (by omega)) (fun c0 c1 => g0) (fun c0 c1 => e1) (fun c0 c1 c2 c3 c4 => g1) (fun c0 c1 c2 c3 c4 => e2) (fun c0 c1 c2 c3 c4 c5 c6 c7 => g2) (fun c0 c1 c2 c3 c4 c5 c6 c7 => f2 (by omega)) (fun c0 c1 c2 c3 c4 c5 c6 c7 c8 => g2) (fun c0 c1 c2 c3 c4 => f1 (by omega)) (fun c0 c1 c2 c3 c4 c5 => g1) (fun c0 c1 c2 c3 c4 c5 => e2) (fun c0 c1 c2 c3 c4 c5 c6 c7 c8 => g2) (fun c0 c1 c2 c3 c4 c5 c6 c7 c8 => f2 (by omega)) (fun c0 c1 c2 c3 c4 c5 c6 c7 c8 c9 => g2) (fun c0 c1 c2 c3 => k0 (by rw [u_ct7]; split <;> omega)) (fun c0 c1 c2 c3 c4 c5 c6 => k0 (by rw [u_ct7]; split <;> omega)) (fun c0 c1 c2 c3 c4 c5 c6 c7 => by rw [al]; exact k1 0 (by decide) (by rw [u_ct7]; split <;> omega) (by rw [u_ct7]; split <;> omega)) (fun c0 c1 c2 c3 c4 c5 c6 c7 c8 => by rw [al]; exact k1 0 (by decide) (by rw [u_ct7]; split <;> omega) (by rw [u_ct7]; split <;> omega)) (fun c0 c1 c2 c3 c4 c5 c6 c7 c8 => k0 (by rw [u_ct7]; split <;> omega)) (fun c0 c1 c2 c3 c4 c5 => k0 (by rw [u_ct7]; split <;> omega)) (fun c0 c1 c2 c3 c4 c5 c6 c7 => k0 (by rw [u_ct7]; split <;> omega)) (fun c0 c1 c2 c3 c4 c5 c6 c7 c8 => by rw [al]; exact k1 0 (by decide) (by rw [u_ct7]; split <;> omega) (by rw [u_ct7]; split <;> omega)) (fun c0 c1 c2 c3 c4 c5 c6 c7 c8 c9 => by rw [al]; exact k1 0 (by decide) (by rw [u_ct7]; split <;> omega) (by rw [u_ct7]; split <;> omega)) (fun c0 c1 c2 c3 c4 c5 c6 c7 c8 c9 => k0 (by rw [u_ct7]; split <;> omega)) (fun c0 c1 c2 c3 c4 c5 c6 => k0 (by rw [u_ct7]; split <;> omega)) (fun c0 c1 c2 c3 c4 c5 => k0 (by rw [u_ct7]; split <;> omega)) (fun c0 c1 c2 => k0 (by rw [u_ct7]; split <;> omega)) (fun c0 c1 c2 c3 => k0 (by rw [u_ct7]; split <;> omega)) (fun c0 c1 c2 c3 c4 c5 c6 => k0 (by rw [u_ct7]; split <;> omega)) (fun c0 c1 c2 c3 c4 c5 c6 c7 => by rw [al]; exact k1 0 (by decide) (by rw [u_ct7]; split <;> omega) (by rw [u_ct7]; split <;> omega)) (fun c0 c1 c2 c3 c4 c5 c6 c7 c8 => by rw [al]; exact k1 0 (by decide) (by rw [u_ct7]; split <;> omega) (by rw [u_ct7]; split <;> omega)) (fun c0 c1 c2 c3 c4 c5 c6 c7 c8 => k0 (by rw [u_ct7]; split <;> omega)) (fun c0 c1 c2 c3 c4 c5 => k0 (by rw [u_ct7]; split <;> omega)) (fun c0 c1 c2 c3 c4 c5 c6 c7 => k0 (by rw [u_ct7]; split <;> omega)) (fun c0 c1 c2 c3 c4 c5 c6 c7 c8 => by rw [al]; exact k1 0 (by decide) (by rw [u_ct7]; split <;> omega) (by rw [u_ct7]; split <;> omega)) (fun c0 c1 c2 c3 c4 c5 c6 c7 c8 c9 => by rw [al]; exact k1 0 (by decide) (by rw [u_ct7]; split <;> omega) (by rw [u_ct7]; split <;> omega)) (fun c0 c1 c2 c3 c4 c5 c6 c7 c8 c9 => k0 (by rw [u_ct7]; split <;> omega)) (fun c0 c1 c2 c3 c4 c5 c6 => k0 (by rw [u_ct7]; split <;> omega)) (fun c0 c1 c2 c3 c4 c5 => k0 (by rw [u_ct7]; split <;> omega)) (fun c0 c1 c2 => k0 (by rw [u_ct7]; split <;> omega)) (fun c0 => k0 (by rw [u_ct7]; split <;> omega))
theorem u_fA {i n a u ki : Nat} (hW : w_W (q_S0 L xs) S) (hT : u_KT ke dt) (hK : u_KM S ke dt su) (hi : i < 6) (hn : n < 100) (ha : a < n) (hu : u < 3) (hk8 : ki < 8) (hx : q_iv S 1104 (101 * i + n) = nI a) (hv : q_iv S 1106 (101 * i + n) = nI u) (h5 : q_iv S 1135 (101 * i + a) = 3) (h6 : q_iv S 1136 (101 * i + a) = nI ki) (k0 : u_ct dt ki u = 0 → Q (.returned (some (.int 0))) S) (k1 : ∀ k, k < 3 → ¬ u_ct dt ki u = 0 → dt k u = u_ct dt ki u → w_R d 203 165 [(0, .ref 1097), (2, .int (nI (101 * i + n))), (3, .int (nI (101 * i + a))), (4, .int (nI u)), (5, .int (nI (3 * k + u))), (6, .int (if u_as su ki u = true then 1 else 0))] [] S Q) : w_X d 203 [.ref 1097, .int (nI (101 * i)), .int (nI (101 * i + n))] S Q := by
  have hc : ki = 0 ∨ ki = 1 ∨ ki = 2 ∨ ki = 3 ∨ ki = 4 ∨ ki = 5 ∨ ki = 6 ∨ ki = 7 := by omega
  rcases hc with rfl | rfl | rfl | rfl | rfl | rfl | rfl | rfl
  · exact c203_0 hW hi hn ha hu hx hv h5 h6 (k0 rfl)
  · exact u_fA1 hW hT hK hi hn ha hu hx hv h5 h6 k0 k1
  · exact u_fA2 hW hT hK hi hn ha hu hx hv h5 h6 k0 k1
  · exact u_fA3 hW hT hK hi hn ha hu hx hv h5 h6 k0 k1
  · exact u_fA4 hW hT hK hi hn ha hu hx hv h5 h6 k0 k1
  · exact u_fA5 hW hT hK hi hn ha hu hx hv h5 h6 k0 k1
  · exact u_fA6 hW hT hK hi hn ha hu hx hv h5 h6 k0 k1
  · exact u_fA7 hW hT hK hi hn ha hu hx hv h5 h6 k0 k1
end VFD
