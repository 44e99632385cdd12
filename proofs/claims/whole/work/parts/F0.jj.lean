/-! WHAT HOLDS BETWEEN TWO CALLS: class and reference stand alike. -/
def u_f (n : Nat) (X : Nat → Bool) (S S' : q_S) : Prop := q_tp S' ≤ q_tp S + n ∧ q_sm S' ≤ q_sm S + 6 * n ∧ ∀ a, a < 1140 → X a = false → q_same S S' a
section UFR
variable {n m a k c : Nat} {X Y : Nat → Bool} {S S1 S2 S3 : q_S} {x : Int32} {v : Option Nat} {y : Int64}
theorem u_f.refl : u_f 0 X S S := ⟨Nat.le_refl _, Nat.le_refl _, fun _ _ _ => ⟨rfl, rfl, rfl, rfl⟩⟩
theorem u_f.trans (h : u_f n X S1 S2) (h' : u_f m X S2 S3) : u_f (n + m) X S1 S3 := ⟨by have := h.1; have := h'.1; omega, by have := h.2.1; have := h'.2.1; omega, fun a h1 h2 => by
  obtain ⟨a1, a2, a3, a4⟩ := h.2.2 a h1 h2
  obtain ⟨b1, b2, b3, b4⟩ := h'.2.2 a h1 h2
  exact ⟨b1.trans a1, b2.trans a2, b3.trans a3, b4.trans a4⟩⟩
theorem u_f.mono (h : u_f n X S1 S2) (hn : n ≤ m) (hY : ∀ a, Y a = false → X a = false) : u_f m Y S1 S2 := ⟨by have := h.1; omega, by have := h.2.1; omega, fun a h1 h2 => h.2.2 a h1 (hY a h2)⟩
theorem u_f.iv (h : u_f n X S1 S2) (h1 : a < 1140) (h2 : X a = false) : q_iv S2 a = q_iv S1 a := (h.2.2 a h1 h2).2.1
theorem u_f.rv (h : u_f n X S1 S2) (h1 : a < 1140) (h2 : X a = false) : q_rv S2 a = q_rv S1 a := (h.2.2 a h1 h2).2.2.1
theorem u_f.jv (h : u_f n X S1 S2) (h1 : a < 1140) (h2 : X a = false) : q_jv S2 a = q_jv S1 a := (h.2.2 a h1 h2).2.2.2
theorem v_fr.f (h : v_fr X S1 S2) : u_f 0 X S1 S2 := ⟨by rw [h.1]; omega, by rw [h.2.1]; omega, fun a _ h2 => h.2.2 a h2⟩
theorem u_f.sI (h : u_f n X S1 S2) (ha : X a = true) : u_f n X S1 (q_sI S2 a k x) := (h.trans (v_fr.refl.sI (X := X) (S1 := S2) ha).f).mono (Nat.le_refl _) (fun _ h => h)
theorem u_f.sR (h : u_f n X S1 S2) (ha : X a = true) : u_f n X S1 (q_sR S2 a k v) := (h.trans (v_fr.refl.sR (X := X) (S1 := S2) ha).f).mono (Nat.le_refl _) (fun _ h => h)
theorem u_f.sJ (h : u_f n X S1 S2) (ha : X a = true) : u_f n X S1 (q_sJ S2 a k y) := (h.trans (v_fr.refl.sJ (X := X) (S1 := S2) ha).f).mono (Nat.le_refl _) (fun _ h => h)
theorem u_f_new {L : Nat} {xs : Nat → Int32} (hW : w_W (q_S0 L xs) S) : u_f 1 X S (q_new S (c, 6) 6) := ⟨Nat.le_refl _, Nat.le_refl _, fun a h1 _ => q_new_same (by have := hW.2.1; omega)⟩
end UFR
/-- the text -/
def u_JT (S : q_S) : Prop := ∃ (n : Nat) (c : Nat → Nat), n ≤ 100 ∧ q_iv S 1000 1 = nI n ∧ q_iv S 1097 3 = nI n ∧ ∀ j, j < n → q_iv S 1001 j = nI (c j) ∧ q_iv S 1098 j = nI (c j) ∧ 32 ≤ c j ∧ c j ≤ 126
/-- the entities -/
def u_JE (S : q_S) : Prop := (∀ e, e < 16 → (q_iv S 1016 e = -2 ∧ q_iv S 1117 e = 0) ∨ ∃ k, k < 3 ∧ q_iv S 1016 e = nI k ∧ q_iv S 1117 e = 1 ∧ q_iv S 1118 e = nI k) ∧ (∀ e, e < 16 → q_iv S 1017 e = q_iv S 1119 e ∧ v_lo (q_iv S 1119 e)) ∧ ∀ e a, e < 16 → a < 3 → ∃ s, s < 4 ∧ q_iv S 1018 (e * 3 + a) = nI s ∧ (q_iv S 1117 e = 0 → s = 0) ∧ (¬ q_iv S 1117 e = 0 → q_iv S 1120 (3 * e + a) = nI s) ∧ (s ≠ 0 → q_iv S 1121 (3 * e + a) = q_iv S 1019 (e * 3 + a)) ∧ (s = 2 → q_iv S 1019 (e * 3 + a) = 0 ∨ q_iv S 1019 (e * 3 + a) = 1) ∧ (s = 3 → ∃ f, f < 16 ∧ q_iv S 1019 (e * 3 + a) = nI f)
/-- what is declared -/
def u_JD (S : q_S) : Prop := ∀ k a, k < 3 → a < 3 → (∃ t, u_dv t ∧ q_iv S 1021 (3 * k + a) = nI t ∧ q_iv S 1122 (3 * k + a) = nI (t % 4) ∧ (t % 4 = 3 → q_iv S 1123 (3 * k + a) = nI (u_of t))) ∧ ∃ b : Bool, q_iv S 1022 (3 * k + a) = (if b = true then 1 else 0) ∧ q_iv S 1124 (3 * k + a) = if b = true then 1 else 0
/-- what was told -/
def u_cnt (f : Nat → Nat) : Nat → Nat
  | 0 => 0
  | k + 1 => u_cnt f k + if 2 ≤ f k then 1 else 0
def u_JV (S : q_S) : Prop := ∃ f : Nat → Nat, (∀ i, i < 6 → f i < 7 ∧ q_iv S 1003 i = nI (f i) ∧ q_iv S 1125 i = nI (f i)) ∧ q_iv S 1097 31 = nI (u_cnt f 6)
/-- a policy, in both -/
def u_PR (S : q_S) (P i : Nat) (hd : v_Hd) (ns : List v_Nd) (cs : List v_Cd) (T : List v_Tk) : Prop := (v_CN S P (v_tp T) ns ∧ v_CC S P (v_tp T) cs ∧ v_CH S P hd ∧ q_iv S P 5 = nI (T.length - 1)) ∧ (v_MN S (101 * i) i ns ∧ v_MC S (20 * i) i cs ∧ v_MH S i hd ∧ v_MTk S (101 * i) i T) ∧ v_WF (T.length - 1) (v_tg T) hd ns cs ∧ ∀ j, j < T.length - 1 → v_tg T j < 34
def u_JP (S : q_S) : Prop := ∃ (π : Nat → Nat) (sp : Nat), (∀ i, i < 6 → q_rv S 1002 i = some (π i) ∧ w_P (π i) ∧ π i ≠ sp ∧ ∀ j, j < 6 → j ≠ i → π j ≠ π i) ∧ q_rv S 1000 5 = some sp ∧ w_P sp ∧ ∀ i, i < 6 → ∃ b : Bool, q_iv S (π i) 0 = (if b = true then 1 else 0) ∧ q_iv S 1109 i = (if b = true then 1 else 0) ∧ (b = true → ∃ hd ns cs T, u_PR S (π i) i hd ns cs T)
def u_J (S : q_S) : Prop := u_JT S ∧ q_iv S 1000 2 = q_iv S 1097 1 ∧ u_JE S ∧ u_JD S ∧ u_JV S ∧ u_JP S
section UJC
variable {S S' : q_S}
theorem u_JT.cg (h : u_JT S) (h1 : q_iv S' 1000 1 = q_iv S 1000 1) (h2 : q_iv S' 1097 3 = q_iv S 1097 3) (h3 : q_iv S' 1001 = q_iv S 1001) (h4 : q_iv S' 1098 = q_iv S 1098) : u_JT S' := by
  unfold u_JT
  rw [h1, h2, h3, h4]
  exact h
theorem u_JE.cg (h : u_JE S) (h1 : ∀ a, 1016 ≤ a → a ≤ 1019 → q_iv S' a = q_iv S a) (h2 : ∀ a, 1117 ≤ a → a ≤ 1121 → q_iv S' a = q_iv S a) : u_JE S' := by
  unfold u_JE
  rw [h1 1016 (by decide) (by decide), h1 1017 (by decide) (by decide), h1 1018 (by decide) (by decide), h1 1019 (by decide) (by decide), h2 1117 (by decide) (by decide), h2 1118 (by decide) (by decide), h2 1119 (by decide) (by decide), h2 1120 (by decide) (by decide), h2 1121 (by decide) (by decide)]
  exact h
theorem u_JD.cg (h : u_JD S) (h1 : ∀ a, 1021 ≤ a → a ≤ 1022 → q_iv S' a = q_iv S a) (h2 : ∀ a, 1122 ≤ a → a ≤ 1124 → q_iv S' a = q_iv S a) : u_JD S' := by
  unfold u_JD
  rw [h1 1021 (by decide) (by decide), h1 1022 (by decide) (by decide), h2 1122 (by decide) (by decide), h2 1123 (by decide) (by decide), h2 1124 (by decide) (by decide)]
  exact h
theorem u_JV.cg (h : u_JV S) (h1 : q_iv S' 1003 = q_iv S 1003) (h2 : q_iv S' 1125 = q_iv S 1125) (h3 : q_iv S' 1097 31 = q_iv S 1097 31) : u_JV S' := by
  unfold u_JV
  rw [h1, h2, h3]
  exact h
theorem u_PR.cg {P i : Nat} {hd : v_Hd} {ns : List v_Nd} {cs : List v_Cd} {T : List v_Tk} (h : u_PR S P i hd ns cs T) (h1 : ∀ k, 1 ≤ k → k ≤ 10 → q_iv S' (P + k) = q_iv S (P + k)) (h0 : ∀ k, k ≠ 0 → q_iv S' P k = q_iv S P k) (hr : q_rv S' (P + 6) = q_rv S (P + 6)) (h2 : ∀ a, 1099 ≤ a → a ≤ 1116 → a ≠ 1109 → q_iv S' a = q_iv S a) : u_PR S' P i hd ns cs T := by
  unfold u_PR v_CN v_CC v_CH v_MN v_MC v_MH v_MTk
  rw [h0 10 (by decide), h0 6 (by decide), h0 1 (by decide), h0 4 (by decide), h0 5 (by decide), hr, h1 1 (by decide) (by decide), h1 2 (by decide) (by decide), h1 3 (by decide) (by decide), h1 4 (by decide) (by decide), h1 5 (by decide) (by decide), h1 7 (by decide) (by decide), h1 8 (by decide) (by decide), h1 9 (by decide) (by decide), h1 10 (by decide) (by decide),
    h2 1099 (by decide) (by decide) (by decide), h2 1101 (by decide) (by decide) (by decide), h2 1102 (by decide) (by decide) (by decide), h2 1103 (by decide) (by decide) (by decide), h2 1104 (by decide) (by decide) (by decide), h2 1105 (by decide) (by decide) (by decide), h2 1106 (by decide) (by decide) (by decide), h2 1107 (by decide) (by decide) (by decide), h2 1108 (by decide) (by decide) (by decide), h2 1110 (by decide) (by decide) (by decide), h2 1111 (by decide) (by decide) (by decide), h2 1112 (by decide) (by decide) (by decide), h2 1113 (by decide) (by decide) (by decide), h2 1114 (by decide) (by decide) (by decide), h2 1115 (by decide) (by decide) (by decide), h2 1116 (by decide) (by decide) (by decide)]
  exact h
/-- where a policy's cells lie -/
def u_pcl (a : Nat) : Bool := (decide (1004 ≤ a) && decide (a ≤ 1014)) || (decide (1031 ≤ a) && decide (a ≤ 1096))
theorem u_pcl_P {P k : Nat} (hp : w_P P) (hk : k ≤ 10) : u_pcl (P + k) = true ∧ P + k < 1140 := by
  have := hp.rng
  unfold u_pcl
  simp only [Bool.or_eq_true, Bool.and_eq_true, decide_eq_true_eq]
  omega
theorem u_JP.cg (h : u_JP S) (h1 : q_rv S' 1002 = q_rv S 1002) (h5 : q_rv S' 1000 5 = q_rv S 1000 5) (hp : ∀ a, u_pcl a = true → q_iv S' a = q_iv S a ∧ q_rv S' a = q_rv S a) (h2 : ∀ a, 1099 ≤ a → a ≤ 1116 → q_iv S' a = q_iv S a) : u_JP S' := by
  obtain ⟨π, sp, a1, a2, a3, a4⟩ := h
  refine ⟨π, sp, by rw [h1]; exact a1, by rw [h5]; exact a2, a3, fun i hi => ?_⟩
  obtain ⟨b, b1, b2, b3⟩ := a4 i hi
  have hP := (a1 i hi).2.1
  refine ⟨b, by rw [(hp (π i) (u_pcl_P hP (Nat.zero_le _)).1).1]; exact b1, by rw [h2 1109 (by decide) (by decide)]; exact b2, fun hb => ?_⟩
  obtain ⟨hd, ns, cs, T, hr⟩ := b3 hb
  exact ⟨hd, ns, cs, T, hr.cg (fun k _ hk => (hp _ (u_pcl_P hP hk).1).1) (fun k _ => by rw [(hp (π i) (u_pcl_P hP (Nat.zero_le _)).1).1]) (hp _ (u_pcl_P hP (by decide)).1).2 (fun a x1 x2 _ => h2 a x1 x2)⟩
end UJC
