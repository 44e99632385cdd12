/-! ONE CALL: entity, parent, drop. -/
section JO2
variable {d L p : Nat} {xs : Nat → Int32} {S : q_S} {Q : Outcome → q_S → Prop}
theorem j_rI {a k b j : Nat} {x : Int32} : q_iv (q_sI S a k x) b j = if b = a ∧ j = k then x else q_iv S b j := rfl
theorem j_rJ {a k b j : Nat} {x : Int64} : q_iv (q_sJ S a k x) b j = q_iv S b j := rfl
theorem j_rR {a k b j : Nat} {x : Option Nat} : q_iv (q_sR S a k x) b j = q_iv S b j := rfl
def j_eS (S : q_S) (n k : Nat) (y : Int64) : q_S := (q_sJ (q_sI (q_sI (q_sI (q_sI (q_sI (q_sI (q_sI (q_sI S 1016 n (nI k)) 1017 n (0 : Int32)) 1018 (n * 3) (0 : Int32)) 1019 (n * 3) (0 : Int32)) 1018 (n * 3 + 1) (0 : Int32)) 1019 (n * 3 + 1) (0 : Int32)) 1018 (n * 3 + 2) (0 : Int32)) 1019 (n * 3 + 2) (0 : Int32)) 1139 0 y)
def j_eT (S : q_S) (n k : Nat) : q_S := (q_sI (q_sI (q_sI (q_sI (q_sI (q_sI (q_sI S 1097 0 (0 : Int32)) 1117 n (1 : Int32)) 1118 n (nI k)) 1119 n (0 : Int32)) 1120 (3 * n) (0 : Int32)) 1120 (3 * n + 1) (0 : Int32)) 1120 (3 * n + 2) (0 : Int32))
theorem j_e_W {n k : Nat} {y : Int64} (hW : w_W (q_S0 L xs) S) : w_W (q_S0 L xs) (j_eS S n k y) := (((((((((hW.sI (by decide)).sI (by decide)).sI (by decide)).sI (by decide)).sI (by decide)).sI (by decide)).sI (by decide)).sI (by decide)).sJ (by decide))
theorem j_eT_W {n k : Nat} (hW : w_W (q_S0 L xs) S) : w_W (q_S0 L xs) (j_eT S n k) := (((((((hW.sI (by decide)).sI (by decide)).sI (by decide)).sI (by decide)).sI (by decide)).sI (by decide)).sI (by decide))
theorem j_e_f {n k : Nat} {y : Int64} : u_f 0 (j_X 1016 1019 1117 1121) S (j_eT (j_eS S n k y) n k) := by
  have h : u_f 0 (j_X 1016 1019 1117 1121) S (j_eS S n k y) := (((((((((u_f.refl.sI (by decide)).sI (by decide)).sI (by decide)).sI (by decide)).sI (by decide)).sI (by decide)).sI (by decide)).sI (by decide)).sJ (by decide))
  exact (((((((h.sI (by decide)).sI (by decide)).sI (by decide)).sI (by decide)).sI (by decide)).sI (by decide)).sI (by decide))
theorem j_e_E {n k : Nat} {y : Int64} (hn : n < 16) (hk : k < 3) (hE : u_JE S) : u_JE (j_eT (j_eS S n k y) n k) := by
  have r16 : ∀ j, q_iv (j_eT (j_eS S n k y) n k) 1016 j = if j = n then nI k else q_iv S 1016 j := fun j => by simp [j_eT, j_eS, j_rI, j_rJ]
  have r17 : ∀ j, q_iv (j_eT (j_eS S n k y) n k) 1017 j = if j = n then 0 else q_iv S 1017 j := fun j => by simp [j_eT, j_eS, j_rI, j_rJ]
  have r117 : ∀ j, q_iv (j_eT (j_eS S n k y) n k) 1117 j = if j = n then 1 else q_iv S 1117 j := fun j => by simp [j_eT, j_eS, j_rI, j_rJ]
  have r118 : ∀ j, q_iv (j_eT (j_eS S n k y) n k) 1118 j = if j = n then nI k else q_iv S 1118 j := fun j => by simp [j_eT, j_eS, j_rI, j_rJ]
  have r119 : ∀ j, q_iv (j_eT (j_eS S n k y) n k) 1119 j = if j = n then 0 else q_iv S 1119 j := fun j => by simp [j_eT, j_eS, j_rI, j_rJ]
  have r18 : ∀ j, q_iv (j_eT (j_eS S n k y) n k) 1018 j = if j = n * 3 + 2 then 0 else if j = n * 3 + 1 then 0 else if j = n * 3 then 0 else q_iv S 1018 j := fun j => by simp [j_eT, j_eS, j_rI, j_rJ]
  have r19 : ∀ j, q_iv (j_eT (j_eS S n k y) n k) 1019 j = if j = n * 3 + 2 then 0 else if j = n * 3 + 1 then 0 else if j = n * 3 then 0 else q_iv S 1019 j := fun j => by simp [j_eT, j_eS, j_rI, j_rJ]
  have r120 : ∀ j, q_iv (j_eT (j_eS S n k y) n k) 1120 j = if j = 3 * n + 2 then 0 else if j = 3 * n + 1 then 0 else if j = 3 * n then 0 else q_iv S 1120 j := fun j => by simp [j_eT, j_eS, j_rI, j_rJ]
  have r121 : ∀ j, q_iv (j_eT (j_eS S n k y) n k) 1121 j = q_iv S 1121 j := fun j => by simp [j_eT, j_eS, j_rI, j_rJ]
  refine ⟨fun e he => ?_, fun e he => ?_, fun e a he ha => ?_⟩
  · rw [r16, r117, r118]
    by_cases h : e = n
    · rw [if_pos h, if_pos h, if_pos h]
      exact Or.inr ⟨k, hk, rfl, rfl, rfl⟩
    · rw [if_neg h, if_neg h, if_neg h]
      exact hE.1 e he
  · rw [r17, r119]
    by_cases h : e = n
    · rw [if_pos h, if_pos h]
      exact ⟨rfl, fun k _ => v_b_0 k⟩
    · rw [if_neg h, if_neg h]
      exact hE.2.1 e he
  · by_cases h : e = n
    · subst h
      have z1 : q_iv (j_eT (j_eS S e k y) e k) 1018 (e * 3 + a) = 0 := by
        rw [r18]
        split
        · rfl
        · split
          · rfl
          · split
            · rfl
            · omega
      have z2 : q_iv (j_eT (j_eS S e k y) e k) 1120 (3 * e + a) = 0 := by
        rw [r120]
        split
        · rfl
        · split
          · rfl
          · split
            · rfl
            · omega
      exact ⟨0, by decide, z1, fun _ => rfl, fun _ => z2, fun z => absurd rfl z, (fun z => by cases z), (fun z => by cases z)⟩
    · have q18 : q_iv (j_eT (j_eS S n k y) n k) 1018 (e * 3 + a) = q_iv S 1018 (e * 3 + a) := by rw [r18, if_neg (by omega), if_neg (by omega), if_neg (by omega)]
      have q19 : q_iv (j_eT (j_eS S n k y) n k) 1019 (e * 3 + a) = q_iv S 1019 (e * 3 + a) := by rw [r19, if_neg (by omega), if_neg (by omega), if_neg (by omega)]
      have q120 : q_iv (j_eT (j_eS S n k y) n k) 1120 (3 * e + a) = q_iv S 1120 (3 * e + a) := by rw [r120, if_neg (by omega), if_neg (by omega), if_neg (by omega)]
      have q117 : q_iv (j_eT (j_eS S n k y) n k) 1117 e = q_iv S 1117 e := by rw [r117, if_neg h]
      rw [q18, q19, q117, q120, r121]
      exact hE.2.2 e a he ha
theorem j_e_J {n k : Nat} {y : Int64} (hn : n < 16) (hk : k < 3) (hJ : u_J S) : u_J (j_eT (j_eS S n k y) n k) :=
  ⟨j_T j_e_f (by decide) (by decide) (by omega) (by omega) rfl hJ.1, j_W j_e_f (by decide) (by decide) (by omega) rfl hJ.2.1, j_e_E hn hk hJ.2.2.1, j_D j_e_f (by decide) (by decide) (by omega) (by omega) hJ.2.2.2.1, j_V j_e_f (by decide) (by decide) (by omega) (by omega) rfl hJ.2.2.2.2.1, j_P j_e_f (by decide) (by decide) (by omega) (by omega) (by omega) (by omega) (by omega) hJ.2.2.2.2.2⟩
theorem j_entity (hW : w_W (q_S0 L xs) S) (hJ : u_J S) (hpL : p + 6 ≤ L) (hL : L ≤ 3072) (hk : j_K (d + 300) L p xs S Q) : w_R (d + 300 + 1) 205 336 [(0, .ref 999), (1, .ref 1000), (2, .ref 1097), (3, .ref 1139), (4, .int (nI p))] [] S Q := by
  refine l205_entity_a hW hpL hL ?_
  rcases j_r16 (xs (p + 1)) with ⟨n, hn, hx⟩ | ⟨ho, hp⟩
  · rcases j_r3 (xs (p + 2)) with ⟨k, hk3, hy⟩ | ⟨ho, hp⟩
    · rw [hx, hy]
      have fin : ∀ y : Int64, w_R (d + 300 + 1) 205 23 [(0, .ref 999), (1, .ref 1000), (2, .ref 1097), (3, .ref 1139), (4, .int (nI (p + 6)))] [] (j_eT (j_eS S n k y) n k) Q := fun y => hk _ (j_eT_W (j_e_W hW)) (j_e_J hn hk3 hJ) (j_all j_e_f (by decide))
      rcases hJ.2.2.1.1 n hn with ⟨h1, h2⟩ | ⟨k0, hk0, h1, h2, _⟩
      · have fin' := fin (lN 1)
        refine h75g0 hW hn hk3 (by omega) (by omega) (by omega) (by omega) h1 (l205_entity_b (j_e_W hW) hpL hL ?_)
        rw [hx, hy]
        exact m176g0 (j_e_W hW) hn hk3 (by omega) (by omega) (by omega) (by omega) h2 (l205_entity_z1 (j_eT_W (j_e_W hW)) hpL hL rfl (fun _ => fin') (fun z => absurd ((v_lg0 _ _).mpr rfl) z))
      · have fin' := fin (lN 0)
        refine h75g1 hW hn hk3 (by omega) (by omega) (by omega) (by omega) hk0 h1 (l205_entity_b (j_e_W hW) hpL hL ?_)
        rw [hx, hy]
        exact m176g1 (j_e_W hW) hn hk3 (by omega) (by omega) (by omega) (by omega) h2 (l205_entity_z0 (j_eT_W (j_e_W hW)) hpL hL rfl (fun _ => fin') (fun z => absurd ((v_lg0 _ _).mpr rfl) z))
    · have C := l205_entity_c1 (d := d + 300) (b := 0) (S := q_sI (q_new S (10, 6) 6) 1097 0 (1 : Int32)) (hW.new.sI (by decide)) hpL hL rfl (j_thr hW hJ hk)
      have B : w_X (d + 300) 176 [.ref 1097, .int (xs (p + 1)), .int (xs (p + 2))] (q_new S (10, 6) 6) (w_k (d + 300 + 1) 205 368 [(0, .ref 999), (1, .ref 1000), (2, .ref 1097), (3, .ref 1139), (4, .int (nI p)), (5, .int 1)] [] Q) := by
        rw [hx]
        exact m176c hW.new ho hp hn (by omega) (by omega) (fun _ => C) (fun _ => C)
      rw [hx]
      exact h75c hW ho hp hn (by omega) (by omega) (by omega) (fun _ => l205_entity_b hW.new hpL hL B) (fun _ => l205_entity_b hW.new hpL hL B)
  · have C := l205_entity_c1 (d := d + 300) (b := 0) (S := q_sI (q_new S (10, 6) 6) 1097 0 (1 : Int32)) (hW.new.sI (by decide)) hpL hL rfl (j_thr hW hJ hk)
    have B : w_X (d + 300) 176 [.ref 1097, .int (xs (p + 1)), .int (xs (p + 2))] (q_new S (10, 6) 6) (w_k (d + 300 + 1) 205 368 [(0, .ref 999), (1, .ref 1000), (2, .ref 1097), (3, .ref 1139), (4, .int (nI p)), (5, .int 1)] [] Q) := by
      exact m176b hW.new ho hp (fun _ => C) (fun _ => C)
    exact h75b hW ho hp (by omega) (fun _ => l205_entity_b hW.new hpL hL B) (fun _ => l205_entity_b hW.new hpL hL B)
end JO2
