/-! ONE CALL: conforms. -/
section JO6
variable {d L p : Nat} {xs : Nat → Int32} {S : q_S} {Q : Outcome → q_S → Prop}
theorem j_conforms (hW : w_W (q_S0 L xs) S) (hJ : u_J S) (hpL : p + 6 ≤ L) (hL : L ≤ 3072) (hk : j_K (d + 300) L p xs S Q) : w_R (d + 300 + 1) 205 678 [(0, .ref 999), (1, .ref 1000), (2, .ref 1097), (3, .ref 1139), (4, .int (nI p))] [] S Q := by
  refine l205_conforms_a hW hpL hL ?_
  have fin : ∀ y : Int64, w_R (d + 300 + 1) 205 23 [(0, .ref 999), (1, .ref 1000), (2, .ref 1097), (3, .ref 1139), (4, .int (nI (p + 6)))] [] (q_sI (q_sJ S 1139 0 y) 1097 0 (0 : Int32)) Q := fun y => j_no ((hW.sJ (by decide)).sI (by decide)) ((u_f.refl.sJ (by decide)).sI (by decide)) (v_kI (by decide)) (v_kI (by decide)) (v_kI (by decide)) hJ hk
  rcases j_r16 (xs (p + 1)) with ⟨n, hn, hx⟩ | ⟨ho, hp⟩
  · rcases hJ.2.2.1.1 n hn with ⟨h1, h2⟩ | ⟨k, hk3, h1, h2, h3⟩
    · have B : w_X (d + 300) 181 [.ref 1097, .int (xs (p + 1))] (q_sJ S 1139 0 (lN 0)) (w_k (d + 300 + 1) 205 698 [(0, .ref 999), (1, .ref 1000), (2, .ref 1097), (3, .ref 1139), (4, .int (nI p)), (5, .int 0)] [] Q) := by
        rw [hx]
        exact m181n (hW.sJ (by decide)) hn (by omega) (by omega) h2 (l205_conforms_z0 ((hW.sJ (by decide)).sI (by decide)) hpL hL rfl (fun _ => fin _) (fun z => absurd ((v_lg0 _ _).mpr rfl) z))
      rw [hx]
      exact h93n hW hn (by omega) (by omega) h1 (l205_conforms_b (hW.sJ (by decide)) hpL hL B)
    · have H : ∀ a, ∃ z : Nat × Nat × Bool × Option Nat, a < 3 → j_at S n k a z.1 z.2.1 z.2.2.1 z.2.2.2 := fun a => by
        by_cases ha : a < 3
        · obtain ⟨z, hz⟩ := j_at_ex hJ.2.2.1 hJ.2.2.2.1 hn hk3 h1 h2 h3 ha
          exact ⟨z, fun _ => hz⟩
        · exact ⟨(0, 0, false, none), fun z => absurd z ha⟩
      have hc : ∀ a, a < 3 → j_at S n k a (Classical.choose (H a)).1 (Classical.choose (H a)).2.1 (Classical.choose (H a)).2.2.1 (Classical.choose (H a)).2.2.2 := fun a ha => Classical.choose_spec (H a) ha
      obtain ⟨cf, hcf⟩ : ∃ cf : Nat → Bool, ∀ a, cf a = j_cf (Classical.choose (H a)).1 (Classical.choose (H a)).2.1 (Classical.choose (H a)).2.2.1 (Classical.choose (H a)).2.2.2 := ⟨_, fun _ => rfl⟩
      have B0 : (cf 0 && (cf 1 && cf 2)) = false → w_X (d + 300) 181 [.ref 1097, .int (xs (p + 1))] (q_sJ S 1139 0 (lN 0)) (w_k (d + 300 + 1) 205 698 [(0, .ref 999), (1, .ref 1000), (2, .ref 1097), (3, .ref 1139), (4, .int (nI p)), (5, .int 0)] [] Q) := fun hz => by
        have hW1 : w_W (q_S0 L xs) (q_sI (q_sJ S 1139 0 (lN 0)) 1097 0 (0 : Int32)) := (hW.sJ (by decide)).sI (by decide)
        have hc' : ∀ a, a < 3 → j_at (q_sI (q_sJ S 1139 0 (lN 0)) 1097 0 (0 : Int32)) n k a (Classical.choose (H a)).1 (Classical.choose (H a)).2.1 (Classical.choose (H a)).2.2.1 (Classical.choose (H a)).2.2.2 := hc
        have Z := l205_conforms_z0 (d := d + 300) hW1 hpL hL rfl (fun _ => fin _) (fun z => absurd ((v_lg0 _ _).mpr rfl) z)
        rw [hx]
        refine m181g (hW.sJ (by decide)) hn (by omega) (by omega) h2 (j_181 hW1 (hc' 0 (by decide)) (hcf 0) (fun c0 => j_181 hW1 (hc' 1 (by decide)) (hcf 1) (fun c1 => j_181 hW1 (hc' 2 (by decide)) (hcf 2) (fun c2 => ?_) (fun _ => Z)) (fun _ => Z)) (fun _ => Z))
        rw [c0, c1, c2] at hz
        cases hz
      have B1 : cf 0 = true → cf 1 = true → cf 2 = true → w_X (d + 300) 181 [.ref 1097, .int (xs (p + 1))] (q_sJ S 1139 0 (lN 1)) (w_k (d + 300 + 1) 205 698 [(0, .ref 999), (1, .ref 1000), (2, .ref 1097), (3, .ref 1139), (4, .int (nI p)), (5, .int 0)] [] Q) := fun c0 c1 c2 => by
        have hW1 : w_W (q_S0 L xs) (q_sI (q_sJ S 1139 0 (lN 1)) 1097 0 (0 : Int32)) := (hW.sJ (by decide)).sI (by decide)
        have hc' : ∀ a, a < 3 → j_at (q_sI (q_sJ S 1139 0 (lN 1)) 1097 0 (0 : Int32)) n k a (Classical.choose (H a)).1 (Classical.choose (H a)).2.1 (Classical.choose (H a)).2.2.1 (Classical.choose (H a)).2.2.2 := hc
        have Z := l205_conforms_z1 (d := d + 300) hW1 hpL hL rfl (fun _ => fin _) (fun z => absurd ((v_lg0 _ _).mpr rfl) z)
        rw [hx]
        exact m181g (hW.sJ (by decide)) hn (by omega) (by omega) h2 (j_181 hW1 (hc' 0 (by decide)) (hcf 0) (fun _ => j_181 hW1 (hc' 1 (by decide)) (hcf 1) (fun _ => j_181 hW1 (hc' 2 (by decide)) (hcf 2) (fun _ => m181e (a := 3) hW1 hn (by decide) (by decide) Z) (fun z => absurd (c2.symm.trans z) (by decide))) (fun z => absurd (c1.symm.trans z) (by decide))) (fun z => absurd (c0.symm.trans z) (by decide)))
      have tr : ∀ {x : Bool}, ¬ ((if x = true then (1 : Int32) else 0) = 0) → x = true := fun {x} z => by
        cases x
        · exact absurd rfl z
        · rfl
      rw [hx]
      exact h93g hW hn hcf hc (by omega) (by omega) hk3 h1 (fun c0 c1 c2 => l205_conforms_b (hW.sJ (by decide)) hpL hL (B1 (tr c0) (tr c1) (tr c2))) (fun _ _ c => l205_conforms_b (hW.sJ (by decide)) hpL hL (B0 (by rw [j_b01.mp c, Bool.and_false, Bool.and_false]))) (fun _ c => l205_conforms_b (hW.sJ (by decide)) hpL hL (B0 (by rw [j_b01.mp c, Bool.false_and, Bool.and_false]))) (fun c => l205_conforms_b (hW.sJ (by decide)) hpL hL (B0 (by rw [j_b01.mp c, Bool.false_and])))
  · have C := l205_conforms_c1 (d := d + 300) (b := 0) (S := q_sI (q_new S (10, 6) 6) 1097 0 (1 : Int32)) (hW.new.sI (by decide)) hpL hL rfl (j_thr hW hJ hk)
    have B : w_X (d + 300) 181 [.ref 1097, .int (xs (p + 1))] (q_new S (10, 6) 6) (w_k (d + 300 + 1) 205 698 [(0, .ref 999), (1, .ref 1000), (2, .ref 1097), (3, .ref 1139), (4, .int (nI p)), (5, .int 1)] [] Q) := by
      exact m181b hW.new ho hp (fun _ => C) (fun _ => C)
    exact h93b hW ho hp (by omega) (fun _ => l205_conforms_b hW.new hpL hL B) (fun _ => l205_conforms_b hW.new hpL hL B)
end JO6
