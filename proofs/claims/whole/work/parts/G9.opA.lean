/-! ONE CALL: text, the whole. -/
section JOB
variable {d L p : Nat} {xs : Nat → Int32} {S : q_S} {Q : Outcome → q_S → Prop}
theorem j_text (hW : w_W (q_S0 L xs) S) (hJ : u_J S) (hpL : p + 6 ≤ L) (hL : L ≤ 3072) (hk : j_K (d + 300) L p xs S Q) : w_R (d + 300 + 1) 205 116 [(0, .ref 999), (1, .ref 1000), (2, .ref 1097), (3, .ref 1139), (4, .int (nI p))] [] S Q := by
  obtain ⟨w, hw⟩ : ∃ w : Int64, w = ((((xs (p + 1)).toInt64) <<< ((32 : Int32).toInt64 &&& 63)) ||| (((xs (p + 2)).toInt64) &&& (lN 4294967295))) := ⟨_, rfl⟩
  refine l205_text_a hW hpL hL ?_
  rw [← hw]
  have bB : ∀ (k : Int32) (S2 : q_S), w_W (q_S0 L xs) S2 → w_X (d + 300) 144 [.ref 1097, .long w] S2 (w_k (d + 300 + 1) 205 168 [(0, .ref 999), (1, .ref 1000), (2, .ref 1097), (3, .ref 1139), (4, .int (nI p)), (5, .int k)] [] Q) → w_R (d + 300 + 1) 205 143 [(0, .ref 999), (1, .ref 1000), (2, .ref 1097), (3, .ref 1139), (4, .int (nI p))] [.int k] S2 Q := fun k S2 hW2 h => l205_text_b hW2 hpL hL (by rw [← hw]; exact h)

  obtain ⟨n0, hn0, hB0⟩ := j_and255 (w_lsr w (0 : Int32)).toInt32
  obtain ⟨n1, hn1, hB1⟩ := j_and255 (w_lsr w (8 : Int32)).toInt32
  obtain ⟨n2, hn2, hB2⟩ := j_and255 (w_lsr w (16 : Int32)).toInt32
  obtain ⟨n3, hn3, hB3⟩ := j_and255 (w_lsr w (24 : Int32)).toInt32
  obtain ⟨n4, hn4, hB4⟩ := j_and255 (w_lsr w (32 : Int32)).toInt32
  obtain ⟨n5, hn5, hB5⟩ := j_and255 (w_lsr w (40 : Int32)).toInt32
  obtain ⟨n6, hn6, hB6⟩ := j_and255 (w_lsr w (48 : Int32)).toInt32
  obtain ⟨n7, hn7, hB7⟩ := j_and255 (w_lsr w (56 : Int32)).toInt32
  obtain ⟨nb, hnb⟩ : ∃ nb : Nat → Nat, nb = fun i => if i = 0 then n0 else if i = 1 then n1 else if i = 2 then n2 else if i = 3 then n3 else if i = 4 then n4 else if i = 5 then n5 else if i = 6 then n6 else n7 := ⟨_, rfl⟩
  have hn : ∀ i, nb i < 256 := fun i => by
    rw [hnb]
    show (if i = 0 then n0 else if i = 1 then n1 else if i = 2 then n2 else if i = 3 then n3 else if i = 4 then n4 else if i = 5 then n5 else if i = 6 then n6 else n7) < 256
    repeat' split
    all_goals assumption
  have hn0 : (((w_lsr w (0 : Int32)).toInt32) &&& (255 : Int32)) = nI (nb 0) ∧ (((w_lsr w (8 : Int32)).toInt32) &&& (255 : Int32)) = nI (nb 1) ∧ (((w_lsr w (16 : Int32)).toInt32) &&& (255 : Int32)) = nI (nb 2) ∧ (((w_lsr w (24 : Int32)).toInt32) &&& (255 : Int32)) = nI (nb 3) ∧ (((w_lsr w (32 : Int32)).toInt32) &&& (255 : Int32)) = nI (nb 4) ∧ (((w_lsr w (40 : Int32)).toInt32) &&& (255 : Int32)) = nI (nb 5) ∧ (((w_lsr w (48 : Int32)).toInt32) &&& (255 : Int32)) = nI (nb 6) ∧ (((w_lsr w (56 : Int32)).toInt32) &&& (255 : Int32)) = nI (nb 7) := by
    rw [hnb]
    exact ⟨hB0, hB1, hB2, hB3, hB4, hB5, hB6, hB7⟩
  obtain ⟨z, hz⟩ : ∃ z : Nat → Nat, ∀ i, z i = if nb i = 0 then 0 else 1 := ⟨_, fun _ => rfl⟩
  have zl : ∀ i, z i ≤ 1 := fun i => by
    rw [hz i]
    split <;> omega
  have zl0 := zl 0
  have zl1 := zl 1
  have zl2 := zl 2
  have zl3 := zl 3
  have zl4 := zl 4
  have zl5 := zl 5
  have zl6 := zl 6
  have zl7 := zl 7
  have hJT := hJ.1
  obtain ⟨n, c, n100, n1', n2', nc⟩ := id hJT
  refine h18s hW (h19s hW (j_19c (d := d + 292) hW nb z hn0 hn hz (fun hbad => ?_) (fun hok => ?_)))
  · refine w_kc q_new_sh (by decide +kernel) (by have := hW.2.1; omega) (h18a hW.new (bB _ _ hW.new ?_))
    have C := l205_text_c1 (d := d + 300) (b := 0) (S := q_sI (q_sI (q_new S (10, 6) 6) 1097 0 (0 : Int32)) 1097 0 (1 : Int32)) ((hW.new.sI (by decide)).sI (by decide)) hpL hL rfl (hk _ ((hW.new.sI (by decide)).sI (by decide)) (j_same (((u_f_new hW).sI (X := j_X 0 0 2000 2000) (by decide)).sI (by decide)) (by rw [v_kI (by decide), v_kI (by decide), j_nw hW (by decide)]) (by rw [v_kI (by decide), v_kI (by decide), j_nw hW (by decide)]) (by rw [v_kI (by decide), v_kI (by decide), j_nw hW (by decide)]) hJ) (j_all (((u_f_new hW).sI (X := j_X 0 0 2000 2000) (by decide)).sI (by decide)) (by decide)))
    obtain ⟨i, hi, hni⟩ := hbad
    exact m144s hW.new (j_144c (d := d + 299) (hW.new.sI (by decide)) nb z hn0 hn hz (fun _ => C) (fun g => absurd (g i hi) hni))
  · refine h19e (d := d + 299) hW (l := n) (by omega) (by omega) (by omega) n1' (fun hs => ?_) (fun hs => ?_)
    · refine j_19d (d := d + 298) (S := S) (st := (n, c)) ⟨hW, u_f.refl, n1', fun j hj => (nc j hj).1, rfl, rfl, rfl⟩ nb z hn0 hn hz (by show n + z 7 + z 6 + z 5 + z 4 + z 3 + z 2 + z 1 + z 0 ≤ 100; omega) (fun S1 h1 => ?_)
      obtain ⟨hW1, f1, l1, c1, w1, r1, e1⟩ := h1
      refine h19x hW1 (h18r hW1 (bB _ _ (hW1.sJ (by decide)) ?_))
      have hW2 : w_W (q_S0 L xs) (q_sJ S1 1139 0 (q_iv S1 1000 1).toInt64) := hW1.sJ (by decide)
      have hW3 : w_W (q_S0 L xs) (q_sI (q_sJ S1 1139 0 (q_iv S1 1000 1).toInt64) 1097 0 (0 : Int32)) := hW2.sI (by decide)
      have f3 : u_f 0 (j_X 1000 1001 2000 2000) S (q_sI (q_sJ S1 1139 0 (q_iv S1 1000 1).toInt64) 1097 0 (0 : Int32)) := (f1.sJ (by decide)).sI (by decide)
      refine m144s hW2 (j_144c (d := d + 299) hW3 nb z hn0 hn hz (fun hbad => absurd (hok _ hbad.choose_spec.1) hbad.choose_spec.2) (fun _ => ?_))
      have n3' : q_iv (q_sI (q_sJ S1 1139 0 (q_iv S1 1000 1).toInt64) 1097 0 (0 : Int32)) 1097 3 = nI n := by
        rw [v_kI (by decide)]
        show q_iv S1 1097 3 = _
        rw [e1]
        exact n2'
      refine m144e (d := d + 299) hW3 (l := n) (by omega) (by omega) n3' (fun _ => ?_) (fun hs2 => absurd (by omega) hs2)
      refine j_144d (d := d + 299) (S := q_sI (q_sJ S1 1139 0 (q_iv S1 1000 1).toInt64) 1097 0 (0 : Int32)) (st := (n, c)) ⟨hW3, u_f.refl, n3', fun j hj => ?_, fun k _ => rfl, rfl⟩ nb z hn0 hn hz (by show n + z 7 + z 6 + z 5 + z 4 + z 3 + z 2 + z 1 + z 0 ≤ 100; omega) (fun S4 h4 => ?_)
      · rw [(j_keep f3 (a := 1098) (by decide) (by omega) (by omega)).1]
        exact (nc j hj).2.1
      obtain ⟨hW4, f4, l4, c4, e4, j4⟩ := h4
      have f34 : u_f 0 (j_X 1000 1001 1098 1098) S S4 := ((f3.mono (Y := j_X 1000 1001 1098 1098) (Nat.le_refl _) (fun a h => j_Xm (fun _ _ z => z) (fun a hu z => by have := j_no0 hu; omega) h)).trans (f4.mono (Y := j_X 1000 1001 1098 1098) (Nat.le_refl _) (fun a h => j_Xm (fun a hu z => by have := j_no0 hu; omega) (fun _ _ z => z) h))).mono (by decide) (fun _ h => h)
      have a0 : q_iv S4 1000 = q_iv S1 1000 := f4.iv (by decide) (by decide)
      have a1 : q_iv S4 1001 = q_iv S1 1001 := f4.iv (by decide) (by decide)
      have r0 : q_rv S4 1000 = q_rv S1 1000 := f4.rv (by decide) (by decide)
      have e5 : ∀ k, k ≠ 0 → k ≠ 3 → q_iv S4 1097 k = q_iv S 1097 k := fun k h0 h3 => by
        rw [e4 k h3, v_kI h0]
        show q_iv S1 1097 k = _
        rw [e1]
      have ok8 : ∀ j, j < (j_sp (j_sp (j_sp (j_sp (j_sp (j_sp (j_sp (j_sp (n, c) (nb 7)) (nb 6)) (nb 5)) (nb 4)) (nb 3)) (nb 2)) (nb 1)) (nb 0)).1 → 32 ≤ (j_sp (j_sp (j_sp (j_sp (j_sp (j_sp (j_sp (j_sp (n, c) (nb 7)) (nb 6)) (nb 5)) (nb 4)) (nb 3)) (nb 2)) (nb 1)) (nb 0)).2 j ∧ (j_sp (j_sp (j_sp (j_sp (j_sp (j_sp (j_sp (j_sp (n, c) (nb 7)) (nb 6)) (nb 5)) (nb 4)) (nb 3)) (nb 2)) (nb 1)) (nb 0)).2 j ≤ 126 := (j_sp_ok (hok 0 (by decide)) (j_sp_ok (hok 1 (by decide)) (j_sp_ok (hok 2 (by decide)) (j_sp_ok (hok 3 (by decide)) (j_sp_ok (hok 4 (by decide)) (j_sp_ok (hok 5 (by decide)) (j_sp_ok (hok 6 (by decide)) (j_sp_ok (hok 7 (by decide)) (fun j hj => (nc j hj).2.2)))))))))
      have q1 : (j_sp (n, c) (nb 7)).1 = n + z 7 := by
        rw [j_sp1 (hz 7)]
      have q2 : (j_sp (j_sp (n, c) (nb 7)) (nb 6)).1 = n + z 7 + z 6 := by
        rw [j_sp1 (hz 6), q1]
      have q3 : (j_sp (j_sp (j_sp (n, c) (nb 7)) (nb 6)) (nb 5)).1 = n + z 7 + z 6 + z 5 := by
        rw [j_sp1 (hz 5), q2]
      have q4 : (j_sp (j_sp (j_sp (j_sp (n, c) (nb 7)) (nb 6)) (nb 5)) (nb 4)).1 = n + z 7 + z 6 + z 5 + z 4 := by
        rw [j_sp1 (hz 4), q3]
      have q5 : (j_sp (j_sp (j_sp (j_sp (j_sp (n, c) (nb 7)) (nb 6)) (nb 5)) (nb 4)) (nb 3)).1 = n + z 7 + z 6 + z 5 + z 4 + z 3 := by
        rw [j_sp1 (hz 3), q4]
      have q6 : (j_sp (j_sp (j_sp (j_sp (j_sp (j_sp (n, c) (nb 7)) (nb 6)) (nb 5)) (nb 4)) (nb 3)) (nb 2)).1 = n + z 7 + z 6 + z 5 + z 4 + z 3 + z 2 := by
        rw [j_sp1 (hz 2), q5]
      have q7 : (j_sp (j_sp (j_sp (j_sp (j_sp (j_sp (j_sp (n, c) (nb 7)) (nb 6)) (nb 5)) (nb 4)) (nb 3)) (nb 2)) (nb 1)).1 = n + z 7 + z 6 + z 5 + z 4 + z 3 + z 2 + z 1 := by
        rw [j_sp1 (hz 1), q6]
      have q8 : (j_sp (j_sp (j_sp (j_sp (j_sp (j_sp (j_sp (j_sp (n, c) (nb 7)) (nb 6)) (nb 5)) (nb 4)) (nb 3)) (nb 2)) (nb 1)) (nb 0)).1 = n + z 7 + z 6 + z 5 + z 4 + z 3 + z 2 + z 1 + z 0 := by
        rw [j_sp1 (hz 0), q7]
      have hJ4 : u_J S4 := ⟨⟨(j_sp (j_sp (j_sp (j_sp (j_sp (j_sp (j_sp (j_sp (n, c) (nb 7)) (nb 6)) (nb 5)) (nb 4)) (nb 3)) (nb 2)) (nb 1)) (nb 0)).1, (j_sp (j_sp (j_sp (j_sp (j_sp (j_sp (j_sp (j_sp (n, c) (nb 7)) (nb 6)) (nb 5)) (nb 4)) (nb 3)) (nb 2)) (nb 1)) (nb 0)).2, by rw [q8]; omega, by rw [a0]; exact l1, l4, fun j hj => ⟨by rw [a1]; exact c1 j hj, c4 j hj, ok8 j hj⟩⟩, by rw [a0, w1, e5 1 (by decide) (by decide)]; exact hJ.2.1, j_E f34 (by decide) (by decide) (by omega) (by omega) hJ.2.2.1, j_D f34 (by decide) (by decide) (by omega) (by omega) hJ.2.2.2.1, j_V f34 (by decide) (by decide) (by omega) (by omega) (e5 31 (by decide) (by decide)) hJ.2.2.2.2.1, hJ.2.2.2.2.2.cg (j_keep f34 (by decide) (by omega) (by omega)).2 (by rw [r0, r1]) (fun a hp => by
          have hp' : (1004 ≤ a ∧ a ≤ 1014) ∨ (1031 ≤ a ∧ a ≤ 1096) := by
            unfold u_pcl at hp
            simp only [Bool.or_eq_true, Bool.and_eq_true, decide_eq_true_eq] at hp
            exact hp
          exact j_keep f34 (j_u_i (by omega)) (by omega) (by omega)) (fun a x y => (j_keep f34 (j_u_i (by omega)) (by omega) (by omega)).1)⟩
      have z0 : q_iv S4 1097 0 = 0 := (e4 0 (by decide)).trans v_hI
      refine m144x hW4 (l205_text_z hW4 hpL hL z0 (fun _ => hk S4 hW4 hJ4 (j_all f34 (by decide))) (fun y => absurd ((v_lg0 _ _).mpr ?_) y))
      rw [j4, l4]
      show (q_iv S1 1000 1).toInt64 = _
      rw [l1]
    · refine w_kc q_new_sh (by decide +kernel) (by have := hW.2.1; omega) (h18b hW.new (bB _ _ hW.new ?_))
      have C := l205_text_c2 (d := d + 300) (b := 0) (S := q_sI (q_sI (q_new S (11, 6) 6) 1097 0 (0 : Int32)) 1097 0 (2 : Int32)) ((hW.new.sI (by decide)).sI (by decide)) hpL hL rfl (hk _ ((hW.new.sI (by decide)).sI (by decide)) (j_same (((u_f_new hW).sI (X := j_X 0 0 2000 2000) (by decide)).sI (by decide)) (by rw [v_kI (by decide), v_kI (by decide), j_nw hW (by decide)]) (by rw [v_kI (by decide), v_kI (by decide), j_nw hW (by decide)]) (by rw [v_kI (by decide), v_kI (by decide), j_nw hW (by decide)]) hJ) (j_all (((u_f_new hW).sI (X := j_X 0 0 2000 2000) (by decide)).sI (by decide)) (by decide)))
      refine m144s hW.new (j_144c (d := d + 299) (hW.new.sI (by decide)) nb z hn0 hn hz (fun hbad => absurd (hok _ hbad.choose_spec.1) hbad.choose_spec.2) (fun _ => ?_))
      exact m144e (d := d + 299) (hW.new.sI (by decide)) (l := n) (by omega) (by omega) (by rw [v_kI (by decide), j_nw hW (by decide)]; exact n2') (fun hs2 => absurd (by omega) hs) (fun _ => C)
end JOB
