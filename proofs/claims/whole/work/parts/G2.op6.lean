/-! ONE CALL: check, holds. -/
section JO7
variable {d L p : Nat} {xs : Nat → Int32} {S : q_S} {Q : Outcome → q_S → Prop}
theorem j_kd (hE : u_JE S) (hD : u_JD S) : ∃ (ke : Nat → Nat) (dt : Nat → Nat → Nat) (su : Nat → Nat → Bool), u_KT ke dt ∧ u_KC S ke dt su ∧ u_KM S ke dt su := by
  have H1 : ∀ e, ∃ v : Nat, e < 16 → (q_iv S 1016 e = -2 ∧ q_iv S 1117 e = 0 ∧ v = 0) ∨ ∃ k, k < 3 ∧ q_iv S 1016 e = nI k ∧ q_iv S 1117 e = 1 ∧ q_iv S 1118 e = nI k ∧ v = 2 ^ k := fun e => by
    by_cases he : e < 16
    · rcases hE.1 e he with ⟨h1, h2⟩ | ⟨k, hk, h1, h2, h3⟩
      · exact ⟨0, fun _ => Or.inl ⟨h1, h2, rfl⟩⟩
      · exact ⟨2 ^ k, fun _ => Or.inr ⟨k, hk, h1, h2, h3, rfl⟩⟩
    · exact ⟨0, fun z => absurd z he⟩
  have H2 : ∀ k a, ∃ z : Nat × Bool, k < 3 → a < 3 → u_dv z.1 ∧ (q_iv S 1021 (3 * k + a) = nI z.1 ∧ q_iv S 1122 (3 * k + a) = nI (z.1 % 4) ∧ (z.1 % 4 = 3 → q_iv S 1123 (3 * k + a) = nI (u_of z.1))) ∧ q_iv S 1022 (3 * k + a) = (if z.2 = true then 1 else 0) ∧ q_iv S 1124 (3 * k + a) = if z.2 = true then 1 else 0 := fun k a => by
    by_cases h : k < 3 ∧ a < 3
    · obtain ⟨⟨t, ht, t1, t2, t3⟩, b, b1, b2⟩ := hD k a h.1 h.2
      exact ⟨(t, b), fun _ _ => ⟨ht, ⟨t1, t2, t3⟩, b1, b2⟩⟩
    · exact ⟨(0, false), fun z1 z2 => absurd ⟨z1, z2⟩ h⟩
  refine ⟨fun e => Classical.choose (H1 e), fun k a => (Classical.choose (H2 k a)).1, fun k a => (Classical.choose (H2 k a)).2, ⟨fun e he => ?_, fun k a hk ha => ?_⟩, ⟨fun e he => ?_, fun k a hk ha => ?_⟩, ⟨fun e he => ?_, fun k a hk ha => ?_⟩⟩
  · rcases Classical.choose_spec (H1 e) he with ⟨_, _, h⟩ | ⟨k, hk, _, _, _, h⟩
    · exact Or.inl h
    · exact Or.inr ⟨k, hk, h⟩
  · have h := (Classical.choose_spec (H2 k a) hk ha).1
    rcases h with h | h | h | h | h | h
    · exact Or.inl h.1
    · exact Or.inr (Or.inl h.1)
    · exact Or.inr (Or.inr (Or.inl h.1))
    · exact Or.inr (Or.inr (Or.inr ⟨0, by decide, h.1⟩))
    · exact Or.inr (Or.inr (Or.inr ⟨1, by decide, h.1⟩))
    · exact Or.inr (Or.inr (Or.inr ⟨2, by decide, h.1⟩))
  · rcases Classical.choose_spec (H1 e) he with ⟨h1, _, h⟩ | ⟨k, hk, h1, _, _, h⟩
    · exact Or.inl ⟨h1, h⟩
    · exact Or.inr ⟨k, hk, h1, h⟩
  · have h := (Classical.choose_spec (H2 k a) hk ha).2
    exact ⟨h.1.1, h.2.1⟩
  · rcases Classical.choose_spec (H1 e) he with ⟨_, h1, h⟩ | ⟨k, hk, _, h1, h2, h⟩
    · exact Or.inl ⟨h1, h⟩
    · exact Or.inr ⟨k, hk, h1, h2, h⟩
  · have h := (Classical.choose_spec (H2 k a) hk ha).2
    exact ⟨h.1.2.1, h.1.2.2, h.2.2⟩
theorem j_ev (hE : u_JE S) : ∃ (so : Nat → Nat → Nat) (va : Nat → Nat → Int32), (∀ e a, e < 16 → a < 3 → so e a < 4 ∧ (so e a = 2 → va e a = 0 ∨ va e a = 1) ∧ (so e a = 3 → ∃ f, f < 16 ∧ va e a = nI f)) ∧ (∀ e a, e < 16 → a < 3 → q_iv S 1018 (e * 3 + a) = nI (so e a) ∧ q_iv S 1019 (e * 3 + a) = va e a) ∧ ∀ e a, e < 16 → a < 3 → (q_iv S 1117 e = 0 → so e a = 0) ∧ (¬ q_iv S 1117 e = 0 → q_iv S 1120 (3 * e + a) = nI (so e a)) ∧ (so e a ≠ 0 → q_iv S 1121 (3 * e + a) = va e a) := by
  have H : ∀ e a, ∃ s : Nat, e < 16 → a < 3 → s < 4 ∧ q_iv S 1018 (e * 3 + a) = nI s ∧ (q_iv S 1117 e = 0 → s = 0) ∧ (¬ q_iv S 1117 e = 0 → q_iv S 1120 (3 * e + a) = nI s) ∧ (s ≠ 0 → q_iv S 1121 (3 * e + a) = q_iv S 1019 (e * 3 + a)) ∧ (s = 2 → q_iv S 1019 (e * 3 + a) = 0 ∨ q_iv S 1019 (e * 3 + a) = 1) ∧ (s = 3 → ∃ f, f < 16 ∧ q_iv S 1019 (e * 3 + a) = nI f) := fun e a => by
    by_cases h : e < 16 ∧ a < 3
    · obtain ⟨s, hs⟩ := hE.2.2 e a h.1 h.2
      exact ⟨s, fun _ _ => hs⟩
    · exact ⟨0, fun z1 z2 => absurd ⟨z1, z2⟩ h⟩
  refine ⟨fun e a => Classical.choose (H e a), fun e a => q_iv S 1019 (e * 3 + a), fun e a he ha => ?_, fun e a he ha => ?_, fun e a he ha => ?_⟩
  · obtain ⟨h1, _, _, _, _, h6, h7⟩ := Classical.choose_spec (H e a) he ha
    exact ⟨h1, h6, h7⟩
  · exact ⟨(Classical.choose_spec (H e a) he ha).2.1, rfl⟩
  · obtain ⟨_, _, h3, h4, h5, _, _⟩ := Classical.choose_spec (H e a) he ha
    exact ⟨h3, h4, h5⟩
theorem j_Xu {a : Nat} (h : j_X 0 0 2000 2000 a = false) : j_u a = true := by
  unfold j_X at h
  cases hz : j_u a with
  | true => rfl
  | false =>
    rw [hz, Bool.not_false, Bool.or_true, Bool.or_true] at h
    cases h
theorem j_xw {a : Nat} (h : j_X 0 0 2000 2000 a = false) : v_xw a = false := by
  have := of_decide_eq_true (j_Xu h)
  unfold v_xw
  simp only [Bool.or_eq_false_iff, Bool.and_eq_false_iff, decide_eq_false_iff_not]
  omega
theorem j_xc {a : Nat} (h : j_X 0 0 2000 2000 a = false) : u_xc a = false := by
  have := of_decide_eq_true (j_Xu h)
  unfold u_xc
  simp only [Bool.and_eq_false_iff, decide_eq_false_iff_not]
  omega
theorem j_PR {S' : q_S} {n P i : Nat} {hd : v_Hd} {ns : List v_Nd} {cs : List v_Cd} {T : List v_Tk} (hf : u_f n (j_X 0 0 2000 2000) S S') (hw : w_P P) (h : u_PR S P i hd ns cs T) : u_PR S' P i hd ns cs T := by
  have hr := hw.rng
  exact h.cg (fun k x1 x2 => (j_keep hf (j_u_i (by omega)) (by omega) (by omega)).1) (fun k _ => by rw [(j_keep hf (a := P) (j_u_i (by omega)) (by omega) (by omega)).1]) (j_keep hf (j_u_i (by omega)) (by omega) (by omega)).2 (fun a x1 x2 x3 => (j_keep hf (j_u_i (by omega)) (by omega) (by omega)).1)
theorem j_check (hW : w_W (q_S0 L xs) S) (hJ : u_J S) (hpL : p + 6 ≤ L) (hL : L ≤ 3072) (hk : j_K (d + 300) L p xs S Q) : w_R (d + 300 + 1) 205 741 [(0, .ref 999), (1, .ref 1000), (2, .ref 1097), (3, .ref 1139), (4, .int (nI p))] [] S Q := by
  refine l205_check_a hW hpL hL ?_
  rcases j_r6 (xs (p + 1)) with ⟨n, hn, hx⟩ | ⟨ho, hp⟩
  · obtain ⟨π, sp, a1, a2, a3, a4⟩ := id hJ.2.2.2.2.2
    have hP := (a1 n hn).1
    have hw := (a1 n hn).2.1
    have hr := hw.rng
    obtain ⟨b, b1, b2, b3⟩ := a4 n hn
    cases b with
    | false =>
      have C := l205_check_c2 (d := d + 300) (b := 0) (S := q_sI (q_new S (12, 6) 6) 1097 0 (2 : Int32)) (hW.new.sI (by decide)) hpL hL rfl (j_thr hW hJ hk)
      have B : w_X (d + 300) 198 [.ref 1097, .int (xs (p + 1))] (q_new S (12, 6) 6) (w_k (d + 300 + 1) 205 761 [(0, .ref 999), (1, .ref 1000), (2, .ref 1097), (3, .ref 1139), (4, .int (nI p)), (5, .int 2)] [] Q) := by
        rw [hx]
        exact c198_0n hW.new hn (fun _ => by rw [j_nw hW (by decide)]; exact b2) (fun z => absurd z (by omega)) (fun _ => C)
      rw [hx]
      exact h101n hW hn (by omega) (by omega) (by omega) hw hP b1 (l205_check_b hW.new hpL hL B)
    | true =>
      obtain ⟨hd, ns, cs, T, hR⟩ := b3 rfl
      obtain ⟨ke, dt, su, kt, kc, km⟩ := j_kd hJ.2.2.1 hJ.2.2.2.1
      rw [hx]
      have f1 : u_f 0 (j_X 0 0 2000 2000) S (q_sR S 1030 2 (some (π n))) := u_f.refl.sR (by decide)
      have hW1 : w_W (q_S0 L xs) (q_sR S 1030 2 (some (π n))) := hW.sR (by decide) (w_nfK (by decide +kernel))
      have hR1 := j_PR f1 hw hR
      refine h101g hW hn (h102g (d := d + 297) hW hn (by omega) (by omega) hw hP b1 (k103_0 hW hw ?_))
      refine u_cfw hW1 (N := T.length - 1) (g := v_tg T) (pl := v_tp T) ⟨hw, v_hR, hR1.1.1, hR1.1.2.2.1, kc, kt, hR1.2.2.1⟩ hR1.1.2.1 (by omega) (fun r S' hr' hS' => ?_) cs 0 0 rfl rfl (Nat.zero_le _)
      have fS : u_f 0 (j_X 0 0 2000 2000) S S' ∧ w_W (q_S0 L xs) S' ∧ q_iv S' 1097 = q_iv S 1097 := by
        rcases hS' with rfl | ⟨x, rfl⟩
        · exact ⟨f1, hW1, rfl⟩
        · exact ⟨f1.sI (by decide), hW1.sI (by decide), rfl⟩
      obtain ⟨f2, hW2, e97⟩ := fS
      have f3 : u_f 0 (j_X 0 0 2000 2000) S (q_sJ S' 1139 0 r.toInt64) := f2.sJ (by decide)
      have hW3 : w_W (q_S0 L xs) (q_sJ S' 1139 0 r.toInt64) := hW2.sJ (by decide)
      refine h102r hW2 (h101r hW2 (l205_check_b hW3 hpL hL ?_))
      rw [hx]
      have f4 : u_f 0 (j_X 0 0 2000 2000) S (q_sI (q_sJ S' 1139 0 r.toInt64) 1097 0 (0 : Int32)) := f3.sI (by decide)
      have hW4 : w_W (q_S0 L xs) (q_sI (q_sJ S' 1139 0 r.toInt64) 1097 0 (0 : Int32)) := hW3.sI (by decide)
      have hR4 := j_PR f4 hw hR
      have km4 : u_KM (q_sI (q_sJ S' 1139 0 r.toInt64) 1097 0 (0 : Int32)) ke dt su := by
        have e : ∀ a, 1098 ≤ a → a ≤ 1125 → q_iv (q_sI (q_sJ S' 1139 0 r.toInt64) 1097 0 (0 : Int32)) a = q_iv S a := fun a x y => (j_keep f4 (j_u_i (by omega)) (by omega) (by omega)).1
        unfold u_KM
        rw [e 1117 (by decide) (by decide), e 1118 (by decide) (by decide), e 1122 (by decide) (by decide), e 1123 (by decide) (by decide), e 1124 (by decide) (by decide)]
        exact km
      have b2' : q_iv (q_sJ S' 1139 0 r.toInt64) 1109 n = 1 := by
        rw [(j_keep f3 (a := 1109) (by decide) (by omega) (by omega)).1]
        exact b2
      refine c198_0t (d := d + 299) hW3 hn (fun _ => b2') (fun z => absurd z (by omega)) (fun _ => ?_)
      refine u_mfw (d := d + 297) hn kt hR4.2.2.1 hR4.2.2.2 hR4.2.1.1 hR4.2.1.2.2.1 hR4.2.1.2.2.2 km4 hR4.2.1.2.1 (fun r' S5 hr5 hW5 hf5 => ?_) cs 0 0 0 _ rfl hR4.2.2.1.2.2.2.2.2.1 (by omega) hW4 v_fr.refl rfl (Nat.zero_le _)
      have f5 : u_f 0 (j_X 0 0 2000 2000) S S5 := (f4.trans (hf5.mono (fun a h => j_xc h)).f).mono (by decide) (fun _ h => h)
      have e5 : q_iv S5 1097 = q_iv (q_sI (q_sJ S' 1139 0 r.toInt64) 1097 0 (0 : Int32)) 1097 := hf5.iv (by decide)
      have k5 : ∀ k, k ≠ 0 → q_iv S5 1097 k = q_iv S 1097 k := fun k hk => by
        rw [e5, v_kI hk]
        show q_iv S' 1097 k = _
        rw [e97]
      refine l205_check_z hW5 hpL hL (by rw [e5]; exact v_hI) (fun _ => j_no hW5 f5 (k5 1 (by decide)) (k5 3 (by decide)) (k5 31 (by decide)) hJ hk) (fun z => absurd ((v_lg0 _ _).mpr ?_) z)
      have e9 : q_jv S5 1139 = q_jv (q_sJ S' 1139 0 r.toInt64) 1139 := hf5.jv (by decide)
      rw [e9, v_hJ, hr', hr5]
  · have C := l205_check_c1 (d := d + 300) (b := 0) (S := q_sI (q_new S (10, 6) 6) 1097 0 (1 : Int32)) (hW.new.sI (by decide)) hpL hL rfl (j_thr hW hJ hk)
    have B : w_X (d + 300) 198 [.ref 1097, .int (xs (p + 1))] (q_new S (10, 6) 6) (w_k (d + 300 + 1) 205 761 [(0, .ref 999), (1, .ref 1000), (2, .ref 1097), (3, .ref 1139), (4, .int (nI p)), (5, .int 1)] [] Q) := by
      exact m198b hW.new ho hp (fun _ => C) (fun _ => C)
    exact h101b hW ho hp (by omega) (fun _ => l205_check_b hW.new hpL hL B) (fun _ => l205_check_b hW.new hpL hL B)
theorem j_holds (hW : w_W (q_S0 L xs) S) (hJ : u_J S) (hpL : p + 6 ≤ L) (hL : L ≤ 3072) (hk : j_K (d + 300) L p xs S Q) : w_R (d + 300 + 1) 205 797 [(0, .ref 999), (1, .ref 1000), (2, .ref 1097), (3, .ref 1139), (4, .int (nI p))] [] S Q := by
  refine l205_holds_a hW hpL hL ?_
  rcases j_r6 (xs (p + 1)) with ⟨n, hn, hx⟩ | ⟨ho, hp⟩
  · rcases j_r16 (xs (p + 2)) with ⟨e, he, hy⟩ | ⟨ho, hp⟩
    · rcases j_r10 (xs (p + 3)) with ⟨a, ha, hz⟩ | ⟨ho, hp⟩
      · rcases j_r16 (xs (p + 4)) with ⟨f, hf, hv⟩ | ⟨ho, hp⟩
        · obtain ⟨π, sp, a1, a2, a3, a4⟩ := id hJ.2.2.2.2.2
          have hP := (a1 n hn).1
          have hw := (a1 n hn).2.1
          have hr := hw.rng
          obtain ⟨b, b1, b2, b3⟩ := a4 n hn
          cases b with
          | false =>
            have C := l205_holds_c2 (d := d + 300) (b := 0) (S := q_sI (q_new S (11, 6) 6) 1097 0 (2 : Int32)) (hW.new.sI (by decide)) hpL hL rfl (j_thr hW hJ hk)
            have B : w_X (d + 300) 183 [.ref 1097, .int (xs (p + 1)), .int (xs (p + 2)), .int (xs (p + 3)), .int (xs (p + 4))] (q_new S (11, 6) 6) (w_k (d + 300 + 1) 205 853 [(0, .ref 999), (1, .ref 1000), (2, .ref 1097), (3, .ref 1139), (4, .int (nI p)), (5, .int 2)] [] Q) := by
              rw [hx, hy, hz, hv]
              exact m183n hW.new hn he ha hf (by omega) (by omega) (by omega) (by omega) (by omega) (by omega) (by omega) (by omega) (by rw [j_nw hW (by decide)]; exact b2) C
            rw [hx, hy, hz, hv]
            exact h117n hW hn he ha hf (by omega) (by omega) (by omega) (by omega) (by omega) (by omega) (by omega) (by omega) (by omega) hw hP b1 (l205_holds_b hW.new hpL hL B)
          | true =>
            obtain ⟨hd, ns, cs, T, hR⟩ := b3 rfl
            obtain ⟨so, va, g1, g2, g3⟩ := j_ev hJ.2.2.1
            have hG : v_ge e f so va := ⟨he, hf, g1⟩
            have hlt := v_vd_lt (up := fun e f => v_b (v_up (q_iv S 1017) e) f) (hd := hd) (a := a) hG hR.2.2.1.2.2.2.2.2.1
            obtain ⟨v, hvd⟩ : ∃ v, v = v_vd so va (fun e f => v_b (v_up (q_iv S 1017) e) f) hd ns cs e a f := ⟨_, rfl⟩
            rw [← hvd] at hlt
            have hcl : ∀ {Q1 : Outcome → q_S → Prop}, Q1 (.returned (some (.int (nI v)))) (v_s120 S (π n) e f) → w_X (d + 168 + 130) 120 [.ref 1029, .ref (π n), .int (nI e), .int (nI a), .int (nI f)] S Q1 := fun {Q1} k => v_cvd hW hw he ha hf hR.1.1 hR.1.2.1 hR.1.2.2.1 hR.2.2.1 hG g2 (by omega) (by rw [← hvd]; exact k)
            have hWs : w_W (q_S0 L xs) (v_s120 S (π n) e f) := ((hW.sR (by decide) (w_nfK (by decide +kernel))).sI (by decide)).sI (by decide)
            have fs : u_f 0 (j_X 0 0 2000 2000) S (v_s120 S (π n) e f) := ((u_f.refl.sR (by decide)).sI (by decide)).sI (by decide)
            have rf : ∀ (m : Nat) (S2 : q_S) (Q2 : Outcome → q_S → Prop), u_f m (j_X 0 0 2000 2000) S S2 → w_W (q_S0 L xs) S2 → (∀ S5, w_W (q_S0 L xs) S5 → u_f m (j_X 0 0 2000 2000) S S5 → q_iv S5 1097 0 = 0 → (∀ j, j ≠ 0 → j < 45 → q_iv S5 1097 j = q_iv S2 1097 j) → q_jv S5 1139 = q_jv S2 1139 → w_R (d + 300) 183 59 [(0, .ref 1097)] [.int (nI v)] S5 Q2) → w_X (d + 300) 183 [.ref 1097, .int (xs (p + 1)), .int (xs (p + 2)), .int (xs (p + 3)), .int (xs (p + 4))] S2 Q2 := fun m S2 Q2 f2 hW2 kk => by
              rw [hx, hy, hz, hv]
              have f3 : u_f m (j_X 0 0 2000 2000) S (q_sI S2 1097 0 (0 : Int32)) := f2.sI (by decide)
              have hW3 : w_W (q_S0 L xs) (q_sI S2 1097 0 (0 : Int32)) := hW2.sI (by decide)
              have hR3 := j_PR f3 hw hR
              have e3 : ∀ a, 1098 ≤ a → a ≤ 1125 → q_iv (q_sI S2 1097 0 (0 : Int32)) a = q_iv S a := fun a x y => (j_keep f3 (j_u_i (by omega)) (by omega) (by omega)).1
              have hup : (fun e f => v_b (v_up (q_iv (q_sI S2 1097 0 (0 : Int32)) 1119) e) f) = fun e f => v_b (v_up (q_iv S 1017) e) f := by
                funext e f
                rw [e3 1119 (by decide) (by decide), v_up_congr (fun j hj => ((hJ.2.2.1.2.1 j hj).1).symm) e]
              refine m183g (d := d + 298) hW2 hn he ha hf (by omega) (by omega) (by omega) (by omega) (by omega) (by omega) (by omega) (by omega) (by rw [(j_keep f2 (a := 1109) (by decide) (by omega) (by omega)).1]; exact b2) (v_mvd (d := d + 293) hW3 hn he ha hf hR3.2.1.1 hR3.2.1.2.1 hR3.2.1.2.2.1 hR3.2.1.2.2.2 hR3.2.2.1 hR3.2.2.2 hG (fun e a he ha => by
                rw [e3 1117 (by decide) (by decide), e3 1120 (by decide) (by decide), e3 1121 (by decide) (by decide)]
                exact g3 e a he ha) (fun j hj => by
                rw [e3 1119 (by decide) (by decide)]
                exact (hJ.2.2.1.2.1 j hj).2) (fun S5 hW5 hm => ?_))
              rw [hup, ← hvd]
              exact kk S5 hW5 ((f3.trans (hm.1.mono (fun a h => j_xw h)).f).mono (by omega) (fun _ h => h)) ((hm.2 0 (by decide) (by decide) (by decide) (by decide)).trans v_hI) (fun j h0 h45 => (hm.2 j (by omega) (by omega) (by omega) (by omega)).trans (v_kI h0)) (hm.1.jv (by decide))
            rw [hx, hy, hz, hv]
            obtain rfl | rfl | rfl | rfl | rfl | rfl : v = 1 ∨ v = 2 ∨ v = 3 ∨ v = 4 ∨ v = 5 ∨ v = 6 := by omega
            · refine h117g1 (d := d + 168) hW hn he ha hf hw hcl (by omega) (by omega) (by omega) (by omega) (by omega) (by omega) (by omega) (by omega) hP b1 (l205_holds_b (hWs.sJ (by decide)) hpL hL (rf 0 _ _ (fs.sJ (by decide)) (hWs.sJ (by decide)) (fun S5 hW5 f5 z0 zk zj => m183r1 hW5 ?_)))
              exact l205_holds_z0 hW5 hpL hL z0 (fun _ => j_no hW5 f5 (zk 1 (by decide) (by decide)) (zk 3 (by decide) (by decide)) (zk 31 (by decide) (by decide)) hJ hk) (fun z => absurd ((v_lg0 _ _).mpr (by rw [zj]; rfl)) z)
            · refine h117g2 (d := d + 168) hW hn he ha hf hw hcl (by omega) (by omega) (by omega) (by omega) (by omega) (by omega) (by omega) (by omega) hP b1 (l205_holds_b (hWs.sJ (by decide)) hpL hL (rf 0 _ _ (fs.sJ (by decide)) (hWs.sJ (by decide)) (fun S5 hW5 f5 z0 zk zj => m183r2 hW5 ?_)))
              exact l205_holds_z0 hW5 hpL hL z0 (fun _ => j_no hW5 f5 (zk 1 (by decide) (by decide)) (zk 3 (by decide) (by decide)) (zk 31 (by decide) (by decide)) hJ hk) (fun z => absurd ((v_lg0 _ _).mpr (by rw [zj]; rfl)) z)
            · refine h117g3 (d := d + 168) hW hn he ha hf hw hcl (by omega) (by omega) (by omega) (by omega) (by omega) (by omega) (by omega) (by omega) hP b1 (l205_holds_b (hWs.sJ (by decide)) hpL hL (rf 0 _ _ (fs.sJ (by decide)) (hWs.sJ (by decide)) (fun S5 hW5 f5 z0 zk zj => m183r3 hW5 ?_)))
              exact l205_holds_z1 hW5 hpL hL z0 (fun _ => j_no hW5 f5 (zk 1 (by decide) (by decide)) (zk 3 (by decide) (by decide)) (zk 31 (by decide) (by decide)) hJ hk) (fun z => absurd ((v_lg0 _ _).mpr (by rw [zj]; rfl)) z)
            · have fn : u_f 1 (j_X 0 0 2000 2000) S (q_new (v_s120 S (π n) e f) (13, 6) 6) := (fs.trans (u_f_new hWs)).mono (by decide) (fun _ h => h)
              refine h117g4 (d := d + 168) hW hn he ha hf hw hcl (by omega) (by omega) (by omega) (by omega) (by omega) (by omega) (by omega) (by omega) (by omega) hP b1 (l205_holds_b hWs.new hpL hL (rf 1 _ _ fn hWs.new (fun S5 hW5 f5 z0 zk zj => m183r4 hW5 ?_)))
              have zz : ∀ j, j ≠ 0 → j < 45 → q_iv (q_sI S5 1097 0 (3 : Int32)) 1097 j = q_iv S 1097 j := fun j h0 h45 => by
                rw [v_kI h0, zk j h0 h45, j_nw hWs (by decide)]
                rfl
              exact l205_holds_c3 (hW5.sI (by decide)) hpL hL v_hI (hk _ (hW5.sI (by decide)) (j_same (f5.sI (by decide)) (zz 1 (by decide) (by decide)) (zz 3 (by decide) (by decide)) (zz 31 (by decide) (by decide)) hJ) (j_all (f5.sI (X := j_X 0 0 2000 2000) (by decide)) (by decide)))
            · have fn : u_f 1 (j_X 0 0 2000 2000) S (q_new (v_s120 S (π n) e f) (12, 6) 6) := (fs.trans (u_f_new hWs)).mono (by decide) (fun _ h => h)
              refine h117g5 (d := d + 168) hW hn he ha hf hw hcl (by omega) (by omega) (by omega) (by omega) (by omega) (by omega) (by omega) (by omega) (by omega) hP b1 (l205_holds_b hWs.new hpL hL (rf 1 _ _ fn hWs.new (fun S5 hW5 f5 z0 zk zj => m183r5 hW5 ?_)))
              have zz : ∀ j, j ≠ 0 → j < 45 → q_iv (q_sI S5 1097 0 (4 : Int32)) 1097 j = q_iv S 1097 j := fun j h0 h45 => by
                rw [v_kI h0, zk j h0 h45, j_nw hWs (by decide)]
                rfl
              exact l205_holds_c4 (hW5.sI (by decide)) hpL hL v_hI (hk _ (hW5.sI (by decide)) (j_same (f5.sI (by decide)) (zz 1 (by decide) (by decide)) (zz 3 (by decide) (by decide)) (zz 31 (by decide) (by decide)) hJ) (j_all (f5.sI (X := j_X 0 0 2000 2000) (by decide)) (by decide)))
            · have fn : u_f 1 (j_X 0 0 2000 2000) S (q_new (v_s120 S (π n) e f) (14, 6) 6) := (fs.trans (u_f_new hWs)).mono (by decide) (fun _ h => h)
              refine h117g6 (d := d + 168) hW hn he ha hf hw hcl (by omega) (by omega) (by omega) (by omega) (by omega) (by omega) (by omega) (by omega) (by omega) hP b1 (l205_holds_b hWs.new hpL hL (rf 1 _ _ fn hWs.new (fun S5 hW5 f5 z0 zk zj => m183r6 hW5 ?_)))
              have zz : ∀ j, j ≠ 0 → j < 45 → q_iv (q_sI S5 1097 0 (5 : Int32)) 1097 j = q_iv S 1097 j := fun j h0 h45 => by
                rw [v_kI h0, zk j h0 h45, j_nw hWs (by decide)]
                rfl
              exact l205_holds_c5 (hW5.sI (by decide)) hpL hL v_hI (hk _ (hW5.sI (by decide)) (j_same (f5.sI (by decide)) (zz 1 (by decide) (by decide)) (zz 3 (by decide) (by decide)) (zz 31 (by decide) (by decide)) hJ) (j_all (f5.sI (X := j_X 0 0 2000 2000) (by decide)) (by decide)))
        · have C := l205_holds_c1 (d := d + 300) (b := 0) (S := q_sI (q_new S (10, 6) 6) 1097 0 (1 : Int32)) (hW.new.sI (by decide)) hpL hL rfl (j_thr hW hJ hk)
          have B : w_X (d + 300) 183 [.ref 1097, .int (xs (p + 1)), .int (xs (p + 2)), .int (xs (p + 3)), .int (xs (p + 4))] (q_new S (10, 6) 6) (w_k (d + 300 + 1) 205 853 [(0, .ref 999), (1, .ref 1000), (2, .ref 1097), (3, .ref 1139), (4, .int (nI p)), (5, .int 1)] [] Q) := by
            rw [hx, hy, hz]
            exact m183e hW.new ho hp hn he ha (by omega) (by omega) (by omega) (by omega) (by omega) (by omega) (fun _ => C) (fun _ => C)
          rw [hx, hy, hz]
          exact h117e hW ho hp hn he ha (by omega) (by omega) (by omega) (by omega) (by omega) (by omega) (by omega) (fun _ => l205_holds_b hW.new hpL hL B) (fun _ => l205_holds_b hW.new hpL hL B)
      · have C := l205_holds_c1 (d := d + 300) (b := 0) (S := q_sI (q_new S (10, 6) 6) 1097 0 (1 : Int32)) (hW.new.sI (by decide)) hpL hL rfl (j_thr hW hJ hk)
        have B : w_X (d + 300) 183 [.ref 1097, .int (xs (p + 1)), .int (xs (p + 2)), .int (xs (p + 3)), .int (xs (p + 4))] (q_new S (10, 6) 6) (w_k (d + 300 + 1) 205 853 [(0, .ref 999), (1, .ref 1000), (2, .ref 1097), (3, .ref 1139), (4, .int (nI p)), (5, .int 1)] [] Q) := by
          rw [hx, hy]
          exact m183d hW.new ho hp hn he (by omega) (by omega) (by omega) (by omega) (fun _ => C) (fun _ => C)
        rw [hx, hy]
        exact h117d hW ho hp hn he (by omega) (by omega) (by omega) (by omega) (by omega) (fun _ => l205_holds_b hW.new hpL hL B) (fun _ => l205_holds_b hW.new hpL hL B)
    · have C := l205_holds_c1 (d := d + 300) (b := 0) (S := q_sI (q_new S (10, 6) 6) 1097 0 (1 : Int32)) (hW.new.sI (by decide)) hpL hL rfl (j_thr hW hJ hk)
      have B : w_X (d + 300) 183 [.ref 1097, .int (xs (p + 1)), .int (xs (p + 2)), .int (xs (p + 3)), .int (xs (p + 4))] (q_new S (10, 6) 6) (w_k (d + 300 + 1) 205 853 [(0, .ref 999), (1, .ref 1000), (2, .ref 1097), (3, .ref 1139), (4, .int (nI p)), (5, .int 1)] [] Q) := by
        rw [hx]
        exact m183c hW.new ho hp hn (by omega) (by omega) (fun _ => C) (fun _ => C)
      rw [hx]
      exact h117c hW ho hp hn (by omega) (by omega) (by omega) (fun _ => l205_holds_b hW.new hpL hL B) (fun _ => l205_holds_b hW.new hpL hL B)
  · have C := l205_holds_c1 (d := d + 300) (b := 0) (S := q_sI (q_new S (10, 6) 6) 1097 0 (1 : Int32)) (hW.new.sI (by decide)) hpL hL rfl (j_thr hW hJ hk)
    have B : w_X (d + 300) 183 [.ref 1097, .int (xs (p + 1)), .int (xs (p + 2)), .int (xs (p + 3)), .int (xs (p + 4))] (q_new S (10, 6) 6) (w_k (d + 300 + 1) 205 853 [(0, .ref 999), (1, .ref 1000), (2, .ref 1097), (3, .ref 1139), (4, .int (nI p)), (5, .int 1)] [] Q) := by
      exact m183b hW.new ho hp (fun _ => C) (fun _ => C)
    exact h117b hW ho hp (by omega) (fun _ => l205_holds_b hW.new hpL hL B) (fun _ => l205_holds_b hW.new hpL hL B)
end JO7
