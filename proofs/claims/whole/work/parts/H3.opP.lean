/-! ONE CALL: policy, the whole. -/
section JOE
variable {d L p : Nat} {xs : Nat → Int32} {S : q_S} {Q : Outcome → q_S → Prop}
theorem j_policy (hW : w_W (q_S0 L xs) S) (hJ : u_J S) (hpL : p + 6 ≤ L) (hL : L ≤ 3072) (hk : j_K (d + 700) L p xs S Q) : w_R (d + 700 + 1) 205 204 [(0, .ref 999), (1, .ref 1000), (2, .ref 1097), (3, .ref 1139), (4, .int (nI p))] [] S Q := by
  refine l205_policy_a hW hpL hL ?_
  have hWA1 : w_W (q_S0 L xs) (q_sI S 1000 2 (-2 : Int32)) := hW.sI (by decide)
  rcases j_r6 (xs (p + 1)) with ⟨n, hn, hx⟩ | ⟨ho, hp⟩
  · obtain ⟨π, sp, p1, p2, p3, p4⟩ := id hJ.2.2.2.2.2
    obtain ⟨m, c, hm, m1, m2, mc⟩ := id hJ.1
    obtain ⟨T, hT, hT0, hTK, hTG⟩ := j_tok (c := c) (n := m) hm
    have hrZ := p3.rng
    have hP := (p1 n hn).1
    have hwP := (p1 n hn).2.1
    have hneP := (p1 n hn).2.2.1
    rw [hx]
    refine h22s hW hn (h23g (d := d + 697) hW hn (by omega) (by omega) p3 p2 ?_)
    rw [m1]
    refine v_cread (d := d + 697) hWA1 p3 ⟨hm, fun j hj => ⟨(mc j hj).1, (mc j hj).2.2⟩⟩ hT (by omega) (fun hd ns cs q A2 hrd hW2 f2 z2 cN cC cH c5 => ?_) (fun q A2 hrd hW2 f2 z2 => ?_)
    · have r1002 : q_rv A2 1002 = q_rv S 1002 := f2.rv (by unfold v_xr; simp only [Bool.or_eq_false_iff, Bool.and_eq_false_iff, decide_eq_false_iff_not]; omega)
      have r1000 : q_rv A2 1000 = q_rv S 1000 := f2.rv (by unfold v_xr; simp only [Bool.or_eq_false_iff, Bool.and_eq_false_iff, decide_eq_false_iff_not]; omega)
      refine h23r1 (Z := sp) (P := π n) hW2 hn p3 hwP (by rw [r1002]; exact hP) (by rw [r1000]; exact p2) ?_
      obtain ⟨A3, hA3⟩ : ∃ A3, A3 = q_sR (q_sI (q_sR (q_sI (q_sI A2 1000 2 (-2 : Int32)) 1000 1 (0 : Int32)) 1002 n (some sp)) sp 0 (1 : Int32)) 1000 5 (some (π n)) := ⟨_, rfl⟩
      have hW3 : w_W (q_S0 L xs) A3 := by
        rw [hA3]
        exact (((((hW2.sI (by decide)).sI (by decide)).sR (by decide) (w_nfA (by decide +kernel))).sI (by omega)).sR (by decide) (w_nfK (by decide +kernel)))
      rw [← hA3]
      refine h22r hW3 (l205_policy_b (hW3.sJ (by decide)) hpL hL ?_)
      obtain ⟨A, hA⟩ : ∃ A, A = q_sJ A3 1139 0 (q_iv A2 sp 5).toInt64 := ⟨_, rfl⟩
      have hWA : w_W (q_S0 L xs) A := by
        rw [hA]
        exact hW3.sJ (by decide)
      rw [← hA, hx]
      have yy : ∀ a, v_xr sp a = true → j_Y sp a = true := fun a h => by
        unfold j_Y
        rw [h]
        rfl
      have ysp : j_Y sp sp = true := yy sp (by unfold v_xr; simp)
      have fA : u_f 0 (j_Y sp) S A := by
        rw [hA, hA3]
        exact (((((((((u_f.refl.sI (X := j_Y sp) (a := 1000) (by simp [j_Y])).trans (f2.mono (j_Yx)).f).mono (Nat.le_refl 0) (fun _ h => h)).sI (by simp [j_Y])).sI (by simp [j_Y])).sR (by simp [j_Y])).sI ysp).sR (by simp [j_Y])).sJ (by simp [j_Y]))
      have iA : ∀ a, a ≠ 1000 → a ≠ sp → q_iv A a = q_iv A2 a := fun a h1 h2 => by
        rw [hA, hA3]
        funext x
        exact (v_aI h2).trans ((v_aI h1).trans (v_aI h1))
      have rA : ∀ a, a ≠ 1000 → a ≠ 1002 → q_rv A a = q_rv A2 a := fun a h1 h2 => by
        rw [hA, hA3]
        funext x
        exact (v_aR h1).trans (v_aR h2)
      have iZ : ∀ k, k ≠ 0 → q_iv A sp k = q_iv A2 sp k := fun k h => by
        rw [hA, hA3]
        exact (v_kI h).trans ((v_aI (by omega)).trans (v_aI (by omega)))
      have a97 : q_iv A 1097 = q_iv S 1097 := fA.iv (by decide) (j_Yf (by omega) (by omega) (by omega) (by omega) (by omega))
      have a98 : q_iv A 1098 = q_iv S 1098 := fA.iv (by decide) (j_Yf (by omega) (by omega) (by omega) (by omega) (by omega))
      have rA2 : ∀ i, q_rv A 1002 i = if i = n then some sp else q_rv S 1002 i := fun i => by
        rw [hA, hA3]
        show q_rv (q_sR (q_sR A2 1002 n (some sp)) 1000 5 (some (π n))) 1002 i = _
        rw [v_aR (by decide)]
        by_cases h : i = n
        · rw [if_pos h, h, v_hR]
        · rw [if_neg h, v_kR h, r1002]
      have hWB1 : w_W (q_S0 L xs) (q_sI (q_sI A 1097 1 (-2 : Int32)) 1097 0 (1 : Int32)) := (hWA.sI (by decide)).sI (by decide)
      refine m147g (d := d + 699) hWA hn (by omega) (by omega) ?_
      refine v_mread (d := d + 693) hWB1 hm (fun j hj => ⟨by
        show q_iv A 1098 j = _
        rw [a98]
        exact (mc j hj).2.1, (mc j hj).2.2⟩) (by
        rw [v_kI (by decide), v_kI (by decide), a97]
        exact m2) hT (fun hd' ns' cs' q' B2 hrd' hWB2 fm bN bC bH bK => ?_) (fun q' B2 hrd' _ _ _ => ?_)
      · rw [hrd] at hrd'
        have e1 := Option.some.inj (congrArg Prod.fst hrd')
        have ehd : hd = hd' := congrArg Prod.fst e1
        have ens : ns = ns' := congrArg (fun z => z.2.1) e1
        have ecs : cs = cs' := congrArg (fun z => z.2.2) e1
        subst ehd
        subst ens
        subst ecs
        have hF : v_WF (T.length - 1) (v_tg T) hd ns cs := v_rd_wf hTK hTG hrd
        refine m147r1 (d := d + 699) hWB2 hn ?_
        have hWB3 : w_W (q_S0 L xs) (q_sI (q_sI B2 1097 3 (0 : Int32)) 1097 0 (0 : Int32)) := (hWB2.sI (by decide)).sI (by decide)
        refine j_land hWB3 hn ?_ (fun B4 hWB4 hld => ?_)
        · have := bH.1
          show q_iv B2 1110 6 = 0 ∨ q_iv B2 1110 6 = 1
          rw [this]
          split
          · exact Or.inr rfl
          · exact Or.inl rfl
        · have e97 : q_iv B4 1097 = q_iv (q_sI (q_sI B2 1097 3 (0 : Int32)) 1097 0 (0 : Int32)) 1097 := hld.1.iv (by decide)
          have b97 : ∀ k, k ≠ 0 → k ≠ 1 → k ≠ 3 → k ≠ 32 → k ≠ 33 → k ≠ 35 → q_iv B4 1097 k = q_iv S 1097 k := fun k h0 h1 h3 h32 h33 h35 => by
            rw [e97, v_kI h0, v_kI h3, fm.2.2.2 1097 k (by unfold v_dr; omega), v_kI h0, v_kI h1, a97]
          have b971 : q_iv B4 1097 1 = -2 := by
            rw [e97, v_kI (by decide), v_kI (by decide), fm.2.2.2 1097 1 (by unfold v_dr; omega), v_kI (by decide)]
            exact v_hI
          have fB : ∀ a, a < 1097 → q_iv B4 a = q_iv A a ∧ q_rv B4 a = q_rv A a := fun a ha => by
            have x1 : j_xl a = false := decide_eq_false (by omega)
            have x2 := fm.2.2.1 a (Or.inl ha)
            have x3 : a ≠ 1097 := by omega
            constructor
            · rw [hld.1.iv x1]
              funext x
              rw [v_aI x3, v_aI x3, x2.2.1, v_aI x3, v_aI x3]
            · rw [hld.1.rv x1]
              show q_rv B2 a = _
              rw [x2.2.2.1]
              rfl
          have hJ4 : u_J B4 := j_polJ (S := S) (A := A) (B := A) (B3 := q_sI (q_sI B2 1097 3 (0 : Int32)) 1097 0 (0 : Int32)) hn hJ hP p2 p3 fA rA2 (by rw [hA, hA3]; rfl) (by
              rw [hA, hA3]
              exact v_hI) (j_cl_eq (S := A2) (fun k x y => iA _ (by omega) (by omega)) iZ (rA _ (by omega) (by omega)) ⟨cN, cC, cH, c5⟩) (by
              rw [hA, hA3]
              exact (v_aI (by omega)).trans rfl) fB (by
              rw [hld.1.1]
              exact Nat.le_of_eq fm.1) (by
              rw [hld.1.2.1]
              exact Nat.le_of_eq fm.2.1) (fun a x h1 h2 h3 => by
              rw [v_aI (by omega), v_aI (by omega), fm.2.2.2 a x h3, v_aI (by omega), v_aI (by omega)]) hld bN bC bH bK (by
              rw [b971, (fB 1000 (by omega)).1, hA, hA3]
              exact (v_aI (by omega)).trans rfl) (by
              rw [e97, v_kI (by decide)]
              exact v_hI) (b97 31 (by decide) (by decide) (by decide) (by decide) (by decide) (by decide)) hF (fun j hj => (hTK.2 j (by omega)).1)
          have f4 : u_f 1 (fun _ => true) S B4 := ⟨by rw [hld.1.1]; show q_tp B2 ≤ _; rw [fm.1]; have := fA.1; show q_tp A ≤ _; omega, by rw [hld.1.2.1]; show q_sm B2 ≤ _; rw [fm.2.1]; have := fA.2.1; show q_sm A ≤ _; omega, fun a _ h => by cases h⟩
          refine m147z hWB4 hn (l205_policy_z hWB4 hpL hL (by rw [e97]; exact v_hI) (fun _ => hk B4 hWB4 hJ4 f4) (fun z => absurd ((v_lg0 _ _).mpr ?_) z))
          have j4 : q_jv B4 1139 = q_jv B2 1139 := hld.1.jv (by decide)
          have j2 : q_jv B2 1139 = q_jv A 1139 := (fm.2.2.1 1139 (Or.inr (by decide))).2.2.2
          rw [j4, j2, hA, v_hJ, c5, hld.2.2.2.2.1 1102 (by decide), if_pos rfl]
          show _ = (q_iv B2 1102 6).toInt64
          rw [bK.1]
      · rw [hrd] at hrd'
        cases (congrArg Prod.fst hrd' : some (hd, ns, cs) = none)
    · have htp := j_tpl hTK hT0 q
      have r1000 : q_rv A2 1000 = q_rv S 1000 := f2.rv (by unfold v_xr; simp only [Bool.or_eq_false_iff, Bool.and_eq_false_iff, decide_eq_false_iff_not]; omega)
      refine h23r0 hW2 hn (q := v_tp T q) (by omega) (by omega) ?_
      obtain ⟨A3, hA3⟩ : ∃ A3, A3 = q_sI (q_sI A2 1000 2 (nI (v_tp T q))) 1000 1 (0 : Int32) := ⟨_, rfl⟩
      have hW3 : w_W (q_S0 L xs) A3 := by
        rw [hA3]
        exact (hW2.sI (by decide)).sI (by decide)
      rw [← hA3]
      have ysp : ∀ a, v_xr sp a = true → j_Y sp a = true := fun a h => by
        unfold j_Y
        rw [h]
        rfl
      have fA3 : u_f 0 (j_Y sp) S A3 := by
        rw [hA3]
        exact (((((u_f.refl.sI (X := j_Y sp) (a := 1000) (by simp [j_Y])).trans (f2.mono (j_Yx)).f).mono (Nat.le_refl 0) (fun _ h => h)).sI (by simp [j_Y])).sI (by simp [j_Y]))
      refine w_kc q_new_sh (by decide +kernel) (by have := hW3.2.1; omega) (h22a hW3.new (l205_policy_b hW3.new hpL hL ?_))
      obtain ⟨A, hA⟩ : ∃ A, A = q_new A3 (10, 6) 6 := ⟨_, rfl⟩
      have hWA : w_W (q_S0 L xs) A := by
        rw [hA]
        exact hW3.new
      have fA : u_f 1 (j_Y sp) S A := by
        rw [hA]
        exact (fA3.trans (u_f_new hW3)).mono (by decide) (fun _ h => h)
      have e3 : ∀ a, a < 1140 → q_iv A a = q_iv A3 a ∧ q_rv A a = q_rv A3 a := fun a ha => by
        rw [hA]
        have := (u_f_new (c := 10) (X := fun _ => false) hW3).2.2 a ha rfl
        exact ⟨this.2.1, this.2.2.1⟩
      rw [← hA, hx]
      have a97 : q_iv A 1097 = q_iv S 1097 := fA.iv (by decide) (j_Yf (by omega) (by omega) (by omega) (by omega) (by omega))
      have a98 : q_iv A 1098 = q_iv S 1098 := fA.iv (by decide) (j_Yf (by omega) (by omega) (by omega) (by omega) (by omega))
      have hWB1 : w_W (q_S0 L xs) (q_sI (q_sI A 1097 1 (-2 : Int32)) 1097 0 (1 : Int32)) := (hWA.sI (by decide)).sI (by decide)
      refine m147g (d := d + 699) hWA hn (by omega) (by omega) ?_
      refine v_mread (d := d + 693) hWB1 hm (fun j hj => ⟨by
        show q_iv A 1098 j = _
        rw [a98]
        exact (mc j hj).2.1, (mc j hj).2.2⟩) (by
        rw [v_kI (by decide), v_kI (by decide), a97]
        exact m2) hT (fun hd' ns' cs' q' B2 hrd' _ _ _ _ _ _ => ?_) (fun q' B2 hrd' hWB2 fm b1 => ?_)
      · rw [hrd] at hrd'
        cases (congrArg Prod.fst hrd' : none = some (hd', ns', cs'))
      · rw [hrd] at hrd'
        have eq' : q = q' := congrArg Prod.snd hrd'
        subst eq'
        have hWB3 : w_W (q_S0 L xs) (q_sI B2 1097 3 (0 : Int32)) := hWB2.sI (by decide)
        have fB : ∀ a, a < 1097 → q_iv (q_sI B2 1097 3 (0 : Int32)) a = q_iv A a ∧ q_rv (q_sI B2 1097 3 (0 : Int32)) a = q_rv A a := fun a ha => by
          have x2 := fm.2.2.1 a (Or.inl ha)
          have x3 : a ≠ 1097 := by omega
          constructor
          · funext x
            rw [v_aI x3, x2.2.1, v_aI x3, v_aI x3]
          · show q_rv B2 a = _
            rw [x2.2.2.1]
            rfl
        have hJ3 : u_J (q_sI B2 1097 3 (0 : Int32)) := j_polN (S := S) p2 p3 (fun a h1 h2 h3 h4 => by
            rw [(fB a h1).1, (fB a h1).2]
            by_cases h5 : a = 1002
            · rw [h5, (e3 1002 (by decide)).1, (e3 1002 (by decide)).2, hA3]
              constructor
              · funext x
                rw [v_aI (by decide), v_aI (by decide), f2.iv (a := 1002) (by unfold v_xr; simp only [Bool.or_eq_false_iff, Bool.and_eq_false_iff, decide_eq_false_iff_not]; omega), v_aI (by decide)]
              · show q_rv A2 1002 = _
                rw [f2.rv (a := 1002) (by unfold v_xr; simp only [Bool.or_eq_false_iff, Bool.and_eq_false_iff, decide_eq_false_iff_not]; omega)]
                rfl
            · rw [fA.iv (by omega) (j_Yf h3 h4 h2 h5 (by omega)), fA.rv (by omega) (j_Yf h3 h4 h2 h5 (by omega))]
              exact ⟨rfl, rfl⟩) (by
            rw [(fB 1000 (by omega)).2, (e3 1000 (by decide)).2, hA3]
            show q_rv A2 1000 5 = _
            rw [r1000]
            exact p2) (fun a x h1 h2 h3 => by
            rw [v_aI (by omega), fm.2.2.2 a x h3 (by omega), v_aI (by omega), v_aI (by omega), fA.iv (by omega) (j_Yf (by omega) (by omega) (by omega) (by omega) (by omega))]) (by
            rw [(fB 1000 (by omega)).1, (e3 1000 (by decide)).1, hA3]
            exact v_hI) v_hI (by
            rw [(fB 1000 (by omega)).1, (e3 1000 (by decide)).1, hA3, v_kI (by decide), v_hI, v_kI (by decide), b1]) (by
            rw [v_kI (by decide), fm.2.2.2 1097 31 (by unfold v_dr; omega) (by omega), v_kI (by decide), v_kI (by decide), a97]) hJ
        have f4 : u_f 1 (fun _ => true) S (q_sI B2 1097 3 (0 : Int32)) := ⟨by show q_tp B2 ≤ _; rw [fm.1]; have := fA.1; show q_tp A ≤ _; omega, by show q_sm B2 ≤ _; rw [fm.2.1]; have := fA.2.1; show q_sm A ≤ _; omega, fun a _ h => by cases h⟩
        refine m147r0 hWB2 hn (l205_policy_c1 hWB3 hpL hL ?_ (hk _ hWB3 hJ3 f4))
        rw [v_kI (by decide), fm.2.2.2 1097 0 (by unfold v_dr; omega) (by omega)]
        exact v_hI
  · have fA : u_f 1 (j_X 1000 1000 2000 2000) S (q_new (q_sI S 1000 2 (-2 : Int32)) (10, 6) 6) := ((u_f.refl.sI (X := j_X 1000 1000 2000 2000) (a := 1000) (by decide)).trans (u_f_new hWA1)).mono (by decide) (fun _ h => h)
    have f4 : u_f 1 (j_X 1000 1000 2000 2000) S (q_sI (q_sI (q_new (q_sI S 1000 2 (-2 : Int32)) (10, 6) 6) 1097 1 (-2 : Int32)) 1097 0 (1 : Int32)) := (fA.sI (by decide)).sI (by decide)
    have hWB : w_W (q_S0 L xs) (q_sI (q_sI (q_new (q_sI S 1000 2 (-2 : Int32)) (10, 6) 6) 1097 1 (-2 : Int32)) 1097 0 (1 : Int32)) := (hWA1.new.sI (by decide)).sI (by decide)
    have e97 : q_iv (q_new (q_sI S 1000 2 (-2 : Int32)) (10, 6) 6) 1097 = q_iv S 1097 := (j_nw hWA1 (by decide)).trans rfl
    have e00 : q_iv (q_sI (q_sI (q_new (q_sI S 1000 2 (-2 : Int32)) (10, 6) 6) 1097 1 (-2 : Int32)) 1097 0 (1 : Int32)) 1000 = q_iv (q_sI S 1000 2 (-2 : Int32)) 1000 := j_nw (c := 10) hWA1 (by decide)
    have r00 : q_rv (q_sI (q_sI (q_new (q_sI S 1000 2 (-2 : Int32)) (10, 6) 6) 1097 1 (-2 : Int32)) 1097 0 (1 : Int32)) 1000 = q_rv S 1000 := ((u_f_new (c := 10) (X := fun _ => false) hWA1).2.2 1000 (by decide) rfl).2.2.1
    have k97 : ∀ k, k ≠ 0 → k ≠ 1 → q_iv (q_sI (q_sI (q_new (q_sI S 1000 2 (-2 : Int32)) (10, 6) 6) 1097 1 (-2 : Int32)) 1097 0 (1 : Int32)) 1097 k = q_iv S 1097 k := fun k h0 h1 => by
      rw [v_kI h0, v_kI h1, e97]
    have hJ4 : u_J (q_sI (q_sI (q_new (q_sI S 1000 2 (-2 : Int32)) (10, 6) 6) 1097 1 (-2 : Int32)) 1097 0 (1 : Int32)) := ⟨hJ.1.cg (by rw [e00]; exact v_kI (by decide)) (k97 3 (by decide) (by decide)) (j_keep f4 (a := 1001) (by decide) (by omega) (by omega)).1 (j_keep f4 (a := 1098) (by decide) (by omega) (by omega)).1, by
      rw [e00, v_hI, v_kI (by decide)]
      exact v_hI.symm, j_E f4 (by decide) (by decide) (by omega) (by omega) hJ.2.2.1, j_D f4 (by decide) (by decide) (by omega) (by omega) hJ.2.2.2.1, j_V f4 (by decide) (by decide) (by omega) (by omega) (k97 31 (by decide) (by decide)) hJ.2.2.2.2.1, hJ.2.2.2.2.2.cg (j_keep f4 (by decide) (by omega) (by omega)).2 (by rw [r00]) (fun a hp => by
          have hp' : (1004 ≤ a ∧ a ≤ 1014) ∨ (1031 ≤ a ∧ a ≤ 1096) := by
            unfold u_pcl at hp
            simp only [Bool.or_eq_true, Bool.and_eq_true, decide_eq_true_eq] at hp
            exact hp
          exact j_keep f4 (j_u_i (by omega)) (by omega) (by omega)) (fun a x y => (j_keep f4 (j_u_i (by omega)) (by omega) (by omega)).1)⟩
    have C := l205_policy_c1 (d := d + 700) (b := 0) hWB hpL hL rfl (hk _ hWB hJ4 (j_all f4 (by decide)))
    have B : w_X (d + 700) 147 [.ref 1097, .int (xs (p + 1))] (q_new (q_sI S 1000 2 (-2 : Int32)) (10, 6) 6) (w_k (d + 700 + 1) 205 224 [(0, .ref 999), (1, .ref 1000), (2, .ref 1097), (3, .ref 1139), (4, .int (nI p)), (5, .int 1)] [] Q) := m147b hWA1.new ho hp (fun _ => C) (fun _ => C)
    exact h22b hW ho hp (by omega) (fun _ => l205_policy_b hWA1.new hpL hL B) (fun _ => l205_policy_b hWA1.new hpL hL B)
end JOE
