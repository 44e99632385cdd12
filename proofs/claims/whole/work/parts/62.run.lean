/-! THE WHOLE RUN OF A BODY, and every method. -/
section QMAIN
variable {p : Program} {l : Launch} {e : Env} {R : Room} {s : State} {m : MethodId} {args : Array Value} {below : List Frame} {meth : Method} {c : Code}
variable {k : Nat} {D : va_G} {cA : Nat → ClassId} {cv : q_M} {base : Nat} {S0 : q_S}
theorem q_msum (cv : q_M) (st : List Value) : ((st.map (q_vv cv)).map fun v => v.category).sum = (st.map (fun v => v.category)).sum := by
  rw [List.map_map]
  congr 1
  exact List.map_congr_left (fun v _ => q_vv_cat cv v)
set_option maxHeartbeats 8000000 in
theorem q_run_W (hC : q_Cx k p l s m meth c D cA cv base S0) {cf : Nat → List Value → q_S → q_O} {d : Nat} (hd : d ≤ R.frames) (hRl : 30 * d ≤ R.locals) (hup : q_upf cf) (hOK : ∀ d', d = d' + 1 → q_OK l D cA cv base S0 cf d') {o : Outcome} {S' : q_S} {mc ms : Nat} (hmc : mc ≤ R.cells) (hms : ms ≤ R.slots) :
    ∀ (n pc : Nat) (lv : List (Nat × Value)) (st : List Value) (S : q_S) (H : Heap) (locs : List Loc) (cells slots : Nat) (ls : Array Slot), q_run cf d n k pc lv st S = some (o, S') → q_R D cA cv base S H → q_eqo S S0 → va_S (q_A base) s.heap H locs → lv_has ls (q_mm k).2.2.1 (q_lm cv lv) → cells + (q_tp S' - q_tp S) = mc → slots + (q_sm S' - q_sm S) = ms →
      W p l e R s m args below meth c H locs cells slots (q_MQ below (q_Qc D cA cv base S0 o S') args s mc ms (q_A base)) (F0 m pc ls (st.map (q_vv cv))) := by
  have hC0 := hC
  obtain ⟨hkk, hexec, hb, hml, hret, hlocks, hnm, hown, hE, hcv, hinj, hbase, hst, htab, htr⟩ := hC
  intro n
  induction n with
  | zero => intro pc lv st S H locs cells slots ls h; exact absurd h (by unfold q_run; exact fun z => by cases z)
  | succ n ih =>
    intro pc lv st S H locs cells slots ls h hR ho hS hl h1 h2
    have hupS := q_run_up hup _ _ _ _ _ _ _ _ h
    unfold q_run at h
    split at h
    · cases h
    · rename_i i len r hf
      obtain ⟨hdg, hneed, hlk, hrw, hrw3⟩ := q_fetch_ok hkk hf
      try dsimp only at h
      split at h
      · -- the operand stack alone
        obtain ⟨q, hq, h⟩ := q_bs h
        obtain ⟨q1, q2⟩ := q
        obtain ⟨he, h⟩ := q_is2 h
        subst he
        exact q_op_W hexec hb hdg hq (ih _ _ _ _ _ _ _ _ _ h hR ho hS hl h1 h2)
      · -- branches
        rename_i hk1
        obtain ⟨q, hq, h⟩ := q_bs h
        obtain ⟨q1, q2⟩ := q
        obtain ⟨he, h⟩ := q_is2 h
        subst he
        obtain ⟨off, ho1, ho2⟩ := q_br_lk hk1 hlk
        exact q_br_W hexec hb hinj hdg ho1 ho2 hq (ih _ _ _ _ _ _ _ _ _ h hR ho hS hl h1 h2)
      · -- a local read
        obtain ⟨q, hq, h⟩ := q_bs h
        obtain ⟨q1, q2⟩ := q
        obtain ⟨v, hv, h⟩ := q_bs h
        obtain ⟨he, h⟩ := q_is2 h
        obtain ⟨he1, he2⟩ := he
        subst he1
        exact q_rd_W hexec hb hl hdg hq hv he2 (ih _ _ _ _ _ _ _ _ _ h hR ho hS hl h1 h2)
      · -- a local written
        obtain ⟨q, hq, h⟩ := q_bs h
        obtain ⟨q1, q2, q3⟩ := q
        obtain ⟨he, h⟩ := q_is2 h
        subst he
        exact q_wr_W hexec hb hl hneed hdg hq (fun ls' hl' => ih _ _ _ _ _ _ _ _ _ h hR ho hS hl' h1 h2)
      · -- iinc
        split at h
        · rename_i j kk
          split at h
          · rename_i x hx
            obtain ⟨he, h⟩ := q_is2 h
            subst he
            exact q_inc_W hexec hb hl hneed hdg hx (fun ls' hl' => ih _ _ _ _ _ _ _ _ _ h hR ho hS hl' h1 h2)
          · cases h
        · cases h
      · -- the heap
        rename_i hk5
        obtain ⟨q, hq, h⟩ := q_bs h
        obtain ⟨q1, q2, S1⟩ := q
        obtain ⟨⟨he, h8⟩, h⟩ := q_is2 h
        dsimp only at he h
        subst he
        have u1 := q_hp_up hq
        have u2 := q_run_up hup _ _ _ _ _ _ _ _ h
        refine q_hp_W hexec hb hown hE.1 hcv hbase ho hR hS hlk ?_ hdg hq h8 ?_ (by omega) (by omega) (fun H1 locs1 hR1 ho1 hS1 => ih _ _ _ _ _ _ _ _ _ h hR1 ho1 hS1 hl (by omega) (by omega))
        · intro x hx hfin
          subst hx
          have hrw' : (r == 9998 || (!(q_fd r).2.2.2 || ((q_mm k).1.name == "<init>" && ((q_fd r).1 == q_cname (q_mm k).2.2.2.2.1 && q_fl.any (fun f => f.1 == (q_mm k).2.2.2.2.1 && (f.2.1 == x && (f.2.2.1 == r && !f.2.2.2.1))))))) = true := hrw
          rw [beq_false_of_ne h8, Bool.false_or, hfin, Bool.not_true, Bool.false_or, Bool.and_eq_true, Bool.and_eq_true] at hrw'
          obtain ⟨w1, w2, w3⟩ := hrw'
          refine ⟨hnm.trans (beq_iff_eq.mp w1), beq_iff_eq.mp w2, ?_⟩
          obtain ⟨⟨f1, f2, f3, f4, f5⟩, hfm, hfe⟩ := List.any_eq_true.mp w3
          simp only [Bool.and_eq_true, beq_iff_eq, Bool.not_eq_true'] at hfe
          obtain ⟨rfl, rfl, rfl, rfl⟩ := hfe
          exact List.mem_of_getElem? (of_decide_eq_true (List.all_eq_true.mp q_fl_ok _ hfm))
        · intro x hx
          subst hx
          unfold q_kd at hk5
          dsimp only at hk5
          rcases Nat.lt_or_ge r 10 with z | z
          · exact z
          · rw [if_neg (by omega)] at hk5
            cases hk5
      · -- calls
        rename_i hk6
        by_cases hr : r = 9999
        · rw [if_pos hr] at h
          subst hr
          split at h
          · rename_i a st1
            have h9 := q_is2 h
            clear h
            obtain ⟨⟨he, hd0, hsum⟩, h⟩ := h9
            subst he
            cases i <;> first | (cases hk6; done) | skip
            case invokestatic x =>
              have hrw' : (9999 == 9998 || (decide (9999 < 205) && (q_mm 9999).2.2.2.2.2.2.1 == 0)) = true := hrw
              exact absurd hrw' (by simp)
            case invokevirtual x =>
              have hrw' : (9999 == 9998 || (decide (9999 < 205) && (decide (0 < (q_mm 9999).2.2.2.2.2.2.1) && !((q_mm 9999).1.name == "<init>")))) = true := hrw
              exact absurd hrw' (by simp)
            case invokespecial x =>
              have h3 : q_in3 q_ml (q_mm k).2.2.2.2.1 x 9999 = true := hlk
              obtain ⟨nest, hlm, hns⟩ := q_mlink h3
              cases nest with
              | true => rcases hns rfl with z | z | z <;> exact absurd z (by decide)
              | false =>
                refine W.objInit hexec hb hown (hE.1.1 _ (List.mem_append_right _ hlm) rfl args) (hE.1.1 _ (List.mem_append_right _ q_misc.2.1) rfl args) (hE.1.1 _ (List.mem_append_right _ q_misc.2.2.1) rfl args) (g := F0 m pc ls ((.ref a :: st1).map (q_vv cv))) rfl (by rw [hml]; exact hl.1) rfl hdg (by omega) ?_ (ih _ _ _ _ _ _ _ _ _ h hR ho hS hl h1 h2)
                show 2 * 0 + ((st1.map (q_vv cv)).map fun v => v.category).sum + 12 ≤ R.locals
                rw [q_msum]
                omega
          · cases h
        · rw [if_neg hr] at h
          by_cases hr7 : r = 27
          · rw [if_pos hr7] at h
            subst hr7
            split at h
            · rename_i y x st1
              have h9 := q_is2 h
              clear h
              obtain ⟨⟨he, hd0, hsum⟩, h⟩ := h9
              subst he
              obtain ⟨m1, m2, m3, m4⟩ := q_27
              cases i <;> first | (cases hk6; done) | skip
              case invokestatic z =>
                have h3 : q_in3 q_ml (q_mm k).2.2.2.2.1 z 27 = true := hlk
                obtain ⟨nest, hlm, hns⟩ := q_mlink h3
                have hyl : q_yl 27 = Lib.Math.min.name := by decide +kernel
                rw [hyl] at hlm
                have hmp := q_mps 27 (by decide)
                rw [m2, m3] at hmp
                cases nest with
                | true => rcases hns rfl with z | z | z <;> exact absurd z (by decide)
                | false =>
                  refine va_mmin hexec hb (hml.trans hl.1.symm) hown (hE.1.1 _ (List.mem_append_right _ hlm) rfl args) (hE.1.1 _ (List.mem_append_right _ hmp.2) rfl args) (hE.1.1 _ (List.mem_append_right _ q_misc.2.2.2) rfl args) (hE.1.1 _ (List.mem_append_right _ hmp.1) rfl args) (by omega) ?_ (by omega) (by omega) hdg (ih _ _ _ _ _ _ _ _ _ h hR ho hS hl h1 h2)
                  show ((st1.map (q_vv cv)).map fun v => v.category).sum + 13 ≤ R.locals
                  rw [q_msum]
                  omega
              case invokevirtual z =>
                have hrw' : (27 == 9998 || (decide (27 < 205) && (decide (0 < (q_mm 27).2.2.2.2.2.2.1) && !((q_mm 27).1.name == "<init>")))) = true := hrw
                rw [m4] at hrw'
                exact absurd hrw' (by simp)
              case invokespecial z =>
                have hrw' : (decide (205 ≤ 27) || (decide (0 < (q_mm 27).2.2.2.2.2.2.1) && ((q_mm 27).1.name == "<init>" && decide ((q_mm 27).2.2.2.1 = none)))) = true := hrw
                rw [m4] at hrw'
                exact absurd hrw' (by simp)
            · cases h
          · rw [if_neg hr7] at h
            have h9 := q_is2 h
            clear h
            obtain ⟨⟨he, hcc⟩, h⟩ := h9
            subst he
            unfold q_cc at hcc
            simp only [Bool.and_eq_true, decide_eq_true_eq] at hcc
            obtain ⟨c1, c2, c3, c4, c5, c6⟩ := hcc
            obtain ⟨d', rfl⟩ : ∃ d', d = d' + 1 := ⟨d - 1, by omega⟩
            cases hcf : cf r (List.take (q_mm r).2.2.2.2.2.1 st).reverse S with
            | none => rw [hcf] at h; cases h
            | some q =>
              obtain ⟨oc, S1⟩ := q
              rw [hcf] at h
              have u1 := hup _ _ _ _ _ hcf
              have hM := hOK d' rfl r _ S oc S1 c1 hr7 hcf ho c6
              have u2 : q_tp S1 ≤ q_tp S' ∧ q_sm S1 ≤ q_sm S' := by
                cases oc with
                | returned v => exact q_run_up hup _ _ _ _ _ _ _ _ h
                | threw x =>
                  dsimp only at h
                  split at h
                  · exact q_run_up hup _ _ _ _ _ _ _ _ (q_is2 h).2
                  · have h := (q_is2 h).2
                    cases h
                    exact ⟨Nat.le_refl _, Nat.le_refl _⟩
              intro T hT X
              obtain ⟨vm₁, mk, X₁, hn, hcd, hinv⟩ := q_inv (ls := ls) hC0 hf hk6 c1 hr7 c2 c4 ho hR hS X hT
              have hgd := List.all_eq_true.mp q_good_ok r (List.mem_range.mpr c1)
              rw [Bool.and_eq_true] at hgd
              have hmx : (q_mm r).2.2.1 ≤ 11 := by
                have hcal := List.all_eq_true.mp q_cal_ok r (List.mem_range.mpr c1)
                unfold q_cal at hcal
                rw [Bool.and_eq_true, Bool.and_eq_true, Bool.and_eq_true, Bool.and_eq_true] at hcal
                exact of_decide_eq_true hcal.2.2.2.1
              have hE1 : q_E D cA cv base S0 (T.setVm vm₁) H := hE.move (U := T.setVm vm₁) X₁.warmed hS.2.1
              have hheapc : ((T.setVm vm₁).calling (F0 m pc ls ((st.drop (q_mm r).2.2.2.2.2.1).map (q_vv cv))) mk (((st.take (q_mm r).2.2.2.2.2.1).reverse.map (q_vv cv)).toArray)).heap = H := by
                rw [State.calling_eq X₁.here.top]
                exact hT
              have hvmc : ((T.setVm vm₁).calling (F0 m pc ls ((st.drop (q_mm r).2.2.2.2.2.1).map (q_vv cv))) mk (((st.take (q_mm r).2.2.2.2.2.1).reverse.map (q_vv cv)).toArray)).vm = vm₁ := by
                rw [State.calling_eq X₁.here.top]
                rfl
              obtain ⟨o', t, U', L, hsteps, X', hL, hh', hv', hq, hret', hthr'⟩ := q_call X₁ (g := F0 m pc ls ((st.drop (q_mm r).2.2.2.2.2.1).map (q_vv cv))) rfl (by rw [hml]; exact hl.1) (by rw [hb]; exact hdg) (W := 8) (by
                  show 2 * 0 + (((st.drop (q_mm r).2.2.2.2.2.1).map (q_vv cv)).map fun v => v.category).sum ≤ 8
                  rw [q_msum]
                  omega) hn hM (a := ((st.take (q_mm r).2.2.2.2.2.1).reverse.map (q_vv cv)).toArray) hcd
                (hE1.1.1 _ (List.mem_append_right _ (of_decide_eq_true (List.all_eq_true.mp q_ini_ok r (List.mem_range.mpr c1)))) rfl _)
                (fun w hw => by
                  rw [List.mem_singleton.mp hw]
                  exact hE1.1.1 _ (List.mem_append_right _ (q_mps r c1).1) hgd.1 _) rfl rfl (by show d' + 1 ≤ R.frames; exact hd) (by show 8 + ((q_mm r).2.2.1 + 11) + 30 * d' ≤ R.locals; omega) (by omega) (by omega)
                ⟨rfl, by rw [hheapc]; exact hR, by
                  rw [hheapc]
                  exact hE.move (U := (T.setVm vm₁).calling (F0 m pc ls ((st.drop (q_mm r).2.2.2.2.2.1).map (q_vv cv))) mk (((st.take (q_mm r).2.2.2.2.2.1).reverse.map (q_vv cv)).toArray)) (by rw [hvmc]; exact X₁.warmed) hS.2.1⟩
              obtain ⟨q1, q2, q3, q4, q5⟩ := hq
              rw [hheapc] at q4 q5
              rw [← hh'] at q2 q4 q5
              have hS1 : va_S (q_A base) s.heap U'.heap (locs ++ L) := ⟨Nat.le_trans hS.1 q4, fun q g1 g2 => (q5 q (Nat.lt_of_lt_of_le g1 hS.1) g2).trans (hS.2.1 q g1 g2), fun q hq => by
                rcases List.mem_append.mp hq with z | z
                · exact hS.2.2 q z
                · exact hL q z⟩
              cases oc with
              | returned v =>
                have e1 : (v.map (q_vv cv)).toList ++ (st.drop (q_mm r).2.2.2.2.2.1).map (q_vv cv) = (v.toList ++ st.drop (q_mm r).2.2.2.2.2.1).map (q_vv cv) := by
                  cases v <;> simp
                have ht := hret' _ q1
                have kk := ih (pc + 3) lv (v.toList ++ st.drop (q_mm r).2.2.2.2.2.1) S1 U'.heap (locs ++ L) (cells + (q_tp S1 - q_tp S)) (slots + (q_sm S1 - q_sm S)) ls h q2 q3 hS1 hl (by omega) (by omega) U' rfl X'
                obtain ⟨tt, ks, kq⟩ := kk
                refine ⟨tt, hinv _ (hsteps.trans ?_), kq⟩
                rw [ht]
                rw [← e1] at ks
                exact ks
              | threw x =>
                have ht := hthr' _ q1
                dsimp only at h
                cases hhs : q_hs k pc (q_sh S1 x).1 with
                | some hp =>
                  rw [hhs] at h
                  obtain ⟨hx, h⟩ := q_is2 h
                  have hk5 : k < 205 := by
                    rcases Nat.lt_or_ge k 205 with z | z
                    · exact z
                    · have : k = 205 := by omega
                      subst this
                      exact absurd hhs (by
                        have h205 : (q_mm 205).2.2.2.2.2.2.2 = [] := by decide +kernel
                        unfold q_hs
                        rw [h205]
                        simp)
                  obtain ⟨vm', XV, hst'⟩ := q_catch (ls := ls) (rest := (st.drop (q_mm r).2.2.2.2.2.1).map (q_vv cv)) hC0 hk5 X' q2 hx hhs
                  have kk := ih hp lv [.ref x] S1 U'.heap (locs ++ L) (cells + (q_tp S1 - q_tp S)) (slots + (q_sm S1 - q_sm S)) ls h q2 q3 hS1 hl (by omega) (by omega) (U'.setVm vm') rfl XV
                  obtain ⟨tt, ks, kq⟩ := kk
                  refine ⟨tt, hinv _ (hsteps.trans ?_), kq⟩
                  rw [ht]
                  exact hst' _ ks
                | none =>
                  rw [hhs] at h
                  obtain ⟨hnil, h⟩ := q_is2 h
                  cases h
                  have htab0 : c.exceptionTable.toList = [] := by
                    have hx0 : q_hx k = [] := by
                      rcases Nat.lt_or_ge k 205 with z | z
                      · have hok := List.all_eq_true.mp q_hok_ok k (List.mem_range.mpr z)
                        unfold q_hok at hok
                        rw [Bool.and_eq_true] at hok
                        have ok1 := of_decide_eq_true hok.1
                        rw [hnil] at ok1
                        exact List.map_eq_nil_iff.mp ok1
                      · have : k = 205 := by omega
                        subst this
                        rfl
                    rw [hx0] at htab
                    exact List.map_eq_nil_iff.mp htab
                  obtain ⟨w1, w2, w3, w4, w5⟩ := X'.leaveThrown (cv.1 x) (g := F0 m pc ls ((st.drop (q_mm r).2.2.2.2.2.1).map (q_vv cv))) rfl rfl rfl (by rw [htab0]; intro y hy; cases hy) hlocks
                  subst h1; subst h2
                  refine ⟨_, hinv _ (hsteps.trans ?_), .threw (cv.1 x), w2, w3, ⟨rfl, q2, q3, hS1.1, hS1.2.1⟩, locs ++ L, ⟨w4, w5⟩, hS1.2.2⟩
                  rw [ht]
                  exact w1
      · -- returns
        obtain ⟨v, hv, h⟩ := q_bs h
        obtain ⟨he, h⟩ := q_is2 h
        subst he
        cases h
        rw [Nat.sub_self, Nat.add_zero] at h1 h2
        subst h1; subst h2
        exact q_ret_W hC0 hf hv hR ho hS
      · -- switches
        split at h
        · obtain ⟨t, ht, h⟩ := q_bs h
          exact q_sw_W hexec hb hlk hdg ht (ih _ _ _ _ _ _ _ _ _ h hR ho hS hl h1 h2)
        · cases h
      · -- an exception
        rename_i hk9
        obtain ⟨⟨h6, hsum⟩, h⟩ := q_is2 h
        cases h
        rw [q_dtp] at h1
        rw [q_dsm] at h2
        subst h1; subst h2
        exact q_thr_W hC0 hf hk9 (by omega) (by omega) hsum hR ho hS hl.1 (by omega) (by omega)
      · cases h
end QMAIN
