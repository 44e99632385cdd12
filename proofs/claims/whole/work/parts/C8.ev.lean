/-! WHAT A PART IS WORTH, as a function; and the class's judge tells it. Sorts 1, 2, 3; errors 4, 5, 6. -/
def v_num (x : Int64) : Nat × Int32 := if x = x.toInt32.toInt64 then (1, x.toInt32) else (6, 0)
def v_lfv (pr rs s x : Nat) : Nat × Int32 := if s = 4 then (2, 1) else if s = 5 then (2, 0) else if s = 6 then (3, nI pr) else if s = 7 then (3, nI rs) else if s = 31 then (3, nI x) else (1, nI x)
def v_un (so : Nat → Nat → Nat) (va : Nat → Nat → Int32) (s x : Nat) (q : Nat × Int32) : Nat × Int32 :=
  if s = 18 then (if q.1 = 2 then (2, if q.2 = 0 then 1 else 0) else (4, 0))
  else if s = 28 then (if q.1 = 1 then v_num (-(q.2.toInt64)) else (4, 0))
  else if q.1 = 3 then (if s = 26 then (2, if so q.2.toNatClampNeg x = 0 then 0 else 1) else if so q.2.toNatClampNeg x = 0 then (5, 0) else (so q.2.toNatClampNeg x, va q.2.toNatClampNeg x))
  else (4, 0)
def v_bi (up : Nat → Nat → Bool) (s : Nat) (q r : Nat × Int32) : Nat × Int32 :=
  if s = 21 then (2, if q = r then 1 else 0)
  else if s = 22 then (2, if q = r then 0 else 1)
  else if s = 25 then (if q.1 = 3 ∧ r.1 = 3 then (2, if up q.2.toNatClampNeg r.2.toNatClampNeg = true then 1 else 0) else (4, 0))
  else if q.1 = 1 ∧ r.1 = 1 then
    (if s = 23 then (2, if q.2 < r.2 then 1 else 0) else if s = 24 then (2, if q.2 ≤ r.2 then 1 else 0)
     else if s = 27 then v_num (q.2.toInt64 + r.2.toInt64) else if s = 28 then v_num (q.2.toInt64 - r.2.toInt64) else v_num (q.2.toInt64 * r.2.toInt64))
  else (4, 0)
def v_ev (pr rs : Nat) (so : Nat → Nat → Nat) (va : Nat → Nat → Int32) (up : Nat → Nat → Bool) (ns : List v_Nd) : Nat → Nat → Nat × Int32
  | 0, _ => (4, 0)
  | h + 1, i => match ns[i]? with
    | none => (4, 0)
    | some (s, _, x, none, _) => v_lfv pr rs s x
    | some (s, _, x, some a, none) => if 4 ≤ (v_ev pr rs so va up ns h a).1 then v_ev pr rs so va up ns h a else v_un so va s x (v_ev pr rs so va up ns h a)
    | some (s, _, _, some a, some b) =>
      if 4 ≤ (v_ev pr rs so va up ns h a).1 then v_ev pr rs so va up ns h a
      else if s = 19 ∨ s = 20 then
        (if (v_ev pr rs so va up ns h a).1 = 2 then
          (if (v_ev pr rs so va up ns h a).2 = (if s = 19 then 1 else 0) then v_ev pr rs so va up ns h a
           else if 4 ≤ (v_ev pr rs so va up ns h b).1 then v_ev pr rs so va up ns h b
           else if (v_ev pr rs so va up ns h b).1 = 2 then v_ev pr rs so va up ns h b else (4, 0))
         else (4, 0))
      else if 4 ≤ (v_ev pr rs so va up ns h b).1 then v_ev pr rs so va up ns h b
      else v_bi up s (v_ev pr rs so va up ns h a) (v_ev pr rs so va up ns h b)
/-- what may be worth what -/
def v_gd (q : Nat × Int32) : Prop := 1 ≤ q.1 ∧ q.1 < 7 ∧ (q.1 = 2 → q.2 = 0 ∨ q.2 = 1) ∧ (q.1 = 3 → ∃ e, e < 16 ∧ q.2 = nI e)
def v_ge (pr rs : Nat) (so : Nat → Nat → Nat) (va : Nat → Nat → Int32) : Prop := pr < 16 ∧ rs < 16 ∧ ∀ e a, e < 16 → a < 3 → so e a < 4 ∧ (so e a = 2 → va e a = 0 ∨ va e a = 1) ∧ (so e a = 3 → ∃ f, f < 16 ∧ va e a = nI f)
theorem v_gdm {s : Nat} {x : Int32} (h1 : 1 ≤ s) (h2 : s < 7) (h3 : s = 2 → x = 0 ∨ x = 1) (h4 : s = 3 → ∃ e, e < 16 ∧ x = nI e) : v_gd (s, x) := ⟨h1, h2, h3, h4⟩
theorem v_gd4 : v_gd (4, 0) := v_gdm (by decide) (by decide) (fun z => absurd z (by decide)) (fun z => absurd z (by decide))
theorem v_gd5 : v_gd (5, 0) := v_gdm (by decide) (by decide) (fun z => absurd z (by decide)) (fun z => absurd z (by decide))
theorem v_gd2 (b : Prop) [Decidable b] : v_gd (2, if b then 1 else 0) := v_gdm (by decide) (by decide) (fun _ => by show (if b then (1 : Int32) else 0) = 0 ∨ _; split <;> simp) (fun z => absurd z (by decide))
theorem v_gd2' (b : Prop) [Decidable b] : v_gd (2, if b then 0 else 1) := v_gdm (by decide) (by decide) (fun _ => by show (if b then (0 : Int32) else 1) = 0 ∨ _; split <;> simp) (fun z => absurd z (by decide))
theorem v_gdn (x : Int64) : v_gd (v_num x) := by
  unfold v_num
  split
  · exact v_gdm (by decide) (by decide) (fun z => absurd z (by decide)) (fun z => absurd z (by decide))
  · exact v_gdm (by decide) (by decide) (fun z => absurd z (by decide)) (fun z => absurd z (by decide))
section VEV
variable {pr rs : Nat} {so : Nat → Nat → Nat} {va : Nat → Nat → Int32} {up : Nat → Nat → Bool} {ns : List v_Nd}
theorem v_gd_un (hE : v_ge pr rs so va) {s x : Nat} {q : Nat × Int32} (hq : v_gd q) (hx : s = 18 ∨ s = 28 ∨ ((s = 16 ∨ s = 26) ∧ x < 3)) : v_gd (v_un so va s x q) := by
  unfold v_un
  split
  · split
    · exact v_gd2 _
    · exact v_gd4
  · split
    · split
      · exact v_gdn _
      · exact v_gd4
    · rename_i h1 h2
      split
      · rename_i h3
        obtain ⟨e, he, hv⟩ := hq.2.2.2 h3
        have hc : q.2.toNatClampNeg = e := by rw [hv]; exact nI_clamp (by omega)
        rw [hc]
        split
        · exact v_gd2' _
        · split
          · exact v_gd5
          · rename_i h5
            obtain ⟨g1, g2, g3⟩ := hE.2.2 e x he (by omega)
            exact ⟨by show 1 ≤ so e x; omega, by show so e x < 7; omega, g2, g3⟩
      · exact v_gd4
theorem v_gd_bi {s : Nat} {q r : Nat × Int32} : v_gd (v_bi up s q r) := by
  unfold v_bi
  split
  · exact v_gd2 _
  · split
    · exact v_gd2' _
    · split
      · split
        · exact v_gd2 _
        · exact v_gd4
      · split
        · split
          · exact v_gd2 _
          · split
            · exact v_gd2 _
            · split
              · exact v_gdn _
              · split
                · exact v_gdn _
                · exact v_gdn _
        · exact v_gd4
theorem v_gd_ev (hE : v_ge pr rs so va) : ∀ h lo i, v_tr h ns lo i → v_gd (v_ev pr rs so va up ns h i) := by
  intro h
  induction h with
  | zero => intro lo i h; exact h.elim
  | succ h ih =>
    intro lo i ht
    obtain ⟨s, t, x, l, r, h1, h2⟩ := ht
    unfold v_ev
    rw [h1]
    rcases h2 with ⟨rfl, rfl, _, h3, h4, h5⟩ | ⟨a, rfl, rfl, _, h3, h4⟩ | ⟨a, b, rfl, rfl, _, h3, h4, h5, h6⟩
    · show v_gd (v_lfv pr rs s x)
      unfold v_lfv
      split
      · exact v_gdm (by decide) (by decide) (fun _ => Or.inr rfl) (fun z => absurd z (by decide))
      · split
        · exact v_gdm (by decide) (by decide) (fun _ => Or.inl rfl) (fun z => absurd z (by decide))
        · split
          · exact v_gdm (by decide) (by decide) (fun z => absurd z (by decide)) (fun _ => ⟨pr, hE.1, rfl⟩)
          · split
            · exact v_gdm (by decide) (by decide) (fun z => absurd z (by decide)) (fun _ => ⟨rs, hE.2.1, rfl⟩)
            · split
              · rename_i h31; exact v_gdm (by decide) (by decide) (fun z => absurd z (by decide)) (fun _ => ⟨x, h4 h31, rfl⟩)
              · exact v_gdm (by decide) (by decide) (fun z => absurd z (by decide)) (fun z => absurd z (by decide))
    · dsimp only
      split
      · exact ih lo a h4
      · exact v_gd_un hE (ih lo a h4) h3
    · dsimp only
      split
      · exact ih lo a h5
      · split
        · split
          · by_cases hx : (v_ev pr rs so va up ns h a).2 = (if s = 19 then 1 else 0)
            · rw [if_pos hx]; exact ih lo a h5
            · rw [if_neg hx]
              split
              · exact ih _ b h6
              · split
                · exact ih _ b h6
                · exact v_gd4
          · exact v_gd4
        · split
          · exact ih _ b h6
          · exact v_gd_bi
end VEV
/-- the class as the judge sees it -/
def v_CE (S : q_S) (P : Nat) (pl : Nat → Nat) (ns : List v_Nd) (pr rs : Nat) (so : Nat → Nat → Nat) (va : Nat → Nat → Int32) : Prop := w_P P ∧ ns.length ≤ 100 ∧ q_rv S 1029 1 = some P ∧ v_CN S P pl ns ∧ q_iv S 1029 2 = nI pr ∧ q_iv S 1029 3 = nI rs ∧ v_ge pr rs so va ∧ ∀ e a, e < 16 → a < 3 → q_iv S 1018 (e * 3 + a) = nI (so e a) ∧ q_iv S 1019 (e * 3 + a) = va e a
section VCJ
variable {L : Nat} {xs : Nat → Int32} {S : q_S} {P : Nat} {pl : Nat → Nat} {ns : List v_Nd} {pr rs : Nat} {so : Nat → Nat → Nat} {va : Nat → Nat → Int32} {Q : Outcome → q_S → Prop}
theorem v_lv34 {s : Nat} (h : v_lv s < 5) : s < 34 := by
  refine Nat.lt_of_not_le (fun z => ?_)
  unfold v_lv at h
  rw [if_neg (by omega), if_neg (by omega), if_neg (by omega), if_neg (by omega), if_neg (by omega)] at h
  omega
theorem v_num6 {x : Int64} (h : ¬ lg_cmp x (x.toInt32.toInt64) = 0) : v_num x = (6, 0) := if_neg (fun z => h ((v_lg0 _ _).mpr z))
theorem v_num1 {x : Int64} (h : lg_cmp x (x.toInt32.toInt64) = 0) : v_num x = (1, x.toInt32) := if_pos ((v_lg0 _ _).mp h)
theorem v_cworth (hW : w_W (q_S0 L xs) S) (hE : v_CE S P pl ns pr rs so va) : ∀ h lo i l d Q, v_tr h ns lo i → l + h ≤ 51 → 2 * h + 8 ≤ d → Q (.returned (some (.long (v_w (v_ev pr rs so va (fun e f => v_b (v_up (q_iv S 1017) e) f) ns h i).1 (v_ev pr rs so va (fun e f => v_b (v_up (q_iv S 1017) e) f) ns h i).2)))) S → w_X d 123 [.ref 1029, .int (nI i), .int (nI l)] S Q := by
  obtain ⟨hp, hlen, hm, hN, h2, h3, hG, hA⟩ := hE
  intro h
  induction h with
  | zero => intro lo i l d Q h; exact h.elim
  | succ h ih =>
    intro lo i l d Q ht hl hd k
    have hi100 := (v_tr_lo ht).2
    have hgd := v_gd_ev (up := fun e f => v_b (v_up (q_iv S 1017) e) f) hG _ lo i ht
    obtain ⟨s, t, x, lf, rt, e1, e2⟩ := ht
    obtain ⟨n1, n2, n3, n4, n5⟩ := hN.2 i s t x lf rt e1
    obtain ⟨d, rfl⟩ : ∃ f, d = f + 6 := ⟨d - 6, by omega⟩
    unfold v_ev at k
    rw [e1] at k
    rcases e2 with ⟨rfl, rfl, _, f3, f4, f5⟩ | ⟨a, rfl, rfl, ha, f3, f4⟩ | ⟨a, b, rfl, rfl, hb, f3, f4, f5, f6⟩
    · -- a leaf
      refine j123_0L (d := d + 5) (l := l) hW hp hm (by omega) (by omega) (by omega) n4 n5 ?_
      have fin : ∀ q1 q2, v_lfv pr rs s x = (q1, q2) → q1 < 7 → w_k (d + 6) 123 39 [] [] Q (.returned (some (.long (v_w q1 q2)))) S := by
        intro q1 q2 hq hq7
        refine j123_42r (i := i) hW hp hm (by omega) hq7 ?_
        have k' : Q (.returned (some (.long (v_w (v_lfv pr rs s x).1 (v_lfv pr rs s x).2)))) S := k
        rw [hq] at k'
        exact k'
      have h6 : s = 30 ∨ s = 4 ∨ s = 5 ∨ s = 31 ∨ s = 6 ∨ s = 7 := by
        unfold v_lf at f3
        simp only [Bool.or_eq_true, decide_eq_true_eq] at f3
        exact f3
      rcases h6 with rfl | rfl | rfl | rfl | rfl | rfl
      · exact j126_0s30 hW hp hm (by omega) n1 f5 n3 (fin 1 (nI x) rfl (by decide))
      · exact j126_0s4 hW hp hm (by omega) n1 (fin 2 1 rfl (by decide))
      · exact j126_0s5 hW hp hm (by omega) n1 (fin 2 0 rfl (by decide))
      · exact j126_0s31 hW hp hm (by omega) n1 f5 n3 (fin 3 (nI x) rfl (by decide))
      · exact j126_0s6 hW hp hm (by omega) n1 h2 (fin 3 (nI pr) rfl (by decide))
      · exact j126_0s7 hW hp hm (by omega) n1 h3 (fin 3 (nI rs) rfl (by decide))
    · -- one part
      refine j123_0U (d := d + 5) (l := l) hW hp hm (by omega) (by omega) (by omega) (by omega) n4 n5 ?_
      refine ih lo a (l + 1) _ _ f4 (by omega) (by omega) ?_
      have ga := v_gd_ev (up := fun e f => v_b (v_up (q_iv S 1017) e) f) hG _ lo a f4
      dsimp only at k
      refine j123_51U (d := d + 4) hW hp hm (by omega) (by omega) ga.2.1 (fun h4 => ?_) (fun h4 => ?_)
      · rw [if_neg (by omega)] at k
        revert k ga h4
        generalize v_ev pr rs so va (fun e f => v_b (v_up (q_iv S 1017) e) f) ns h a = q
        intro k ga h4
        obtain ⟨qs, qx⟩ := q
        dsimp only at ga h4 k ⊢
        have fin : ∀ r1 r2, v_un so va s x (qs, qx) = (r1, r2) → r1 < 7 → w_k (d + 6) 123 74 [] [] Q (.returned (some (.long (v_w r1 r2)))) S := by
          intro r1 r2 hr hr7
          refine j123_77r (i := i) hW hp hm (by omega) hr7 ?_
          rw [hr] at k
          exact k
        rcases f3 with rfl | rfl | ⟨f3, fx⟩
        · refine j130_0s18 (d := d + 3) hW hp hm (by omega) ga.2.1 n1 (fun z => fin 4 0 ?_ (by decide)) (fun z z' => fin 2 0 ?_ (by decide)) (fun z z' => fin 2 1 ?_ (by decide))
          · show (if qs = 2 then _ else _) = _
            rw [if_neg z]
          · show (if qs = 2 then ((2 : Nat), if qx = 0 then (1 : Int32) else 0) else _) = _
            rw [if_pos z, if_neg z']
          · show (if qs = 2 then ((2 : Nat), if qx = 0 then (1 : Int32) else 0) else _) = _
            rw [if_pos z, if_pos z']
        · refine j130_0s28 (d := d + 2) hW hp hm (by omega) ga.2.1 n1 (fun z => fin 4 0 ?_ (by decide)) (fun z z' => fin 6 0 ?_ (by decide)) (fun z z' => fin 1 _ ?_ (by decide))
          · show (if qs = 1 then _ else _) = _
            rw [if_neg z]
          · show (if qs = 1 then _ else _) = _
            rw [if_pos z, v_num6 z']
          · show (if qs = 1 then _ else _) = _
            rw [if_pos z, v_num1 z']
        · by_cases h3s : qs = 3
          · subst h3s
            obtain ⟨e, he, hv⟩ := ga.2.2.2 rfl
            have hv : qx = nI e := hv
            subst hv
            have hc : (nI e).toNatClampNeg = e := nI_clamp (by omega)
            obtain ⟨g1, g2, g3⟩ := hG.2.2 e x he fx
            obtain ⟨a1, a2⟩ := hA e x he fx
            rcases f3 with rfl | rfl
            · refine j130_0s16y (d := d + 2) hW hp hm (by omega) n3 fx he g1 n1 (by omega) a1 (fun z => ?_) (fun z => fin 5 0 ?_ (by decide))
              · rw [a2]
                refine fin (so e x) (va e x) ?_ (by omega)
                unfold v_un
                rw [if_neg (by decide), if_neg (by decide), if_pos rfl, if_neg (by decide), hc, if_neg z]
              · unfold v_un
                rw [if_neg (by decide), if_neg (by decide), if_pos rfl, if_neg (by decide), hc, if_pos z]
            · refine j130_0s26y (d := d + 3) hW hp hm (by omega) n3 fx he g1 n1 (by omega) a1 (fun z => fin 2 0 ?_ (by decide)) (fun z => fin 2 1 ?_ (by decide))
              · unfold v_un
                rw [if_neg (by decide), if_neg (by decide), if_pos rfl, if_pos rfl, hc, if_pos z]
              · unfold v_un
                rw [if_neg (by decide), if_neg (by decide), if_pos rfl, if_pos rfl, hc, if_neg z]
          · have hu : v_un so va s x (qs, qx) = (4, 0) := by
              unfold v_un
              rw [if_neg (by omega), if_neg (by omega), if_neg h3s]
            rcases f3 with rfl | rfl
            · exact j130_0s16n (d := d + 3) hW hp hm (by omega) ga.2.1 n3 fx h3s n1 (fin 4 0 hu (by decide))
            · exact j130_0s26n (d := d + 3) hW hp hm (by omega) ga.2.1 n3 fx h3s n1 (fin 4 0 hu (by decide))
      · rw [if_pos (by omega)] at k
        exact k
    · -- two parts
      have ga := v_gd_ev (up := fun e f => v_b (v_up (q_iv S 1017) e) f) hG _ lo a f5
      have gb := v_gd_ev (up := fun e f => v_b (v_up (q_iv S 1017) e) f) hG _ (a + 1) b f6
      have hla := (v_tr_lo f5).2
      refine j123_0B (d := d + 5) (l := l) hW hp hm (by omega) (by omega) (by omega) (by omega) n4 (by omega) n5 ?_
      refine ih lo a (l + 1) _ _ f5 (by omega) (by omega) ?_
      have ihb := fun Q => ih (a + 1) b (l + 1) (d + 5) Q f6 (by omega) (by omega)
      dsimp only at k
      revert k ga gb ihb
      generalize v_ev pr rs so va (fun e f => v_b (v_up (q_iv S 1017) e) f) ns h a = q
      generalize v_ev pr rs so va (fun e f => v_b (v_up (q_iv S 1017) e) f) ns h b = r
      intro k ga gb ihb
      obtain ⟨qs, qx⟩ := q
      obtain ⟨rs', rx⟩ := r
      dsimp only at ga gb ihb k ⊢
      by_cases h4 : 4 ≤ qs
      · rw [if_pos h4] at k
        by_cases h19 : s = 19
        · subst h19
          exact j123_51s19 (d := d + 3) hW hp hm (by omega) (by omega) ga.2.1 (by omega) (fun _ => n1) (fun z => by omega) (fun z => by omega) (fun z => by omega) (fun _ => k)
        · by_cases h20 : s = 20
          · subst h20
            exact j123_51s20 (d := d + 3) hW hp hm (by omega) (by omega) ga.2.1 (by omega) (fun _ => n1) (fun z => by omega) (fun z => by omega) (fun z => by omega) (fun _ => k)
          · exact j123_51o (d := d + 4) hW hp hm (by omega) (by omega) ga.2.1 (v_lv34 f3) n1 h20 h19 (by omega) (fun z => by omega) (fun _ => k)
      rw [if_neg h4] at k
      by_cases hlog : s = 19 ∨ s = 20
      · rw [if_pos hlog] at k
        have main : qs = 2 → ¬ qx = (if s = 19 then 1 else 0) → w_X (d + 5) 123 [.ref 1029, .int (nI b), .int (nI (l + 1))] S (w_k (d + 6) 123 139 [(0, .ref 1029), (5, .long (v_w qs qx)), (7, .ref s), (8, .int 1)] [] Q) := by
          intro z z'
          rw [if_pos z, if_neg z'] at k
          refine ihb _ ?_
          by_cases h4b : 4 ≤ rs'
          · rw [if_pos h4b] at k
            rcases hlog with rfl | rfl
            · exact j123_142s19 (d := d + 3) (i := i) hW hp hm (by omega) ga.2.1 gb.2.1 (fun z => by omega) (fun z => by omega) (fun _ => k)
            · exact j123_142s20 (d := d + 3) (i := i) hW hp hm (by omega) ga.2.1 gb.2.1 (fun z => by omega) (fun z => by omega) (fun _ => k)
          · rw [if_neg h4b] at k
            have kk : (¬ rs' = 2 → Q (.returned (some (.long (v_w 4 (0 : Int32))))) S) ∧ (rs' = 2 → Q (.returned (some (.long (v_w rs' rx)))) S) := ⟨fun z => by rw [if_neg z] at k; exact k, fun z => by rw [if_pos z] at k; exact k⟩
            rcases hlog with rfl | rfl
            · exact j123_142s19 (d := d + 3) (i := i) hW hp hm (by omega) ga.2.1 gb.2.1 (fun _ => kk.1) (fun _ => kk.2) (fun z => by omega)
            · exact j123_142s20 (d := d + 3) (i := i) hW hp hm (by omega) ga.2.1 gb.2.1 (fun _ => kk.1) (fun _ => kk.2) (fun z => by omega)
        have no : ¬ qs = 2 → Q (.returned (some (.long (v_w 4 (0 : Int32))))) S := fun z => by rw [if_neg z] at k; exact k
        have yes : qs = 2 → qx = (if s = 19 then 1 else 0) → Q (.returned (some (.long (v_w qs qx)))) S := fun z z' => by rw [if_pos z, if_pos z'] at k; exact k
        rcases hlog with rfl | rfl
        · exact j123_51s19 (d := d + 3) hW hp hm (by omega) (by omega) ga.2.1 (by omega) (fun _ => n1) (fun _ => no) (fun _ z z' => main z z') (fun _ z z' => yes z z') (fun z => by omega)
        · exact j123_51s20 (d := d + 3) hW hp hm (by omega) (by omega) ga.2.1 (by omega) (fun _ => n1) (fun _ => no) (fun _ z z' => main z z') (fun _ z z' => yes z z') (fun z => by omega)
      · rw [if_neg hlog] at k
        have hs34 : s < 34 := v_lv34 f3
        refine j123_51o (d := d + 4) hW hp hm (by omega) (by omega) ga.2.1 hs34 n1 (by omega) (by omega) (by omega) (fun _ => ?_) (fun z => by omega)
        refine ihb _ ?_
        by_cases h4b : 4 ≤ rs'
        · rw [if_pos h4b] at k
          exact j123_142o (d := d + 4) (i := i) hW hp hm (by omega) ga.2.1 gb.2.1 hs34 (fun z => by omega) (fun _ => k)
        · rw [if_neg h4b] at k
          refine j123_142o (d := d + 4) (i := i) hW hp hm (by omega) ga.2.1 gb.2.1 hs34 (fun _ => ?_) (fun z => by omega)
          have gg := v_gd_bi (up := fun e f => v_b (v_up (q_iv S 1017) e) f) (s := s) (q := (qs, qx)) (r := (rs', rx))
          have fin : ∀ r, v_bi (fun e f => v_b (v_up (q_iv S 1017) e) f) s (qs, qx) (rs', rx) = r → w_k (d + 6) 123 175 [] [] Q (.returned (some (.long (v_w r.1 r.2)))) S := by
            intro r hr
            rw [hr] at k gg
            exact j123_178r (i := i) hW hp hm (by omega) gg.2.1 k
          have hs10 : s = 21 ∨ s = 22 ∨ s = 25 ∨ s = 23 ∨ s = 24 ∨ s = 27 ∨ s = 28 ∨ s = 29 := by
            unfold v_lv at f3
            repeat' split at f3
            all_goals omega
          have hw : lg_cmp (v_w qs qx) (v_w rs' rx) = 0 ↔ (qs, qx) = (rs', rx) := by
            rw [v_lg0, v_w_inj ga.2.1 gb.2.1]
            constructor
            · rintro ⟨rfl, rfl⟩; rfl
            · intro z; cases z; exact ⟨rfl, rfl⟩
          have fn : ∀ z : qs = 1, ∀ z' : rs' = 1, ∀ s', s' ≠ 21 → s' ≠ 22 → s' ≠ 25 → v_bi (fun e f => v_b (v_up (q_iv S 1017) e) f) s' (qs, qx) (rs', rx) = (if s' = 23 then (2, if qx < rx then 1 else 0) else if s' = 24 then (2, if qx ≤ rx then 1 else 0) else if s' = 27 then v_num (qx.toInt64 + rx.toInt64) else if s' = 28 then v_num (qx.toInt64 - rx.toInt64) else v_num (qx.toInt64 * rx.toInt64)) := by
            intro z z' s' a1 a2 a3
            unfold v_bi
            rw [if_neg a1, if_neg a2, if_neg a3, if_pos ⟨z, z'⟩]
          have f4n : ∀ s', s' ≠ 21 → s' ≠ 22 → s' ≠ 25 → (¬ qs = 1 ∨ ¬ rs' = 1) → v_bi (fun e f => v_b (v_up (q_iv S 1017) e) f) s' (qs, qx) (rs', rx) = (4, 0) := by
            intro s' a1 a2 a3 a4
            unfold v_bi
            rw [if_neg a1, if_neg a2, if_neg a3, if_neg (fun z => a4.elim (fun w => w z.1) (fun w => w z.2))]
          rcases hs10 with rfl | rfl | rfl | rfl | rfl | rfl | rfl | rfl
          · refine j136_0s21 (d := d + 3) (i := i) hW hp hm (by omega) ga.2.1 gb.2.1 (fun z => fin (2, 0) ?_) (fun z => fin (2, 1) ?_)
            · show (2, if (qs, qx) = (rs', rx) then (1 : Int32) else 0) = _
              rw [if_neg (fun w => z (hw.mpr w))]
            · show (2, if (qs, qx) = (rs', rx) then (1 : Int32) else 0) = _
              rw [if_pos (hw.mp z)]
          · refine j136_0s22 (d := d + 3) (i := i) hW hp hm (by omega) ga.2.1 gb.2.1 (fun z => fin (2, 0) ?_) (fun z => fin (2, 1) ?_)
            · show (2, if (qs, qx) = (rs', rx) then (0 : Int32) else 1) = _
              rw [if_pos (hw.mp z)]
            · show (2, if (qs, qx) = (rs', rx) then (0 : Int32) else 1) = _
              rw [if_neg (fun w => z (hw.mpr w))]
          · refine j136_0s25 (d := d + 3) (i := i) hW hp hm (by omega) ga.2.1 gb.2.1 (fun z => fin (4, 0) ?_) (fun z z' => fin (4, 0) ?_) (fun z z' => ?_)
            · unfold v_bi
              rw [if_neg (by decide), if_neg (by decide), if_pos rfl, if_neg (fun w => z w.1)]
            · unfold v_bi
              rw [if_neg (by decide), if_neg (by decide), if_pos rfl, if_neg (fun w => z' w.2)]
            · obtain ⟨e, he, hv⟩ := ga.2.2.2 z
              obtain ⟨e', he', hv'⟩ := gb.2.2.2 z'
              have hv : qx = nI e := hv
              have hv' : rx = nI e' := hv'
              subst hv; subst hv'
              refine x82 (d := d + 3) hW he' ?_
              have hbi : v_bi (fun e f => v_b (v_up (q_iv S 1017) e) f) 25 (qs, nI e) (rs', nI e') = (2, if v_b (v_up (q_iv S 1017) e) e' = true then 1 else 0) := by
                unfold v_bi
                rw [if_neg (by decide), if_neg (by decide), if_pos rfl, if_pos ⟨z, z'⟩]
                dsimp only
                rw [nI_clamp (by omega), nI_clamp (by omega)]
              cases hb : v_b (v_up (q_iv S 1017) e) e' with
              | true =>
                rw [hb] at hbi
                exact j136_iy (d := d + 3) hW (fin (2, 1) (by rw [hbi]; rfl))
              | false =>
                rw [hb] at hbi
                exact j136_in (d := d + 3) hW (fin (2, 0) (by rw [hbi]; rfl))
          · refine j136_0s23 (d := d + 2) (i := i) hW hp hm (by omega) ga.2.1 gb.2.1 (fun z => fin (4, 0) (f4n 23 (by decide) (by decide) (by decide) (Or.inl z))) (fun z z' => fin (4, 0) (f4n 23 (by decide) (by decide) (by decide) (Or.inr z'))) (fun z z' z'' => fin (2, 0) ?_) (fun z z' z'' => fin (2, 1) ?_)
            · rw [fn z z' 23 (by decide) (by decide) (by decide), if_pos rfl]
              have := (lg_cmp_ge _ _).mp z''
              rw [v_i64le] at this
              rw [if_neg (fun w => absurd this (Int32.not_le.mpr w))]
            · rw [fn z z' 23 (by decide) (by decide) (by decide), if_pos rfl]
              have : ¬ rx ≤ qx := fun w => z'' ((lg_cmp_ge _ _).mpr ((v_i64le _ _).mpr w))
              rw [if_pos (Int32.not_le.mp this)]
          · refine j136_0s24 (d := d + 2) (i := i) hW hp hm (by omega) ga.2.1 gb.2.1 (fun z => fin (4, 0) (f4n 24 (by decide) (by decide) (by decide) (Or.inl z))) (fun z z' => fin (4, 0) (f4n 24 (by decide) (by decide) (by decide) (Or.inr z'))) (fun z z' z'' => fin (2, 0) ?_) (fun z z' z'' => fin (2, 1) ?_)
            · rw [fn z z' 24 (by decide) (by decide) (by decide), if_neg (by decide), if_pos rfl]
              have hgt : rx.toInt64 < qx.toInt64 := by
                unfold lg_cmp at z''
                by_cases hh : qx.toInt64 > rx.toInt64
                · exact hh
                · rw [if_neg hh] at z''
                  split at z'' <;> exact absurd z'' (by decide)
              rw [v_i64lt] at hgt
              rw [if_neg (fun w => absurd hgt (Int32.not_lt.mpr w))]
            · rw [fn z z' 24 (by decide) (by decide) (by decide), if_neg (by decide), if_pos rfl]
              have hle : ¬ rx < qx := fun w => z'' (by unfold lg_cmp; rw [if_pos ((v_i64lt _ _).mpr w)]; decide)
              rw [if_pos (Int32.not_lt.mp hle)]
          · refine j136_0s27 (d := d + 1) (i := i) hW hp hm (by omega) ga.2.1 gb.2.1 (fun z => fin (4, 0) (f4n 27 (by decide) (by decide) (by decide) (Or.inl z))) (fun z z' => fin (4, 0) (f4n 27 (by decide) (by decide) (by decide) (Or.inr z'))) (fun z z' z'' => fin (6, 0) ?_) (fun z z' z'' => fin (1, (qx.toInt64 + rx.toInt64).toInt32) ?_)
            · rw [fn z z' 27 (by decide) (by decide) (by decide), if_neg (by decide), if_neg (by decide), if_pos rfl, v_num6 z'']
            · rw [fn z z' 27 (by decide) (by decide) (by decide), if_neg (by decide), if_neg (by decide), if_pos rfl, v_num1 z'']
          · refine j136_0s28 (d := d + 1) (i := i) hW hp hm (by omega) ga.2.1 gb.2.1 (fun z => fin (4, 0) (f4n 28 (by decide) (by decide) (by decide) (Or.inl z))) (fun z z' => fin (4, 0) (f4n 28 (by decide) (by decide) (by decide) (Or.inr z'))) (fun z z' z'' => fin (6, 0) ?_) (fun z z' z'' => fin (1, (qx.toInt64 - rx.toInt64).toInt32) ?_)
            · rw [fn z z' 28 (by decide) (by decide) (by decide), if_neg (by decide), if_neg (by decide), if_neg (by decide), if_pos rfl, v_num6 z'']
            · rw [fn z z' 28 (by decide) (by decide) (by decide), if_neg (by decide), if_neg (by decide), if_neg (by decide), if_pos rfl, v_num1 z'']
          · refine j136_0s29 (d := d + 1) (i := i) hW hp hm (by omega) ga.2.1 gb.2.1 (fun z => fin (4, 0) (f4n 29 (by decide) (by decide) (by decide) (Or.inl z))) (fun z z' => fin (4, 0) (f4n 29 (by decide) (by decide) (by decide) (Or.inr z'))) (fun z z' z'' => fin (6, 0) ?_) (fun z z' z'' => fin (1, (qx.toInt64 * rx.toInt64).toInt32) ?_)
            · rw [fn z z' 29 (by decide) (by decide) (by decide), if_neg (by decide), if_neg (by decide), if_neg (by decide), if_neg (by decide), v_num6 z'']
            · rw [fn z z' 29 (by decide) (by decide) (by decide), if_neg (by decide), if_neg (by decide), if_neg (by decide), if_neg (by decide), v_num1 z'']
end VCJ
