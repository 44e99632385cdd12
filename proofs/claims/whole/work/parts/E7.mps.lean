/-! THE REFERENCE'S CHECK: the second and the third pass; the whole. -/
section VMQ
variable {d L i j r lo0 : Nat} {kn0 : Int32} {xs : Nat → Int32} {ns : List v_Nd} {Q : Outcome → q_S → Prop} {ke : Nat → Nat} {dt : Nat → Nat → Nat} {su : Nat → Nat → Bool} {hd : v_Hd} {cs : List v_Cd} {T : List v_Tk}
theorem u_q2 (hi : i < 6) (hj : j < 13) (hr : r < 100) (hlo : lo0 ≤ 100) (hlen : ns.length ≤ 100) : ∀ h lo n kn S, v_tr h ns lo n → lo0 ≤ lo → w_W (q_S0 L xs) S → v_MN S (101 * i) i ns → q_iv S 1138 (101 * i + n) = kn → u_PM S (101 * i) ns h n → (∀ S', w_W (q_S0 L xs) S' → u_cg 1138 lo n (101 * i) S S' → u_PK S' (101 * i) ns h kn n → w_R d 198 141 (u_L1 i lo0 kn0 j r (nI lo + Int32.ofInt (-1))) [] S' Q) → w_R d 198 141 (u_L1 i lo0 kn0 j r (nI n)) [] S Q := by
  intro h
  induction h with
  | zero => intro lo n kn S h; exact h.elim
  | succ h ih =>
    intro lo n kn S ht hl0 hW hN hk hp kk
    have hl := v_tr_lo ht
    have sg := v_tr_sg ht
    obtain ⟨s, t, x, lf, rt, e1, e2⟩ := ht
    obtain ⟨s', t', x', l', r', e1', e2', e3'⟩ := sg
    rw [e1] at e1'
    cases e1'
    obtain ⟨_, p2⟩ := hp
    rw [e1] at p2
    obtain ⟨n1, n2, n3, n4, n5⟩ := hN.2 n s t x lf rt e1
    rcases e2 with ⟨rfl, rfl, hlo', f3, f4, f5⟩ | ⟨a, rfl, rfl, ha, f3, f4⟩ | ⟨a, b, rfl, rfl, hb, f3, f4, f5, f6⟩
    · subst hlo'
      refine c198_141L hW hi hj (by omega) (by omega) hlo (by omega) (by omega) n2 ?_
      exact kk S hW ⟨v_fr.refl, fun _ _ => rfl⟩ ⟨hk, by rw [e1]; trivial⟩
    · have ia := v_tr_lo f4
      refine c198_141U (kk := kn) (a := a) hW hi hj (by omega) (by omega) hlo (by omega) (by omega) (by omega) n2 hk n3 ?_
      rw [← ha, u_m1 a (by omega)]
      have fr1 : v_fr (u_xi 1138) S (q_sI S 1138 (101 * i + a) kn) := v_fr.refl.sI (by decide)
      have hN1 : v_MN (q_sI S 1138 (101 * i + a) kn) (101 * i) i ns := hN.fr fr1 (fun a h1 h2 => u_xi_no (by omega))
      have hp1 : u_PM (q_sI S 1138 (101 * i + a) kn) (101 * i) ns h a := u_PM_congr h lo a f4 (fun j h1 h2 => v_aI (by decide)) p2
      refine ih lo a kn _ f4 hl0 (hW.sI (by decide)) hN1 v_hI hp1 (fun S' hW' hc' hp' => ?_)
      refine kk S' hW' ⟨fr1.trans hc'.1, fun j hj => ?_⟩ ⟨?_, ?_⟩
      · rw [hc'.2 j (by omega), v_kI (by omega)]
      · rw [hc'.2 n (by omega), v_kI (by omega)]; exact hk
      · rw [e1]; exact hp'
    · have ia := v_tr_lo f5
      have ib := v_tr_lo f6
      have w := u_nw (s := s) (r := some b) e3'
      have go : ∀ kb, kb = (kn ||| (if s = 20 then u_mk ns h a else 0)) → w_R d 198 141 (u_L1 i lo0 kn0 j r (nI n + Int32.ofInt (-1))) [] (q_sI (q_sI S 1138 (101 * i + a) kn) 1138 (101 * i + b) kb) Q := by
        intro kb hkb
        rw [← hb, u_m1 b (by omega)]
        have fr1 : v_fr (u_xi 1138) S (q_sI (q_sI S 1138 (101 * i + a) kn) 1138 (101 * i + b) kb) := (v_fr.refl.sI (by decide)).sI (by decide)
        have hN1 : v_MN (q_sI (q_sI S 1138 (101 * i + a) kn) 1138 (101 * i + b) kb) (101 * i) i ns := hN.fr fr1 (fun a h1 h2 => u_xi_no (by omega))
        have hpb : u_PM (q_sI (q_sI S 1138 (101 * i + a) kn) 1138 (101 * i + b) kb) (101 * i) ns h b := u_PM_congr h (a + 1) b f6 (fun j h1 h2 => by rw [v_aI (by decide), v_aI (by decide)]) p2.2
        refine ih (a + 1) b kb _ f6 (by omega) ((hW.sI (by decide)).sI (by decide)) hN1 v_hI hpb (fun S1 hW1 hc1 hk1 => ?_)
        rw [u_m1 a (by omega)]
        have hN2 : v_MN S1 (101 * i) i ns := hN1.fr hc1.1 (fun a h1 h2 => u_xi_no (by omega))
        have hpa : u_PM S1 (101 * i) ns h a := u_PM_congr h lo a f5 (fun j h1 h2 => by rw [hc1.1.iv (u_xi_no (by decide)), v_aI (by decide), v_aI (by decide)]) p2.1
        refine ih lo a kn _ f5 hl0 hW1 hN2 (by rw [hc1.2 a (by omega), v_kI (by omega)]; exact v_hI) hpa (fun S2 hW2 hc2 hk2 => ?_)
        refine kk S2 hW2 ⟨(fr1.trans hc1.1).trans hc2.1, fun j hj => ?_⟩ ⟨?_, ?_⟩
        · rw [hc2.2 j (by omega), hc1.2 j (by omega), v_kI (by omega), v_kI (by omega)]
        · rw [hc2.2 n (by omega), hc1.2 n (by omega), v_kI (by omega), v_kI (by omega)]; exact hk
        · rw [e1]
          refine ⟨hk2, ?_⟩
          rw [← hkb]
          exact u_PK_congr h (a + 1) b kb f6 (fun j h1 h2 => hc2.2 j (by omega)) hk1
      obtain ⟨h, rfl⟩ : ∃ q, h = q + 1 := by
        cases h with
        | zero => exact f5.elim
        | succ q => exact ⟨q, rfl⟩
      by_cases h20 : s = 20
      · exact c198_141Ba (kk := kn) (a := a) (b := b) hW hi hj (by omega) (by omega) hlo (by omega) (by omega) (by omega) (by omega) (by omega) n2 hk n3 (by rw [n1, w.2.2.1.mpr h20]; rfl) p2.1.1 (go _ (by rw [if_pos h20]))
      · exact c198_141Bo (kk := kn) (w := v_nw s (some b)) (a := a) (b := b) hW hi hj (by omega) (by omega) hlo (by omega) (by omega) (by omega) (by omega) (by omega) (fun z => h20 (w.2.2.1.mp z)) n2 hk n3 w.2.2.2.2.2 n1 (go _ (by rw [if_neg h20]))
/-- what the third pass leaves -/
def u_c2 (lo i o : Nat) (S S' : q_S) : Prop := v_fr u_x2 S S' ∧ ∀ c, c = 1135 ∨ c = 1136 → ∀ j, j < lo ∨ i < j → q_iv S' c (o + j) = q_iv S c (o + j)
theorem u_pt_fr {S : q_S} {m t : Nat} : v_fr u_x2 S (u_pt S m t) := (v_fr.refl.sI (by decide)).sI (by decide)
theorem u_KM.fr {S S' : q_S} (h : u_KM S ke dt su) (hf : v_fr u_x2 S S') : u_KM S' ke dt su := by
  unfold u_KM
  rw [hf.iv (u_x2_no (a := 1117) (by decide) (by decide)), hf.iv (u_x2_no (a := 1118) (by decide) (by decide)), hf.iv (u_x2_no (a := 1122) (by decide) (by decide)), hf.iv (u_x2_no (a := 1123) (by decide) (by decide)), hf.iv (u_x2_no (a := 1124) (by decide) (by decide))]
  exact h
theorem u_p3 (hi : i < 6) (hj : j < 13) (hr : r < 100) (hT : u_KT ke dt) (hF : v_WF (T.length - 1) (v_tg T) hd ns cs) : ∀ h lo n kn S, v_tr h ns lo n → n ≤ r → w_W (q_S0 L xs) S → v_MN S (101 * i) i ns → v_MH S i hd → v_MTk S (101 * i) i T → u_KM S ke dt su → u_PK S (101 * i) ns h kn n → ((u_ck ke dt su hd ns h kn n).1 = 0 → ∀ S', w_W (q_S0 L xs) S' → v_fr u_x2 S S' → Q (.returned (some (.int (nI (v_tp T (u_ck ke dt su hd ns h kn n).2))))) S') → (¬ (u_ck ke dt su hd ns h kn n).1 = 0 → ∀ S', w_W (q_S0 L xs) S' → u_c2 lo n (101 * i) S S' → q_iv S' 1135 (101 * i + n) = nI ((u_ck ke dt su hd ns h kn n).1 % 4) → q_iv S' 1136 (101 * i + n) = nI ((u_ck ke dt su hd ns h kn n).1 / 4) → w_R (d + 3) 198 259 (u_L3 i kn0 j r (nI (n + 1))) [] S' Q) → w_R (d + 3) 198 259 (u_L3 i kn0 j r (nI lo)) [] S Q := by
  have hlen := hF.2.2.1
  have htk := hF.2.2.2.2.1
  have hN100 := hF.2.1
  intro h
  induction h with
  | zero => intro lo n kn S h; exact h.elim
  | succ h ih =>
    intro lo n kn S ht hnr hW hN hH hK hM hp k0 k1
    have hl := v_tr_lo ht
    have sg := v_tr_sg ht
    have ht0 := ht
    obtain ⟨s, t, x, lf, rt, e1, e2⟩ := ht
    obtain ⟨s', t', x', l', r', e1', e2', e3'⟩ := sg
    rw [e1] at e1'
    cases e1'
    obtain ⟨pk, p2⟩ := hp
    rw [e1] at p2
    have htt := htk n s t x lf rt e1
    -- how a node ends
    have bad : ∀ S1, v_fr u_x2 S S1 → w_W (q_S0 L xs) S1 → u_ck ke dt su hd ns (h + 1) kn n = (0, t) → w_R (d + 3) 198 276 (u_L3 i kn0 j r (nI n)) [.int 0] S1 Q := by
      intro S1 hf hW1 he
      rw [he] at k0
      have m7 : q_iv S1 1107 (101 * i + n) = nI t := by
        rw [hf.iv (u_x2_no (by decide) (by decide))]
        exact (hN.2 n s t x lf rt e1).2.2.2.2
      have m1 : q_iv S1 1101 (101 * i + t) = nI (v_tp T t) := by
        rw [hf.iv (u_x2_no (by decide) (by decide))]
        exact (hK.2 t htt).2
      exact c198_276n (tk := t) (lo := 0) hW1 hi hj (by omega) (by omega) (by omega) (by omega) (by omega) m7 m1 (k0 rfl S1 hW1 hf)
    have good : ∀ S1 ty, u_c2 lo (n - 1) (101 * i) S S1 ∨ S1 = S → w_W (q_S0 L xs) S1 → u_ck ke dt su hd ns (h + 1) kn n = (ty, t) → ¬ ty = 0 → w_R (d + 3) 198 276 (u_L3 i kn0 j r (nI n)) [.int 1] (u_pt S1 (101 * i + n) ty) Q := by
      intro S1 ty hf hW1 he hz
      rw [he] at k1
      refine c198_276y (lo := 0) ((hW1.sI (by decide)).sI (by decide)) hi hj (by omega) (by omega) (by omega) ?_
      refine k1 hz _ ((hW1.sI (by decide)).sI (by decide)) ?_ ?_ v_hI
      · have hf' : v_fr u_x2 S S1 := by
          rcases hf with hf | rfl
          · exact hf.1
          · exact v_fr.refl
        refine ⟨hf'.trans u_pt_fr, fun c hc jj hj => ?_⟩
        rw [v_kI (by omega), v_kI (by omega)]
        rcases hf with hf | rfl
        · exact hf.2 c hc jj (by omega)
        · rfl
      · rw [v_aI (by decide)]; exact v_hI
    rcases e2 with ⟨rfl, rfl, hlo', f3, f4, f5⟩ | ⟨a, rfl, rfl, ha, f3, f4⟩ | ⟨a, b, rfl, rfl, hb, f3, f4, f5, f6⟩
    · subst hlo'
      have em : u_ck ke dt su hd ns (h + 1) kn lo = (u_lft ke hd s x, t) := by conv => lhs; unfold u_ck; rw [e1]
      have ok := u_lft_ok (hd := hd) hT hF f4 f3
      refine c198_259s (d := d + 2) (lo := 0) hW hi hj (by omega) (by omega) (by omega) (by omega) hnr (by omega) ?_
      refine x200L hW hM hT hi (by omega) hN hH hF e1 f3 f4 f5 ?_
      exact good S _ (Or.inr rfl) hW em (by have := u_ok_lt ok; omega)
    · have ia := v_tr_lo f4
      have em : u_ck ke dt su hd ns (h + 1) kn n = if (u_ck ke dt su hd ns h kn a).1 = 0 then u_ck ke dt su hd ns h kn a else (u_one dt su (u_sg ns a) kn s x (u_ck ke dt su hd ns h kn a).1, t) := by conv => lhs; unfold u_ck; rw [e1]
      have oka := u_ck_ok (su := su) (hd := hd) hT hF h lo a kn f4
      refine ih lo a kn S f4 (by omega) hW hN hH hK hM p2 (fun z S1 hW1 hf1 => ?_) (fun z S1 hW1 hc1 y5 y6 => ?_)
      · rw [if_pos z] at em
        rw [em] at k0
        exact k0 z S1 hW1 hf1
      · rw [if_neg z] at em
        have hok := oka.resolve_left z
        have hN1 : v_MN S1 (101 * i) i ns := hN.fr hc1.1 (fun a h1 h2 => u_x2_no (by omega) (by omega))
        have pk1 : q_iv S1 1138 (101 * i + n) = kn := by rw [hc1.1.iv (u_x2_no (by decide) (by decide))]; exact pk
        rw [ha]
        refine c198_259s (d := d + 2) (lo := 0) hW1 hi hj (by omega) (by omega) (by omega) (by omega) hnr (by omega) ?_
        refine x200U (d := d) hW1 (hM.fr hc1.1) hT hi (by omega) hN1 e1 (by omega) f4 f3 hok y5 y6 pk1 (fun zz S2 hS2 => ?_) (fun zz => ?_)
        · refine bad S2 ?_ ?_ (by rw [em, zz])
          · rcases hS2 with rfl | ⟨y, rfl⟩
            · exact hc1.1
            · exact hc1.1.trans u_pt_fr
          · rcases hS2 with rfl | ⟨y, rfl⟩
            · exact hW1
            · exact (hW1.sI (by decide)).sI (by decide)
        · exact good S1 _ (Or.inl ⟨hc1.1, fun c hc j hj => hc1.2 c hc j (by omega)⟩) hW1 em zz
    · have ia := v_tr_lo f5
      have ib := v_tr_lo f6
      have em : u_ck ke dt su hd ns (h + 1) kn n = if (u_ck ke dt su hd ns h kn a).1 = 0 then u_ck ke dt su hd ns h kn a else if (u_ck ke dt su hd ns h (kn ||| (if s = 20 then u_mk ns h a else 0)) b).1 = 0 then u_ck ke dt su hd ns h (kn ||| (if s = 20 then u_mk ns h a else 0)) b else (u_two s (u_ck ke dt su hd ns h kn a).1 (u_ck ke dt su hd ns h (kn ||| (if s = 20 then u_mk ns h a else 0)) b).1, t) := by conv => lhs; unfold u_ck; rw [e1]
      refine ih lo a kn S f5 (by omega) hW hN hH hK hM p2.1 (fun z S1 hW1 hf1 => ?_) (fun z S1 hW1 hc1 y5 y6 => ?_)
      · rw [if_pos z] at em
        rw [em] at k0
        exact k0 z S1 hW1 hf1
      · rw [if_neg z] at em
        have hN1 : v_MN S1 (101 * i) i ns := hN.fr hc1.1 (fun a h1 h2 => u_x2_no (by omega) (by omega))
        have hH1 : v_MH S1 i hd := by
          unfold v_MH
          rw [hc1.1.iv (u_x2_no (a := 1110) (by decide) (by decide)), hc1.1.iv (u_x2_no (a := 1111) (by decide) (by decide)), hc1.1.iv (u_x2_no (a := 1112) (by decide) (by decide)), hc1.1.iv (u_x2_no (a := 1113) (by decide) (by decide))]
          exact hH
        have hK1 : v_MTk S1 (101 * i) i T := by
          unfold v_MTk
          rw [hc1.1.iv (u_x2_no (a := 1102) (by decide) (by decide)), hc1.1.iv (u_x2_no (a := 1099) (by decide) (by decide)), hc1.1.iv (u_x2_no (a := 1101) (by decide) (by decide))]
          exact hK
        have pb1 := u_PK_congr (S' := S1) h (a + 1) b _ f6 (fun j h1 h2 => by rw [hc1.1.iv (u_x2_no (by decide) (by decide))]) p2.2
        refine ih (a + 1) b _ S1 f6 (by omega) hW1 hN1 hH1 hK1 (hM.fr hc1.1) pb1 (fun z2 S2 hW2 hf2 => ?_) (fun z2 S2 hW2 hc2 x5 x6 => ?_)
        · rw [if_pos z2] at em
          rw [em] at k0
          exact k0 z2 S2 hW2 (hc1.1.trans hf2)
        · rw [if_neg z2] at em
          have hN2 : v_MN S2 (101 * i) i ns := hN1.fr hc2.1 (fun a h1 h2 => u_x2_no (by omega) (by omega))
          have y5' : q_iv S2 1135 (101 * i + a) = nI ((u_ck ke dt su hd ns h kn a).1 % 4) := by rw [hc2.2 1135 (Or.inl rfl) a (by omega)]; exact y5
          have cc : u_c2 lo (n - 1) (101 * i) S S2 := ⟨hc1.1.trans hc2.1, fun c hc j hj => (hc2.2 c hc j (by omega)).trans (hc1.2 c hc j (by omega))⟩
          rw [hb]
          refine c198_259s (d := d + 2) (lo := 0) hW2 hi hj (by omega) (by omega) (by omega) (by omega) hnr (by omega) ?_
          refine x200B (d := d) hW2 hi (by omega) hN2 e1 (by omega) (by omega) (by omega) f3 f4 y5' x5 (fun zz S3 hS3 => ?_) (fun zz => ?_)
          · refine bad S3 ?_ ?_ (by rw [em, zz])
            · rcases hS3 with rfl | ⟨y, rfl⟩
              · exact cc.1
              · exact cc.1.trans u_pt_fr
            · rcases hS3 with rfl | ⟨y, rfl⟩
              · exact hW2
              · exact (hW2.sI (by decide)).sI (by decide)
          · exact good S2 _ (Or.inl cc) hW2 em zz
def u_xc (a : Nat) : Bool := decide (1135 ≤ a) && decide (a ≤ 1138)
theorem u_xc_no {a : Nat} (h : a < 1135 ∨ 1138 < a) : u_xc a = false := by
  unfold u_xc
  rcases h with h | h
  · rw [decide_eq_false (by omega)]; rfl
  · rw [decide_eq_false (p := a ≤ 1138) (by omega), Bool.and_false]
theorem u_xi_xc {c : Nat} (h : 1135 ≤ c ∧ c ≤ 1138) : ∀ a, u_xc a = false → u_xi c a = false := by
  intro a ha
  refine u_xi_no (fun z => ?_)
  subst z
  unfold u_xc at ha
  rw [decide_eq_true h.1, decide_eq_true h.2] at ha
  cases ha
theorem u_x2_xc : ∀ a, u_xc a = false → u_x2 a = false := by
  intro a ha
  unfold u_xc at ha
  refine u_x2_no (fun z => ?_) (fun z => ?_) <;> (subst z; exact absurd ha (by decide))
theorem u_mcarry {S S1 : q_S} (hf : v_fr u_xc S S1) (hN : v_MN S (101 * i) i ns) (hH : v_MH S i hd) (hK : v_MTk S (101 * i) i T) (hM : u_KM S ke dt su) (hC : v_MC S (20 * i) i cs) : v_MN S1 (101 * i) i ns ∧ v_MH S1 i hd ∧ v_MTk S1 (101 * i) i T ∧ u_KM S1 ke dt su ∧ v_MC S1 (20 * i) i cs := by
  have f : ∀ a, a < 1135 → q_iv S1 a = q_iv S a := fun a ha => hf.iv (u_xc_no (Or.inl ha))
  refine ⟨hN.fr hf (fun a h1 h2 => u_xc_no (by omega)), ?_, ?_, ?_, ?_⟩
  · unfold v_MH; rw [f 1110 (by decide), f 1111 (by decide), f 1112 (by decide), f 1113 (by decide)]; exact hH
  · unfold v_MTk; rw [f 1102 (by decide), f 1099 (by decide), f 1101 (by decide)]; exact hK
  · unfold u_KM; rw [f 1117 (by decide), f 1118 (by decide), f 1122 (by decide), f 1123 (by decide), f 1124 (by decide)]; exact hM
  · unfold v_MC; rw [f 1114 (by decide), f 1115 (by decide), f 1116 (by decide)]; exact hC
theorem u_mfw {S : q_S} (hi : i < 6) (hT : u_KT ke dt) (hF : v_WF (T.length - 1) (v_tg T) hd ns cs) (hg34 : ∀ j, j < T.length - 1 → v_tg T j < 34) (hN : v_MN S (101 * i) i ns) (hH : v_MH S i hd) (hK : v_MTk S (101 * i) i T) (hM : u_KM S ke dt su) (hC : v_MC S (20 * i) i cs) (kk : ∀ r S', r = u_pc (v_tp T) (u_fw ke dt su hd ns 0 cs) → w_W (q_S0 L xs) S' → v_fr u_xc S S' → Q (.returned (some (.int r))) S') : ∀ cs' j lo kn S1, cs.drop j = cs' → v_rg ns lo cs' → lo ≤ 100 → w_W (q_S0 L xs) S1 → v_fr u_xc S S1 → u_fw ke dt su hd ns 0 cs = u_fw ke dt su hd ns kn cs' → j ≤ cs.length → w_R (d + 3) 198 51 [(0, .ref 1097), (1, .int (nI i)), (2, .int (nI (101 * i))), (3, .int (nI lo)), (4, .int kn), (5, .int (nI (20 * i + j)))] [] S1 Q := by
  obtain ⟨_, hN100, hlen, wl, _, _, _, wc⟩ := id hF
  intro cs'
  induction cs' with
  | nil =>
    intro j lo kn S1 hj hrg hlo hW hf he hjl
    have hl : cs.length ≤ j := List.drop_eq_nil_iff.mp hj
    obtain ⟨_, _, _, _, hC1⟩ := u_mcarry hf hN hH hK hM hC
    rw [he] at kk
    exact c198_51e (n := 0) (r := 0) (cn := cs.length) hW hi (by omega) (by omega) (by omega) hlo (by omega) (by omega) hC1.1 (kk _ S1 rfl hW hf)
  | cons c cs' ih =>
    intro j lo kn S1 hj hrg hlo hW hf he hjl
    obtain ⟨h1, h2⟩ := v_dropS hj
    obtain ⟨w, t, r⟩ := c
    obtain ⟨hjc, _⟩ := List.getElem?_eq_some_iff.mp h1
    obtain ⟨t1, t2⟩ := wc j w t r h1
    obtain ⟨ht, hrg'⟩ := hrg
    dsimp only at ht hrg'
    have hl := v_tr_lo ht
    rw [u_fw_c] at he
    obtain ⟨hN1, hH1, hK1, hM1, hC1⟩ := u_mcarry hf hN hH hK hM hC
    refine c198_51s (n := 0) (r := 0) (cn := cs.length) (rr := r) hW hi (by omega) (by omega) (by omega) hlo (by omega) (by omega) hC1.1 (by omega) (hC1.2 j w t r h1).2 ?_
    refine u_p1 (d := d + 2) (h := 50) hi (by omega) (by omega) hlo hlen lo r S1 ht (Nat.le_refl _) hW hN1 (fun S2 hW2 hc2 hp2 => ?_)
    have hf2 : v_fr u_xc S S2 := hf.trans (hc2.1.mono (u_xi_xc (by decide)))
    refine c198_79e hW2 hi (by omega) (by omega) (by omega) hlo (by omega) (by omega) ?_
    have hW3 : w_W (q_S0 L xs) (q_sI S2 1138 (101 * i + r) kn) := hW2.sI (by decide)
    have hf3 : v_fr u_xc S (q_sI S2 1138 (101 * i + r) kn) := hf2.sI (by decide)
    obtain ⟨hN3, _, _, _, _⟩ := u_mcarry hf3 hN hH hK hM hC
    have hp3 : u_PM (q_sI S2 1138 (101 * i + r) kn) (101 * i) ns 50 r := u_PM_congr 50 lo r ht (fun j _ _ => v_aI (by decide)) hp2
    refine u_q2 (h := 50) hi (by omega) (by omega) hlo hlen lo r kn _ ht (Nat.le_refl _) hW3 hN3 v_hI hp3 (fun S4 hW4 hc4 hp4 => ?_)
    have hf4 : v_fr u_xc S S4 := hf3.trans (hc4.1.mono (u_xi_xc (by decide)))
    obtain ⟨hN4, hH4, hK4, hM4, hC4⟩ := u_mcarry hf4 hN hH hK hM hC
    have m4 : q_iv S4 1137 (101 * i + r) = u_mk ns 50 r := by
      rw [hc4.1.iv (u_xi_no (by decide))]
      exact hp3.1
    refine c198_141e (n := 0) hW4 hi (by omega) (by omega) (by omega) hlo (u_ml lo (by omega)) ?_
    have ok := u_ck_ok (su := su) (hd := hd) hT hF 50 lo r kn ht
    refine u_p3 (h := 50) hi (by omega) (by omega) hT hF lo r kn S4 ht (Nat.le_refl _) hW4 hN4 hH4 hK4 hM4 hp4 (fun z S5 hW5 hf5 => ?_) (fun z S5 hW5 hc5 y5 _ => ?_)
    · rw [if_pos z] at he
      rw [he] at kk
      exact kk _ S5 rfl hW5 (hf4.trans (hf5.mono u_x2_xc))
    · rw [if_neg z] at he
      have hok := ok.resolve_left z
      have hf5 : v_fr u_xc S S5 := hf4.trans (hc5.1.mono u_x2_xc)
      obtain ⟨_, _, hK5, _, hC5⟩ := u_mcarry hf5 hN hH hK hM hC
      have m5 : q_iv S5 1137 (101 * i + r) = u_mk ns 50 r := by
        rw [hc5.1.iv (u_x2_no (by decide) (by decide))]
        exact m4
      have c5 := (hC5.2 j w t r h1).1
      have c34 := (v_wchp (hg34 t t1)).2.2.2.2.2.2.2.1
      have wlt : v_wc (v_tg T t) < 2000 := (u_wc34 _ (hg34 t t1)).2.2.2.2.2
      have e2 : (u_ck ke dt su hd ns 50 kn r).1 % 4 = 2 ↔ (u_ck ke dt su hd ns 50 kn r).1 = 2 := by
        unfold u_ok at hok
        omega
      refine c198_259e (lo := 0) (tt := (u_ck ke dt su hd ns 50 kn r).1 % 4) (tk := t) (wc := v_wc (v_tg T t)) hW5 hi (by omega) (by omega) (by omega) (by omega) (by omega) (by omega) (by omega) y5 (by omega) (fun _ => c5) wlt (fun _ => (hK5.2 t t1).1) (fun _ _ => m5) (fun _ => c5) (fun _ => (hK5.2 t t1).2) (fun a b => ?_) (fun a b => ?_) (fun a => ?_)
      · have hw : w = 0 := by rw [t2, if_neg (fun z => b (c34.mpr z))]
        rw [if_pos (e2.mp a), if_pos hw, u_or0] at he
        exact ih (j + 1) (r + 1) kn S5 h2 hrg' (by omega) hW5 hf5 he (by omega)
      · have hw : ¬ w = 0 := by rw [t2, if_pos (c34.mp b)]; decide
        rw [if_pos (e2.mp a), if_neg hw] at he
        exact ih (j + 1) (r + 1) _ S5 h2 hrg' (by omega) hW5 hf5 he (by omega)
      · rw [if_neg (fun z => a (e2.mpr z))] at he
        rw [he] at kk
        exact kk _ S5 rfl hW5 hf5
end VMQ
