/-! THE CLASS'S CHECKER finds what the function says. -/
section VCL
variable {L P N : Nat} {xs : Nat → Int32} {S : q_S} {pl g : Nat → Nat} {ke : Nat → Nat} {dt : Nat → Nat → Nat} {su : Nat → Nat → Bool} {hd : v_Hd} {ns : List v_Nd} {cs : List v_Cd}
def u_CE (S : q_S) (P N : Nat) (g pl : Nat → Nat) (ke : Nat → Nat) (dt : Nat → Nat → Nat) (su : Nat → Nat → Bool) (hd : v_Hd) (ns : List v_Nd) (cs : List v_Cd) : Prop := w_P P ∧ q_rv S 1030 2 = some P ∧ v_CN S P pl ns ∧ v_CH S P hd ∧ u_KC S ke dt su ∧ u_KT ke dt ∧ v_WF N g hd ns cs
theorem v_tr_sg {h lo i : Nat} (ht : v_tr h ns lo i) : ∃ s t x l r, ns[i]? = some (s, t, x, l, r) ∧ u_sg ns i = s ∧ s < 34 := by
  cases h with
  | zero => exact ht.elim
  | succ h =>
    obtain ⟨s, t, x, l, r, e1, e2⟩ := ht
    refine ⟨s, t, x, l, r, e1, by unfold u_sg; rw [e1], ?_⟩
    rcases e2 with ⟨_, _, _, f3, _⟩ | ⟨a, _, _, _, f3, _⟩ | ⟨a, b, _, _, _, f3, _⟩
    · unfold v_lf at f3
      simp only [Bool.or_eq_true, decide_eq_true_eq] at f3
      omega
    · omega
    · exact v_lv34 f3
theorem x113 {d i a s t x h lo : Nat} {r : Option Nat} {Q : Outcome → q_S → Prop} (hW : w_W (q_S0 L xs) S) (hp : w_P P) (hm : q_rv S 1030 2 = some P) (hN : v_CN S P pl ns) (hlen : ns.length ≤ 100) (e1 : ns[i]? = some (s, t, x, some a, r)) (ht : v_tr h ns lo a) (hx : x < 3) (kk : Q (.returned (some (.int (u_kb (u_sg ns a) x)))) S) : w_X d 113 [.ref 1030, .int (nI i)] S Q := by
  obtain ⟨hi, _⟩ := List.getElem?_eq_some_iff.mp e1
  have ha := (v_tr_lo ht).2
  obtain ⟨_, _, n3, n4, _⟩ := hN.2 i s t x (some a) r e1
  obtain ⟨s', t', x', l', r', e1', e2', e3'⟩ := v_tr_sg ht
  have m1 := (hN.2 a s' t' x' l' r' e1').1
  rw [e2'] at kk
  by_cases h6 : s' = 6
  · subst h6
    exact k113_0p hW hp hm (by omega) (by omega) hx n4 n3 m1 kk
  · by_cases h7 : s' = 7
    · subst h7
      exact k113_0r hW hp hm (by omega) (by omega) hx n4 n3 m1 kk
    · unfold u_kb at kk
      rw [if_neg h6, if_neg h7] at kk
      exact k113_0o hW hp hm (by omega) (by omega) hx n4 n3 h6 h7 e3' m1 kk
theorem u_c115 (hW : w_W (q_S0 L xs) S) (hp : w_P P) (hm : q_rv S 1030 2 = some P) (hN : v_CN S P pl ns) (hlen : ns.length ≤ 100) : ∀ h lo i l d Q, v_tr h ns lo i → l + h ≤ 51 → h + 3 ≤ d → Q (.returned (some (.int (u_mk ns h i)))) S → w_X d 115 [.ref 1030, .int (nI i), .int (nI l)] S Q := by
  intro h
  induction h with
  | zero => intro lo i l d Q h; exact h.elim
  | succ h ih =>
    intro lo i l d Q ht hl hdd kk
    have hi := (v_tr_lo ht).2
    have sg := v_tr_sg ht
    obtain ⟨s, t, x, lf, rt, e1, e2⟩ := ht
    obtain ⟨s', t', x', l', r', e1', e2', e3'⟩ := sg
    rw [e1] at e1'
    cases e1'
    obtain ⟨n1, n2, n3, n4, n5⟩ := hN.2 i s t x lf rt e1
    obtain ⟨d, rfl⟩ : ∃ k, d = k + 1 := ⟨d - 1, by omega⟩
    unfold u_mk at kk
    rw [e1] at kk
    rcases e2 with ⟨rfl, rfl, _, f3, f4, f5⟩ | ⟨a, rfl, rfl, ha, f3, f4⟩ | ⟨a, b, rfl, rfl, hb, f3, f4, f5, f6⟩
    · have h6 : s = 30 ∨ s = 4 ∨ s = 5 ∨ s = 31 ∨ s = 6 ∨ s = 7 := by
        unfold v_lf at f3
        simp only [Bool.or_eq_true, decide_eq_true_eq] at f3
        exact f3
      exact k115_0o hW hp hm (by omega) (by omega) (by omega) (by omega) (by omega) (by omega) e3' n1 (fun _ => kk) (fun _ => kk)
    · dsimp only at kk
      by_cases h26 : s = 26
      · subst h26
        rw [if_pos rfl] at kk
        refine k115_0h hW hp hm (by omega) (by omega) n1 ?_
        exact x113 hW hp hm hN hlen e1 f4 (by omega) (k115_22 hW hp hm (i := i) (by omega) kk)
      · rw [if_neg h26] at kk
        exact k115_0o hW hp hm (by omega) (by omega) (by omega) (by omega) (by omega) (by omega) e3' n1 (fun _ => kk) (fun _ => kk)
    · dsimp only at kk
      have ia := (v_tr_lo f5).2
      have ib := (v_tr_lo f6).2
      by_cases h20 : s = 20
      · subst h20
        rw [if_pos rfl] at kk
        refine k115_0b20 (a := a) hW hp hm (by omega) (by omega) (by omega) n1 (by omega) (fun _ => n4) (fun z => by omega) (fun _ => ?_)
        refine ih lo a (l + 1) _ _ f5 (by omega) (by omega) ?_
        refine k115_61b20 (b := b) hW hp hm (by omega) (by omega) (by omega) n5 ?_
        refine ih (a + 1) b (l + 1) _ _ f6 (by omega) (by omega) ?_
        exact k115_79b20 hW hp hm (i := i) (by omega) kk
      · rw [if_neg h20] at kk
        by_cases h19 : s = 19
        · subst h19
          rw [if_pos rfl] at kk
          refine k115_0b19 (a := a) hW hp hm (by omega) (by omega) (by omega) n1 (by omega) (fun _ => n4) (fun z => by omega) (fun _ => ?_)
          refine ih lo a (l + 1) _ _ f5 (by omega) (by omega) ?_
          refine k115_61b19 (b := b) hW hp hm (by omega) (by omega) (by omega) n5 ?_
          refine ih (a + 1) b (l + 1) _ _ f6 (by omega) (by omega) ?_
          exact k115_79b19 hW hp hm (i := i) (by omega) kk
        · rw [if_neg h19] at kk
          exact k115_0o hW hp hm (by omega) (by omega) f4 h20 h19 (by omega) e3' n1 (fun _ => kk) (fun _ => kk)
theorem u_i1 : nI 1 = 1 := rfl
theorem u_i2 : nI 2 = 2 := rfl
theorem u_tc0 : u_tc 0 = -1 := rfl
theorem u_tcn {t : Nat} (h : ¬ t = 0) : u_tc t = nI t := if_neg h
/-- typeOfOne -/
theorem x108 {d i a s t x h lo tp : Nat} {kn : Int32} {Q : Outcome → q_S → Prop} (hW : w_W (q_S0 L xs) S) (hE : u_CE S P N g pl ke dt su hd ns cs) (e1 : ns[i]? = some (s, t, x, some a, none)) (ht : v_tr h ns lo a) (hs : s = 18 ∨ s = 28 ∨ ((s = 16 ∨ s = 26) ∧ x < 3)) (hok : u_ok tp) (kk : Q (.returned (some (.int (u_tc (u_one dt su (u_sg ns a) kn s x tp))))) S) : w_X (d + 4) 108 [.ref 1030, .int (nI i), .int (nI tp), .int kn] S Q := by
  obtain ⟨hp, hm, hN, hH, hK, hT, hF⟩ := hE
  obtain ⟨hi, _⟩ := List.getElem?_eq_some_iff.mp e1
  have hlen := hF.2.2.1
  have h32 := u_ok_lt hok
  obtain ⟨n1, _, n3, n4, _⟩ := hN.2 i s t x (some a) none e1
  unfold u_one at kk
  rcases hs with rfl | rfl | ⟨rfl | rfl, hx⟩
  · rw [if_pos rfl] at kk
    refine k108_0s18 hW hp hm (by omega) h32.2 n1 (fun c => ?_) (fun c => ?_)
    · rw [if_neg c] at kk; exact kk
    · rw [if_pos c, u_tcn (by omega)] at kk; exact kk
  · rw [if_neg (by decide), if_pos rfl] at kk
    refine k108_0s28 hW hp hm (by omega) h32.2 n1 (fun c => ?_) (fun c => ?_)
    · rw [if_neg c] at kk; exact kk
    · rw [if_pos c, u_tcn (by omega)] at kk; exact kk
  · rw [if_neg (by decide), if_neg (by decide), if_neg (by decide)] at kk
    refine k108_0s16 (d := d + 3) hW hp hm (by omega) h32.2 n1 (fun c => ?_) (fun c => ?_)
    · rw [if_neg c] at kk; exact kk
    · rw [if_pos c] at kk
      have hk8 : tp / 4 < 8 := by omega
      refine k111_0 (d := d + 2) hW hp hm (by omega) hx hk8 n3 ?_
      refine x112 hW hK hk8 hx ?_
      by_cases has : u_as su (tp / 4) x = true
      · rw [if_pos has] at kk ⊢
        refine k111_21y (d := d + 2) hW hp hm (by omega) (by omega) (by omega) ?_
        refine x114 hW hT hK hk8 hx ?_
        exact k111_56 hW hp hm (i := i) (by omega) (k108_103 hW hp hm (i := i) (by omega) kk)
      · rw [if_neg has] at kk ⊢
        refine k111_21n (d := d + 2) hW hp hm (by omega) (by omega) (by omega) ?_
        refine x113 hW hp hm hN hlen e1 ht hx ?_
        refine k111_30 (d := d + 2) hW hp hm (i := i) (by omega) (by omega) (by omega) (fun c => ?_) (fun c => ?_)
        · rw [if_pos c] at kk
          exact k108_103 hW hp hm (i := i) (by omega) kk
        · rw [if_neg c] at kk
          refine x114 hW hT hK hk8 hx ?_
          exact k111_56 hW hp hm (i := i) (by omega) (k108_103 hW hp hm (i := i) (by omega) kk)
  · rw [if_neg (by decide), if_neg (by decide), if_pos rfl] at kk
    refine k108_0s26 hW hp hm (by omega) h32.2 n1 (fun c => ?_) (fun c => ?_)
    · rw [if_neg c] at kk; exact kk
    · rw [if_pos c] at kk; exact kk
/-- typeOfTwo -/
theorem x116 {d s t r : Nat} {Q : Outcome → q_S → Prop} (hW : w_W (q_S0 L xs) S) (hs : v_lv s < 5) (h26 : s ≠ 26) (ht : t < 32) (hr : r < 32) (kk : Q (.returned (some (.int (u_tc (u_two s t r))))) S) : w_X (d + 1) 116 [.ref s, .int (nI t), .int (nI r)] S Q := by
  have hc : s = 19 ∨ s = 20 ∨ s = 21 ∨ s = 22 ∨ s = 23 ∨ s = 24 ∨ s = 25 ∨ s = 27 ∨ s = 28 ∨ s = 29 := by
    unfold v_lv at hs
    repeat' split at hs
    all_goals omega
  unfold u_two at kk
  rcases hc with rfl | rfl | rfl | rfl | rfl | rfl | rfl | rfl | rfl | rfl
  · exact k116_19 hW ht hr (fun c => by simpa [c, u_tc, u_i1, u_i2] using kk) (fun c d => by simpa [d, ← c, u_tc, u_i1, u_i2] using kk) (fun c d => by simpa [d, ← c, u_tc, u_i1, u_i2] using kk)
  · exact k116_20 hW ht hr (fun c => by simpa [c, u_tc, u_i1, u_i2] using kk) (fun c d => by simpa [d, ← c, u_tc, u_i1, u_i2] using kk) (fun c d => by simpa [d, ← c, u_tc, u_i1, u_i2] using kk)
  · exact k116_21 hW ht hr (fun c => by simpa [c, u_tc, u_i1, u_i2] using kk) (fun c => by simpa [c, u_tc, u_i1, u_i2] using kk)
  · exact k116_22 hW ht hr (fun c => by simpa [c, u_tc, u_i1, u_i2] using kk) (fun c => by simpa [c, u_tc, u_i1, u_i2] using kk)
  · exact k116_23 hW ht hr (fun c => by simpa [c, u_tc, u_i1, u_i2] using kk) (fun c d => by simpa [d, ← c, u_tc, u_i1, u_i2] using kk) (fun c d => by simpa [d, ← c, u_tc, u_i1, u_i2] using kk)
  · exact k116_24 hW ht hr (fun c => by simpa [c, u_tc, u_i1, u_i2] using kk) (fun c d => by simpa [d, ← c, u_tc, u_i1, u_i2] using kk) (fun c d => by simpa [d, ← c, u_tc, u_i1, u_i2] using kk)
  · exact k116_25 hW ht hr (fun c => by simpa [c, u_tc, u_i1, u_i2] using kk) (fun c d => by simpa [d, ← c, u_tc, u_i1, u_i2] using kk) (fun c d => by simpa [d, ← c, u_tc, u_i1, u_i2] using kk)
  · exact k116_27 hW ht hr (fun c => by simpa [c, u_tc, u_i1, u_i2] using kk) (fun c d => by simpa [d, ← c, u_tc, u_i1, u_i2] using kk) (fun c d => by simpa [d, ← c, u_tc, u_i1, u_i2] using kk)
  · exact k116_28 hW ht hr (fun c => by simpa [c, u_tc, u_i1, u_i2] using kk) (fun c d => by simpa [d, ← c, u_tc, u_i1, u_i2] using kk) (fun c d => by simpa [d, ← c, u_tc, u_i1, u_i2] using kk)
  · exact k116_29 hW ht hr (fun c => by simpa [c, u_tc, u_i1, u_i2] using kk) (fun c d => by simpa [d, ← c, u_tc, u_i1, u_i2] using kk) (fun c d => by simpa [d, ← c, u_tc, u_i1, u_i2] using kk)
/-- typeOf -/
theorem u_c104 (hW : w_W (q_S0 L xs) S) (hE : u_CE S P N g pl ke dt su hd ns cs) : ∀ h lo i l d kn Q, v_tr h ns lo i → l + h ≤ 51 → h + 8 ≤ d → ((u_ck ke dt su hd ns h kn i).1 = 0 → Q (.returned (some (.int (-1)))) (q_sI S 1030 3 (nI (pl (u_ck ke dt su hd ns h kn i).2)))) → (¬ (u_ck ke dt su hd ns h kn i).1 = 0 → Q (.returned (some (.int (nI (u_ck ke dt su hd ns h kn i).1)))) S) → w_X d 104 [.ref 1030, .int (nI i), .int kn, .int (nI l)] S Q := by
  obtain ⟨hp, hm, hN, hH, hK, hT, hF⟩ := hE
  have hlen := hF.2.2.1
  intro h
  induction h with
  | zero => intro lo i l d kn Q h; exact h.elim
  | succ h ih =>
    intro lo i l d kn Q ht hl hdd k0 k1
    have hi := (v_tr_lo ht).2
    have sg := v_tr_sg ht
    obtain ⟨s, t, x, lf, rt, e1, e2⟩ := ht
    obtain ⟨s', t', x', l', r', e1', e2', e3'⟩ := sg
    rw [e1] at e1'
    cases e1'
    obtain ⟨n1, n2, n3, n4, n5⟩ := hN.2 i s t x lf rt e1
    obtain ⟨d, rfl⟩ : ∃ k, d = k + 8 := ⟨d - 8, by omega⟩
    unfold u_ck at k0 k1
    rw [e1] at k0 k1
    rcases e2 with ⟨rfl, rfl, _, f3, f4, f5⟩ | ⟨a, rfl, rfl, ha, f3, f4⟩ | ⟨a, b, rfl, rfl, hb, f3, f4, f5, f6⟩
    · -- a leaf
      have ok := u_lft_ok (hd := hd) hT hF f4 f3
      have kk : Q (.returned (some (.int (nI (u_lft ke hd s x))))) S := k1 (fun z => by have := u_ok_lt ok; have z' : u_lft ke hd s x = 0 := z; omega)
      refine k104_0L (d := d + 7) hW hp hm (by omega) (by omega) (by omega) n4 n5 ?_
      have fin : ∀ y, u_lft ke hd s x = y → w_k (d + 8) 104 43 [] [] Q (.returned (some (.int (nI y)))) S := fun y hy => by
        subst hy
        exact k104_46 hW hp hm (i := i) (by omega) kk
      obtain ⟨_, w1, w2, _, w4, w5⟩ := hF.1
      obtain ⟨_, s1, s2, _, s4, s5⟩ := hH
      have kkl : ∀ c : Nat × Nat, c.2 < 16 → u_kk ke c < 8 := by
        intro c hc
        unfold u_kk
        split
        · exact hT.kl hc
        · omega
      have h6 : s = 30 ∨ s = 4 ∨ s = 5 ∨ s = 31 ∨ s = 6 ∨ s = 7 := by
        unfold v_lf at f3
        simp only [Bool.or_eq_true, decide_eq_true_eq] at f3
        exact f3
      rcases h6 with rfl | rfl | rfl | rfl | rfl | rfl
      · exact k106_0s30 hW hp hm (by omega) n1 (fin 1 rfl)
      · exact k106_0s4 hW hp hm (by omega) n1 (fin 2 rfl)
      · exact k106_0s5 hW hp hm (by omega) n1 (fin 2 rfl)
      · refine k106_0s31 (d := d + 6) hW hp hm (by omega) n3 n1 ?_
        refine x100 hW hK (f4 rfl) ?_
        exact k106_109 hW hp hm (i := i) (by omega) (hT.kl (f4 rfl)) (fin _ rfl)
      · refine k106_0s6 (d := d + 6) hW hp hm (by omega) n1 ?_
        refine x107 hW hp hK (Or.inl rfl) s1 s2 w1 w2 ?_
        exact k106_71 hW hp hm (i := i) (by omega) (kkl _ w2) (fin _ rfl)
      · refine k106_0s7 (d := d + 6) hW hp hm (by omega) n1 ?_
        refine x107 hW hp hK (Or.inr rfl) s4 s5 w4 w5 ?_
        exact k106_89 hW hp hm (i := i) (by omega) (kkl _ w5) (fin _ rfl)
    · -- one part
      have ia := (v_tr_lo f4).2
      dsimp only at k0 k1
      refine k104_0U (d := d + 7) (a := a) hW hp hm (by omega) (by omega) (by omega) (by omega) n4 n5 ?_
      have oka := u_ck_ok (su := su) (hd := hd) hT hF h lo a kn f4
      refine ih lo a (l + 1) _ kn _ f4 (by omega) (by omega) (fun z => ?_) (fun z => ?_)
      · rw [if_pos z] at k0
        exact k104_57Uw (hW.sI (by decide)) hp hm (by omega) (by omega) (by omega) (k0 z)
      · rw [if_neg z] at k0 k1
        have hok := oka.resolve_left z
        refine k104_57U (d := d + 7) hW hp hm (by omega) (by omega) (u_ok_lt hok).2 (by omega) ?_
        refine x108 (d := d + 3) hW ⟨hp, hm, hN, hH, hK, hT, hF⟩ e1 f4 f3 hok ?_
        dsimp only at k0 k1
        by_cases hz : u_one dt su (u_sg ns a) kn s x (u_ck ke dt su hd ns h kn a).1 = 0
        · rw [hz]
          exact k104_83w hW hp hm (by omega) n2 (k0 hz)
        · rw [u_tcn hz]
          have ok1 := (u_one_ok (su := su) (sg := u_sg ns a) (kn := kn) hT hok f3).resolve_left hz
          exact k104_83 hW hp hm (by omega) (u_ok_lt ok1).2 (k1 hz)
    · -- two parts
      have ia := (v_tr_lo f5).2
      have ib := (v_tr_lo f6).2
      dsimp only at k0 k1
      refine k104_0B (d := d + 7) (a := a) (b := b) hW hp hm (by omega) (by omega) (by omega) (by omega) n4 (by omega) n5 ?_
      have oka := u_ck_ok (su := su) (hd := hd) hT hF h lo a kn f5
      refine ih lo a (l + 1) _ kn _ f5 (by omega) (by omega) (fun z => ?_) (fun z => ?_)
      · rw [if_pos z] at k0
        exact k104_57Bw (hW.sI (by decide)) hp hm (by omega) (by omega) (by omega) (by omega) (k0 z)
      · rw [if_neg z] at k0 k1
        have hok := oka.resolve_left z
        have second : ∀ kn2, kn2 = (kn ||| (if s = 20 then u_mk ns h a else 0)) → w_X (d + 7) 104 [.ref 1030, .int (nI b), .int kn2, .int (nI (l + 1))] S (w_k (d + 8) 104 127 [(0, .ref 1030), (1, .int (nI i)), (6, .int (nI (u_ck ke dt su hd ns h kn a).1))] [] Q) := by
          intro kn2 hkn
          rw [← hkn] at k0 k1
          have okb := u_ck_ok (su := su) (hd := hd) hT hF h (a + 1) b kn2 f6
          refine ih (a + 1) b (l + 1) _ kn2 _ f6 (by omega) (by omega) (fun y => ?_) (fun y => ?_)
          · rw [if_pos y] at k0
            exact k104_130w (hW.sI (by decide)) hp hm (by omega) (u_ok_lt hok).2 (k0 y)
          · rw [if_neg y] at k0 k1
            have hok2 := okb.resolve_left y
            refine k104_130 (d := d + 7) hW hp hm (by omega) (u_ok_lt hok).2 (u_ok_lt hok2).2 e3' n1 ?_
            refine x116 (d := d + 6) hW f3 f4 (u_ok_lt hok).2 (u_ok_lt hok2).2 ?_
            dsimp only at k0 k1
            by_cases hz : u_two s (u_ck ke dt su hd ns h kn a).1 (u_ck ke dt su hd ns h kn2 b).1 = 0
            · rw [hz]
              exact k104_158w hW hp hm (by omega) n2 (k0 hz)
            · rw [u_tcn hz]
              have ok1 := (u_two_ok (s := s) (t := (u_ck ke dt su hd ns h kn a).1) (r := (u_ck ke dt su hd ns h kn2 b).1)).resolve_left hz
              exact k104_158 hW hp hm (by omega) (u_ok_lt ok1).2 (k1 hz)
        by_cases h20 : s = 20
        · subst h20
          refine k104_57Ba (d := d + 7) hW hp hm (by omega) (by omega) (u_ok_lt hok).2 (by omega) (by omega) n1 ?_
          refine u_c115 hW hp hm hN hlen h lo a (l + 1) _ _ f5 (by omega) (by omega) ?_
          exact k104_111 (d := d + 7) hW hp hm (by omega) (by omega) (u_ok_lt hok).2 (by omega) (second _ (by rw [if_pos rfl]))
        · exact k104_57Bo (d := d + 7) hW hp hm (by omega) (by omega) (u_ok_lt hok).2 h20 (by omega) (by omega) e3' n1 (second _ (by rw [if_neg h20]))
/-- firstWrong -/
def u_pc (pl : Nat → Nat) : Option Nat → Int32
  | none => -2
  | some t => nI (pl t)
theorem u_fw_c {kn : Int32} {w t r : Nat} {cs' : List v_Cd} : u_fw ke dt su hd ns kn ((w, t, r) :: cs') = if (u_ck ke dt su hd ns 50 kn r).1 = 0 then some (u_ck ke dt su hd ns 50 kn r).2 else if (u_ck ke dt su hd ns 50 kn r).1 = 2 then u_fw ke dt su hd ns (kn ||| (if w = 0 then 0 else u_mk ns 50 r)) cs' else some t := rfl
theorem u_cfw {d : Nat} {Q : Outcome → q_S → Prop} (hW : w_W (q_S0 L xs) S) (hE : u_CE S P N g pl ke dt su hd ns cs) (hC : v_CC S P pl cs) (hdd : 70 ≤ d) (kk : ∀ r S', r = u_pc pl (u_fw ke dt su hd ns 0 cs) → (S' = S ∨ ∃ x, S' = q_sI S 1030 3 x) → Q (.returned (some (.int r))) S') : ∀ cs' j kn, cs.drop j = cs' → u_fw ke dt su hd ns 0 cs = u_fw ke dt su hd ns kn cs' → j ≤ cs.length → w_R d 103 9 [(0, .ref 1030), (1, .ref P), (2, .int kn), (3, .int (nI j))] [] S Q := by
  have hp := hE.1
  have hm := hE.2.1
  have hN := hE.2.2.1
  have hF := hE.2.2.2.2.2.2
  have hT := hE.2.2.2.2.2.1
  obtain ⟨_, _, hlen, wl, _, wr, _, wc⟩ := hF
  obtain ⟨d, rfl⟩ : ∃ k, d = k + 1 := ⟨d - 1, by omega⟩
  intro cs'
  induction cs' with
  | nil =>
    intro j kn hj he hjl
    have hl : cs.length ≤ j := List.drop_eq_nil_iff.mp hj
    rw [he] at kk
    exact k103_9e hW hp hl (by omega) (by omega) (by omega) hC.1 (kk _ S rfl (Or.inl rfl))
  | cons c cs' ih =>
    intro j kn hj he hjl
    obtain ⟨h1, h2⟩ := v_dropS hj
    obtain ⟨w, t, r⟩ := c
    obtain ⟨hi, _⟩ := List.getElem?_eq_some_iff.mp h1
    obtain ⟨c1, c2, c3⟩ := hC.2 j w t r h1
    obtain ⟨lo, ht⟩ := v_rg_get cs 0 j wr h1
    have hr := (v_tr_lo ht).2
    obtain ⟨t1, t2⟩ := wc j w t r h1
    dsimp only at hr ht
    have hw2 : w < 2 := by
      rw [t2]
      split <;> omega
    refine k103_9s hW hp (by omega) hi (by omega) (by omega) hC.1 (r := r) (by omega) c3 ?_
    rw [u_fw_c] at he
    have ok := u_ck_ok (su := su) (hd := hd) hT hE.2.2.2.2.2.2 50 lo r kn ht
    refine u_c104 hW hE 50 lo r 0 _ kn _ ht (by omega) (by omega) (fun z => ?_) (fun z => ?_)
    · rw [if_pos z] at he
      rw [he] at kk
      exact k103_33w (hW.sI (by decide)) hp (by omega) (by omega) v_hI (kk _ _ rfl (Or.inr ⟨_, rfl⟩))
    · rw [if_neg z] at he
      have hok := ok.resolve_left z
      refine k103_33 (w := w) hW hp (u_ok_lt hok).2 (by omega) (by omega) (by omega) hw2 (fun _ => c1) (fun _ => c2) (fun a b => ?_) (fun a b => ?_) (fun a => ?_)
      · rw [if_pos a, if_pos b] at he
        exact ih (j + 1) _ h2 he (by omega)
      · rw [if_pos a, if_neg b] at he
        refine u_c115 hW hp hm hN hlen 50 lo r 0 _ _ ht (by omega) (by omega) ?_
        exact k103_79 hW hp (by omega) (ih (j + 1) _ h2 he (by omega))
      · rw [if_neg a] at he
        rw [he] at kk
        exact kk _ S rfl (Or.inl rfl)
end VCL
