/-! A WHOLE TEXT: both read it alike. -/
def v_xr (P a : Nat) : Bool := (decide (1023 ≤ a) && decide (a ≤ 1027)) || (decide (P ≤ a) && decide (a ≤ P + 10))
theorem v_xr_xp {P a : Nat} (h : v_xr P a = false) : v_xp P a = false := by
  unfold v_xr at h
  unfold v_xp
  simp at h ⊢
  omega
theorem v_xr_xt {P a : Nat} (h : v_xr P a = false) : v_xt a = false := by
  unfold v_xr at h
  unfold v_xt
  simp at h ⊢
  omega
theorem v_xrP (P k : Nat) (h : k ≤ 10) : v_xr P (P + k) = true := by
  unfold v_xr
  rw [decide_eq_true (show P ≤ P + k by omega), decide_eq_true (show P + k ≤ P + 10 by omega), Bool.and_self, Bool.or_true]
theorem v_mn_s (a b : Int32) (n : Nat) (h : n ≤ 100) (ha : a = 100) (hb : b = nI n) : (if a < b then a else b) = nI n := by
  subst ha; subst hb
  have : ¬ (100 : Int32) < nI n := nI_nlt (a := 100) (b := n) h (by omega)
  rw [if_neg this]
section VRD
variable {d L : Nat} {xs : Nat → Int32} {S : q_S} {c : Nat → Nat} {n P : Nat} {T : List v_Tk} {Q : Outcome → q_S → Prop}
theorem v_cread (hW : w_W (q_S0 L xs) S) (hp : w_P P) (hr : v_RW S c n) (hT : v_tz c n 200 (v_en v_bl c n 0) [] = some T) (hd : 500 ≤ d)
    (k1 : ∀ hd ns cs q S', v_rd (v_tg T) (v_tv T) = (some (hd, ns, cs), q) → w_W (q_S0 L xs) S' → v_fr (v_xr P) S S' → q_iv S' P 0 = q_iv S P 0 → v_CN S' P (v_tp T) ns → v_CC S' P (v_tp T) cs → v_CH S' P hd → q_iv S' P 5 = nI (T.length - 1) → Q (.returned (some (.int (-2)))) S')
    (k0 : ∀ q S', v_rd (v_tg T) (v_tv T) = (none, q) → w_W (q_S0 L xs) S' → v_fr (v_xr P) S S' → q_iv S' P 0 = q_iv S P 0 → Q (.returned (some (.int (nI (v_tp T q))))) S') : w_X (d + 1) 25 [.ref 1023, .ref P, .ref 1001, .int (nI n)] S Q := by
  have hn := hr.b
  have hrg := hp.rng
  obtain ⟨us, e, pe, eT, he, htok⟩ := v_tok_all 200 _ _ _ hT ⟨Nat.zero_le _, (fun j s x q h => by cases h), (fun j s x q s' x' q' h => by cases h)⟩ ((v_en_le v_bl c n 0).2 (Nat.zero_le _))
  obtain ⟨hTK, hTG⟩ := v_tok_TK (by omega) he htok
  rw [← eT] at hTK hTG
  have hlen : T.length - 1 = us.length := by rw [eT, List.length_append]; show us.length + 1 - 1 = _; omega
  refine u25_0 hW hp (by omega) ?_
  obtain ⟨d, rfl⟩ : ∃ f, d = f + 8 := ⟨d - 8, by omega⟩
  refine t26_0 (d := d + 7) hW (by omega) ?_
  rw [v_mn_s 100 (nI n) n hn rfl rfl]
  have hW1 : w_W (q_S0 L xs) (q_sI (q_sI (q_sI (q_sR S 1024 3 (some 1001)) 1024 4 (nI n)) 1024 6 0) 1024 5 0) := (((hW.sR (by decide) (w_nfK (by decide +kernel))).sI (by decide)).sI (by decide)).sI (by decide)
  have hs1 : v_CS (q_sI (q_sI (q_sI (q_sR S 1024 3 (some 1001)) 1024 4 (nI n)) 1024 6 0) 1024 5 0) c n 0 := ⟨hr, rfl, rfl, rfl, by omega⟩
  refine x28 (p := 0) hW1 hs1 (Nat.zero_le _) ?_
  refine t26_b hW1 (by have := (v_en_le v_bl c n 0).2 (Nat.zero_le _); omega) ?_
  refine v_csplit (d := d) 200 _ [] _ T hT hW1 hs1 (fun j s x p h => by cases h) (Nat.zero_le _) ((v_en_le v_bl c n 0).2 (Nat.zero_le _)) (fun S2 hW2 hx2 hz2 hA2 => ?_)
  refine u25_s (d := d + 8) hW2 hp ?_
  have fr2 : v_fr (v_xr P) S S2 := by
    refine v_fr.trans ?_ (hx2.1.mono (fun a => v_xr_xt))
    exact (((v_fr.refl.sR rfl).sI rfl).sI rfl).sI rfl
  have hW3 : w_W (q_S0 L xs) (q_sI (q_sI (q_sR S2 1023 1 (some P)) P 6 0) P 10 0) := ((hW2.sR (by decide) (w_nfK (by decide +kernel))).sI (by omega)).sI (by omega)
  have fr3 : v_fr (v_xr P) S (q_sI (q_sI (q_sR S2 1023 1 (some P)) P 6 0) P 10 0) := ((fr2.sR rfl).sI (v_xrP P 0 (by omega))).sI (v_xrP P 0 (by omega))
  have p03 : q_iv (q_sI (q_sI (q_sR S2 1023 1 (some P)) P 6 0) P 10 0) P 0 = q_iv S P 0 := by
    rw [v_kI (by decide), v_kI (by decide)]
    show q_iv S2 P 0 = _
    rw [hx2.1.iv (a := P) (by unfold v_xt; simp; omega)]
    show q_iv (q_sI (q_sI (q_sI (q_sR S 1024 3 (some 1001)) 1024 4 (nI n)) 1024 6 0) 1024 5 0) P 0 = _
    rw [v_aI (by omega), v_aI (by omega), v_aI (by omega)]
    rfl
  have at6 : q_iv S2 1024 6 = 0 := by rw [hx2.2 6 (by decide)]; rfl
  have hC3 : v_CP (q_sI (q_sI (q_sR S2 1023 1 (some P)) P 6 0) P 10 0) P us.length (v_tg T) (v_tv T) (v_tp T) 0 [] := by
    refine ⟨hp, hTK, Nat.zero_le _, Nat.le_refl _, v_hR, ⟨?_, ?_, fun j hj => ?_⟩, v_hI, fun j s t x l r h => by cases h⟩
    · rw [v_aI (by omega), v_aI (by omega), ← hlen]; exact hz2
    · rw [v_aI (by omega), v_aI (by omega)]; exact at6
    · obtain ⟨⟨s, x, q⟩, hy⟩ : ∃ y, T[j]? = some y := ⟨T[j]'(by rw [eT, List.length_append]; show j < us.length + 1; omega), List.getElem?_eq_getElem _⟩
      obtain ⟨a1, a2, a3⟩ := hA2 j s x q hy
      unfold v_tg v_tv v_tp
      rw [v_getD hy]
      refine ⟨?_, ?_, ?_⟩
      · show q_rv (q_sR S2 1023 1 (some P)) 1025 j = _
        rw [v_aR (by decide)]; exact a1
      · rw [v_aI (by omega), v_aI (by omega)]; exact a2
      · rw [v_aI (by omega), v_aI (by omega)]; exact a3
  have hCC3 : v_CC (q_sI (q_sI (q_sR S2 1023 1 (some P)) P 6 0) P 10 0) P (v_tp T) [] := ⟨by rw [v_kI (by decide)]; exact v_hI, fun j w t r h => by cases h⟩
  cases hh : v_hd (v_tg T) (v_tv T) with
  | mk hd0 p =>
    refine v_chead (d := d + 5) hW3 hC3 hh (fun S4 hW4 hq4 hC4 hv4 => ?_)
    have fr4 : v_fr (v_xr P) S S4 := fr3.trans (hq4.1.mono (fun a => v_xr_xp))
    have p04 : q_iv S4 P 0 = q_iv S P 0 := by rw [hq4.2 0 (by decide) (by decide) (by decide)]; exact p03
    cases hd0 with
    | none =>
      refine c25_25n (d := d + 8) hW4 hC4 (k0 p S4 ?_ hW4 fr4 p04)
      unfold v_rd
      rw [hh]
    | some h0 =>
      have hle := v_hd_le hTK hTG
      rw [hh] at hle
      obtain ⟨hl1, hl2⟩ := hle
      obtain ⟨hl8, hl13⟩ := hl2 rfl
      dsimp only at hl1 hl8 hl13
      have hCH4 := hv4 h0 rfl
      have hCC4 : v_CC S4 P (v_tp T) [] := ⟨by rw [hq4.2 6 (by decide) (by decide) (by decide)]; exact hCC3.1, fun j w t r h => by cases h⟩
      obtain ⟨⟨ok, q, ns, cs⟩, hcs⟩ := v_cs_fuel hTK 200 p [] [] hl1 (by have := hTK.1; omega)
      refine c25_25y (d := d + 8) hW4 hC4 ?_
      refine c57_0 hW4 hC4 ?_
      refine v_cconds (d := d + 6) hTG 200 p [] [] 0 S4 ok q ns cs hcs hW4 hC4 hCC4 (by show 13 + 7 * 0 ≤ _; omega) (by omega) (by omega) (fun S5 hW5 hz5 hC5 hCC5 => ?_)
      have fr5 : v_fr (v_xr P) S S5 := fr4.trans (hz5.1.mono (fun a => v_xr_xp))
      have p05 : q_iv S5 P 0 = q_iv S P 0 := by rw [hz5.2.1 0 (by decide) (by decide)]; exact p04
      cases ok with
      | false =>
        refine c25_32n (d := d + 8) hW5 hC5 (k0 q S5 ?_ hW5 fr5 p05)
        unfold v_rd
        rw [hh]
        dsimp only
        rw [hcs]
      | true =>
        refine c25_32y (d := d + 8) hW5 hC5 ?_
        have o5 : ∀ a j, ¬ (a = P ∧ j = 5) → q_iv (q_sI S5 P 5 (nI us.length)) a j = q_iv S5 a j := fun a j h => if_neg h
        refine k1 h0 ns cs q _ ?_ (hW5.sI (by omega)) (fr5.sI (v_xrP P 0 (by omega))) ?_ ?_ ?_ ?_ ?_
        · unfold v_rd
          rw [hh]
          dsimp only
          rw [hcs]
        · rw [o5 _ _ (by omega)]; exact p05
        · exact (hC5.pw (a := P) (k := 5) (by omega)).2.2.2.2.2.2
        · exact hCC5.same (o5 _ _ (by omega)) (fun m j h1 h2 => o5 _ _ (by omega))
        · obtain ⟨c1, c2, c3, c4, c5, c6⟩ := hCH4
          refine ⟨?_, ?_, ?_, ?_, ?_, ?_⟩
          · rw [o5 _ _ (by omega), hz5.2.1 1 (by decide) (by decide)]; exact c1
          · rw [o5 _ _ (by omega), hz5.2.2 1 0 (by decide) (by decide)]; exact c2
          · rw [o5 _ _ (by omega), hz5.2.2 1 1 (by decide) (by decide)]; exact c3
          · rw [o5 _ _ (by omega), hz5.2.1 4 (by decide) (by decide)]; exact c4
          · rw [o5 _ _ (by omega), hz5.2.2 2 0 (by decide) (by decide)]; exact c5
          · rw [o5 _ _ (by omega), hz5.2.2 2 1 (by decide) (by decide)]; exact c6
        · rw [hlen]; exact v_hI
/-- the draft's tokens -/
def v_MTk (S : q_S) (o b : Nat) (T : List v_Tk) : Prop := q_iv S 1102 b = nI (T.length - 1) ∧ ∀ j, j < T.length - 1 → q_iv S 1099 (o + j) = nI (v_wc (v_tg T j)) ∧ q_iv S 1101 (o + j) = nI (v_tp T j)
theorem v_mread (hW : w_W (q_S0 L xs) S) (hn : n ≤ 100) (hx : ∀ j, j < n → q_iv S 1098 j = nI (c j) ∧ 32 ≤ c j ∧ c j ≤ 126) (hl : q_iv S 1097 3 = nI n) (hT : v_tz c n 200 (v_en v_bl c n 0) [] = some T)
    (k1 : ∀ hd ns cs q S', v_rd (v_tg T) (v_tv T) = (some (hd, ns, cs), q) → w_W (q_S0 L xs) S' → v_md S S' → v_MN S' 606 6 ns → v_MC S' 120 6 cs → v_MH S' 6 hd → v_MTk S' 606 6 T → Q (.returned (some (.int 1))) S')
    (k0 : ∀ q S', v_rd (v_tg T) (v_tv T) = (none, q) → w_W (q_S0 L xs) S' → v_me S S' → q_iv S' 1097 1 = nI (v_tp T q) → Q (.returned (some (.int 0))) S') : w_X (d + 6) 148 [.ref 1097] S Q := by
  obtain ⟨ws, e, pe, eT, he, htok⟩ := v_tok_all 200 _ _ _ hT ⟨Nat.zero_le _, (fun j s x q h => by cases h), (fun j s x q s' x' q' h => by cases h)⟩ ((v_en_le v_bl c n 0).2 (Nat.zero_le _))
  obtain ⟨hTK, hTG⟩ := v_tok_TK (by omega) he htok
  rw [← eT] at hTK hTG
  have hlen : T.length - 1 = ws.length := by rw [eT, List.length_append]; show ws.length + 1 - 1 = _; omega
  refine e148_0 (d := d + 5) hW ?_
  refine r149_0 hW ?_
  refine v_msplit (d := d + 2) 200 200 0 [] _ T (by omega) hT (hW.sI (by decide)) ⟨⟨hn, hx⟩, hl, rfl, Nat.zero_le _⟩ (fun j s x p h => by cases h) (Nat.zero_le _) (Nat.zero_le _) (fun S1 us hW1 hd1 hmk hs1 hA1 => ?_)
  have hdS : v_md S S1 := (v_md.refl.w (a := 1102) (k := 6) (by unfold v_dr; omega)).trans hd1
  have d32 : v_dr 1097 32 := by unfold v_dr; omega
  have d86 : v_dr 1108 6 := by unfold v_dr; omega
  have d46 : v_dr 1114 6 := by unfold v_dr; omega
  refine e148_4 (d := d + 5) hW1 ?_
  have hW2 : w_W (q_S0 L xs) (q_sI (q_sI (q_sI S1 1097 32 0) 1108 6 0) 1114 6 0) := ((hW1.sI (by decide)).sI (by decide)).sI (by decide)
  have hd2 : v_md S (q_sI (q_sI (q_sI S1 1097 32 0) 1108 6 0) 1114 6 0) := ((hdS.w d32).w d86).w d46
  have lst : v_tg T ws.length = e ∧ v_tp T ws.length = pe := by
    have : T.getD ws.length (32, 0, 0) = (e, 0, pe) := by rw [eT]; exact v_getD v_last
    unfold v_tg v_tp
    rw [this]
    exact ⟨rfl, rfl⟩
  have hus : us.length = v_mn ws.length (v_tg T) ∧ ∀ j, j < us.length → us[j]? = T[j]? := by
    unfold v_mn
    rw [lst.1]
    rcases hmk with ⟨n', e1⟩ | ⟨e1, vs, p', e2⟩
    · rw [eT] at e1
      obtain ⟨e3, e4⟩ := List.append_inj' e1 rfl
      cases e4
      subst e3
      refine ⟨by rw [if_pos rfl], fun j hj => ?_⟩
      rw [eT, List.getElem?_append_left hj]
    · have e3 := e1.symm.trans eT
      rw [e2] at e3
      obtain ⟨e4, e5⟩ := List.append_inj' e3 rfl
      cases e5
      rw [if_neg (by decide)]
      refine ⟨by rw [e2, List.length_append, e4]; rfl, fun j hj => by rw [e1]⟩
  have hent : ∀ j, j < us.length → q_iv S1 1099 (606 + j) = nI (v_wc (v_tg T j)) ∧ q_iv S1 1101 (606 + j) = nI (v_tp T j) ∧ (v_tg T j ≠ 33 → q_iv S1 1100 (606 + j) = nI (v_tv T j)) := by
    intro j hj
    obtain ⟨⟨s, x, q⟩, hy⟩ : ∃ y, us[j]? = some y := ⟨us[j], List.getElem?_eq_getElem hj⟩
    have hy' := hy
    rw [hus.2 j hj] at hy'
    unfold v_tg v_tv v_tp
    rw [v_getD hy']
    exact hA1 j s x q hy
  have hnm := v_mn_b (g := v_tg T) hTK.1
  have hM2 : v_MQ (q_sI (q_sI (q_sI S1 1097 32 0) 1108 6 0) 1114 6 0) ws.length (v_tg T) (v_tv T) (v_tp T) 0 [] := by
    refine ⟨hTK, Nat.zero_le _, ⟨rfl, ?_, fun j hj => ?_, fun j hj => ?_, fun hg => ?_⟩, rfl, fun j s t x l r h => by cases h⟩
    · rw [v_aI (by decide), v_aI (by decide), v_aI (by decide), ← hus.1]; exact hs1.sz
    · have := hent j (by omega)
      rw [v_aI (by decide), v_aI (by decide), v_aI (by decide), v_aI (by decide), v_aI (by decide), v_aI (by decide)]
      exact ⟨this.1, this.2.1⟩
    · have := hent j (by omega)
      rw [v_aI (by decide), v_aI (by decide), v_aI (by decide)]
      exact this.2.2 ((hTK.2 j (by omega)).2.2.2.1 hj).2
    · rw [v_aI (by decide), v_aI (by decide), v_kI (by decide), hs1.ln]
      rw [lst.1] at hg
      rw [lst.2]
      rcases he with ⟨_, e2⟩ | ⟨e1, _⟩
      · rw [e2]
      · omega
  cases hh : v_hd (v_tg T) (v_tv T) with
  | mk hd0 p =>
    refine v_mhead (d := d + 2) hW2 hM2 hh (fun h0 S3 e3 hW3 hd3 hM3 hMH3 h143 => ?_) (fun S3 e3 hW3 he3 hw3 => ?_)
    · subst e3
      have hle := v_hd_le hTK hTG
      rw [hh] at hle
      obtain ⟨hl1, hl2⟩ := hle
      obtain ⟨hl8, hl13⟩ := hl2 rfl
      dsimp only at hl1 hl8 hl13
      obtain ⟨⟨ok, q, ns, cs⟩, hcs⟩ := v_cs_fuel hTK 200 p [] [] hl1 (by have := hTK.1; omega)
      have hMC3 : v_MC S3 120 6 [] := ⟨by rw [h143]; rfl, fun j w t r h => by cases h⟩
      refine e148_29y hW3 ?_
      refine v_mconds (d := d + 1) hTG 200 p [] [] S3 ok q ns cs hcs hW3 hM3 hMC3 (by show 13 + 7 * 0 ≤ _; omega) (Nat.zero_le _) (fun S4 eo hW4 hc4 hM4 hMC4 => ?_) (fun S4 eo hW4 he4 hw4 => ?_)
      · subst eo
        refine k1 h0 ns cs q S4 ?_ hW4 ((hd2.trans hd3).trans hc4.1) hM4.2.2.2 hMC4 ?_ ?_
        · unfold v_rd
          rw [hh]
          dsimp only
          rw [hcs]
        · obtain ⟨c1, c2, c3, c4, c5, c6⟩ := hMH3
          refine ⟨?_, ?_, ?_, ?_, ?_, ?_⟩
          · rw [hc4.2 _ _ (by decide) (by decide)]; exact c1
          · rw [hc4.2 _ _ (by decide) (by decide)]; exact c2
          · rw [hc4.2 _ _ (by decide) (by decide)]; exact c3
          · rw [hc4.2 _ _ (by decide) (by decide)]; exact c4
          · rw [hc4.2 _ _ (by decide) (by decide)]; exact c5
          · rw [hc4.2 _ _ (by decide) (by decide)]; exact c6
        · -- the text ended
          have hend : ∀ k p ns0 cs0 q ns cs, v_cs (v_tg T) (v_tv T) k p ns0 cs0 = some (true, q, ns, cs) → v_tg T q = 32 := by
            intro k
            induction k with
            | zero => intro p ns0 cs0 q ns cs h; cases h
            | succ k ih =>
              intro p ns0 cs0 q ns cs h
              unfold v_cs at h
              split at h
              · rename_i h32; cases h; exact h32
              · split at h
                · split at h
                  · split at h
                    · cases h
                    · cases h
                    · split at h
                      · exact ih _ _ _ _ _ _ h
                      · cases h
                  · cases h
                · cases h
          have hq := hend _ _ _ _ _ _ _ hcs
          have hqN : q = ws.length := by
            have hb := hM4.b
            rcases Nat.lt_or_eq_of_le hb.1 with h1 | h1
            · exact absurd hq ((hTK.2 q hb.1).2.2.2.1 h1).1
            · exact h1
          have hmnN : v_mn ws.length (v_tg T) = ws.length := by unfold v_mn; rw [← hqN, if_pos hq]
          rw [hqN] at hM4
          refine ⟨by rw [hlen, ← hmnN]; exact hM4.m, fun j hj => ?_⟩
          rw [hlen] at hj
          exact hM4.2.2.1.2.2.1 j (by omega)
      · subst eo
        refine k0 q S4 ?_ hW4 ((hd2.trans hd3).me he4) hw4
        unfold v_rd
        rw [hh]
        dsimp only
        rw [hcs]
    · subst e3
      refine e148_29n hW3 (k0 p S3 ?_ hW3 (hd2.me he3) hw3)
      unfold v_rd
      rw [hh]
end VRD
