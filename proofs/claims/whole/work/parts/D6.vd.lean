/-! HOW A POLICY IS at a question: one function; the class's verdictOn and the reference's how both tell it. -/
def v_fo (up : Nat → Nat → Bool) (c : Nat × Nat) (e : Nat) : Bool := if c.1 = 0 then true else if c.1 = 1 then decide (e = c.2) else up e c.2
def v_fa (b : Option Nat) (a : Nat) : Bool := match b with
  | none => true
  | some b => decide (b = a)
def v_ft (up : Nat → Nat → Bool) (hd : v_Hd) (e a f : Nat) : Bool := v_fo up hd.2.1 e && (v_fo up hd.2.2.2 f && v_fa hd.2.2.1 a)
def v_cv (pr rs : Nat) (so : Nat → Nat → Nat) (va : Nat → Nat → Int32) (up : Nat → Nat → Bool) (ns : List v_Nd) : List v_Cd → Nat
  | [] => 3
  | c :: cs => if 4 ≤ (v_ev pr rs so va up ns 50 c.2.2).1 then (v_ev pr rs so va up ns 50 c.2.2).1 else if (v_ev pr rs so va up ns 50 c.2.2).1 = 2 then (if (v_ev pr rs so va up ns 50 c.2.2).2 = (if c.1 = 0 then 0 else 1) then v_cv pr rs so va up ns cs else 2) else 4
def v_vd (so : Nat → Nat → Nat) (va : Nat → Nat → Int32) (up : Nat → Nat → Bool) (hd : v_Hd) (ns : List v_Nd) (cs : List v_Cd) (e a f : Nat) : Nat := if v_ft up hd e a f = true then v_cv e f so va up ns cs else 1
theorem v_rg_get {ns : List v_Nd} {c : v_Cd} : ∀ (cs : List v_Cd) (lo j : Nat), v_rg ns lo cs → cs[j]? = some c → ∃ lo', v_tr 50 ns lo' c.2.2 := by
  intro cs
  induction cs with
  | nil => intro lo j _ h; cases h
  | cons a cs ih =>
    intro lo j h hj
    cases j with
    | zero => cases hj; exact ⟨lo, h.1⟩
    | succ j => exact ih _ j h.2 hj
theorem v_dropS {α : Type} {cs cs' : List α} {c : α} {j : Nat} (h : cs.drop j = c :: cs') : cs[j]? = some c ∧ cs.drop (j + 1) = cs' := by
  constructor
  · have := congrArg (fun l => l[0]?) h
    simpa using this
  · have := congrArg List.tail h
    simpa [List.tail_drop] using this
theorem v_cv_lt {pr rs : Nat} {so : Nat → Nat → Nat} {va : Nat → Nat → Int32} {up : Nat → Nat → Bool} {ns : List v_Nd} (hE : v_ge pr rs so va) : ∀ (cs : List v_Cd) (lo : Nat), v_rg ns lo cs → 2 ≤ v_cv pr rs so va up ns cs ∧ v_cv pr rs so va up ns cs < 7 := by
  intro cs
  induction cs with
  | nil => intro lo _; exact ⟨by show 2 ≤ 3; omega, by show 3 < 7; omega⟩
  | cons c cs ih =>
    intro lo h
    have g := v_gd_ev (up := up) hE _ _ _ h.1
    have i := ih _ h.2
    unfold v_cv
    have g2 := g.2.1
    repeat' split
    all_goals first | exact i | omega | exact ⟨by omega, g2⟩
theorem v_vd_lt {so : Nat → Nat → Nat} {va : Nat → Nat → Int32} {up : Nat → Nat → Bool} {hd : v_Hd} {ns : List v_Nd} {cs : List v_Cd} {e a f lo : Nat} (hE : v_ge e f so va) (h : v_rg ns lo cs) : 1 ≤ v_vd so va up hd ns cs e a f ∧ v_vd so va up hd ns cs e a f < 7 := by
  unfold v_vd
  split
  · have := v_cv_lt (up := up) hE cs lo h; omega
  · omega
section VVD
variable {L d N P e a f i o : Nat} {xs : Nat → Int32} {S S1 : q_S} {pl g : Nat → Nat} {ns : List v_Nd} {cs : List v_Cd} {hd : v_Hd} {so : Nat → Nat → Nat} {va : Nat → Nat → Int32} {up : Nat → Nat → Bool} {Q : Outcome → q_S → Prop}
theorem v_cfo {c : Nat × Nat} {k : Nat} (hW : w_W (q_S0 L xs) S) (hp : w_P P) (hk : k = 1 ∨ k = 2) (he : e < 16) (h1 : q_iv S (P + k) 0 = nI c.1) (h2 : q_iv S (P + k) 1 = nI c.2) (c1 : c.1 ≤ 2) (c2 : c.2 < 16) (kk : Q (.returned (some (.int (if v_fo (fun e f => v_b (v_up (q_iv S 1017) e) f) c e = true then 1 else 0)))) S) : w_X (d + 2) 122 [.ref (P + k), .int (nI e), .ref 1015] S Q := by
  obtain ⟨r, f⟩ := c
  dsimp only at h1 h2 c1 c2
  have hr : r = 0 ∨ r = 1 ∨ r = 2 := by omega
  rcases hr with rfl | rfl | rfl
  · rw [show v_fo (fun e f => v_b (v_up (q_iv S 1017) e) f) (0, f) e = true from rfl, if_pos rfl] at kk
    rcases hk with rfl | rfl
    · exact y122_1_0 hW hp he c2 h2 h1 kk
    · exact y122_2_0 hW hp he c2 h2 h1 kk
  · rw [show v_fo (fun e f => v_b (v_up (q_iv S 1017) e) f) (1, f) e = decide (e = f) from rfl] at kk
    have ka : ¬ (e = f) → Q (.returned (some (.int 0))) S := fun z => by rw [decide_eq_false z, if_neg (by decide)] at kk; exact kk
    have kb : e = f → Q (.returned (some (.int 1))) S := fun z => by rw [decide_eq_true z, if_pos rfl] at kk; exact kk
    rcases hk with rfl | rfl
    · exact y122_1_1 hW hp he c2 h2 h1 ka kb
    · exact y122_2_1 hW hp he c2 h2 h1 ka kb
  · rw [show v_fo (fun e f => v_b (v_up (q_iv S 1017) e) f) (2, f) e = v_b (v_up (q_iv S 1017) e) f from rfl] at kk
    have fin : w_X (d + 1) 82 [.ref 1015, .int (nI e), .int (nI f)] S (w_k (d + 2) 122 35 [] [] Q) := by
      refine x82 hW c2 ?_
      by_cases hb : v_b (v_up (q_iv S 1017) e) f = true
      · rw [if_pos hb] at kk ⊢
        exact y122_y hW kk
      · rw [if_neg hb] at kk ⊢
        exact y122_n hW kk
    rcases hk with rfl | rfl
    · exact y122_1_2 hW hp he c2 h2 h1 fin
    · exact y122_2_2 hW hp he c2 h2 h1 fin
theorem v_bfa {b : Option Nat} {a : Nat} (h : v_fa b a = true) : b = none ∨ b = some a := by
  cases b with
  | none => exact Or.inl rfl
  | some b => exact Or.inr (congrArg some (of_decide_eq_true h))
theorem v_cft (hW : w_W (q_S0 L xs) S) (hp : w_P P) (he : e < 16) (ha : a < 10) (hf : f < 16) (hH : v_CH S P hd) (hw : hd.1 ≤ 1 ∧ hd.2.1.1 ≤ 2 ∧ hd.2.1.2 < 16 ∧ (∀ a, hd.2.2.1 = some a → a < 10) ∧ hd.2.2.2.1 ≤ 2 ∧ hd.2.2.2.2 < 16) (kk : Q (.returned (some (.int (if v_ft (fun e f => v_b (v_up (q_iv S 1017) e) f) hd e a f = true then 1 else 0)))) S) : w_X (d + 3) 121 [.ref P, .int (nI e), .int (nI a), .int (nI f), .ref 1015] S Q := by
  obtain ⟨_, s1, s2, s3, s4, s5⟩ := hH
  obtain ⟨_, w1, w2, w3, w4, w5⟩ := hw
  refine y121_0 hW hp (by omega) (by omega) (by omega) ?_
  refine v_cfo hW hp (Or.inl rfl) he s1 s2 w1 w2 ?_
  unfold v_ft at kk
  by_cases h1 : v_fo (fun e f => v_b (v_up (q_iv S 1017) e) f) hd.2.1 e = true
  · rw [if_pos h1]
    rw [h1, Bool.true_and] at kk
    refine y121_a1 hW hp (by omega) (by omega) ?_
    refine v_cfo hW hp (Or.inr rfl) hf s4 s5 w4 w5 ?_
    by_cases h2 : v_fo (fun e f => v_b (v_up (q_iv S 1017) e) f) hd.2.2.2 f = true
    · rw [if_pos h2]
      rw [h2, Bool.true_and] at kk
      cases hb : hd.2.2.1 with
      | none =>
        rw [hb] at s3 kk
        exact y121_bn hW hp (by omega) s3 kk
      | some b =>
        rw [hb] at s3 kk
        have hb10 := w3 b hb
        refine y121_bs hW hp (by omega) (by omega) s3 (fun z => ?_) (fun z => ?_)
        · have : v_fa (some b) a = false := decide_eq_false z
          rw [this, if_neg (by decide)] at kk
          exact kk
        · have : v_fa (some b) a = true := decide_eq_true z
          rw [this, if_pos rfl] at kk
          exact kk
    · rw [if_neg h2]
      rw [Bool.eq_false_iff.mpr h2, Bool.false_and, if_neg (by decide)] at kk
      exact y121_b0 hW hp (by omega) kk
  · rw [if_neg h1]
    rw [Bool.eq_false_iff.mpr h1, Bool.false_and, if_neg (by decide)] at kk
    exact y121_a0 hW hp (by omega) (by omega) kk
/-- the class's conditions, one after another -/
theorem v_ccv (hW : w_W (q_S0 L xs) S) (hE : v_CE S P pl ns e f so va) (hC : v_CC S P pl cs) (hF : v_WF N g hd ns cs) (hdd : 120 ≤ d) : ∀ cs' j, cs.drop j = cs' → Q (.returned (some (.int (nI (v_cv e f so va (fun e f => v_b (v_up (q_iv S 1017) e) f) ns cs'))))) S → j ≤ cs.length → w_R d 120 36 [(0, .ref 1029), (1, .ref P), (5, .int (nI j))] [] S Q := by
  have hp := hE.1
  obtain ⟨_, _, _, wl, _, wr, _, wc⟩ := hF
  obtain ⟨d, rfl⟩ : ∃ k, d = k + 3 := ⟨d - 3, by omega⟩
  intro cs'
  induction cs' with
  | nil =>
    intro j hj kk hjl
    have hl : cs.length ≤ j := List.drop_eq_nil_iff.mp hj
    exact y120_e hW hp hl (by omega) (by omega) (by omega) hC.1 kk
  | cons c cs' ih =>
    intro j hj kk hjl
    obtain ⟨h1, h2⟩ := v_dropS hj
    obtain ⟨w, t, r⟩ := c
    obtain ⟨hi, _⟩ := List.getElem?_eq_some_iff.mp h1
    obtain ⟨c1, c2, c3⟩ := hC.2 j w t r h1
    obtain ⟨lo, ht⟩ := v_rg_get cs 0 j wr h1
    have hr := (v_tr_lo ht).2
    have hlen := hE.2.1
    obtain ⟨t1, t2⟩ := wc j w t r h1
    dsimp only at hr ht
    have hw2 : w < 2 := by
      rw [t2]
      split <;> omega
    refine y120_s hW hp (by omega) hi (by omega) (by omega) hC.1 (r := r) (by omega) c3 ?_
    refine v_cworth hW hE 50 lo r 0 _ _ ht (by omega) (by omega) ?_
    have hg := v_gd_ev (up := fun e f => v_b (v_up (q_iv S 1017) e) f) hE.2.2.2.2.2.2.1 _ _ _ ht
    unfold v_cv at kk
    dsimp only at kk
    revert hg kk
    generalize v_ev e f so va (fun e f => v_b (v_up (q_iv S 1017) e) f) ns 50 r = q
    intro hg kk
    obtain ⟨q1, q2⟩ := q
    have g1 : q1 < 7 := hg.2.1
    dsimp only at kk ⊢
    refine y120_r (d := d) (w := w) hW hp g1 (by omega) (by omega) hw2 (fun _ _ => c1) (fun a b => ?_) (fun a b c d => ?_) (fun a b c d => ?_) (fun a b c d => ?_) (fun a b c d => ?_) (fun a => ?_)
    · rw [if_neg (by omega), if_neg b] at kk; exact kk
    · rw [if_neg (by omega), if_pos b, if_pos c, if_pos d] at kk; exact ih (j + 1) h2 kk (by omega)
    · rw [if_neg (by omega), if_pos b, if_pos c, if_neg d] at kk; exact kk
    · rw [if_neg (by omega), if_pos b, if_neg c, if_pos d] at kk; exact ih (j + 1) h2 kk (by omega)
    · rw [if_neg (by omega), if_pos b, if_neg c, if_neg d] at kk; exact kk
    · rw [if_pos (by omega)] at kk; exact kk
/-- the class tells how a policy is -/
def v_s120 (S : q_S) (P e f : Nat) : q_S := q_sI (q_sI (q_sR S 1029 1 (some P)) 1029 2 (nI e)) 1029 3 (nI f)
def v_x29 (a : Nat) : Bool := decide (a = 1029)
theorem v_x29_no {a : Nat} (h : a ≠ 1029) : v_x29 a = false := decide_eq_false h
theorem v_s120_fr : v_fr v_x29 S (v_s120 S P e f) := ((v_fr.refl.sR (by decide)).sI (by decide)).sI (by decide)
theorem v_s120_W (hW : w_W (q_S0 L xs) S) : w_W (q_S0 L xs) (v_s120 S P e f) := ((hW.sR (by decide) (w_nfK (by decide +kernel))).sI (by decide)).sI (by decide)
theorem v_cvd (hW : w_W (q_S0 L xs) S) (hp : w_P P) (he : e < 16) (ha : a < 10) (hf : f < 16) (hN : v_CN S P pl ns) (hC : v_CC S P pl cs) (hH : v_CH S P hd) (hF : v_WF N g hd ns cs) (hG : v_ge e f so va) (hA : ∀ e a, e < 16 → a < 3 → q_iv S 1018 (e * 3 + a) = nI (so e a) ∧ q_iv S 1019 (e * 3 + a) = va e a) (hdd : 120 ≤ d) (kk : Q (.returned (some (.int (nI (v_vd so va (fun e f => v_b (v_up (q_iv S 1017) e) f) hd ns cs e a f))))) (v_s120 S P e f)) : w_X d 120 [.ref 1029, .ref P, .int (nI e), .int (nI a), .int (nI f)] S Q := by
  obtain ⟨d, rfl⟩ : ∃ k, d = k + 4 := ⟨d - 4, by omega⟩
  refine y120_0 hW hp (by omega) (by omega) (by omega) ?_
  have hg := hp.rng
  have fr := v_s120_fr (S := S) (P := P) (e := e) (f := f)
  have hW1 : w_W (q_S0 L xs) (v_s120 S P e f) := v_s120_W hW
  have pn : ∀ k, k ≤ 10 → v_x29 (P + k) = false := fun k hk => v_x29_no (by omega)
  have e17 : q_iv (v_s120 S P e f) 1017 = q_iv S 1017 := fr.iv (by decide)
  have hH1 : v_CH (v_s120 S P e f) P hd := by
    unfold v_CH
    rw [fr.iv (a := P) (pn 0 (by decide)), fr.iv (pn 1 (by decide)), fr.iv (pn 2 (by decide))]
    exact hH
  show w_X (d + 3) 121 [.ref P, .int (nI e), .int (nI a), .int (nI f), .ref 1015] (v_s120 S P e f) _
  refine v_cft hW1 hp he ha hf hH1 hF.1 ?_
  rw [e17]
  unfold v_vd at kk
  by_cases h : v_ft (fun e f => v_b (v_up (q_iv S 1017) e) f) hd e a f = true
  · rw [if_pos h] at kk ⊢
    refine y120_y hW1 hp ?_
    refine v_ccv (d := d + 4) (g := g) (N := N) (hd := hd) hW1 (pl := pl) (ns := ns) (cs := cs) (e := e) (f := f) (so := so) (va := va) ⟨hp, hF.2.2.1, ?_, hN.fr fr pn, ?_, ?_, hG, ?_⟩ ?_ hF hdd cs 0 rfl ?_ (Nat.zero_le _)
    · exact v_hR (S := S) (a := 1029) (k := 1)
    · unfold v_s120; rw [v_kI (by decide)]; exact v_hI
    · exact v_hI
    · rw [fr.iv (by decide), fr.iv (by decide)]; exact hA
    · exact hC.same (by rw [fr.iv (a := P) (pn 0 (by decide))]) (fun m j h1 h2 => by rw [fr.iv (pn m (by omega))])
    · rw [e17]; exact kk
  · rw [if_neg h] at kk ⊢
    exact y120_n hW1 hp kk
/-- the reference -/
def v_mh (S S' : q_S) : Prop := v_fr v_xw S S' ∧ ∀ j, j ≠ 45 → j ≠ 46 → j ≠ 47 → j ≠ 48 → q_iv S' 1097 j = q_iv S 1097 j
theorem v_mfo {c : Nat × Nat} {k : Nat} (hW : w_W (q_S0 L xs) S) (hi : i < 6) (hk : k = 0 ∨ k = 1) (he : e < 16) (hlo : ∀ j, j < 16 → v_lo (q_iv S 1119 j)) (h1 : q_iv S 1111 (2 * i + k) = nI c.1) (h2 : q_iv S 1112 (2 * i + k) = nI c.2) (c1 : c.1 ≤ 2) (c2 : c.2 < 16) (kk : Q (.returned (some (.int (if v_fo (fun e f => v_b (v_up (q_iv S 1119) e) f) c e = true then 1 else 0)))) S) : w_X (d + 1) 186 [.ref 1097, .int (nI i), .int (nI k), .int (nI e)] S Q := by
  obtain ⟨r, f⟩ := c
  dsimp only at h1 h2 c1 c2
  have hr : r = 0 ∨ r = 1 ∨ r = 2 := by omega
  rcases hr with rfl | rfl | rfl
  · rw [show v_fo (fun e f => v_b (v_up (q_iv S 1119) e) f) (0, f) e = true from rfl, if_pos rfl] at kk
    rcases hk with rfl | rfl
    · exact z186_0_0 hW hi he c2 hlo h2 h1 kk
    · exact z186_1_0 hW hi he c2 hlo h2 h1 kk
  · rw [show v_fo (fun e f => v_b (v_up (q_iv S 1119) e) f) (1, f) e = decide (e = f) from rfl] at kk
    have ka : ¬ (e = f) → Q (.returned (some (.int 0))) S := fun z => by rw [decide_eq_false z, if_neg (by decide)] at kk; exact kk
    have kb : e = f → Q (.returned (some (.int 1))) S := fun z => by rw [decide_eq_true z, if_pos rfl] at kk; exact kk
    rcases hk with rfl | rfl
    · exact z186_0_1 hW hi he c2 hlo h2 h1 ka kb
    · exact z186_1_1 hW hi he c2 hlo h2 h1 ka kb
  · rw [show v_fo (fun e f => v_b (v_up (q_iv S 1119) e) f) (2, f) e = v_b (v_up (q_iv S 1119) e) f from rfl] at kk
    have ka : ¬ ((((v_up (q_iv S 1119) e) >>> ((nI f) &&& 31)) &&& (1 : Int32)) = (1 : Int32)) → Q (.returned (some (.int 0))) S := fun z => by
      rw [if_neg (fun h => z ((v_tst1 _ (by omega)).mpr h))] at kk
      exact kk
    have kb : (((v_up (q_iv S 1119) e) >>> ((nI f) &&& 31)) &&& (1 : Int32)) = (1 : Int32) → Q (.returned (some (.int 1))) S := fun z => by
      rw [if_pos ((v_tst1 _ (by omega)).mp z)] at kk
      exact kk
    rcases hk with rfl | rfl
    · exact z186_0_2 hW hi he c2 hlo h2 h1 ka kb
    · exact z186_1_2 hW hi he c2 hlo h2 h1 ka kb
theorem v_ms_sI0 (hm : v_ms 0 0 S S1) {j : Nat} {x : Int32} (h : j = 45 ∨ j = 46) : v_ms 0 0 S (q_sI S1 1097 j x) := hm.fd h
/-- the reference's conditions -/
theorem v_mcv {T : List v_Tk} (hE : v_MEv S (101 * i) i ns e f so va up) (hi : i < 6) (hC : v_MC S (20 * i) i cs) (hK : v_MTk S (101 * i) i T) (hF : v_WF (T.length - 1) (v_tg T) hd ns cs) (hg34 : ∀ j, j < T.length - 1 → v_tg T j < 34) (kk : ∀ S', w_W (q_S0 L xs) S' → v_ms 0 0 S S' → Q (.returned (some (.int (nI (v_cv e f so va up ns cs))))) S') : ∀ cs' j S1, cs.drop j = cs' → w_W (q_S0 L xs) S1 → v_ms 0 0 S S1 → v_cv e f so va up ns cs = v_cv e f so va up ns cs' → j ≤ cs.length → w_R (d + 5) 185 59 [(0, .ref 1097), (1, .int (nI i)), (5, .int (nI (20 * i + j)))] [] S1 Q := by
  obtain ⟨_, wn, _, wl, _, wr, _, wc⟩ := hF
  have x14 : ∀ {S1}, v_ms 0 0 S S1 → q_iv S1 1114 = q_iv S 1114 := fun h => h.1.iv (v_xw_no (by decide) (by decide))
  have x15 : ∀ {S1}, v_ms 0 0 S S1 → q_iv S1 1115 = q_iv S 1115 := fun h => h.1.iv (v_xw_no (by decide) (by decide))
  have x16 : ∀ {S1}, v_ms 0 0 S S1 → q_iv S1 1116 = q_iv S 1116 := fun h => h.1.iv (v_xw_no (by decide) (by decide))
  have x99 : ∀ {S1}, v_ms 0 0 S S1 → q_iv S1 1099 = q_iv S 1099 := fun h => h.1.iv (v_xw_no (by decide) (by decide))
  intro cs'
  induction cs' with
  | nil =>
    intro j S1 hj hW hm he hjl
    have hl : cs.length ≤ j := List.drop_eq_nil_iff.mp hj
    rw [he] at kk
    exact z185_e hW hi (cn := cs.length) (by omega) (by omega) (by omega) (by rw [x14 hm]; exact hC.1) (kk S1 hW hm)
  | cons c cs' ih =>
    intro j S1 hj hW hm he hjl
    obtain ⟨h1, h2⟩ := v_dropS hj
    obtain ⟨w, t, r⟩ := c
    obtain ⟨hjc, _⟩ := List.getElem?_eq_some_iff.mp h1
    obtain ⟨c1, c2⟩ := hC.2 j w t r h1
    obtain ⟨lo, ht⟩ := v_rg_get cs 0 j wr h1
    have hr := (v_tr_lo ht).2
    have hlen := hE.2.1
    obtain ⟨t1, t2⟩ := wc j w t r h1
    dsimp only at hr ht
    refine z185_s (d := d + 4) hW hi (cn := cs.length) (by omega) hjc (by omega) (by rw [x14 hm]; exact hC.1) (r := r) (by omega) (by rw [x16 hm]; exact c2) ?_
    refine o187_0 (d := d + 3) hW (by omega) (by omega) ?_
    have hW2 : w_W (q_S0 L xs) (q_sI (q_sI (q_sI (q_sI (q_sI S1 1097 45 (0 : Int32)) 1097 46 (0 : Int32)) 1131 0 (nI r)) 1132 0 (0 : Int32)) 1097 45 (1 : Int32)) := ((((hW.sI (by decide)).sI (by decide)).sI (by decide)).sI (by decide)).sI (by decide)
    have hm2 : v_ms 0 0 S (q_sI (q_sI (q_sI (q_sI (q_sI S1 1097 45 (0 : Int32)) 1097 46 (0 : Int32)) 1131 0 (nI r)) 1132 0 (0 : Int32)) 1097 45 (1 : Int32)) := ((((hm.fd (Or.inl rfl)).fd (Or.inr rfl)).ph (Or.inl rfl) (Nat.le_refl _)).ph (Or.inr rfl) (Nat.le_refl _)).fd (Or.inl rfl)
    have hg := v_gd_ev (up := up) hE.2.2.2.2.2.1 _ _ _ ht
    have tl := hK.2 t t1
    have c34 := (v_wchp (hg34 t t1)).2.2.2.2.2.2.2.1
    have wlt : v_wc (v_tg T t) < 2000 := by
      have : ∀ s, s < 34 → v_wc s < 2000 := by decide +kernel
      exact this _ (hg34 t t1)
    refine v_mworth (d := d + 1) (o := 101 * i) (b := i) (L := L) (xs := xs) (ns := ns) (pr := e) (rs := f) (so := so) (va := va) (up := up) 50 lo r 0 0 _ _ ht (by omega) (by omega) hW2 (hE.ms hm2) v_hI ?_ ?_ ?_ ?_
    · rw [v_aI (by decide), v_aI (by decide)]; exact v_hI
    · rw [v_aI (by decide)]; exact v_hI
    · rw [v_kI (by decide), v_aI (by decide), v_aI (by decide)]; exact v_hI
    rw [show v_cv e f so va up ns ((w, t, r) :: cs') = (if 4 ≤ (v_ev e f so va up ns 50 r).1 then (v_ev e f so va up ns 50 r).1 else if (v_ev e f so va up ns 50 r).1 = 2 then (if (v_ev e f so va up ns 50 r).2 = (if w = 0 then 0 else 1) then v_cv e f so va up ns cs' else 2) else 4) from rfl] at he
    revert hg he
    generalize v_ev e f so va up ns 50 r = q
    intro he hg
    obtain ⟨q1, q2⟩ := q
    have g1 : q1 < 7 := hg.2.1
    have g0 : 1 ≤ q1 := hg.1
    have gb : q1 = 2 → q2 = 0 ∨ q2 = 1 := hg.2.2.1
    dsimp only at he
    constructor
    · intro h4 S3 hW3 hm3
      dsimp only at h4
      rw [if_pos h4] at he
      refine z185_x hW3 hi (er := q1) (by omega) g1 ?_
      rw [he] at kk
      exact kk S3 hW3 (hm2.trans hm3 (by omega) (by omega))
    · intro h4 S3 hW3 hm3 a45 a46 a33 a34
      dsimp only at h4 a33 a34
      have hm4 : v_ms 0 0 S S3 := hm2.trans hm3 (by omega) (by omega)
      refine o187_e hW3 (by omega) a45 ?_
      rw [if_neg (by omega)] at he
      refine z185_r (s := q1) (x := q2) (tk := t) (wc := v_wc (v_tg T t)) hW3 hi g1 a33 a34 (by omega) (by omega) (fun _ => by rw [x15 hm4]; exact c1) wlt (fun _ => by rw [x99 hm4]; exact tl.1) (fun a b c => ?_) (fun a b c => ?_) (fun a b c => ?_) (fun a b c => ?_) (fun a => ?_)
      · have hw : w = 0 := by rw [t2, if_neg (fun z => b (c34.mpr z))]
        rw [if_pos a, hw, if_pos rfl, if_pos ((gb a).resolve_right c)] at he
        exact ih (j + 1) S3 h2 hW3 hm4 he (by omega)
      · have hw : w = 0 := by rw [t2, if_neg (fun z => b (c34.mpr z))]
        rw [if_pos a, hw, if_pos rfl, if_neg (by rw [c]; decide)] at he
        rw [he] at kk
        exact kk S3 hW3 hm4
      · have hw : w = 1 := by rw [t2, if_pos (c34.mp b)]
        rw [if_pos a, hw, if_neg (by decide : ¬ (1 : Nat) = 0), if_neg c] at he
        rw [he] at kk
        exact kk S3 hW3 hm4
      · have hw : w = 1 := by rw [t2, if_pos (c34.mp b)]
        rw [if_pos a, hw, if_neg (by decide : ¬ (1 : Nat) = 0), if_pos c] at he
        exact ih (j + 1) S3 h2 hW3 hm4 he (by omega)
      · rw [if_neg a] at he
        rw [he] at kk
        exact kk S3 hW3 hm4
/-- the reference tells how a policy is -/
theorem v_mvd {T : List v_Tk} (hW : w_W (q_S0 L xs) S) (hi : i < 6) (he : e < 16) (ha : a < 10) (hf : f < 16) (hN : v_MN S (101 * i) i ns) (hC : v_MC S (20 * i) i cs) (hH : v_MH S i hd) (hK : v_MTk S (101 * i) i T) (hF : v_WF (T.length - 1) (v_tg T) hd ns cs) (hg34 : ∀ j, j < T.length - 1 → v_tg T j < 34) (hG : v_ge e f so va) (hA : ∀ e a, e < 16 → a < 3 → (q_iv S 1117 e = 0 → so e a = 0) ∧ (¬ q_iv S 1117 e = 0 → q_iv S 1120 (3 * e + a) = nI (so e a)) ∧ (so e a ≠ 0 → q_iv S 1121 (3 * e + a) = va e a)) (hlo : ∀ j, j < 16 → v_lo (q_iv S 1119 j)) (kk : ∀ S', w_W (q_S0 L xs) S' → v_mh S S' → Q (.returned (some (.int (nI (v_vd so va (fun e f => v_b (v_up (q_iv S 1119) e) f) hd ns cs e a f))))) S') : w_X (d + 6) 185 [.ref 1097, .int (nI i), .int (nI e), .int (nI a), .int (nI f)] S Q := by
  have kS := kk S hW ⟨v_fr.refl, fun _ _ _ _ _ => rfl⟩
  obtain ⟨_, s1, s2, s3, s4, s5⟩ := hH
  obtain ⟨_, w1, w2, w3, w4, w5⟩ := hF.1
  refine z185_0 (d := d + 5) hW hi (by omega) (by omega) (by omega) ?_
  refine v_mfo (k := 0) (d := d + 4) hW hi (Or.inl rfl) he hlo s1 s2 w1 w2 ?_
  unfold v_vd at kk kS
  have fin : v_ft (fun e f => v_b (v_up (q_iv S 1119) e) f) hd e a f = true → w_R (d + 6) 185 59 [(0, .ref 1097), (1, .int (nI i)), (5, .int (nI (20 * i)))] [] (q_sI (q_sI S 1097 47 (nI e)) 1097 48 (nI f)) Q := by
    intro hft
    rw [if_pos hft] at kk
    have hW1 : w_W (q_S0 L xs) (q_sI (q_sI S 1097 47 (nI e)) 1097 48 (nI f)) := (hW.sI (by decide)).sI (by decide)
    have fr : v_fr v_xw S (q_sI (q_sI S 1097 47 (nI e)) 1097 48 (nI f)) := (v_fr.refl.sI (by decide)).sI (by decide)
    refine v_mcv (d := d + 1) (S := q_sI (q_sI S 1097 47 (nI e)) 1097 48 (nI f)) (e := e) (f := f) (so := so) (va := va) (up := fun e f => v_b (v_up (q_iv S 1119) e) f) (ns := ns) (cs := cs) (hd := hd) (T := T) ⟨by omega, hF.2.2.1, hN.fr fr (fun a h1 h2 => v_xw_no (by omega) (by omega)), ?_, v_hI, hG, ?_, ?_, ?_⟩ hi ?_ ?_ hF hg34 (fun S' hW' hm' => kk S' hW' ?_) cs 0 _ rfl hW1 v_ms.refl rfl (Nat.zero_le _)
    · rw [v_kI (by decide)]; exact v_hI
    · rw [fr.iv (v_xw_no (a := 1117) (by decide) (by decide)), fr.iv (v_xw_no (a := 1120) (by decide) (by decide)), fr.iv (v_xw_no (a := 1121) (by decide) (by decide))]; exact hA
    · rw [fr.iv (v_xw_no (a := 1119) (by decide) (by decide))]; exact hlo
    · intro e f; rw [fr.iv (v_xw_no (a := 1119) (by decide) (by decide))]
    · unfold v_MC
      rw [fr.iv (v_xw_no (a := 1114) (by decide) (by decide)), fr.iv (v_xw_no (a := 1115) (by decide) (by decide)), fr.iv (v_xw_no (a := 1116) (by decide) (by decide))]; exact hC
    · unfold v_MTk
      rw [fr.iv (v_xw_no (a := 1102) (by decide) (by decide)), fr.iv (v_xw_no (a := 1099) (by decide) (by decide)), fr.iv (v_xw_no (a := 1101) (by decide) (by decide))]; exact hK
    · exact ⟨fr.trans hm'.1, fun j a b c d => by rw [hm'.2.1 j a b, v_kI d, v_kI c]⟩
  unfold v_ft at kS fin
  by_cases h1 : v_fo (fun e f => v_b (v_up (q_iv S 1119) e) f) hd.2.1 e = true
  · rw [if_pos h1]
    rw [h1, Bool.true_and] at kS fin
    refine z185_a1 (d := d + 5) (e := e) (a := a) (f := f) hW hi (by omega) (by omega) (by omega) ?_
    refine v_mfo (k := 1) (d := d + 4) hW hi (Or.inr rfl) hf hlo s4 s5 w4 w5 ?_
    by_cases h2 : v_fo (fun e f => v_b (v_up (q_iv S 1119) e) f) hd.2.2.2 f = true
    · rw [if_pos h2]
      rw [h2, Bool.true_and] at kS fin
      cases hb : hd.2.2.1 with
      | none =>
        rw [hb] at s3 fin
        exact z185_bn hW hi (by omega) (by omega) (by omega) s3 (fin rfl)
      | some b =>
        rw [hb] at s3 fin kS
        have hb10 := w3 b hb
        refine z185_bs (b := b) hW hi (by omega) (by omega) (by omega) (by omega) s3 (fun z => ?_) (fun z => ?_)
        · exact fin (decide_eq_true z)
        · have : v_fa (some b) a = false := decide_eq_false z
          rw [this, if_neg (by decide)] at kS
          exact kS
    · rw [if_neg h2]
      rw [Bool.eq_false_iff.mpr h2, Bool.false_and, if_neg (by decide)] at kS
      exact z185_b0 hW hi (by omega) (by omega) (by omega) kS
  · rw [if_neg h1]
    rw [Bool.eq_false_iff.mpr h1, Bool.false_and, if_neg (by decide)] at kS
    exact z185_a0 hW hi (by omega) (by omega) (by omega) kS
end VVD
