/-! THE REFERENCE'S CHECK of a node. -/
theorem u_wc34 : ∀ s, s < 34 → (v_wc s = 308 ↔ s = 6) ∧ (v_wc s = 309 ↔ s = 7) ∧ (v_wc s = 204 ↔ s = 20) ∧ (v_wc s = 205 ↔ s = 19) ∧ (v_wc s = 305 ↔ s = 26) ∧ v_wc s < 2000 := by decide +kernel
theorem u_nw {s : Nat} {r : Option Nat} (h : s < 34) : (v_nw s r = 308 ↔ s = 6) ∧ (v_nw s r = 309 ↔ s = 7) ∧ (v_nw s r = 204 ↔ s = 20) ∧ (v_nw s r = 205 ↔ s = 19) ∧ (v_nw s r = 305 ↔ s = 26) ∧ v_nw s r < 2000 := by
  unfold v_nw
  split
  · rename_i h1
    obtain ⟨rfl, _⟩ := h1
    decide
  · exact u_wc34 s h
theorem u_bit {x : Int32} {j : Nat} (hj : j < 32) : (x &&& ((1 : Int32) <<< (nI j &&& 31))) = 0 ↔ v_b x j = false := by
  constructor
  · intro h
    have h2 := congrArg (fun z => v_b z j) h
    replace h2 : v_b (x &&& ((1 : Int32) <<< (nI j &&& 31))) j = v_b 0 j := h2
    rw [v_b_and, v_b_0, v_b_shl 1 hj j, v_b_1] at h2
    simpa [hj] using h2
  · intro h
    apply v_ext
    intro k hk
    rw [v_b_and, v_b_0, v_b_shl 1 hj k, v_b_1]
    by_cases hkj : k = j
    · subst hkj; rw [h]; rfl
    · by_cases hlt : k < j
      · simp [hlt]
      · have : ¬ (k - j = 0) := by omega
        simp [this]
theorem u_kb7 {x : Nat} (h : x < 3) : ((1 : Int32) <<< (nI x &&& 31)) <<< ((3 : Int32) &&& 31) = (1 : Int32) <<< (nI (x + 3) &&& 31) := by
  have : x = 0 ∨ x = 1 ∨ x = 2 := by omega
  rcases this with rfl | rfl | rfl <;> decide
theorem u_kt6 {kn : Int32} {x : Nat} (h : x < 3) : (((kn >>> ((nI x) &&& 31)) &&& (1 : Int32)) = (1 : Int32)) ↔ ¬ (kn &&& u_kb 6 x = 0) := by
  unfold u_kb
  rw [if_pos rfl, v_tst1 _ (by omega), u_bit (by omega)]
  cases v_b kn x <;> simp
theorem u_kt7 {kn : Int32} {x : Nat} (h : x < 3) : (((kn >>> ((nI (x + 3)) &&& 31)) &&& (1 : Int32)) = (1 : Int32)) ↔ ¬ (kn &&& u_kb 7 x = 0) := by
  unfold u_kb
  rw [if_neg (by decide), if_pos rfl, u_kb7 h, v_tst1 _ (by omega), u_bit (by omega)]
  cases v_b kn (x + 3) <;> simp
theorem u_and0 (x : Int32) : x &&& 0 = 0 := by
  apply v_ext
  intro k hk
  rw [v_b_and, v_b_0, Bool.and_false]
theorem u_or0 (x : Int32) : x ||| 0 = x := by
  apply v_ext
  intro k hk
  rw [v_b_or, v_b_0, Bool.or_false]
section VMK
variable {d L : Nat} {xs : Nat → Int32} {S : q_S} {ke : Nat → Nat} {dt : Nat → Nat → Nat} {su : Nat → Nat → Bool} {hd : v_Hd} {ns : List v_Nd} {Q : Outcome → q_S → Prop} {i n : Nat}
/-- a type is put -/
def u_pt (S : q_S) (m t : Nat) : q_S := q_sI (q_sI S 1135 m (nI (t % 4))) 1136 m (nI (t / 4))
theorem x202 {c : Nat × Nat} {k : Nat} (hW : w_W (q_S0 L xs) S) (hK : u_KM S ke dt su) (hi : i < 6) (hk : k = 0 ∨ k = 1) (h1 : q_iv S 1111 (2 * i + k) = nI c.1) (h2 : q_iv S 1112 (2 * i + k) = nI c.2) (c1 : c.1 ≤ 2) (c2 : c.2 < 16) {x : Int32} (kk : Q (.returned (some (.int (nI (u_kk ke c))))) S) : w_X d 202 [.ref 1097, .int (nI i), .int (if k = 0 then 308 else 309), .int x] S Q := by
  obtain ⟨r, f⟩ := c
  dsimp only at h1 h2 c1 c2
  have hr : r = 0 ∨ r = 1 ∨ r = 2 := by omega
  rcases hr with rfl | rfl | rfl
  · rcases hk with rfl | rfl
    · exact c202_308_0 hW hi c2 h2 h1 kk
    · exact c202_309_0 hW hi c2 h2 h1 kk
  · have kk' : Q (.returned (some (.int (nI (ke f))))) S := kk
    rcases hK.1 f c2 with ⟨a1, a2⟩ | ⟨p, hp, a1, a2, a3⟩
    · rw [a2] at kk'
      rcases hk with rfl | rfl
      · exact c202_308_1n hW hi c2 h2 h1 a1 kk'
      · exact c202_309_1n hW hi c2 h2 h1 a1 kk'
    · rw [a3, ← u_sh1 hp] at kk'
      rcases hk with rfl | rfl
      · exact c202_308_1y hW hi c2 h2 h1 a1 hp a2 kk'
      · exact c202_309_1y hW hi c2 h2 h1 a1 hp a2 kk'
  · rcases hk with rfl | rfl
    · exact c202_308_2 hW hi c2 h2 h1 kk
    · exact c202_309_2 hW hi c2 h2 h1 kk
theorem u_pt3 {m k : Nat} : u_pt S m (4 * k + 3) = q_sI (q_sI S 1135 m (3 : Int32)) 1136 m (nI k) := by
  unfold u_pt
  rw [show (4 * k + 3) % 4 = 3 by omega, show (4 * k + 3) / 4 = k by omega]
  rfl
theorem u_pt1 {m : Nat} : u_pt S m 1 = q_sI (q_sI S 1135 m (1 : Int32)) 1136 m (0 : Int32) := rfl
theorem u_pt2 {m : Nat} : u_pt S m 2 = q_sI (q_sI S 1135 m (2 : Int32)) 1136 m (0 : Int32) := rfl
theorem x200L {s t x N : Nat} {g : Nat → Nat} {cs : List v_Cd} (hW : w_W (q_S0 L xs) S) (hK : u_KM S ke dt su) (hT : u_KT ke dt) (hi : i < 6) (hn : n < 100) (hN : v_MN S (101 * i) i ns) (hH : v_MH S i hd) (hF : v_WF N g hd ns cs) (e1 : ns[n]? = some (s, t, x, none, none)) (hl : v_lf s = true) (hx : s = 31 → x < 16) (hx6 : x < 1000000) (kk : Q (.returned (some (.int 1))) (u_pt S (101 * i + n) (u_lft ke hd s x))) : w_X (d + 2) 200 [.ref 1097, .int (nI i), .int (nI (101 * i)), .int (nI (101 * i + n))] S Q := by
  obtain ⟨n1, n2, n3, n4, n5⟩ := hN.2 n s t x none none e1
  have h6 : s = 30 ∨ s = 4 ∨ s = 5 ∨ s = 31 ∨ s = 6 ∨ s = 7 := by
    unfold v_lf at hl
    simp only [Bool.or_eq_true, decide_eq_true_eq] at hl
    exact hl
  obtain ⟨_, s1, s2, s3, s4, s5⟩ := hH
  obtain ⟨_, w1, w2, w3, w4, w5⟩ := hF.1
  rcases h6 with rfl | rfl | rfl | rfl | rfl | rfl
  · have kk' : Q (.returned (some (.int 1))) (u_pt S (101 * i + n) 1) := kk
    rw [u_pt1] at kk'
    exact c200_1 hW hi hn n1 n2 n3 kk'
  · have kk' : Q (.returned (some (.int 1))) (u_pt S (101 * i + n) 2) := kk
    rw [u_pt2] at kk'
    exact c200_306 hW hi hn n1 n2 n3 kk'
  · have kk' : Q (.returned (some (.int 1))) (u_pt S (101 * i + n) 2) := kk
    rw [u_pt2] at kk'
    exact c200_307 hW hi hn n1 n2 n3 kk'
  · refine c200_2 (d := d + 1) hW hi hn n1 n2 n3 hx6 n4 ?_
    have kk' : Q (.returned (some (.int 1))) (u_pt S (101 * i + n) (4 * ke x + 3)) := kk
    rw [u_pt3] at kk'
    rcases hK.1 x (hx rfl) with ⟨a1, a2⟩ | ⟨p, hp, a1, a2, a3⟩
    · rw [a2] at kk'
      exact c202_2n hW hi (hx rfl) a1 (c200_210 hW hi hn kk')
    · rw [a3, ← u_sh1 hp] at kk'
      exact c202_2y hW hi (hx rfl) a1 hp a2 (c200_210 hW hi hn kk')
  · have kk' : Q (.returned (some (.int 1))) (u_pt S (101 * i + n) (4 * u_kk ke hd.2.1 + 3)) := kk
    rw [u_pt3] at kk'
    refine c200_308 (d := d + 1) hW hi hn n1 n2 n3 hx6 n4 ?_
    exact x202 (k := 0) hW hK hi (Or.inl rfl) s1 s2 w1 w2 (c200_210 hW hi hn kk')
  · have kk' : Q (.returned (some (.int 1))) (u_pt S (101 * i + n) (4 * u_kk ke hd.2.2.2 + 3)) := kk
    rw [u_pt3] at kk'
    refine c200_309 (d := d + 1) hW hi hn n1 n2 n3 hx6 n4 ?_
    exact x202 (k := 1) hW hK hi (Or.inr rfl) s4 s5 w4 w5 (c200_210 hW hi hn kk')
theorem x203 {a u t : Nat} {s' : Nat} {r' : Option Nat} {kn : Int32} (hW : w_W (q_S0 L xs) S) (hK : u_KM S ke dt su) (hT : u_KT ke dt) (hi : i < 6) (hn : n < 100) (ha : a < n) (hu : u < 3) (hx : q_iv S 1104 (101 * i + n) = nI a) (hv : q_iv S 1106 (101 * i + n) = nI u) (hok : u_ok t) (h5 : q_iv S 1135 (101 * i + a) = nI (t % 4)) (h6 : q_iv S 1136 (101 * i + a) = nI (t / 4)) (h3 : q_iv S 1103 (101 * i + a) = nI (v_nw s' r')) (hs : s' < 34) (h8 : q_iv S 1138 (101 * i + n) = kn) (k0 : u_one dt su s' kn 16 u t = 0 → Q (.returned (some (.int 0))) S) (k1 : ¬ u_one dt su s' kn 16 u t = 0 → Q (.returned (some (.int 1))) (u_pt S (101 * i + n) (u_one dt su s' kn 16 u t))) : w_X (d + 1) 203 [.ref 1097, .int (nI (101 * i)), .int (nI (101 * i + n))] S Q := by
  have e : u_one dt su s' kn 16 u t = if t % 4 = 3 then (if u_as su (t / 4) u = true then u_ct dt (t / 4) u else if kn &&& u_kb s' u = 0 then 0 else u_ct dt (t / 4) u) else 0 := rfl
  rw [e] at k0 k1
  have h32 := u_ok_lt hok
  by_cases h : t % 4 = 3
  · rw [if_pos h] at k0 k1
    rw [h] at h5
    refine u_fA (ki := t / 4) hW hT hK hi hn ha hu (by omega) hx hv h5 h6 (fun z => k0 ?_) (fun k hk hz he => ?_)
    · rw [z]; split <;> (try split) <;> rfl
    · obtain ⟨d1, d2, d3⟩ := hK.2 k u hk hu
      have D := hT.dv (k := k) hk hu
      rw [he] at d1 d2 D
      revert k0 k1 hz d1 d2 D
      generalize u_ct dt (t / 4) u = c
      intro k0 k1 hz d1 d2 D
      have p1 : ∀ y, ¬ c % 4 = 3 → y = (0 : Int32) → Q (.returned (some (.int 1))) (u_pt S (101 * i + n) c) → Q (.returned (some (.int 1))) (q_sI (q_sI S 1135 (101 * i + n) (nI (c % 4))) 1136 (101 * i + n) y) := by
        intro y hc hy hq
        subst hy
        unfold u_pt at hq
        rw [show c / 4 = 0 by unfold u_dv at D; omega] at hq
        exact hq
      have p2 : c % 4 = 3 → Q (.returned (some (.int 1))) (u_pt S (101 * i + n) c) → Q (.returned (some (.int 1))) (q_sI (q_sI S 1135 (101 * i + n) (nI (c % 4))) 1136 (101 * i + n) ((1 : Int32) <<< ((nI (u_of c)) &&& 31))) := by
        intro hc hq
        unfold u_pt at hq
        rw [u_sh1 (u_ofl c), show 2 ^ u_of c = c / 4 by
          unfold u_dv at D
          rcases D with ⟨rfl, q⟩ | ⟨rfl, q⟩ | ⟨rfl, q⟩ | ⟨rfl, q⟩ | ⟨rfl, q⟩ | ⟨rfl, q⟩
          · omega
          · omega
          · omega
          all_goals (rw [q])]
        exact hq
      have yes1 : u_as su (t / 4) u = true → Q (.returned (some (.int 1))) (u_pt S (101 * i + n) c) := fun h => by rw [if_pos h] at k1; exact k1 hz
      have yes2 : ¬ (kn &&& u_kb s' u = 0) → Q (.returned (some (.int 1))) (u_pt S (101 * i + n) c) := fun h => by
        by_cases ha : u_as su (t / 4) u = true
        · exact yes1 ha
        · rw [if_neg ha, if_neg h] at k1; exact k1 hz
      have no : u_as su (t / 4) u = false → kn &&& u_kb s' u = 0 → Q (.returned (some (.int 0))) S := fun ha h => by
        rw [if_neg (by rw [ha]; decide), if_pos h] at k0; exact k0 rfl
      by_cases h6' : s' = 6
      · subst h6'
        have hq := u_kt6 (kn := kn) hu
        exact c203_165p (k := k) (s := c % 4) (o := u_of c) hW hi hn ha hu hk (by rw [h3, (u_nw (by decide)).1.mpr rfl]; rfl) h8 (by omega) (fun _ _ => d1) (u_ofl c) (fun _ _ => d2) (fun _ _ => d1) (fun _ _ => d2) (fun _ _ => d1) (fun _ _ => d2) (fun a b c => p1 _ c rfl (yes1 (u_n0 b))) (fun a b c => p2 c (yes1 (u_n0 b))) (fun a b => no (u_e0 b) (Decidable.of_not_not (fun z => a (hq.mpr z)))) (fun a b c => p1 _ c rfl (yes1 (u_n0 b))) (fun a b c => p2 c (yes1 (u_n0 b))) (fun a b c => p1 _ c rfl (yes2 (hq.mp a))) (fun a b c => p2 c (yes2 (hq.mp a)))
      · by_cases h7' : s' = 7
        · subst h7'
          have hq := u_kt7 (kn := kn) hu
          exact c203_165r (k := k) (s := c % 4) (o := u_of c) hW hi hn ha hu hk (by rw [h3, (u_nw (by decide)).2.1.mpr rfl]; rfl) h8 (by omega) (fun _ _ => d1) (u_ofl c) (fun _ _ => d2) (fun _ _ => d1) (fun _ _ => d2) (fun _ _ => d1) (fun _ _ => d2) (fun a b c => p1 _ c rfl (yes1 (u_n0 b))) (fun a b c => p2 c (yes1 (u_n0 b))) (fun a b => no (u_e0 b) (Decidable.of_not_not (fun z => a (hq.mpr z)))) (fun a b c => p1 _ c rfl (yes1 (u_n0 b))) (fun a b c => p2 c (yes1 (u_n0 b))) (fun a b c => p1 _ c rfl (yes2 (hq.mp a))) (fun a b c => p2 c (yes2 (hq.mp a)))
        · have w := u_nw (r := r') hs
          exact c203_165o (k := k) (s := c % 4) (o := u_of c) (wx := v_nw s' r') hW hi hn ha hu hk (fun z => h6' (w.1.mp z)) (fun z => h7' (w.2.1.mp z)) w.2.2.2.2.2 h3 (by omega) (fun _ => d1) (u_ofl c) (fun _ => d2) (fun b c => p1 _ c rfl (yes1 (u_n0 b))) (fun b c => p2 c (yes1 (u_n0 b))) (fun b => no (u_e0 b) (by unfold u_kb; rw [if_neg h6', if_neg h7']; exact u_and0 _))
  · rw [if_neg h] at k0 k1
    exact c203_t hW hi hn ha hu hx hv h (by omega) h5 (k0 rfl)
theorem x200U {a s t x tp h lo : Nat} {kn : Int32} (hW : w_W (q_S0 L xs) S) (hK : u_KM S ke dt su) (hT : u_KT ke dt) (hi : i < 6) (hn : n < 100) (hN : v_MN S (101 * i) i ns) (e1 : ns[n]? = some (s, t, x, some a, none)) (ha : a < n) (ht : v_tr h ns lo a) (hs : s = 18 ∨ s = 28 ∨ ((s = 16 ∨ s = 26) ∧ x < 3)) (hok : u_ok tp) (h5 : q_iv S 1135 (101 * i + a) = nI (tp % 4)) (h6 : q_iv S 1136 (101 * i + a) = nI (tp / 4)) (h8 : q_iv S 1138 (101 * i + n) = kn) (k0 : u_one dt su (u_sg ns a) kn s x tp = 0 → ∀ S', (S' = S ∨ ∃ y, S' = u_pt S (101 * i + n) y) → Q (.returned (some (.int 0))) S') (k1 : ¬ u_one dt su (u_sg ns a) kn s x tp = 0 → Q (.returned (some (.int 1))) (u_pt S (101 * i + n) (u_one dt su (u_sg ns a) kn s x tp))) : w_X (d + 2) 200 [.ref 1097, .int (nI i), .int (nI (101 * i)), .int (nI (101 * i + n))] S Q := by
  obtain ⟨n1, n2, n3, n4, n5⟩ := hN.2 n s t x (some a) none e1
  have h32 := u_ok_lt hok
  rcases hs with rfl | rfl | ⟨rfl | rfl, hx⟩
  · have e : u_one dt su (u_sg ns a) kn 18 x tp = if tp % 4 = 2 then tp else 0 := rfl
    rw [e] at k0 k1
    refine c200_33 (tx := tp % 4) hW hi hn ha n1 n2 n3 (by omega) h5 (fun c => ?_) (fun c => ?_)
    · rw [if_neg c] at k0; exact k0 rfl _ (Or.inr ⟨2, rfl⟩)
    · have : tp = 2 := by unfold u_ok at hok; omega
      rw [if_pos c, this] at k1; exact k1 (by decide)
  · have e : u_one dt su (u_sg ns a) kn 28 x tp = if tp % 4 = 1 then tp else 0 := rfl
    rw [e] at k0 k1
    refine c200_45 (tx := tp % 4) hW hi hn ha n1 n2 n3 (by omega) h5 (fun c => ?_) (fun c => ?_)
    · rw [if_neg c] at k0; exact k0 rfl _ (Or.inr ⟨1, rfl⟩)
    · have : tp = 1 := by unfold u_ok at hok; omega
      rw [if_pos c, this] at k1; exact k1 (by decide)
  · obtain ⟨s', t', x', l', r', f1, f2, f3⟩ := v_tr_sg ht
    obtain ⟨m1, _⟩ := hN.2 a s' t' x' l' r' f1
    rw [f2] at k0 k1
    refine c200_46 (d := d + 1) hW hi hn ha n1 n2 n3 ?_
    exact x203 hW hK hT hi hn ha hx n2 n4 hok h5 h6 m1 f3 h8 (fun z => c200_222 hW hi hn (k0 z _ (Or.inl rfl))) (fun z => c200_221 (hW.sI (by decide) |>.sI (by decide)) hi hn (k1 z))
  · have e : u_one dt su (u_sg ns a) kn 26 x tp = if tp % 4 = 3 then 2 else 0 := rfl
    rw [e] at k0 k1
    refine c200_305 (tx := tp % 4) hW hi hn ha n1 n2 n3 (by omega) h5 (fun c => ?_) (fun c => ?_)
    · rw [if_neg c] at k0; exact k0 rfl _ (Or.inr ⟨2, rfl⟩)
    · rw [if_pos c] at k1; exact k1 (by decide)
theorem x200B {a b s t x tp tq : Nat} (hW : w_W (q_S0 L xs) S) (hi : i < 6) (hn : n < 100) (hN : v_MN S (101 * i) i ns) (e1 : ns[n]? = some (s, t, x, some a, some b)) (ha : a < n) (hb : b < n) (hab : a < b) (hs : v_lv s < 5) (h26 : s ≠ 26) (h5 : q_iv S 1135 (101 * i + a) = nI (tp % 4)) (h6 : q_iv S 1135 (101 * i + b) = nI (tq % 4)) (k0 : u_two s tp tq = 0 → ∀ S', (S' = S ∨ ∃ y, S' = u_pt S (101 * i + n) y) → Q (.returned (some (.int 0))) S') (k1 : ¬ u_two s tp tq = 0 → Q (.returned (some (.int 1))) (u_pt S (101 * i + n) (u_two s tp tq))) : w_X (d + 2) 200 [.ref 1097, .int (nI i), .int (nI (101 * i)), .int (nI (101 * i + n))] S Q := by
  obtain ⟨n1, n2, n3, n4, n5⟩ := hN.2 n s t x (some a) (some b) e1
  have hc : s = 19 ∨ s = 20 ∨ s = 21 ∨ s = 22 ∨ s = 23 ∨ s = 24 ∨ s = 25 ∨ s = 27 ∨ s = 28 ∨ s = 29 := by
    unfold v_lv at hs
    repeat' split at hs
    all_goals omega
  have lp : tp % 4 < 4 := by omega
  have lq : tq % 4 < 4 := by omega
  have three : ∀ w v, u_two s tp tq = (if tp % 4 = tq % 4 then (if tp % 4 = w then v else 0) else 0) → (¬ v = 0) → (tp % 4 = w → ¬ tq % 4 = w → Q (.returned (some (.int 0))) (u_pt S (101 * i + n) v)) ∧ (¬ tp % 4 = w → Q (.returned (some (.int 0))) (u_pt S (101 * i + n) v)) ∧ (tp % 4 = w → tq % 4 = w → Q (.returned (some (.int 1))) (u_pt S (101 * i + n) v)) := by
    intro w v e hv
    rw [e] at k0 k1
    refine ⟨fun c c' => ?_, fun c => ?_, fun c c' => ?_⟩
    · rw [if_neg (by omega)] at k0; exact k0 rfl _ (Or.inr ⟨v, rfl⟩)
    · exact k0 (by rw [if_neg c]; split <;> rfl) _ (Or.inr ⟨v, rfl⟩)
    · rw [if_pos (by omega), if_pos c] at k1; exact k1 hv
  rcases hc with rfl | rfl | rfl | rfl | rfl | rfl | rfl | rfl | rfl | rfl
  · obtain ⟨z1, z2, z3⟩ := three 2 2 rfl (by decide)
    exact c200_205 hW hi hn ha hb hab n1 n2 n3 lp h5 lq (fun _ => h6) z2 z1 z3
  · obtain ⟨z1, z2, z3⟩ := three 2 2 rfl (by decide)
    exact c200_204 hW hi hn ha hb hab n1 n2 n3 lp h5 lq (fun _ => h6) z2 z1 z3
  · have e : u_two 21 tp tq = if tp % 4 = tq % 4 then 2 else 0 := rfl
    rw [e] at k0 k1
    exact c200_200 hW hi hn ha hb hab n1 n2 n3 lp h5 lq h6 (fun c => by rw [if_neg c] at k0; exact k0 rfl _ (Or.inr ⟨2, rfl⟩)) (fun c => by rw [if_pos c] at k1; exact k1 (by decide))
  · have e : u_two 22 tp tq = if tp % 4 = tq % 4 then 2 else 0 := rfl
    rw [e] at k0 k1
    exact c200_201 hW hi hn ha hb hab n1 n2 n3 lp h5 lq h6 (fun c => by rw [if_neg c] at k0; exact k0 rfl _ (Or.inr ⟨2, rfl⟩)) (fun c => by rw [if_pos c] at k1; exact k1 (by decide))
  · obtain ⟨z1, z2, z3⟩ := three 1 2 rfl (by decide)
    exact c200_202 hW hi hn ha hb hab n1 n2 n3 lp h5 lq (fun _ => h6) z2 z1 z3
  · obtain ⟨z1, z2, z3⟩ := three 1 2 rfl (by decide)
    exact c200_203 hW hi hn ha hb hab n1 n2 n3 lp h5 lq (fun _ => h6) z2 z1 z3
  · obtain ⟨z1, z2, z3⟩ := three 3 2 rfl (by decide)
    exact c200_304 hW hi hn ha hb hab n1 n2 n3 lp h5 lq (fun _ => h6) z2 z1 z3
  · obtain ⟨z1, z2, z3⟩ := three 1 1 rfl (by decide)
    exact c200_43 hW hi hn ha hb hab n1 n2 n3 lp h5 lq (fun _ => h6) z2 z1 z3
  · obtain ⟨z1, z2, z3⟩ := three 1 1 rfl (by decide)
    exact c200_1045 hW hi hn ha hb hab n1 n2 n3 lp h5 lq (fun _ => h6) z2 z1 z3
  · obtain ⟨z1, z2, z3⟩ := three 1 1 rfl (by decide)
    exact c200_42 hW hi hn ha hb hab n1 n2 n3 lp h5 lq (fun _ => h6) z2 z1 z3
end VMK
