/-! WHAT THE PRINTED LEMMAS LEAN ON. -/
def w_lsr (x : Int64) (y : Int32) : Int64 := (x.toUInt64 >>> (y.toInt64.toUInt64 &&& Int64.toUInt64 63)).toInt64
def w_i2c (x : Int32) : Int32 := (x.toUInt32 % 65536).toInt32
section WSU2
variable {d m pc pc' r len a b k n t np mx g : Nat} {i : Jvm.ClassFile.Instr} {lv : List (Nat × Value)} {st st' : List Value} {S S0 S' : q_S} {Q : Outcome → q_S → Prop} {x : Int32} {L : Nat} {xs : Nat → Int32} {rt : Option FieldType} {hs : List (Nat × Nat × Nat × Nat)} {p : Nat}
theorem w_brT {P : Prop} {hP : Decidable P} (hf : q_fetch m pc = some (i, 3, r)) (hk : q_kd i r = 1) (ho : q_br i st = some (@decide P hP, st')) (h : P) (k : w_R d m r lv st' S Q) : w_R d m pc lv st S Q := w_goto hf hk (by rw [ho, decide_eq_true h]) k
theorem w_brF {P : Prop} {hP : Decidable P} (hf : q_fetch m pc = some (i, 3, r)) (hk : q_kd i r = 1) (ho : q_br i st = some (@decide P hP, st')) (hp : pc + 3 = pc') (h : ¬ P) (k : w_R d m pc' lv st' S Q) : w_R d m pc lv st S Q := w_fall hf hk (by rw [ho, decide_eq_false h]) hp k
theorem w_aceq {o : Int} (hx : q_cm a = true) (hy : q_cm b = true) : q_br (.if_acmp .eq o) (.ref b :: .ref a :: st) = some (decide (a = b), st) := by
  show (if (q_cm a && q_cm b) = true then _ else none) = _
  rw [hx, hy]
  rfl
theorem w_acne {o : Int} (hx : q_cm a = true) (hy : q_cm b = true) : q_br (.if_acmp .ne o) (.ref b :: .ref a :: st) = some (decide (¬ a = b), st) := by
  show (if (q_cm a && q_cm b) = true then _ else none) = _
  rw [hx, hy]
  rfl
theorem w_cmG (h : g < 34) : q_cm g = true := by
  unfold q_cm
  rw [decide_eq_true h]
  rfl
theorem w_cc0 (hm : (q_mm r).2.2.2.2.2.1 = np ∧ (q_mm r).2.2.1 = mx ∧ (q_mm r).2.2.2.2.2.2.1 = 0 ∧ (q_mm r).2.2.2.1 = rt ∧ (q_mm r).2.2.2.2.2.2.2 = hs) (h1 : r < 205) (h2 : np ≤ st.length) (h3 : ((st.drop np).map (fun v => v.category)).sum ≤ 8) (h4 : (lg_sl (st.take np).reverse).length ≤ mx) : q_cc (d + 1) r st S = true := by
  obtain ⟨e1, e2, e3, -, -⟩ := hm
  unfold q_cc q_rcv
  rw [e1, e2, e3, decide_eq_true h1, decide_eq_true h2, decide_eq_true h3, decide_eq_true h4, decide_eq_true (Nat.succ_pos d)]
  rfl
theorem w_ccR {c : Nat} (hm : (q_mm r).2.2.2.2.2.1 = np + 1 ∧ (q_mm r).2.2.1 = mx ∧ (q_mm r).2.2.2.2.2.2.1 = c + 1 ∧ (q_mm r).2.2.2.1 = rt ∧ (q_mm r).2.2.2.2.2.2.2 = hs) (h1 : r < 205) (h2 : np + 1 ≤ st.length) (h3 : ((st.drop (np + 1)).map (fun v => v.category)).sum ≤ 8) (h4 : (lg_sl (st.take (np + 1)).reverse).length ≤ mx) (hb : st[np]? = some (.ref b)) (h5 : (q_sh S b).1 = c ∧ (1000 ≤ b ↔ c < 10)) : q_cc (d + 1) r st S = true := by
  obtain ⟨e1, e2, e3, -, -⟩ := hm
  unfold q_cc q_rcv
  rw [e1, e2, e3, Nat.add_sub_cancel]
  dsimp only
  rw [hb]
  dsimp only
  rw [decide_eq_true h1, decide_eq_true h2, decide_eq_true h3, decide_eq_true h4, decide_eq_true (Nat.succ_pos d), decide_eq_true h5.1, decide_eq_true h5.2]
  rfl
theorem w_rsC {c : Nat} (hW : w_W S0 S) (ha : 1000 ≤ a) (h2 : w_T.getD (a - 1000) (0, 0) = (c, n)) (h3 : a < 1140) (hc : c < 10) : (q_sh S a).1 = c ∧ (1000 ≤ a ↔ c < 10) := by
  rw [hW.sh ha h2 h3]
  exact ⟨rfl, ⟨fun _ => hc, fun _ => ha⟩⟩
theorem w_rsP (hW : w_W S0 S) (hp : w_P p) : (q_sh S p).1 = 1 ∧ (1000 ≤ p ↔ 1 < 10) := by
  have h := w_P.sh hW hp (i := 0) (by decide)
  rw [show p + 0 = p from rfl] at h
  rw [h]
  exact ⟨rfl, ⟨fun _ => by decide, fun _ => hp.ge⟩⟩
theorem w_rsQ (hW : w_W S0 S) (hp : w_P p) (hk : k = 1 ∨ k = 2) : (q_sh S (p + k)).1 = 2 ∧ (1000 ≤ p + k ↔ 2 < 10) := by
  have hg := hp.ge
  rcases hk with rfl | rfl
  · rw [w_P.sh hW hp (i := 1) (by decide)]
    exact ⟨rfl, ⟨fun _ => by decide, fun _ => by omega⟩⟩
  · rw [w_P.sh hW hp (i := 2) (by decide)]
    exact ⟨rfl, ⟨fun _ => by decide, fun _ => by omega⟩⟩
theorem w_rsS (h : q_sh S a = (2, 2)) (ha : 1000 ≤ a) : (q_sh S a).1 = 2 ∧ (1000 ≤ a ↔ 2 < 10) := by
  rw [h]
  exact ⟨rfl, ⟨fun _ => by decide, fun _ => ha⟩⟩
theorem w_oS {s : Nat × Nat} (hW : w_W S0 S) (ha : a < 1000) (h : q_sh S0 a = s) : q_sh S a = s := by
  rw [(hW.2.2.2 a ha).1]
  exact h
theorem w_gS (hW : w_W (q_S0 L xs) S) (hg : g < 34) : q_sh S g = (15, 3) := w_oS hW (by omega) (if_pos hg)
theorem w_rsG (hW : w_W (q_S0 L xs) S) (hg : g < 34) : (q_sh S g).1 = 15 ∧ (1000 ≤ g ↔ 15 < 10) := by
  rw [w_gS hW hg]
  exact ⟨rfl, ⟨fun z => by omega, fun z => by omega⟩⟩
theorem w_fkS (h : q_sh S a = (2, 2)) (ha : 1000 ≤ a) (hr : r / 128 = 2) : q_fk r a S = true := by
  unfold q_fk
  rw [h, hr, decide_eq_true (show 1000 ≤ a ↔ 2 < 10 from ⟨fun _ => by decide, fun _ => ha⟩)]
  rfl
theorem w_fkG (hW : w_W (q_S0 L xs) S) (hg : g < 34) (hr : r / 128 = 15) : q_fk r g S = true := by
  unfold q_fk
  rw [w_gS hW hg, hr, decide_eq_true (show 1000 ≤ g ↔ 15 < 10 from ⟨fun z => by omega, fun z => by omega⟩)]
  rfl
theorem w_fkG1 (hW : w_W (q_S0 L xs) S) (hg : g < 34) : (q_sh S g).1 = 125 - 110 := by
  rw [w_gS hW hg]
theorem w_sh0 (hW : w_W S0 S) (hp : w_P p) : (q_sh S p).1 = 111 - 110 := (w_rsP hW hp).1
theorem w_kt (hsx : q_sh S' a = (r, n)) (hm : (q_mm m).2.2.2.2.2.1 = np ∧ (q_mm m).2.2.1 = mx ∧ (q_mm m).2.2.2.2.2.2.1 = t ∧ (q_mm m).2.2.2.1 = rt ∧ (q_mm m).2.2.2.2.2.2.2 = []) (k : Q (.threw a) S') : w_k d m pc lv st Q (.threw a) S' := by
  unfold w_k
  dsimp only
  have h : q_hs m pc (q_sh S' a).1 = none := by
    unfold q_hs
    rw [hm.2.2.2.2]
    rfl
  rw [h]
  exact ⟨hm.2.2.2.2, k⟩
theorem w_kc (hsx : q_sh S' a = (r, n)) (hh : q_hs m pc r = some t) (ha : 1000 ≤ a) (k : w_R d m t lv [.ref a] S' Q) : w_k d m pc lv st Q (.threw a) S' := by
  unfold w_k
  dsimp only
  have h : q_hs m pc (q_sh S' a).1 = some t := by rw [hsx]; exact hh
  rw [h]
  exact ⟨ha, k⟩
theorem w_rtI (hm : (q_mm m).2.2.2.2.2.1 = np ∧ (q_mm m).2.2.1 = mx ∧ (q_mm m).2.2.2.2.2.2.1 = t ∧ (q_mm m).2.2.2.1 = some .int ∧ (q_mm m).2.2.2.2.2.2.2 = hs) : q_rt m .ireturn [.int x] = some (some (.int x)) := by
  unfold q_rt
  rw [hm.2.2.2.1]
  exact if_pos rfl
theorem w_rtZ {ty : FieldType} (hm : (q_mm m).2.2.2.2.2.1 = np ∧ (q_mm m).2.2.1 = mx ∧ (q_mm m).2.2.2.2.2.2.1 = t ∧ (q_mm m).2.2.2.1 = some ty ∧ (q_mm m).2.2.2.2.2.2.2 = hs) (hn : narrow ty (.int x) = .int x) : q_rt m .ireturn [.int x] = some (some (.int x)) := by
  unfold q_rt
  rw [hm.2.2.2.1]
  exact if_pos hn
theorem w_rtJ {v : Int64} (hm : (q_mm m).2.2.2.2.2.1 = np ∧ (q_mm m).2.2.1 = mx ∧ (q_mm m).2.2.2.2.2.2.1 = t ∧ (q_mm m).2.2.2.1 = some .long ∧ (q_mm m).2.2.2.2.2.2.2 = hs) : q_rt m .lreturn [.long v] = some (some (.long v)) := by
  unfold q_rt
  dsimp only
  rw [hm.2.2.2.1]
  exact if_pos rfl
theorem w_rtV (hm : (q_mm m).2.2.2.2.2.1 = np ∧ (q_mm m).2.2.1 = mx ∧ (q_mm m).2.2.2.2.2.2.1 = t ∧ (q_mm m).2.2.2.1 = none ∧ (q_mm m).2.2.2.2.2.2.2 = hs) : q_rt m .return_ [] = some none := by
  unfold q_rt
  dsimp only
  rw [hm.2.2.2.1]
  exact if_pos rfl
theorem w_nfA (h : w_F.all (fun q => !(q.1 == a)) = true) : ∀ q ∈ w_F, q.1 = a → q.2.1 = k → False := by
  intro q hq h1 _
  have := List.all_eq_true.mp h q hq
  rw [h1] at this
  simp at this
theorem w_nfK (h : w_F.all (fun q => !(q.1 == a && q.2.1 == k)) = true) : ∀ q ∈ w_F, q.1 = a → q.2.1 = k → False := by
  intro q hq h1 h2
  have := List.all_eq_true.mp h q hq
  rw [h1, h2] at this
  simp at this
theorem w_nfP (hp : w_P p) (h : k = 6) : ∀ q ∈ w_F, q.1 = p + k → q.2.1 = n → False := by
  have key : ∀ p ∈ w_PL, w_F.all (fun q => !(q.1 == p + 6)) = true := by decide +kernel
  subst h
  exact w_nfA (key p hp)
end WSU2
