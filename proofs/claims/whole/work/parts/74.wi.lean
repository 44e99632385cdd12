/-! THE LOGIC, an instruction at a time. -/
section WEQ
variable {cf : Nat → List Value → q_S → q_O} {d n m pc r len : Nat} {i : Jvm.ClassFile.Instr} {lv : List (Nat × Value)} {st : List Value} {S : q_S}
theorem w_e0 (hf : q_fetch m pc = some (i, len, r)) (hk : q_kd i r = 0) : q_run cf d (n + 1) m pc lv st S = (q_op i st).bind (fun q => if q.1 = len then q_run cf d n m (pc + len) lv q.2 S else none) := by
  rw [q_run, hf]; dsimp only; rw [hk]; exact rfl
theorem w_e1 (hf : q_fetch m pc = some (i, len, r)) (hk : q_kd i r = 1) : q_run cf d (n + 1) m pc lv st S = (q_br i st).bind (fun q => if len = 3 then q_run cf d n m (if q.1 = true then r else pc + 3) lv q.2 S else none) := by
  rw [q_run, hf]; dsimp only; rw [hk]; exact rfl
theorem w_e2 (hf : q_fetch m pc = some (i, len, r)) (hk : q_kd i r = 2) : q_run cf d (n + 1) m pc lv st S = (q_rd i).bind (fun q => (q_ld lv q.1).bind (fun v => if q.2 = len ∧ q_rk i v = true then q_run cf d n m (pc + len) lv (v :: st) S else none)) := by
  rw [q_run, hf]; dsimp only; rw [hk]; exact rfl
theorem w_e3 (hf : q_fetch m pc = some (i, len, r)) (hk : q_kd i r = 3) : q_run cf d (n + 1) m pc lv st S = (q_wr i lv st).bind (fun q => if q.1 = len then q_run cf d n m (pc + len) q.2.1 q.2.2 S else none) := by
  rw [q_run, hf]; dsimp only; rw [hk]; exact rfl
theorem w_e5 (hf : q_fetch m pc = some (i, len, r)) (hk : q_kd i r = 5) : q_run cf d (n + 1) m pc lv st S = (q_hp i r st S).bind (fun q => if q.1 = len ∧ r ≠ 9998 then q_run cf d n m (pc + len) lv q.2.1 q.2.2 else none) := by
  rw [q_run, hf]; dsimp only; rw [hk]; exact rfl
theorem w_e7 (hf : q_fetch m pc = some (i, len, r)) (hk : q_kd i r = 7) : q_run cf d (n + 1) m pc lv st S = (q_rt m i st).bind (fun o => if len = 1 then some (.returned o, S) else none) := by
  rw [q_run, hf]; dsimp only; rw [hk]; exact rfl
theorem w_e8 {x : Int32} (hf : q_fetch m pc = some (i, len, r)) (hk : q_kd i r = 8) : q_run cf d (n + 1) m pc lv (.int x :: st) S = (q_sw i pc x).bind (fun t => q_run cf d n m t lv st S) := by
  rw [q_run, hf]; dsimp only; rw [hk]; exact rfl
theorem w_e9 (hf : q_fetch m pc = some (i, len, r)) (hk : q_kd i r = 9) : q_run cf d (n + 1) m pc lv st S = if 6 ≤ d ∧ (st.map (fun v => v.category)).sum ≤ 8 then some (.threw (q_tp S), q_new S (r, 6) 6) else none := by
  rw [q_run, hf]; dsimp only; rw [hk]; exact rfl
theorem w_e6 (hf : q_fetch m pc = some (i, len, r)) (hk : q_kd i r = 6) : q_run cf d (n + 1) m pc lv st S = if r = 9999 then (match st with
          | .ref _ :: st => if len = 3 ∧ 0 < d ∧ (st.map (fun v => v.category)).sum ≤ 8 then q_run cf d n m (pc + 3) lv st S else none
          | _ => none)
        else if r = 27 then (match st with
          | .int y :: .int x :: st => if len = 3 ∧ 0 < d ∧ (st.map (fun v => v.category)).sum ≤ 8 then q_run cf d n m (pc + 3) lv (.int (if y < x then y else x) :: st) S else none
          | _ => none)
        else if len = 3 ∧ q_cc d r st S = true then (match cf r (st.take (q_mm r).2.2.2.2.2.1).reverse S with
          | some (.returned v, S') => q_run cf d n m (pc + 3) lv (v.toList ++ st.drop (q_mm r).2.2.2.2.2.1) S'
          | some (.threw x, S') => match q_hs m pc (q_sh S' x).1 with
            | some h => if 1000 ≤ x then q_run cf d n m h lv [.ref x] S' else none
            | none => if (q_mm m).2.2.2.2.2.2.2 = [] then some (.threw x, S') else none
          | none => none)
        else none := by
  rw [q_run, hf]; dsimp only; rw [hk]; exact rfl
end WEQ
section WINS
variable {d m pc pc' r len : Nat} {i : Jvm.ClassFile.Instr} {lv lv' : List (Nat × Value)} {st st' : List Value} {S S' : q_S} {Q : Outcome → q_S → Prop} {a b x n kk : Nat} {j y z : Int32}
theorem w_op (hf : q_fetch m pc = some (i, len, r)) (hk : q_kd i r = 0) (ho : q_op i st = some (len, st')) (hp : pc + len = pc') (k : w_R d m pc' lv st' S Q) : w_R d m pc lv st S Q := by
  subst hp
  refine w_step (fun cf n => ?_) k
  rw [w_e0 hf hk]
  rw [ho, Option.bind_some, if_pos rfl]
theorem w_goto (hf : q_fetch m pc = some (i, 3, r)) (hk : q_kd i r = 1) (ho : q_br i st = some (true, st')) (k : w_R d m r lv st' S Q) : w_R d m pc lv st S Q := by
  refine w_step (fun cf n => ?_) k
  rw [w_e1 hf hk]
  rw [ho, Option.bind_some, if_pos rfl]
  rfl
theorem w_fall (hf : q_fetch m pc = some (i, 3, r)) (hk : q_kd i r = 1) (ho : q_br i st = some (false, st')) (hp : pc + 3 = pc') (k : w_R d m pc' lv st' S Q) : w_R d m pc lv st S Q := by
  subst hp
  refine w_step (fun cf n => ?_) k
  rw [w_e1 hf hk]
  rw [ho, Option.bind_some, if_pos rfl]
  rfl
theorem w_br {P : Prop} {hP : Decidable P} (hf : q_fetch m pc = some (i, 3, r)) (hk : q_kd i r = 1) (ho : q_br i st = some (@decide P hP, st')) (hp : pc + 3 = pc') (k1 : P → w_R d m r lv st' S Q) (k2 : ¬ P → w_R d m pc' lv st' S Q) : w_R d m pc lv st S Q := by
  by_cases h : P
  · exact w_goto hf hk (by rw [ho, decide_eq_true h]) (k1 h)
  · exact w_fall hf hk (by rw [ho, decide_eq_false h]) hp (k2 h)
theorem w_rd {v : Value} (hf : q_fetch m pc = some (i, len, r)) (hk : q_kd i r = 2) (h1 : q_rd i = some (x, len)) (h2 : q_ld lv x = some v) (h3 : q_rk i v = true) (hp : pc + len = pc') (k : w_R d m pc' lv (v :: st) S Q) : w_R d m pc lv st S Q := by
  subst hp
  refine w_step (fun cf n => ?_) k
  rw [w_e2 hf hk]
  rw [h1, Option.bind_some]
  try dsimp only
  rw [h2, Option.bind_some, if_pos ⟨rfl, h3⟩]
theorem w_wr (hf : q_fetch m pc = some (i, len, r)) (hk : q_kd i r = 3) (h1 : q_wr i lv st = some (len, lv', st')) (hp : pc + len = pc') (k : w_R d m pc' lv' st' S Q) : w_R d m pc lv st S Q := by
  subst hp
  refine w_step (fun cf n => ?_) k
  rw [w_e3 hf hk]
  rw [h1, Option.bind_some, if_pos rfl]
theorem w_inc {t : Int} (hf : q_fetch m pc = some (.iinc x t, 3, r)) (h1 : q_ld lv x = some (.int y)) (hp : pc + 3 = pc') (k : w_R d m pc' (q_s1 lv x (.int (y + Int32.ofInt t))) st S Q) : w_R d m pc lv st S Q := by
  subst hp
  refine w_step (fun cf n => ?_) k
  rw [q_run, hf]
  show (match q_ld lv x with
    | some (.int x1) => if (3 : Nat) = 3 then q_run cf d n m (pc + 3) (q_s1 lv x (.int (x1 + Int32.ofInt t))) st S else none
    | _ => none) = _
  rw [h1]
  try dsimp only
  rw [if_pos rfl]
theorem w_hp (hf : q_fetch m pc = some (i, len, r)) (hk : q_kd i r = 5) (h8 : (r == 9998) = false) (h1 : q_hp i r st S = some (len, st', S')) (hp : pc + len = pc') (k : w_R d m pc' lv st' S' Q) : w_R d m pc lv st S Q := by
  subst hp
  refine w_step (fun cf n => ?_) k
  rw [w_e5 hf hk]
  have h9 : r ≠ 9998 := fun z => by rw [z] at h8; cases h8
  rw [h1, Option.bind_some, if_pos ⟨rfl, h9⟩]
theorem w_getI (hf : q_fetch m pc = some (.getfield x, 3, r)) (h2 : r % 2 = 0) (h8 : (r == 9998) = false) (hkk : r / 2 % 64 = kk) (hq : q_fk r a S = true) (hp : pc + 3 = pc') (k : w_R d m pc' lv (.int (q_iv S a kk) :: st) S Q) : w_R d m pc lv (.ref a :: st) S Q := by
  refine w_hp hf rfl h8 ?_ hp k
  show (if q_fk r a S = true then _ else none) = _
  rw [if_pos hq, if_pos h2, hkk]
theorem w_getR (hf : q_fetch m pc = some (.getfield x, 3, r)) (h2 : r % 2 = 1) (h8 : (r == 9998) = false) (hkk : r / 2 % 64 = kk) (hq : q_fk r a S = true) (hb : q_rv S a kk = some b) (hp : pc + 3 = pc') (k : w_R d m pc' lv (.ref b :: st) S Q) : w_R d m pc lv (.ref a :: st) S Q := by
  refine w_hp hf rfl h8 ?_ hp k
  show (if q_fk r a S = true then _ else none) = _
  rw [if_pos hq, if_neg (by omega), hkk, hb]
  rfl
theorem w_putI (hf : q_fetch m pc = some (.putfield x, 3, r)) (h2 : r % 2 = 0) (h8 : (r == 9998) = false) (hkk : r / 2 % 64 = kk) (hq : q_fk r a S = true) (ha : 1000 ≤ a) (hz : q_fz r y = true) (hp : pc + 3 = pc') (k : w_R d m pc' lv st (q_sI S a kk y) Q) : w_R d m pc lv (.int y :: .ref a :: st) S Q := by
  refine w_hp hf rfl h8 ?_ hp k
  show (if (q_fk r a S && (decide (1000 ≤ a) && (decide (r % 2 = 0) && q_fz r y))) = true then _ else none) = _
  rw [if_pos (by rw [hq, decide_eq_true ha, decide_eq_true h2, hz]; rfl), hkk]
theorem w_putR (hf : q_fetch m pc = some (.putfield x, 3, r)) (h2 : r % 2 = 1) (h8 : (r == 9998) = false) (hkk : r / 2 % 64 = kk) (hq : q_fk r a S = true) (ha : 1000 ≤ a) (hp : pc + 3 = pc') (k : w_R d m pc' lv st (q_sR S a kk (some b)) Q) : w_R d m pc lv (.ref b :: .ref a :: st) S Q := by
  refine w_hp hf rfl h8 ?_ hp k
  show (if (q_fk r a S && (decide (1000 ≤ a) && decide (r % 2 = 1))) = true then _ else none) = _
  rw [if_pos (by rw [hq, decide_eq_true ha, decide_eq_true h2]; rfl), hkk]
theorem w_getS {v : Value} (hf : q_fetch m pc = some (.getstatic x, 3, r)) (h8 : (r == 9998) = false) (hv : q_sv r = some v) (hp : pc + 3 = pc') (k : w_R d m pc' lv (v :: st) S Q) : w_R d m pc lv st S Q := by
  refine w_hp hf rfl h8 ?_ hp k
  show (q_sv r).map _ = _
  rw [hv]
  rfl
theorem w_ldl {v : Int64} (hf : q_fetch m pc = some (.ldc2_w x, 3, r)) (h8 : (r == 9998) = false) (hv : q_longs[r]? = some v) (hp : pc + 3 = pc') (k : w_R d m pc' lv (.long v :: st) S Q) : w_R d m pc lv st S Q := by
  refine w_hp hf rfl h8 ?_ hp k
  show (q_longs[r]?).map _ = _
  rw [hv]
  rfl
theorem w_newa {t : Jvm.ClassFile.ArrayType} (hf : q_fetch m pc = some (.newarray t, 2, r)) (h8 : (r == 9998) = false) (hr : 100 ≤ r) (h0 : ¬ y < 0) (hy : y.toNatClampNeg = n) (hn : n ≤ 100000) (hp : pc + 2 = pc') (k : w_R d m pc' lv (.ref (q_tp S) :: st) (q_new S (r, n) n) Q) : w_R d m pc lv (.int y :: st) S Q := by
  subst hy
  refine w_hp hf rfl h8 ?_ hp k
  show (if (decide (100 ≤ r) && (decide (¬ y < 0) && decide (y.toNatClampNeg ≤ 100000))) = true then _ else none) = _
  rw [if_pos (by rw [decide_eq_true hr, decide_eq_true h0, decide_eq_true hn]; rfl)]
theorem w_newq (hf : q_fetch m pc = some (.anewarray x, 3, r)) (h8 : (r == 9998) = false) (h0 : ¬ y < 0) (hy : y.toNatClampNeg = n) (hn : n ≤ 100000) (hp : pc + 3 = pc') (k : w_R d m pc' lv (.ref (q_tp S) :: st) (q_new S (r, n) n) Q) : w_R d m pc lv (.int y :: st) S Q := by
  subst hy
  refine w_hp hf rfl h8 ?_ hp k
  show (if (decide (¬ y < 0) && decide (y.toNatClampNeg ≤ 100000)) = true then _ else none) = _
  rw [if_pos (by rw [decide_eq_true h0, decide_eq_true hn]; rfl)]
theorem w_new (hf : q_fetch m pc = some (.new x, 3, r)) (h10 : r < 10) (hn : q_nf r = n) (hp : pc + 3 = pc') (k : w_R d m pc' lv (.ref (q_tp S) :: st) (q_new S (r, n) n) Q) : w_R d m pc lv st S Q := by
  subst hn
  refine w_hp hf (if_pos h10) (beq_false_of_ne (by omega)) ?_ hp k
  rfl
theorem w_ial (hf : q_fetch m pc = some (.iaload, 1, r)) (h8 : (r == 9998) = false) (hs : q_sh S a = (100, n)) (hj : q_ix j n = true) (hp : pc + 1 = pc') (k : w_R d m pc' lv (.int (q_iv S a j.toNatClampNeg) :: st) S Q) : w_R d m pc lv (.int j :: .ref a :: st) S Q := by
  refine w_hp hf rfl h8 ?_ hp k
  show (if (decide ((q_sh S a).1 = 100) && q_ix j (q_sh S a).2) = true then _ else none) = _
  rw [hs, if_pos (by rw [hj]; rfl)]
theorem w_cal (hf : q_fetch m pc = some (.caload, 1, r)) (h8 : (r == 9998) = false) (hs : q_sh S a = (101, n)) (hj : q_ix j n = true) (hp : pc + 1 = pc') (k : w_R d m pc' lv (.int (q_iv S a j.toNatClampNeg) :: st) S Q) : w_R d m pc lv (.int j :: .ref a :: st) S Q := by
  refine w_hp hf rfl h8 ?_ hp k
  show (if (decide ((q_sh S a).1 = 101) && q_ix j (q_sh S a).2) = true then _ else none) = _
  rw [hs, if_pos (by rw [hj]; rfl)]
theorem w_bal (hf : q_fetch m pc = some (.baload, 1, r)) (h8 : (r == 9998) = false) (hs : q_sh S a = (102, n) ∨ q_sh S a = (104, n)) (hj : q_ix j n = true) (hp : pc + 1 = pc') (k : w_R d m pc' lv (.int (q_iv S a j.toNatClampNeg) :: st) S Q) : w_R d m pc lv (.int j :: .ref a :: st) S Q := by
  refine w_hp hf rfl h8 ?_ hp k
  show (if ((decide ((q_sh S a).1 = 102) || decide ((q_sh S a).1 = 104)) && q_ix j (q_sh S a).2) = true then _ else none) = _
  rcases hs with hs | hs <;> rw [hs, if_pos (by rw [hj]; rfl)]
theorem w_lal (hf : q_fetch m pc = some (.laload, 1, r)) (h8 : (r == 9998) = false) (hs : q_sh S a = (103, n)) (hj : q_ix j n = true) (hp : pc + 1 = pc') (k : w_R d m pc' lv (.long (q_jv S a j.toNatClampNeg) :: st) S Q) : w_R d m pc lv (.int j :: .ref a :: st) S Q := by
  refine w_hp hf rfl h8 ?_ hp k
  show (if (decide ((q_sh S a).1 = 103) && q_ix j (q_sh S a).2) = true then _ else none) = _
  rw [hs, if_pos (by rw [hj]; rfl)]
theorem w_aal {t : Nat} (hf : q_fetch m pc = some (.aaload, 1, r)) (h8 : (r == 9998) = false) (hs : q_sh S a = (t, n)) (ht : q_tr t = true) (hj : q_ix j n = true) (hb : q_rv S a j.toNatClampNeg = some b) (hp : pc + 1 = pc') (k : w_R d m pc' lv (.ref b :: st) S Q) : w_R d m pc lv (.int j :: .ref a :: st) S Q := by
  refine w_hp hf rfl h8 ?_ hp k
  show (if (q_tr (q_sh S a).1 && q_ix j (q_sh S a).2) = true then _ else none) = _
  rw [hs, if_pos (by rw [ht, hj]; rfl), hb]
  rfl
theorem w_ias (hf : q_fetch m pc = some (.iastore, 1, r)) (h8 : (r == 9998) = false) (ha : 1000 ≤ a) (hs : q_sh S a = (100, n)) (hj : q_ix j n = true) (hp : pc + 1 = pc') (k : w_R d m pc' lv st (q_sI S a j.toNatClampNeg y) Q) : w_R d m pc lv (.int y :: .int j :: .ref a :: st) S Q := by
  refine w_hp hf rfl h8 ?_ hp k
  show (if (decide (1000 ≤ a) && (decide ((q_sh S a).1 = 100) && q_ix j (q_sh S a).2)) = true then _ else none) = _
  rw [hs, if_pos (by rw [decide_eq_true ha, hj]; rfl)]
theorem w_cas (hf : q_fetch m pc = some (.castore, 1, r)) (h8 : (r == 9998) = false) (ha : 1000 ≤ a) (hs : q_sh S a = (101, n)) (hj : q_ix j n = true) (hp : pc + 1 = pc') (k : w_R d m pc' lv st (q_sI S a j.toNatClampNeg (vp_nar .char y)) Q) : w_R d m pc lv (.int y :: .int j :: .ref a :: st) S Q := by
  refine w_hp hf rfl h8 ?_ hp k
  show (if (decide (1000 ≤ a) && (decide ((q_sh S a).1 = 101) && q_ix j (q_sh S a).2)) = true then _ else none) = _
  rw [hs, if_pos (by rw [decide_eq_true ha, hj]; rfl)]
theorem w_bas (hf : q_fetch m pc = some (.bastore, 1, r)) (h8 : (r == 9998) = false) (ha : 1000 ≤ a) (hs : q_sh S a = (102, n)) (hj : q_ix j n = true) (hp : pc + 1 = pc') (k : w_R d m pc' lv st (q_sI S a j.toNatClampNeg (vp_nar .boolean y)) Q) : w_R d m pc lv (.int y :: .int j :: .ref a :: st) S Q := by
  refine w_hp hf rfl h8 ?_ hp k
  show (if (decide (1000 ≤ a) && (decide ((q_sh S a).1 = 102) && q_ix j (q_sh S a).2)) = true then _ else none) = _
  rw [hs, if_pos (by rw [decide_eq_true ha, hj]; rfl)]
theorem w_las {v : Int64} (hf : q_fetch m pc = some (.lastore, 1, r)) (h8 : (r == 9998) = false) (ha : 1000 ≤ a) (hs : q_sh S a = (103, n)) (hj : q_ix j n = true) (hp : pc + 1 = pc') (k : w_R d m pc' lv st (q_sJ S a j.toNatClampNeg v) Q) : w_R d m pc lv (.long v :: .int j :: .ref a :: st) S Q := by
  refine w_hp hf rfl h8 ?_ hp k
  show (if (decide (1000 ≤ a) && (decide ((q_sh S a).1 = 103) && q_ix j (q_sh S a).2)) = true then _ else none) = _
  rw [hs, if_pos (by rw [decide_eq_true ha, hj]; rfl)]
theorem w_aas {t : Nat} (hf : q_fetch m pc = some (.aastore, 1, r)) (h8 : (r == 9998) = false) (ha : 1000 ≤ a) (hs : q_sh S a = (t, n)) (ht : q_tr t = true) (hb : (q_sh S b).1 = t - 110) (hw : t = 111 ↔ 1000 ≤ b) (hj : q_ix j n = true) (hp : pc + 1 = pc') (k : w_R d m pc' lv st (q_sR S a j.toNatClampNeg (some b)) Q) : w_R d m pc lv (.ref b :: .int j :: .ref a :: st) S Q := by
  refine w_hp hf rfl h8 ?_ hp k
  show (if (decide (1000 ≤ a) && (q_tr (q_sh S a).1 && (decide ((q_sh S b).1 = (q_sh S a).1 - 110) && (decide ((q_sh S a).1 = 111 ↔ 1000 ≤ b) && q_ix j (q_sh S a).2)))) = true then _ else none) = _
  rw [hs, if_pos (by rw [decide_eq_true ha, ht, decide_eq_true hb, decide_eq_true hw, hj]; rfl)]
theorem w_len {t : Nat} (hf : q_fetch m pc = some (.arraylength, 1, r)) (h8 : (r == 9998) = false) (hs : q_sh S a = (t, n)) (ht : (q_ty t).isSome = true) (hp : pc + 1 = pc') (k : w_R d m pc' lv (.int (nI n) :: st) S Q) : w_R d m pc lv (.ref a :: st) S Q := by
  refine w_hp hf rfl h8 ?_ hp k
  show (if (q_ty (q_sh S a).1).isSome = true then _ else none) = _
  rw [hs, if_pos ht]
theorem w_ret {v : Option Value} (hf : q_fetch m pc = some (i, 1, r)) (hk : q_kd i r = 7) (h1 : q_rt m i st = some v) (k : Q (.returned v) S) : w_R d m pc lv st S Q := by
  refine ⟨1, .returned v, S, ?_, k⟩
  rw [w_e7 hf hk]
  rw [h1, Option.bind_some, if_pos rfl]
theorem w_thr (hf : q_fetch m pc = some (i, len, r)) (hk : q_kd i r = 9) (hd : 6 ≤ d) (hs : (st.map (fun v => v.category)).sum ≤ 8) (k : Q (.threw (q_tp S)) (q_new S (r, 6) 6)) : w_R d m pc lv st S Q := by
  refine ⟨1, _, _, ?_, k⟩
  rw [w_e9 hf hk]
  rw [if_pos ⟨hd, hs⟩]
theorem w_sw {t : Nat} (hf : q_fetch m pc = some (i, len, r)) (hk : q_kd i r = 8) (h1 : q_sw i pc y = some t) (k : w_R d m t lv st S Q) : w_R d m pc lv (.int y :: st) S Q := by
  refine w_step (fun cf n => ?_) k
  rw [w_e8 hf hk]
  rw [h1, Option.bind_some]
theorem w_obj (hf : q_fetch m pc = some (i, 3, 9999)) (hk : q_kd i 9999 = 6) (hd : 0 < d) (hs : (st.map (fun v => v.category)).sum ≤ 8) (hp : pc + 3 = pc') (k : w_R d m pc' lv st S Q) : w_R d m pc lv (.ref a :: st) S Q := by
  subst hp
  refine w_step (fun cf n => ?_) k
  rw [w_e6 hf hk]
  rw [if_pos rfl]
  exact if_pos ⟨rfl, hd, hs⟩
theorem w_min (hf : q_fetch m pc = some (i, 3, 27)) (hk : q_kd i 27 = 6) (hd : 0 < d) (hs : (st.map (fun v => v.category)).sum ≤ 8) (hp : pc + 3 = pc') (k : w_R d m pc' lv (.int (if y < z then y else z) :: st) S Q) : w_R d m pc lv (.int y :: .int z :: st) S Q := by
  subst hp
  refine w_step (fun cf n => ?_) k
  rw [w_e6 hf hk]
  rw [if_neg (by decide), if_pos rfl]
  exact if_pos ⟨rfl, hd, hs⟩
/-- what comes behind a call -/
def w_k (d m pc : Nat) (lv : List (Nat × Value)) (st : List Value) (Q : Outcome → q_S → Prop) : Outcome → q_S → Prop := fun o S1 => match o with
  | .returned v => w_R d m (pc + 3) lv (v.toList ++ st) S1 Q
  | .threw x => match q_hs m pc (q_sh S1 x).1 with
    | some h => 1000 ≤ x ∧ w_R d m h lv [.ref x] S1 Q
    | none => (q_mm m).2.2.2.2.2.2.2 = [] ∧ Q (.threw x) S1
theorem w_call (hf : q_fetch m pc = some (i, 3, r)) (hk : q_kd i r = 6) (h9 : (r == 9999) = false) (h7 : (r == 27) = false) (hn : (q_mm r).2.2.2.2.2.1 = n) {as rest : List Value} (hst : st.take n = as.reverse) (hre : st.drop n = rest) (hc : q_cc (d + 1) r st S = true) (k : w_X d r as S (w_k (d + 1) m pc lv rest Q)) : w_R (d + 1) m pc lv st S Q := by
  subst hn
  have has : (st.take (q_mm r).2.2.2.2.2.1).reverse = as := by rw [hst, List.reverse_reverse]
  have h9 : r ≠ 9999 := fun z => by rw [z] at h9; cases h9
  have h7 : r ≠ 27 := fun z => by rw [z] at h7; cases h7
  obtain ⟨n1, o1, S1, e1, k1⟩ := k
  have key : ∀ n, n1 ≤ n → w_cf (d + 1) n r (st.take (q_mm r).2.2.2.2.2.1).reverse S = some (o1, S1) := by
    intro n hn
    show q_exec d n r _ S = _
    rw [has]
    refine q_exec_le d n1 n hn _ _ _ _ ?_
    rw [w_exec]
    exact e1
  have go : ∀ cf n, cf r (st.take (q_mm r).2.2.2.2.2.1).reverse S = some (o1, S1) → q_run cf (d + 1) (n + 1) m pc lv st S = (match o1 with
      | .returned v => q_run cf (d + 1) n m (pc + 3) lv (v.toList ++ st.drop (q_mm r).2.2.2.2.2.1) S1
      | .threw x => match q_hs m pc (q_sh S1 x).1 with
        | some h => if 1000 ≤ x then q_run cf (d + 1) n m h lv [.ref x] S1 else none
        | none => if (q_mm m).2.2.2.2.2.2.2 = [] then some (.threw x, S1) else none) := by
    intro cf n hcf
    rw [w_e6 hf hk, if_neg h9, if_neg h7, if_pos ⟨rfl, hc⟩, hcf]
    cases o1 <;> rfl
  have fin : ∀ {pc2 : Nat} {lv2 : List (Nat × Value)} {st2 : List Value}, w_R (d + 1) m pc2 lv2 st2 S1 Q → ∃ (n : Nat) (o : Outcome) (S' : q_S), n1 ≤ n ∧ q_run (w_cf (d + 1) (n + 1)) (d + 1) n m pc2 lv2 st2 S1 = some (o, S') ∧ Q o S' := by
    intro pc2 lv2 st2 h
    obtain ⟨n2, o, S', e2, k2⟩ := h
    refine ⟨max n1 n2, o, S', Nat.le_max_left _ _, ?_, k2⟩
    exact q_run_le (w_cf_le (Nat.le_succ_of_le (Nat.le_max_right _ _))) n2 _ _ _ _ _ _ _ (Nat.le_max_right _ _) e2
  cases o1 with
  | returned v =>
    obtain ⟨n, o, S', hn, e2, k2⟩ := fin (show w_R (d + 1) m (pc + 3) lv (v.toList ++ rest) S1 Q from k1)
    refine ⟨n + 1, o, S', ?_, k2⟩
    rw [go _ n (key (n + 1) (by omega)), hre]
    exact e2
  | threw y1 =>
    unfold w_k at k1
    dsimp only at k1
    cases hh : q_hs m pc (q_sh S1 y1).1 with
    | some h =>
      rw [hh] at k1
      obtain ⟨n, o, S', hn, e2, k2⟩ := fin k1.2
      refine ⟨n + 1, o, S', ?_, k2⟩
      rw [go _ n (key (n + 1) (by omega))]
      try dsimp only
      rw [hh]
      try dsimp only
      rw [if_pos k1.1]
      exact e2
    | none =>
      rw [hh] at k1
      refine ⟨n1 + 1, _, _, ?_, k1.2⟩
      rw [go _ n1 (key (n1 + 1) (by omega))]
      try dsimp only
      rw [hh]
      try dsimp only
      rw [if_pos k1.1]
theorem w_X.mono {as : List Value} {Q' : Outcome → q_S → Prop} (h : w_X d m as S Q) (hq : ∀ o S', Q o S' → Q' o S') : w_X d m as S Q' := w_R.mono h hq
end WINS
