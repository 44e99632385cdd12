/-! THE PURE MACHINE, first part: what an instruction does to the operand stack, to the locals, to the program counter. Abstract values are the machine's own, but that a reference is a number of the pure heap; cv says at which address it stands. -/
abbrev q_M : Type := (Nat → Nat) × Option Nat
/-- where an abstract value stands: a reference at its address; what is only carried (a return address here) is one unknown reference or null -/
def q_vv (cv : q_M) (v : Value) : Value := match v with
  | .ref a => .ref (cv.1 a)
  | .int x => .int x
  | .long x => .long x
  | .float x => .float x
  | .double x => .double x
  | .null => .null
  | .retAddr _ => va_rf cv.2
theorem q_vv_cat (cv : q_M) (v : Value) : (q_vv cv v).category = v.category := by
  obtain ⟨f, o⟩ := cv
  cases v <;> cases o <;> rfl
/-- which numbers may be compared: the enum's constants, and the cells that the run makes -/
def q_cm (a : Nat) : Bool := decide (a < 34) || decide (1000 ≤ a)
/-- the length of the instruction, and the operand stack behind it -/
def q_op (i : Jvm.ClassFile.Instr) (st : List Value) : Option (Nat × List Value) := match i, st with
  | .iconst n, st => some (1, .int (Int32.ofInt n) :: st)
  | .bipush n, st => some (2, .int (Int8.ofInt n).toInt32 :: st)
  | .sipush n, st => some (3, .int (Int16.ofInt n).toInt32 :: st)
  | .lconst n, st => some (1, .long (Int64.ofNat (n : Nat)) :: st)
  | .aconst_null, st => some (1, .null :: st)
  | .iadd, .int y :: .int x :: st => some (1, .int (x + y) :: st)
  | .isub, .int y :: .int x :: st => some (1, .int (x - y) :: st)
  | .imul, .int y :: .int x :: st => some (1, .int (x * y) :: st)
  | .iand, .int y :: .int x :: st => some (1, .int (x &&& y) :: st)
  | .ior, .int y :: .int x :: st => some (1, .int (x ||| y) :: st)
  | .ixor, .int y :: .int x :: st => some (1, .int (x ^^^ y) :: st)
  | .ineg, .int x :: st => some (1, .int (-x) :: st)
  | .ladd, .long y :: .long x :: st => some (1, .long (x + y) :: st)
  | .lsub, .long y :: .long x :: st => some (1, .long (x - y) :: st)
  | .lmul, .long y :: .long x :: st => some (1, .long (x * y) :: st)
  | .land, .long y :: .long x :: st => some (1, .long (x &&& y) :: st)
  | .lor, .long y :: .long x :: st => some (1, .long (x ||| y) :: st)
  | .lneg, .long x :: st => some (1, .long (-x) :: st)
  | .ishl, .int y :: .int x :: st => some (1, .int (x <<< (y &&& 31)) :: st)
  | .ishr, .int y :: .int x :: st => some (1, .int (x >>> (y &&& 31)) :: st)
  | .iushr, .int y :: .int x :: st => some (1, .int (x.toUInt32 >>> (y.toUInt32 &&& Int32.toUInt32 31)).toInt32 :: st)
  | .lshl, .int y :: .long x :: st => some (1, .long (x <<< (y.toInt64 &&& 63)) :: st)
  | .lshr, .int y :: .long x :: st => some (1, .long (x >>> (y.toInt64 &&& 63)) :: st)
  | .lushr, .int y :: .long x :: st => some (1, .long (x.toUInt64 >>> (y.toInt64.toUInt64 &&& Int64.toUInt64 63)).toInt64 :: st)
  | .i2l, .int x :: st => some (1, .long x.toInt64 :: st)
  | .l2i, .long x :: st => some (1, .int x.toInt32 :: st)
  | .i2c, .int x :: st => some (1, .int (x.toUInt32 % 65536).toInt32 :: st)
  | .i2b, .int x :: st => some (1, .int x.toInt8.toInt32 :: st)
  | .lcmp, .long y :: .long x :: st => some (1, .int (lg_cmp x y) :: st)
  | .dup, .int x :: st => some (1, .int x :: .int x :: st)
  | .dup, .ref x :: st => some (1, .ref x :: .ref x :: st)
  | .dup_x1, .int x :: .ref y :: st => some (1, .int x :: .ref y :: .int x :: st)
  | .dup_x1, .int x :: .int y :: st => some (1, .int x :: .int y :: .int x :: st)
  | .dup_x2, .int x :: .int y :: .ref z :: st => some (1, .int x :: .int y :: .ref z :: .int x :: st)
  | .dup2, .int x :: .ref y :: st => some (1, .int x :: .ref y :: .int x :: .ref y :: st)
  | .dup2, .long x :: st => some (1, .long x :: .long x :: st)
  | .pop, .int _ :: st => some (1, st)
  | .pop, .ref _ :: st => some (1, st)
  | _, _ => none
/-- where a branch leads: its offset -/
def q_off (i : Jvm.ClassFile.Instr) : Option Int := match i with
  | .ifCond _ o => some o
  | .if_icmp _ o => some o
  | .if_acmp _ o => some o
  | .ifnull o => some o
  | .ifnonnull o => some o
  | .goto o => some o
  | _ => none
/-- whether it is taken, and the operand stack behind it -/
def q_br (i : Jvm.ClassFile.Instr) (st : List Value) : Option (Bool × List Value) := match i, st with
  | .ifCond .eq _, .int x :: st => some (decide (x = 0), st)
  | .ifCond .ne _, .int x :: st => some (decide (¬ x = 0), st)
  | .ifCond .lt _, .int x :: st => some (decide (x < 0), st)
  | .ifCond .ge _, .int x :: st => some (decide (0 ≤ x), st)
  | .ifCond .gt _, .int x :: st => some (decide (0 < x), st)
  | .ifCond .le _, .int x :: st => some (decide (x ≤ 0), st)
  | .if_icmp .eq _, .int y :: .int x :: st => some (decide (x = y), st)
  | .if_icmp .ne _, .int y :: .int x :: st => some (decide (¬ x = y), st)
  | .if_icmp .lt _, .int y :: .int x :: st => some (decide (x < y), st)
  | .if_icmp .ge _, .int y :: .int x :: st => some (decide (y ≤ x), st)
  | .if_icmp .gt _, .int y :: .int x :: st => some (decide (y < x), st)
  | .if_icmp .le _, .int y :: .int x :: st => some (decide (x ≤ y), st)
  | .if_acmp .eq _, .ref y :: .ref x :: st => if (q_cm x && q_cm y) = true then some (decide (x = y), st) else none
  | .if_acmp .ne _, .ref y :: .ref x :: st => if (q_cm x && q_cm y) = true then some (decide (¬ x = y), st) else none
  | .ifnull _, .ref _ :: st => some (false, st)
  | .ifnull _, .null :: st => some (true, st)
  | .ifnonnull _, .ref _ :: st => some (true, st)
  | .ifnonnull _, .null :: st => some (false, st)
  | .goto _, st => some (true, st)
  | _, _ => none
/-! locals -/
def q_ld (lv : List (Nat × Value)) (i : Nat) : Option Value := (lv.find? (fun q => q.1 == i)).map (fun q => q.2)
def q_s1 (lv : List (Nat × Value)) (i : Nat) (v : Value) : List (Nat × Value) := (i, v) :: lv.filter (fun q => !(q.1 == i) && !(q.1 + 1 == i && q.2.category == 2))
def q_s2 (lv : List (Nat × Value)) (i : Nat) (v : Value) : List (Nat × Value) := (i, v) :: lv.filter (fun q => !(q.1 == i) && (!(q.1 == i + 1) && !(q.1 + 1 == i && q.2.category == 2)))
/-- how many locals an instruction needs -/
def q_need (i : Jvm.ClassFile.Instr) : Nat := match i with
  | .istore_n k => (k : Nat) + 1
  | .istore k => k + 1
  | .astore_n k => (k : Nat) + 1
  | .astore k => k + 1
  | .lstore_n k => (k : Nat) + 2
  | .lstore k => k + 2
  | .iinc k _ => k + 1
  | _ => 0
/-- which local is read, and the length -/
def q_rd (i : Jvm.ClassFile.Instr) : Option (Nat × Nat) := match i with
  | .iload_n k => some ((k : Nat), 1)
  | .iload k => some (k, 2)
  | .aload_n k => some ((k : Nat), 1)
  | .aload k => some (k, 2)
  | .lload_n k => some ((k : Nat), 1)
  | .lload k => some (k, 2)
  | _ => none
/-- whether the local read is of the instruction's kind -/
def q_rk (i : Jvm.ClassFile.Instr) (v : Value) : Bool := match i, v with
  | .iload_n _, .int _ => true
  | .iload _, .int _ => true
  | .aload_n _, .ref _ => true
  | .aload _, .ref _ => true
  | .aload_n _, .null => true
  | .aload _, .null => true
  | .lload_n _, .long _ => true
  | .lload _, .long _ => true
  | _, _ => false
/-- a store: the length, the locals and the operand stack behind it -/
def q_wr (i : Jvm.ClassFile.Instr) (lv : List (Nat × Value)) (st : List Value) : Option (Nat × List (Nat × Value) × List Value) := match i, st with
  | .istore_n k, .int x :: st => some (1, q_s1 lv (k : Nat) (.int x), st)
  | .istore k, .int x :: st => some (2, q_s1 lv k (.int x), st)
  | .astore_n k, .ref x :: st => some (1, q_s1 lv (k : Nat) (.ref x), st)
  | .astore k, .ref x :: st => some (2, q_s1 lv k (.ref x), st)
  | .astore_n k, .null :: st => some (1, q_s1 lv (k : Nat) .null, st)
  | .astore k, .null :: st => some (2, q_s1 lv k .null, st)
  | .lstore_n k, .long x :: st => some (1, q_s2 lv (k : Nat) (.long x), st)
  | .lstore k, .long x :: st => some (2, q_s2 lv k (.long x), st)
  | _, _ => none
def q_lm (cv : q_M) (lv : List (Nat × Value)) : List (Nat × Value) := lv.map (fun q => (q.1, q_vv cv q.2))
theorem q_ld_at {cv : q_M} {ls : Array Slot} {nL i : Nat} {lv : List (Nat × Value)} {v : Value} (h : lv_has ls nL (q_lm cv lv)) (hl : q_ld lv i = some v) : ls[i]? = some (.val (q_vv cv v)) := by
  unfold q_ld at hl
  cases hf : lv.find? (fun q => q.1 == i) with
  | none => rw [hf] at hl; cases hl
  | some q =>
    rw [hf] at hl
    have hm : q ∈ lv := List.mem_of_find?_eq_some hf
    have hi : q.1 = i := by simpa using List.find?_some hf
    have hv : q.2 = v := Option.some.inj hl
    have := h.2.2 (q.1, q_vv cv q.2) (List.mem_map.mpr ⟨q, hm, rfl⟩)
    rw [hi, hv] at this
    exact this
theorem q_lm_s1 (cv : q_M) (lv : List (Nat × Value)) (i : Nat) (v : Value) : (i, q_vv cv v) :: (q_lm cv lv).filter (fun q => !(q.1 == i) && !(q.1 + 1 == i && q.2.category == 2)) = q_lm cv (q_s1 lv i v) := by
  unfold q_lm q_s1
  rw [List.map_cons, List.filter_map]
  refine congrArg _ (congrArg _ (List.filter_congr (fun q _ => ?_)))
  simp [q_vv_cat]
theorem q_lm_s2 (cv : q_M) (lv : List (Nat × Value)) (i : Nat) (v : Value) : (i, q_vv cv v) :: (q_lm cv lv).filter (fun q => !(q.1 == i) && (!(q.1 == i + 1) && !(q.1 + 1 == i && q.2.category == 2))) = q_lm cv (q_s2 lv i v) := by
  unfold q_lm q_s2
  rw [List.map_cons, List.filter_map]
  refine congrArg _ (congrArg _ (List.filter_congr (fun q _ => ?_)))
  simp [q_vv_cat]
theorem q_lm_mem {cv : q_M} {lv : List (Nat × Value)} {i : Nat} {v : Value} (hl : q_ld lv i = some v) : ∃ k : Nat, (q_lm cv lv)[k]? = some (i, q_vv cv v) := by
  unfold q_ld at hl
  cases hf : lv.find? (fun q => q.1 == i) with
  | none => rw [hf] at hl; cases hl
  | some q =>
    rw [hf] at hl
    have hm : q ∈ lv := List.mem_of_find?_eq_some hf
    have hi : q.1 = i := by simpa using List.find?_some hf
    have hv : q.2 = v := Option.some.inj hl
    obtain ⟨k, hk⟩ := List.getElem?_of_mem (List.mem_map.mpr ⟨q, hm, rfl⟩ : (q.1, q_vv cv q.2) ∈ q_lm cv lv)
    rw [hi, hv] at hk
    exact ⟨k, hk⟩
section QOPS
variable {p : Program} {l : Launch} {e : Env} {R : Room} {s : State} {m : MethodId} {args : Array Value} {below : List Frame} {meth : Method} {c : Code} {H : Heap} {locs : List Loc} {cells slots : Nat} {Q : State → Prop}
variable {cc : ByteArray} {pc : Nat} {ls : Array Slot} {cv : q_M} {i : Jvm.ClassFile.Instr} {len : Nat} {st st' : List Value} {lv lv' : List (Nat × Value)}
set_option maxHeartbeats 4000000 in
theorem q_op_W (hexec : p.tables.exec = Jvm.exec) (hb : c.code = cc) (hdg : decode cc pc = .ok (i, len)) (h : q_op i st = some (len, st'))
    (k : W p l e R s m args below meth c H locs cells slots Q (F0 m (pc + len) ls (st'.map (q_vv cv)))) : W p l e R s m args below meth c H locs cells slots Q (F0 m pc ls (st.map (q_vv cv))) := by
  unfold q_op at h
  split at h <;> cases h
  · exact lv_iconst hexec hb hdg rfl k
  · exact lv_bipush hexec hb hdg rfl k
  · exact lv_sipush hexec hb hdg rfl k
  · exact lv_lconst hexec hb hdg rfl k
  · exact lv_null hexec hb hdg k
  · exact lv_iadd hexec hb hdg k
  · exact lv_isub hexec hb hdg k
  · exact lv_imul hexec hb hdg k
  · exact lv_iand hexec hb hdg k
  · exact lv_ior hexec hb hdg k
  · exact lv_ixor hexec hb hdg k
  · exact lv_ineg hexec hb hdg k
  · exact lv_ladd hexec hb hdg k
  · exact lv_lsub hexec hb hdg k
  · exact lv_lmul hexec hb hdg k
  · exact lv_land hexec hb hdg k
  · exact lv_lor hexec hb hdg k
  · exact lv_lneg hexec hb hdg k
  · exact lv_ishl hexec hb hdg k
  · exact lv_ishr hexec hb hdg k
  · exact lv_iushr hexec hb hdg rfl k
  · exact lv_lshl hexec hb hdg rfl k
  · exact lv_lshr hexec hb hdg rfl k
  · exact lv_lushr hexec hb hdg rfl k
  · exact lv_i2l hexec hb hdg rfl k
  · exact lv_l2i hexec hb hdg rfl k
  · exact lv_i2c hexec hb hdg rfl k
  · exact lv_i2b hexec hb hdg rfl k
  · exact W.lcmp hexec hb hdg k
  · exact lv_dup hexec hb hdg rfl k
  · exact lv_dup hexec hb hdg rfl k
  · exact lv_dup_x1 hexec hb hdg rfl rfl k
  · exact lv_dup_x1 hexec hb hdg rfl rfl k
  · exact lv_dup_x2 hexec hb hdg rfl rfl rfl k
  · exact lv_dup2_11 hexec hb hdg rfl rfl k
  · exact lv_dup2_2 hexec hb hdg rfl k
  · exact lv_pop hexec hb hdg rfl k
  · exact lv_pop hexec hb hdg rfl k
set_option maxHeartbeats 4000000 in
theorem q_br_W (hexec : p.tables.exec = Jvm.exec) (hb : c.code = cc) (hcv : ∀ a b, q_cm a = true → q_cm b = true → cv.1 a = cv.1 b → a = b) {t : Bool} {off : Int} {tgt : Nat} (hdg : decode cc pc = .ok (i, 3)) (ho : q_off i = some off) (ht : (pc : Int) + off = (tgt : Int)) (h : q_br i st = some (t, st'))
    (k : W p l e R s m args below meth c H locs cells slots Q (F0 m (if t = true then tgt else pc + 3) ls (st'.map (q_vv cv)))) : W p l e R s m args below meth c H locs cells slots Q (F0 m pc ls (st.map (q_vv cv))) := by
  have yes : ∀ {P : Prop} [Decidable P], P → (if decide P = true then tgt else pc + 3) = tgt := fun hp => if_pos (decide_eq_true hp)
  have no : ∀ {P : Prop} [Decidable P], ¬ P → (if decide P = true then tgt else pc + 3) = pc + 3 := fun hp => if_neg (by rw [decide_eq_false hp]; decide)
  unfold q_br at h
  split at h
  all_goals first
    | (cases h; cases ho)
    | skip
  · exact lv_if_eq hexec hb hdg ht (fun z => by rw [yes z] at k; exact k) (fun z => by rw [no z] at k; exact k)
  · exact lv_if_ne hexec hb hdg ht (fun z => by rw [yes z] at k; exact k) (fun z => by rw [no (fun q => q z)] at k; exact k)
  · exact lv_if_lt hexec hb hdg ht (fun z => by rw [yes z] at k; exact k) (fun z => by rw [no z] at k; exact k)
  · exact lv_if_ge hexec hb hdg ht (fun z => by rw [yes z] at k; exact k) (fun z => by rw [no z] at k; exact k)
  · exact lv_if_gt hexec hb hdg ht (fun z => by rw [yes z] at k; exact k) (fun z => by rw [no z] at k; exact k)
  · exact lv_if_le hexec hb hdg ht (fun z => by rw [yes z] at k; exact k) (fun z => by rw [no z] at k; exact k)
  · exact lv_icmp_eq hexec hb hdg ht (fun z => by rw [yes z] at k; exact k) (fun z => by rw [no z] at k; exact k)
  · exact lv_icmp_ne hexec hb hdg ht (fun z => by rw [yes z] at k; exact k) (fun z => by rw [no (fun q => q z)] at k; exact k)
  · exact lv_icmp_lt hexec hb hdg ht (fun z => by rw [yes z] at k; exact k) (fun z => by rw [no z] at k; exact k)
  · exact lv_icmp_ge hexec hb hdg ht (fun z => by rw [yes z] at k; exact k) (fun z => by rw [no z] at k; exact k)
  · exact lv_icmp_gt hexec hb hdg ht (fun z => by rw [yes z] at k; exact k) (fun z => by rw [no z] at k; exact k)
  · exact lv_icmp_le hexec hb hdg ht (fun z => by rw [yes z] at k; exact k) (fun z => by rw [no z] at k; exact k)
  · rename_i y x st
    cases ho
    split at h
    · rename_i hxy
      rw [Bool.and_eq_true] at hxy
      cases h
      refine lv_acmp_eq (rx := some (cv.1 x)) (ry := some (cv.1 y)) hexec hb hdg ht (fun z => ?_) (fun z => ?_)
      · rw [yes (hcv x y hxy.1 hxy.2 (Option.some.inj z))] at k; exact k
      · rw [no (fun q => z (by rw [q]))] at k; exact k
    · cases h
  · rename_i y x st
    cases ho
    split at h
    · rename_i hxy
      rw [Bool.and_eq_true] at hxy
      cases h
      refine lv_acmp_ne (rx := some (cv.1 x)) (ry := some (cv.1 y)) hexec hb hdg ht (fun z => ?_) (fun z => ?_)
      · rw [yes (P := ¬ x = y) (fun q => z (by rw [q]))] at k; exact k
      · rw [no (P := ¬ x = y) (fun q => q (hcv x y hxy.1 hxy.2 (Option.some.inj z)))] at k; exact k
    · cases h
  · exact lv_ifnull hexec hb hdg k
  · exact lv_ifnullN hexec hb hdg ht k
  · exact lv_ifnonnull hexec hb hdg ht k
  · exact lv_ifnonnullN hexec hb hdg k
  · exact lv_goto hexec hb hdg ht k
  · cases h
set_option maxHeartbeats 4000000 in
theorem q_rd_W (hexec : p.tables.exec = Jvm.exec) (hb : c.code = cc) {nL j : Nat} {v : Value} (hl : lv_has ls nL (q_lm cv lv)) (hdg : decode cc pc = .ok (i, len)) (h : q_rd i = some (j, len)) (hv : q_ld lv j = some v) (hk : q_rk i v = true)
    (k : W p l e R s m args below meth c H locs cells slots Q (F0 m (pc + len) ls ((v :: st).map (q_vv cv)))) : W p l e R s m args below meth c H locs cells slots Q (F0 m pc ls (st.map (q_vv cv))) := by
  have hat := q_ld_at hl hv
  unfold q_rk at hk
  split at hk
  · cases h; exact lv_iload_n hexec hb hdg rfl hat k
  · cases h; exact lv_iload hexec hb hdg hat k
  · cases h; exact lv_aload_n hexec hb hdg rfl hat k
  · cases h; exact lv_aload hexec hb hdg hat k
  · cases h; exact lv_aload_nN hexec hb hdg rfl hat k
  · cases h; exact lv_aloadN hexec hb hdg hat k
  · cases h; exact lv_lload_n hexec hb hdg rfl hat k
  · cases h; exact lv_lload hexec hb hdg hat k
  · cases hk
set_option maxHeartbeats 4000000 in
theorem q_wr_W (hexec : p.tables.exec = Jvm.exec) (hb : c.code = cc) {nL : Nat} (hl : lv_has ls nL (q_lm cv lv)) (hn : q_need i ≤ nL) (hdg : decode cc pc = .ok (i, len)) (h : q_wr i lv st = some (len, lv', st'))
    (k : ∀ ls' : Array Slot, lv_has ls' nL (q_lm cv lv') → W p l e R s m args below meth c H locs cells slots Q (F0 m (pc + len) ls' (st'.map (q_vv cv)))) : W p l e R s m args below meth c H locs cells slots Q (F0 m pc ls (st.map (q_vv cv))) := by
  unfold q_wr at h
  split at h <;> cases h
  · exact lv_istore_n hexec hb hdg rfl hl hn (q_lm_s1 cv lv _ (.int _)) k
  · exact lv_istore hexec hb hdg hl hn (q_lm_s1 cv lv _ (.int _)) k
  · exact lv_astore_n hexec hb hdg rfl hl hn (q_lm_s1 cv lv _ (.ref _)) k
  · exact lv_astore hexec hb hdg hl hn (q_lm_s1 cv lv _ (.ref _)) k
  · exact lv_astore_nN hexec hb hdg rfl hl hn (q_lm_s1 cv lv _ .null) k
  · exact lv_astoreN hexec hb hdg hl hn (q_lm_s1 cv lv _ .null) k
  · exact lv_lstore_n hexec hb hdg rfl hl hn (q_lm_s2 cv lv _ (.long _)) k
  · exact lv_lstore hexec hb hdg hl hn (q_lm_s2 cv lv _ (.long _)) k
theorem q_inc_W (hexec : p.tables.exec = Jvm.exec) (hb : c.code = cc) {nL j : Nat} {n : Int} {x : Int32} (hl : lv_has ls nL (q_lm cv lv)) (hn : j < nL) (hdg : decode cc pc = .ok (.iinc j n, 3)) (hv : q_ld lv j = some (.int x))
    (k : ∀ ls' : Array Slot, lv_has ls' nL (q_lm cv (q_s1 lv j (.int (x + Int32.ofInt n)))) → W p l e R s m args below meth c H locs cells slots Q (F0 m (pc + 3) ls' (st.map (q_vv cv)))) : W p l e R s m args below meth c H locs cells slots Q (F0 m pc ls (st.map (q_vv cv))) := by
  obtain ⟨q, hq⟩ := q_lm_mem (cv := cv) hv
  exact lv_iinc hexec hb hdg hl hq rfl hn (q_lm_s1 cv lv j (.int (x + Int32.ofInt n))) k
end QOPS
