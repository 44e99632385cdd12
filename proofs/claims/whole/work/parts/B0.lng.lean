/-! LONGS that are small numbers. -/
section VLNG
variable {a b : Nat} {st : List Value}
theorem v_lNi (h : a < 4611686018427387904) : (lN a).toInt = (a : Int) := Int64.toInt_ofNat_of_lt (by omega)
theorem v_lNeq (ha : a < 4611686018427387904) (hb : b < 4611686018427387904) : lN a = lN b ↔ a = b := by
  constructor
  · intro h
    have h1 := v_lNi ha
    rw [h, v_lNi hb] at h1
    omega
  · intro h; rw [h]
theorem v_lNlt (ha : a < 4611686018427387904) (hb : b < 4611686018427387904) : lN a < lN b ↔ a < b := by
  rw [Int64.lt_iff_toInt_lt, v_lNi ha, v_lNi hb]
  omega
theorem v_lcv (ha : a < 4611686018427387904) (hb : b < 4611686018427387904) : lg_cmp (lN a) (lN b) = if b < a then 1 else if a = b then 0 else -1 := by
  unfold lg_cmp
  by_cases h1 : b < a
  · rw [if_pos h1, if_pos ((v_lNlt hb ha).mpr h1)]
  · rw [if_neg h1, if_neg (fun z => h1 ((v_lNlt hb ha).mp z))]
    by_cases h2 : a = b
    · rw [if_pos h2, if_pos (by rw [h2])]
    · rw [if_neg h2, if_neg (fun z => h2 ((v_lNeq ha hb).mp z))]
theorem v_lc3 (ha : a < 4611686018427387904) (hb : b < 4611686018427387904) : (b < a ∧ lg_cmp (lN a) (lN b) = 1) ∨ (a = b ∧ lg_cmp (lN a) (lN b) = 0) ∨ (a < b ∧ lg_cmp (lN a) (lN b) = -1) := by
  rw [v_lcv ha hb]
  by_cases h1 : b < a
  · rw [if_pos h1]; exact Or.inl ⟨h1, rfl⟩
  · rw [if_neg h1]
    by_cases h2 : a = b
    · rw [if_pos h2]; exact Or.inr (Or.inl ⟨h2, rfl⟩)
    · rw [if_neg h2]; exact Or.inr (Or.inr ⟨by omega, rfl⟩)
theorem v_lc_eq (ha : a < 4611686018427387904) (hb : b < 4611686018427387904) : lg_cmp (lN a) (lN b) = 0 ↔ a = b := by
  rcases v_lc3 ha hb with ⟨h, e⟩ | ⟨h, e⟩ | ⟨h, e⟩ <;> rw [e]
  · exact ⟨fun z => absurd z (by decide), fun z => by omega⟩
  · exact ⟨fun _ => h, fun _ => rfl⟩
  · exact ⟨fun z => absurd z (by decide), fun z => by omega⟩
theorem v_lc_ne (ha : a < 4611686018427387904) (hb : b < 4611686018427387904) : lg_cmp (lN a) (lN b) = 0 ↔ a = b := v_lc_eq ha hb
theorem v_lc_lt (ha : a < 4611686018427387904) (hb : b < 4611686018427387904) : lg_cmp (lN a) (lN b) < 0 ↔ a < b := by
  rcases v_lc3 ha hb with ⟨h, e⟩ | ⟨h, e⟩ | ⟨h, e⟩ <;> rw [e]
  · exact ⟨fun z => absurd z (by decide), fun z => by omega⟩
  · exact ⟨fun z => absurd z (by decide), fun z => by omega⟩
  · exact ⟨fun _ => h, fun _ => by decide⟩
theorem v_lc_ge (ha : a < 4611686018427387904) (hb : b < 4611686018427387904) : 0 ≤ lg_cmp (lN a) (lN b) ↔ b ≤ a := by
  rcases v_lc3 ha hb with ⟨h, e⟩ | ⟨h, e⟩ | ⟨h, e⟩ <;> rw [e]
  · exact ⟨fun _ => by omega, fun _ => by decide⟩
  · exact ⟨fun _ => by omega, fun _ => by decide⟩
  · exact ⟨fun z => absurd z (by decide), fun z => by omega⟩
theorem v_lc_gt (ha : a < 4611686018427387904) (hb : b < 4611686018427387904) : 0 < lg_cmp (lN a) (lN b) ↔ b < a := by
  rcases v_lc3 ha hb with ⟨h, e⟩ | ⟨h, e⟩ | ⟨h, e⟩ <;> rw [e]
  · exact ⟨fun _ => h, fun _ => by decide⟩
  · exact ⟨fun z => absurd z (by decide), fun z => by omega⟩
  · exact ⟨fun z => absurd z (by decide), fun z => by omega⟩
theorem v_lc_le (ha : a < 4611686018427387904) (hb : b < 4611686018427387904) : lg_cmp (lN a) (lN b) ≤ 0 ↔ a ≤ b := by
  rcases v_lc3 ha hb with ⟨h, e⟩ | ⟨h, e⟩ | ⟨h, e⟩ <;> rw [e]
  · exact ⟨fun z => absurd z (by decide), fun z => by omega⟩
  · exact ⟨fun _ => by omega, fun _ => by decide⟩
  · exact ⟨fun _ => by omega, fun _ => by decide⟩
theorem v_lNn (h : a < 18446744073709551616) : (lN a).toBitVec.toNat = a := by
  show (BitVec.ofNat 64 a).toNat = a
  rw [BitVec.toNat_ofNat]
  omega
theorem v_lNof {x : Int64} (h : x.toBitVec.toNat = a) : x = lN a := by
  apply Int64.toBitVec_inj.mp
  apply BitVec.eq_of_toNat_eq
  have h1 := x.toBitVec.isLt
  rw [v_lNn (by omega), h]
theorem v_lsubM (h : b ≤ a) : q_op .lsub (.long (lN b) :: .long (lN a) :: st) = some (1, .long (lN (a - b)) :: st) := by
  show some (1, Value.long (lN a - lN b) :: st) = _
  rw [lN_sub h]
theorem v_landN (k : Nat) (h : a < 18446744073709551616) (hk : 2 ^ k - 1 < 18446744073709551616) : lN a &&& lN (2 ^ k - 1) = lN (a % 2 ^ k) := by
  apply v_lNof
  show ((lN a).toBitVec &&& (lN (2 ^ k - 1)).toBitVec).toNat = _
  rw [BitVec.toNat_and, v_lNn h, v_lNn hk, Nat.and_two_pow_sub_one_eq_mod]
theorem v_landM65535 (h : a < 4611686018427387904) : q_op .land (.long (lN 65535) :: .long (lN a) :: st) = some (1, .long (lN (a % 65536)) :: st) := by
  show some (1, Value.long (lN a &&& lN 65535) :: st) = _
  rw [show lN a &&& lN 65535 = lN (a % 65536) from v_landN 16 (by omega) (by decide)]
theorem v_landM16777215 (h : a < 4611686018427387904) : q_op .land (.long (lN 16777215) :: .long (lN a) :: st) = some (1, .long (lN (a % 16777216)) :: st) := by
  show some (1, Value.long (lN a &&& lN 16777215) :: st) = _
  rw [show lN a &&& lN 16777215 = lN (a % 16777216) from v_landN 24 (by omega) (by decide)]
theorem v_lorM (h : a < 18014398509481984) (hb : b < 256) : q_op .lor (.long (lN b) :: .long (lN (a * 256)) :: st) = some (1, .long (lN (a * 256 + b)) :: st) := by
  show some (1, Value.long (lN (a * 256) ||| lN b) :: st) = _
  have : lN (a * 256) ||| lN b = lN (a * 256 + b) := by
    apply v_lNof
    show ((lN (a * 256)).toBitVec ||| (lN b).toBitVec).toNat = _
    rw [BitVec.toNat_or, v_lNn (by omega), v_lNn (by omega)]
    have := Nat.two_pow_add_eq_or_of_lt (i := 8) (b := b) (by omega) a
    have e : 2 ^ 8 * a = a * 256 := by omega
    rw [e] at this
    exact this.symm
  rw [this]
theorem v_lshM (h : a < 18014398509481984) : q_op .lshl (.int 8 :: .long (lN a) :: st) = some (1, .long (lN (a * 256)) :: st) := by
  show some (1, Value.long (lN a <<< ((8 : Int32).toInt64 &&& 63)) :: st) = _
  have : lN a <<< ((8 : Int32).toInt64 &&& 63) = lN (a * 256) := by
    apply v_lNof
    show ((lN a).toBitVec <<< (((8 : Int32).toInt64 &&& 63 : Int64).toBitVec.smod 64)).toNat = _
    rw [show ((8 : Int32).toInt64 &&& 63 : Int64).toBitVec.smod 64 = 8#64 from by decide]
    rw [BitVec.shiftLeft_eq', BitVec.toNat_shiftLeft, v_lNn (by omega)]
    rw [show (8#64).toNat = 8 from rfl, Nat.shiftLeft_eq]
    omega
  rw [this]
theorem v_lsrN (k : Nat) (s : Int32) (hs : ((s.toInt64.toUInt64 &&& Int64.toUInt64 63).toNat) = k) (hk : k < 64) (h : a < 18446744073709551616) : w_lsr (lN a) s = lN (a / 2 ^ k) := by
  apply v_lNof
  unfold w_lsr
  show ((lN a).toUInt64 >>> (s.toInt64.toUInt64 &&& Int64.toUInt64 63)).toNat = _
  rw [UInt64.toNat_shiftRight, hs, Nat.mod_eq_of_lt hk, Nat.shiftRight_eq_div_pow]
  rw [show (lN a).toUInt64.toNat = a from v_lNn h]
theorem v_lsrM16 (h : a < 4611686018427387904) : q_op .lushr (.int 16 :: .long (lN a) :: st) = some (1, .long (lN (a / 65536)) :: st) := by
  show some (1, Value.long (w_lsr (lN a) 16) :: st) = _
  rw [show w_lsr (lN a) 16 = lN (a / 65536) from v_lsrN 16 16 (by decide) (by decide) (by omega)]
theorem v_lsrM24 (h : a < 4611686018427387904) : q_op .lushr (.int 24 :: .long (lN a) :: st) = some (1, .long (lN (a / 16777216)) :: st) := by
  show some (1, Value.long (w_lsr (lN a) 24) :: st) = _
  rw [show w_lsr (lN a) 24 = lN (a / 16777216) from v_lsrN 24 24 (by decide) (by decide) (by omega)]
theorem v_i2lM (h : a < 2147483648) : q_op .i2l (.int (nI a) :: st) = some (1, .long (lN a) :: st) := by
  show some (1, Value.long (nI a).toInt64 :: st) = _
  rw [nI_l h]
theorem v_l2iM : q_op .l2i (.long (lN a) :: st) = some (1, .int (nI a) :: st) := by
  show some (1, Value.int (lN a).toInt32 :: st) = _
  rw [lN_i]
end VLNG
