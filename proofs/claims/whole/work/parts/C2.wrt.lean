/-! A WORTH: a sort above a value, in a long. -/
def v_w (s : Nat) (x : Int32) : Int64 := ((nI s).toInt64 <<< ((32 : Int32).toInt64 &&& 63)) ||| (x.toInt64 &&& lN 4294967295)
def v_lb (a : Int64) (i : Nat) : Bool := a.toBitVec.getLsbD i
def v_k (s : Nat) : Int64 := (nI s).toInt64 <<< ((32 : Int32).toInt64 &&& 63)
theorem v_k_lo : ∀ s, s < 7 → ∀ i, i < 32 → v_lb (v_k s) i = false := by decide +kernel
theorem v_k_hi : ∀ s, s < 7 → ∀ i, i < 32 → v_lb (v_k s) (32 + i) = v_b (nI s) i := by decide +kernel
theorem v_mask_lo : ∀ i, i < 32 → v_lb (lN 4294967295) i = true := by decide +kernel
theorem v_mask_hi : ∀ i, i < 32 → v_lb (lN 4294967295) (32 + i) = false := by decide +kernel
theorem v_w_bit (s : Nat) (x : Int32) (i : Nat) : v_lb (v_w s x) i = (v_lb (v_k s) i || (v_lb x.toInt64 i && v_lb (lN 4294967295) i)) := by
  show ((v_k s).toBitVec ||| (x.toInt64.toBitVec &&& (lN 4294967295).toBitVec)).getLsbD i = _
  rw [BitVec.getLsbD_or, BitVec.getLsbD_and]
  rfl
theorem v_ext64 (x : Int32) {i : Nat} (hi : i < 32) : v_lb x.toInt64 i = v_b x i := by
  show (x.toBitVec.signExtend 64).getLsbD i = x.toBitVec.getLsbD i
  rw [BitVec.getLsbD_signExtend, decide_eq_true (show i < 64 by omega), if_pos hi, Bool.true_and]
theorem v_to32 (a : Int64) {i : Nat} (hi : i < 32) : v_b a.toInt32 i = v_lb a i := by
  show (a.toBitVec.signExtend 32).getLsbD i = a.toBitVec.getLsbD i
  rw [BitVec.getLsbD_signExtend, decide_eq_true hi, if_pos (show i < 64 by omega), Bool.true_and]
theorem v_w_val {s : Nat} (hs : s < 7) (x : Int32) : (v_w s x).toInt32 = x := by
  apply v_ext
  intro i hi
  rw [v_to32 _ hi, v_w_bit, v_k_lo s hs i hi, v_mask_lo i hi, v_ext64 x hi, Bool.false_or, Bool.and_true]
theorem v_lsr32 (a : Int64) {i : Nat} (hi : i < 32) : v_lb (w_lsr a 32) i = v_lb a (32 + i) := by
  unfold w_lsr
  rw [show ((32 : Int32).toInt64.toUInt64 &&& Int64.toUInt64 63) = 32 from by decide]
  show (a.toUInt64 >>> (32 : UInt64)).toBitVec.getLsbD i = a.toBitVec.getLsbD (32 + i)
  rw [UInt64.toBitVec_shiftRight]
  rw [show ((32 : UInt64).toBitVec % 64) = 32#64 from by decide]
  rw [BitVec.ushiftRight_eq', BitVec.getLsbD_ushiftRight]
  rfl
theorem v_w_sort {s : Nat} (hs : s < 7) (x : Int32) : (w_lsr (v_w s x) 32).toInt32 = nI s := by
  apply v_ext
  intro i hi
  rw [v_to32 _ hi, v_lsr32 _ hi, v_w_bit, v_k_hi s hs i hi, v_mask_hi i hi, Bool.and_false, Bool.or_false]
theorem v_w_inj {s t : Nat} (hs : s < 7) (ht : t < 7) {x y : Int32} : v_w s x = v_w t y ↔ s = t ∧ x = y := by
  constructor
  · intro h
    have h1 := v_w_val hs x
    rw [h, v_w_val ht] at h1
    have h2 := v_w_sort hs x
    rw [h, v_w_sort ht] at h2
    exact ⟨((nI_eq (by omega) (by omega)).mp h2).symm, h1.symm⟩
  · rintro ⟨rfl, rfl⟩; rfl
theorem v_lg0 (x y : Int64) : lg_cmp x y = 0 ↔ x = y := by
  unfold lg_cmp
  by_cases h1 : x > y
  · rw [if_pos h1]
    refine ⟨fun z => absurd z (by decide), fun z => ?_⟩
    subst z
    exact absurd h1 (Int64.lt_irrefl)
  · rw [if_neg h1]
    by_cases h2 : x = y
    · rw [if_pos h2]; exact ⟨fun _ => h2, fun _ => rfl⟩
    · rw [if_neg h2]; exact ⟨fun z => absurd z (by decide), fun z => absurd z h2⟩
theorem v_i64lt (x y : Int32) : x.toInt64 < y.toInt64 ↔ x < y := by
  rw [Int64.lt_iff_toInt_lt, Int32.lt_iff_toInt_lt, Int32.toInt_toInt64, Int32.toInt_toInt64]
theorem v_i64le (x y : Int32) : x.toInt64 ≤ y.toInt64 ↔ x ≤ y := by
  rw [Int64.le_iff_toInt_le, Int32.le_iff_toInt_le, Int32.toInt_toInt64, Int32.toInt_toInt64]
