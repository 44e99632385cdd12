/-! MORE FOR THE PRINTER: literals folded; types as numbers. -/
section VLT
variable {y z w : Int32} {st : List Value}
theorem v_litN (h : y &&& z = w) : q_op .iand (.int z :: .int y :: st) = some (1, .int w :: st) := by
  subst h; rfl
theorem v_litO (h : y ||| z = w) : q_op .ior (.int z :: .int y :: st) = some (1, .int w :: st) := by
  subst h; rfl
theorem v_litL (h : y <<< (z &&& 31) = w) : q_op .ishl (.int z :: .int y :: st) = some (1, .int w :: st) := by
  subst h; rfl
theorem v_litR (h : y >>> (z &&& 31) = w) : q_op .ishr (.int z :: .int y :: st) = some (1, .int w :: st) := by
  subst h; rfl
end VLT
