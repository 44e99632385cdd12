/-! ONE CALL: text. -/
def j_gb (b : Nat) : Prop := b = 0 ∨ (32 ≤ b ∧ b ≤ 126)
def j_sp (st : Nat × (Nat → Nat)) (b : Nat) : Nat × (Nat → Nat) := if b = 0 then st else (st.1 + 1, fun j => if j = st.1 then b else st.2 j)
section JOA
variable {d L p b c l zb : Nat} {w : Int64} {xs : Nat → Int32} {S S' : q_S} {Q : Outcome → q_S → Prop} {st : Nat × (Nat → Nat)}
theorem j_and255 (x : Int32) : ∃ n, n < 256 ∧ x &&& (255 : Int32) = nI n := by
  refine ⟨(x &&& (255 : Int32)).toBitVec.toNat, ?_, ?_⟩
  · rw [Int32.toBitVec_and, BitVec.toNat_and]
    exact Nat.lt_of_le_of_lt Nat.and_le_right (by decide)
  · have h : (x &&& (255 : Int32)).toBitVec.toNat < 256 := by
      rw [Int32.toBitVec_and, BitVec.toNat_and]
      exact Nat.lt_of_le_of_lt Nat.and_le_right (by decide)
    apply Int32.toBitVec_inj.mp
    apply BitVec.eq_of_toNat_eq
    exact (pk_tn (by omega)).symm
theorem j_b0 (hb : b < 256) : nI b = (0 : Int32) ↔ b = 0 := nI_eq (a := b) (b := 0) (by omega) (by omega)
theorem j_b32 (hb : b < 256) : nI b < (32 : Int32) ↔ b < 32 := nI_ltI (a := b) (b := 32) (by omega) (by omega)
theorem j_b126 (hb : b < 256) : nI b ≤ (126 : Int32) ↔ b ≤ 126 := nI_leI (a := b) (b := 126) (by omega) (by omega)
theorem j_b126' (hb : b < 256) : (126 : Int32) < nI b ↔ 126 < b := nI_ltI (a := 126) (b := b) (by omega) (by omega)
theorem j_i2c (hb : b < 256) : w_i2c (nI b) = nI b := v_ncN (by omega)
theorem j_19l0 (hW : w_W (q_S0 L xs) S) (hc : c < 20) (hB : (((w_lsr w (0 : Int32)).toInt32) &&& (255 : Int32)) = nI b) (hb : b < 256) (hz : zb = if b = 0 then 0 else 1) (kb : ¬ j_gb b → Q (.threw (q_tp S)) (q_new S (10, 6) 6)) (kg : j_gb b → w_R (d + 7) 19 6 [(0, .ref 1000), (1, .long w), (3, .int (nI (c + zb))), (4, .int (-8))] [] S Q) : w_R (d + 7) 19 6 [(0, .ref 1000), (1, .long w), (3, .int (nI c)), (4, .int 0)] [] S Q := by
  refine h19l0 (d := d + 6) hW hc (by omega) (fun c1 => ?_) (fun c1 c2 => ?_) (fun c1 c2 c3 => ?_) (fun c1 c2 c3 => ?_)
  · rw [hB] at c1
    have z := (j_b0 hb).mp c1
    rw [hz, if_pos z] at kg
    exact kg (Or.inl z)
  · rw [hB] at c1 c2
    have z := (j_b32 hb).mp c2
    have z0 : ¬ b = 0 := fun y => c1 ((j_b0 hb).mpr y)
    exact kb (fun g => by rcases g with g | g <;> omega)
  · rw [hB] at c1 c2 c3
    have z := (j_b126 hb).mp c3
    have z0 : ¬ b = 0 := fun y => c1 ((j_b0 hb).mpr y)
    have z1 : ¬ b < 32 := fun y => c2 ((j_b32 hb).mpr y)
    rw [hz, if_neg z0] at kg
    exact kg (Or.inr ⟨by omega, z⟩)
  · rw [hB] at c1 c2 c3
    have z : ¬ b ≤ 126 := fun y => c3 ((j_b126 hb).mpr y)
    have z0 : ¬ b = 0 := fun y => c1 ((j_b0 hb).mpr y)
    exact kb (fun g => by rcases g with g | g <;> omega)
theorem j_144l0 (hW : w_W (q_S0 L xs) S) (hc : c < 20) (hB : (((w_lsr w (0 : Int32)).toInt32) &&& (255 : Int32)) = nI b) (hb : b < 256) (hz : zb = if b = 0 then 0 else 1) (kb : ¬ j_gb b → Q (.returned (some (.int 0))) (q_sI S 1097 0 (1 : Int32))) (kg : j_gb b → w_R (d + 1) 144 10 [(0, .ref 1097), (1, .long w), (3, .int (nI (c + zb))), (4, .int 1)] [] S Q) : w_R (d + 1) 144 10 [(0, .ref 1097), (1, .long w), (3, .int (nI c)), (4, .int 0)] [] S Q := by
  refine m144l0 hW hc (fun c1 => ?_) (fun c1 c2 => ?_) (fun c1 c2 c3 => ?_) (fun c1 c2 c3 => ?_)
  · rw [hB] at c1
    have z := (j_b0 hb).mp c1
    rw [hz, if_pos z] at kg
    exact kg (Or.inl z)
  · rw [hB] at c1 c2
    have z := (j_b32 hb).mp c2
    have z0 : ¬ b = 0 := fun y => c1 ((j_b0 hb).mpr y)
    exact kb (fun g => by rcases g with g | g <;> omega)
  · rw [hB] at c1 c2 c3
    have z := (j_b126' hb).mp c3
    have z0 : ¬ b = 0 := fun y => c1 ((j_b0 hb).mpr y)
    exact kb (fun g => by rcases g with g | g <;> omega)
  · rw [hB] at c1 c2 c3
    have z : ¬ 126 < b := fun y => c3 ((j_b126' hb).mpr y)
    have z0 : ¬ b = 0 := fun y => c1 ((j_b0 hb).mpr y)
    have z1 : ¬ b < 32 := fun y => c2 ((j_b32 hb).mpr y)
    rw [hz, if_neg z0] at kg
    exact kg (Or.inr ⟨by omega, by omega⟩)
theorem j_19l1 (hW : w_W (q_S0 L xs) S) (hc : c < 20) (hB : (((w_lsr w (8 : Int32)).toInt32) &&& (255 : Int32)) = nI b) (hb : b < 256) (hz : zb = if b = 0 then 0 else 1) (kb : ¬ j_gb b → Q (.threw (q_tp S)) (q_new S (10, 6) 6)) (kg : j_gb b → w_R (d + 7) 19 6 [(0, .ref 1000), (1, .long w), (3, .int (nI (c + zb))), (4, .int 0)] [] S Q) : w_R (d + 7) 19 6 [(0, .ref 1000), (1, .long w), (3, .int (nI c)), (4, .int 8)] [] S Q := by
  refine h19l1 (d := d + 6) hW hc (by omega) (fun c1 => ?_) (fun c1 c2 => ?_) (fun c1 c2 c3 => ?_) (fun c1 c2 c3 => ?_)
  · rw [hB] at c1
    have z := (j_b0 hb).mp c1
    rw [hz, if_pos z] at kg
    exact kg (Or.inl z)
  · rw [hB] at c1 c2
    have z := (j_b32 hb).mp c2
    have z0 : ¬ b = 0 := fun y => c1 ((j_b0 hb).mpr y)
    exact kb (fun g => by rcases g with g | g <;> omega)
  · rw [hB] at c1 c2 c3
    have z := (j_b126 hb).mp c3
    have z0 : ¬ b = 0 := fun y => c1 ((j_b0 hb).mpr y)
    have z1 : ¬ b < 32 := fun y => c2 ((j_b32 hb).mpr y)
    rw [hz, if_neg z0] at kg
    exact kg (Or.inr ⟨by omega, z⟩)
  · rw [hB] at c1 c2 c3
    have z : ¬ b ≤ 126 := fun y => c3 ((j_b126 hb).mpr y)
    have z0 : ¬ b = 0 := fun y => c1 ((j_b0 hb).mpr y)
    exact kb (fun g => by rcases g with g | g <;> omega)
theorem j_144l1 (hW : w_W (q_S0 L xs) S) (hc : c < 20) (hB : (((w_lsr w (8 : Int32)).toInt32) &&& (255 : Int32)) = nI b) (hb : b < 256) (hz : zb = if b = 0 then 0 else 1) (kb : ¬ j_gb b → Q (.returned (some (.int 0))) (q_sI S 1097 0 (1 : Int32))) (kg : j_gb b → w_R (d + 1) 144 10 [(0, .ref 1097), (1, .long w), (3, .int (nI (c + zb))), (4, .int 2)] [] S Q) : w_R (d + 1) 144 10 [(0, .ref 1097), (1, .long w), (3, .int (nI c)), (4, .int 1)] [] S Q := by
  refine m144l1 hW hc (fun c1 => ?_) (fun c1 c2 => ?_) (fun c1 c2 c3 => ?_) (fun c1 c2 c3 => ?_)
  · rw [hB] at c1
    have z := (j_b0 hb).mp c1
    rw [hz, if_pos z] at kg
    exact kg (Or.inl z)
  · rw [hB] at c1 c2
    have z := (j_b32 hb).mp c2
    have z0 : ¬ b = 0 := fun y => c1 ((j_b0 hb).mpr y)
    exact kb (fun g => by rcases g with g | g <;> omega)
  · rw [hB] at c1 c2 c3
    have z := (j_b126' hb).mp c3
    have z0 : ¬ b = 0 := fun y => c1 ((j_b0 hb).mpr y)
    exact kb (fun g => by rcases g with g | g <;> omega)
  · rw [hB] at c1 c2 c3
    have z : ¬ 126 < b := fun y => c3 ((j_b126' hb).mpr y)
    have z0 : ¬ b = 0 := fun y => c1 ((j_b0 hb).mpr y)
    have z1 : ¬ b < 32 := fun y => c2 ((j_b32 hb).mpr y)
    rw [hz, if_neg z0] at kg
    exact kg (Or.inr ⟨by omega, by omega⟩)
theorem j_19l2 (hW : w_W (q_S0 L xs) S) (hc : c < 20) (hB : (((w_lsr w (16 : Int32)).toInt32) &&& (255 : Int32)) = nI b) (hb : b < 256) (hz : zb = if b = 0 then 0 else 1) (kb : ¬ j_gb b → Q (.threw (q_tp S)) (q_new S (10, 6) 6)) (kg : j_gb b → w_R (d + 7) 19 6 [(0, .ref 1000), (1, .long w), (3, .int (nI (c + zb))), (4, .int 8)] [] S Q) : w_R (d + 7) 19 6 [(0, .ref 1000), (1, .long w), (3, .int (nI c)), (4, .int 16)] [] S Q := by
  refine h19l2 (d := d + 6) hW hc (by omega) (fun c1 => ?_) (fun c1 c2 => ?_) (fun c1 c2 c3 => ?_) (fun c1 c2 c3 => ?_)
  · rw [hB] at c1
    have z := (j_b0 hb).mp c1
    rw [hz, if_pos z] at kg
    exact kg (Or.inl z)
  · rw [hB] at c1 c2
    have z := (j_b32 hb).mp c2
    have z0 : ¬ b = 0 := fun y => c1 ((j_b0 hb).mpr y)
    exact kb (fun g => by rcases g with g | g <;> omega)
  · rw [hB] at c1 c2 c3
    have z := (j_b126 hb).mp c3
    have z0 : ¬ b = 0 := fun y => c1 ((j_b0 hb).mpr y)
    have z1 : ¬ b < 32 := fun y => c2 ((j_b32 hb).mpr y)
    rw [hz, if_neg z0] at kg
    exact kg (Or.inr ⟨by omega, z⟩)
  · rw [hB] at c1 c2 c3
    have z : ¬ b ≤ 126 := fun y => c3 ((j_b126 hb).mpr y)
    have z0 : ¬ b = 0 := fun y => c1 ((j_b0 hb).mpr y)
    exact kb (fun g => by rcases g with g | g <;> omega)
theorem j_144l2 (hW : w_W (q_S0 L xs) S) (hc : c < 20) (hB : (((w_lsr w (16 : Int32)).toInt32) &&& (255 : Int32)) = nI b) (hb : b < 256) (hz : zb = if b = 0 then 0 else 1) (kb : ¬ j_gb b → Q (.returned (some (.int 0))) (q_sI S 1097 0 (1 : Int32))) (kg : j_gb b → w_R (d + 1) 144 10 [(0, .ref 1097), (1, .long w), (3, .int (nI (c + zb))), (4, .int 3)] [] S Q) : w_R (d + 1) 144 10 [(0, .ref 1097), (1, .long w), (3, .int (nI c)), (4, .int 2)] [] S Q := by
  refine m144l2 hW hc (fun c1 => ?_) (fun c1 c2 => ?_) (fun c1 c2 c3 => ?_) (fun c1 c2 c3 => ?_)
  · rw [hB] at c1
    have z := (j_b0 hb).mp c1
    rw [hz, if_pos z] at kg
    exact kg (Or.inl z)
  · rw [hB] at c1 c2
    have z := (j_b32 hb).mp c2
    have z0 : ¬ b = 0 := fun y => c1 ((j_b0 hb).mpr y)
    exact kb (fun g => by rcases g with g | g <;> omega)
  · rw [hB] at c1 c2 c3
    have z := (j_b126' hb).mp c3
    have z0 : ¬ b = 0 := fun y => c1 ((j_b0 hb).mpr y)
    exact kb (fun g => by rcases g with g | g <;> omega)
  · rw [hB] at c1 c2 c3
    have z : ¬ 126 < b := fun y => c3 ((j_b126' hb).mpr y)
    have z0 : ¬ b = 0 := fun y => c1 ((j_b0 hb).mpr y)
    have z1 : ¬ b < 32 := fun y => c2 ((j_b32 hb).mpr y)
    rw [hz, if_neg z0] at kg
    exact kg (Or.inr ⟨by omega, by omega⟩)
theorem j_19l3 (hW : w_W (q_S0 L xs) S) (hc : c < 20) (hB : (((w_lsr w (24 : Int32)).toInt32) &&& (255 : Int32)) = nI b) (hb : b < 256) (hz : zb = if b = 0 then 0 else 1) (kb : ¬ j_gb b → Q (.threw (q_tp S)) (q_new S (10, 6) 6)) (kg : j_gb b → w_R (d + 7) 19 6 [(0, .ref 1000), (1, .long w), (3, .int (nI (c + zb))), (4, .int 16)] [] S Q) : w_R (d + 7) 19 6 [(0, .ref 1000), (1, .long w), (3, .int (nI c)), (4, .int 24)] [] S Q := by
  refine h19l3 (d := d + 6) hW hc (by omega) (fun c1 => ?_) (fun c1 c2 => ?_) (fun c1 c2 c3 => ?_) (fun c1 c2 c3 => ?_)
  · rw [hB] at c1
    have z := (j_b0 hb).mp c1
    rw [hz, if_pos z] at kg
    exact kg (Or.inl z)
  · rw [hB] at c1 c2
    have z := (j_b32 hb).mp c2
    have z0 : ¬ b = 0 := fun y => c1 ((j_b0 hb).mpr y)
    exact kb (fun g => by rcases g with g | g <;> omega)
  · rw [hB] at c1 c2 c3
    have z := (j_b126 hb).mp c3
    have z0 : ¬ b = 0 := fun y => c1 ((j_b0 hb).mpr y)
    have z1 : ¬ b < 32 := fun y => c2 ((j_b32 hb).mpr y)
    rw [hz, if_neg z0] at kg
    exact kg (Or.inr ⟨by omega, z⟩)
  · rw [hB] at c1 c2 c3
    have z : ¬ b ≤ 126 := fun y => c3 ((j_b126 hb).mpr y)
    have z0 : ¬ b = 0 := fun y => c1 ((j_b0 hb).mpr y)
    exact kb (fun g => by rcases g with g | g <;> omega)
theorem j_144l3 (hW : w_W (q_S0 L xs) S) (hc : c < 20) (hB : (((w_lsr w (24 : Int32)).toInt32) &&& (255 : Int32)) = nI b) (hb : b < 256) (hz : zb = if b = 0 then 0 else 1) (kb : ¬ j_gb b → Q (.returned (some (.int 0))) (q_sI S 1097 0 (1 : Int32))) (kg : j_gb b → w_R (d + 1) 144 10 [(0, .ref 1097), (1, .long w), (3, .int (nI (c + zb))), (4, .int 4)] [] S Q) : w_R (d + 1) 144 10 [(0, .ref 1097), (1, .long w), (3, .int (nI c)), (4, .int 3)] [] S Q := by
  refine m144l3 hW hc (fun c1 => ?_) (fun c1 c2 => ?_) (fun c1 c2 c3 => ?_) (fun c1 c2 c3 => ?_)
  · rw [hB] at c1
    have z := (j_b0 hb).mp c1
    rw [hz, if_pos z] at kg
    exact kg (Or.inl z)
  · rw [hB] at c1 c2
    have z := (j_b32 hb).mp c2
    have z0 : ¬ b = 0 := fun y => c1 ((j_b0 hb).mpr y)
    exact kb (fun g => by rcases g with g | g <;> omega)
  · rw [hB] at c1 c2 c3
    have z := (j_b126' hb).mp c3
    have z0 : ¬ b = 0 := fun y => c1 ((j_b0 hb).mpr y)
    exact kb (fun g => by rcases g with g | g <;> omega)
  · rw [hB] at c1 c2 c3
    have z : ¬ 126 < b := fun y => c3 ((j_b126' hb).mpr y)
    have z0 : ¬ b = 0 := fun y => c1 ((j_b0 hb).mpr y)
    have z1 : ¬ b < 32 := fun y => c2 ((j_b32 hb).mpr y)
    rw [hz, if_neg z0] at kg
    exact kg (Or.inr ⟨by omega, by omega⟩)
theorem j_19l4 (hW : w_W (q_S0 L xs) S) (hc : c < 20) (hB : (((w_lsr w (32 : Int32)).toInt32) &&& (255 : Int32)) = nI b) (hb : b < 256) (hz : zb = if b = 0 then 0 else 1) (kb : ¬ j_gb b → Q (.threw (q_tp S)) (q_new S (10, 6) 6)) (kg : j_gb b → w_R (d + 7) 19 6 [(0, .ref 1000), (1, .long w), (3, .int (nI (c + zb))), (4, .int 24)] [] S Q) : w_R (d + 7) 19 6 [(0, .ref 1000), (1, .long w), (3, .int (nI c)), (4, .int 32)] [] S Q := by
  refine h19l4 (d := d + 6) hW hc (by omega) (fun c1 => ?_) (fun c1 c2 => ?_) (fun c1 c2 c3 => ?_) (fun c1 c2 c3 => ?_)
  · rw [hB] at c1
    have z := (j_b0 hb).mp c1
    rw [hz, if_pos z] at kg
    exact kg (Or.inl z)
  · rw [hB] at c1 c2
    have z := (j_b32 hb).mp c2
    have z0 : ¬ b = 0 := fun y => c1 ((j_b0 hb).mpr y)
    exact kb (fun g => by rcases g with g | g <;> omega)
  · rw [hB] at c1 c2 c3
    have z := (j_b126 hb).mp c3
    have z0 : ¬ b = 0 := fun y => c1 ((j_b0 hb).mpr y)
    have z1 : ¬ b < 32 := fun y => c2 ((j_b32 hb).mpr y)
    rw [hz, if_neg z0] at kg
    exact kg (Or.inr ⟨by omega, z⟩)
  · rw [hB] at c1 c2 c3
    have z : ¬ b ≤ 126 := fun y => c3 ((j_b126 hb).mpr y)
    have z0 : ¬ b = 0 := fun y => c1 ((j_b0 hb).mpr y)
    exact kb (fun g => by rcases g with g | g <;> omega)
theorem j_144l4 (hW : w_W (q_S0 L xs) S) (hc : c < 20) (hB : (((w_lsr w (32 : Int32)).toInt32) &&& (255 : Int32)) = nI b) (hb : b < 256) (hz : zb = if b = 0 then 0 else 1) (kb : ¬ j_gb b → Q (.returned (some (.int 0))) (q_sI S 1097 0 (1 : Int32))) (kg : j_gb b → w_R (d + 1) 144 10 [(0, .ref 1097), (1, .long w), (3, .int (nI (c + zb))), (4, .int 5)] [] S Q) : w_R (d + 1) 144 10 [(0, .ref 1097), (1, .long w), (3, .int (nI c)), (4, .int 4)] [] S Q := by
  refine m144l4 hW hc (fun c1 => ?_) (fun c1 c2 => ?_) (fun c1 c2 c3 => ?_) (fun c1 c2 c3 => ?_)
  · rw [hB] at c1
    have z := (j_b0 hb).mp c1
    rw [hz, if_pos z] at kg
    exact kg (Or.inl z)
  · rw [hB] at c1 c2
    have z := (j_b32 hb).mp c2
    have z0 : ¬ b = 0 := fun y => c1 ((j_b0 hb).mpr y)
    exact kb (fun g => by rcases g with g | g <;> omega)
  · rw [hB] at c1 c2 c3
    have z := (j_b126' hb).mp c3
    have z0 : ¬ b = 0 := fun y => c1 ((j_b0 hb).mpr y)
    exact kb (fun g => by rcases g with g | g <;> omega)
  · rw [hB] at c1 c2 c3
    have z : ¬ 126 < b := fun y => c3 ((j_b126' hb).mpr y)
    have z0 : ¬ b = 0 := fun y => c1 ((j_b0 hb).mpr y)
    have z1 : ¬ b < 32 := fun y => c2 ((j_b32 hb).mpr y)
    rw [hz, if_neg z0] at kg
    exact kg (Or.inr ⟨by omega, by omega⟩)
theorem j_19l5 (hW : w_W (q_S0 L xs) S) (hc : c < 20) (hB : (((w_lsr w (40 : Int32)).toInt32) &&& (255 : Int32)) = nI b) (hb : b < 256) (hz : zb = if b = 0 then 0 else 1) (kb : ¬ j_gb b → Q (.threw (q_tp S)) (q_new S (10, 6) 6)) (kg : j_gb b → w_R (d + 7) 19 6 [(0, .ref 1000), (1, .long w), (3, .int (nI (c + zb))), (4, .int 32)] [] S Q) : w_R (d + 7) 19 6 [(0, .ref 1000), (1, .long w), (3, .int (nI c)), (4, .int 40)] [] S Q := by
  refine h19l5 (d := d + 6) hW hc (by omega) (fun c1 => ?_) (fun c1 c2 => ?_) (fun c1 c2 c3 => ?_) (fun c1 c2 c3 => ?_)
  · rw [hB] at c1
    have z := (j_b0 hb).mp c1
    rw [hz, if_pos z] at kg
    exact kg (Or.inl z)
  · rw [hB] at c1 c2
    have z := (j_b32 hb).mp c2
    have z0 : ¬ b = 0 := fun y => c1 ((j_b0 hb).mpr y)
    exact kb (fun g => by rcases g with g | g <;> omega)
  · rw [hB] at c1 c2 c3
    have z := (j_b126 hb).mp c3
    have z0 : ¬ b = 0 := fun y => c1 ((j_b0 hb).mpr y)
    have z1 : ¬ b < 32 := fun y => c2 ((j_b32 hb).mpr y)
    rw [hz, if_neg z0] at kg
    exact kg (Or.inr ⟨by omega, z⟩)
  · rw [hB] at c1 c2 c3
    have z : ¬ b ≤ 126 := fun y => c3 ((j_b126 hb).mpr y)
    have z0 : ¬ b = 0 := fun y => c1 ((j_b0 hb).mpr y)
    exact kb (fun g => by rcases g with g | g <;> omega)
theorem j_144l5 (hW : w_W (q_S0 L xs) S) (hc : c < 20) (hB : (((w_lsr w (40 : Int32)).toInt32) &&& (255 : Int32)) = nI b) (hb : b < 256) (hz : zb = if b = 0 then 0 else 1) (kb : ¬ j_gb b → Q (.returned (some (.int 0))) (q_sI S 1097 0 (1 : Int32))) (kg : j_gb b → w_R (d + 1) 144 10 [(0, .ref 1097), (1, .long w), (3, .int (nI (c + zb))), (4, .int 6)] [] S Q) : w_R (d + 1) 144 10 [(0, .ref 1097), (1, .long w), (3, .int (nI c)), (4, .int 5)] [] S Q := by
  refine m144l5 hW hc (fun c1 => ?_) (fun c1 c2 => ?_) (fun c1 c2 c3 => ?_) (fun c1 c2 c3 => ?_)
  · rw [hB] at c1
    have z := (j_b0 hb).mp c1
    rw [hz, if_pos z] at kg
    exact kg (Or.inl z)
  · rw [hB] at c1 c2
    have z := (j_b32 hb).mp c2
    have z0 : ¬ b = 0 := fun y => c1 ((j_b0 hb).mpr y)
    exact kb (fun g => by rcases g with g | g <;> omega)
  · rw [hB] at c1 c2 c3
    have z := (j_b126' hb).mp c3
    have z0 : ¬ b = 0 := fun y => c1 ((j_b0 hb).mpr y)
    exact kb (fun g => by rcases g with g | g <;> omega)
  · rw [hB] at c1 c2 c3
    have z : ¬ 126 < b := fun y => c3 ((j_b126' hb).mpr y)
    have z0 : ¬ b = 0 := fun y => c1 ((j_b0 hb).mpr y)
    have z1 : ¬ b < 32 := fun y => c2 ((j_b32 hb).mpr y)
    rw [hz, if_neg z0] at kg
    exact kg (Or.inr ⟨by omega, by omega⟩)
theorem j_19l6 (hW : w_W (q_S0 L xs) S) (hc : c < 20) (hB : (((w_lsr w (48 : Int32)).toInt32) &&& (255 : Int32)) = nI b) (hb : b < 256) (hz : zb = if b = 0 then 0 else 1) (kb : ¬ j_gb b → Q (.threw (q_tp S)) (q_new S (10, 6) 6)) (kg : j_gb b → w_R (d + 7) 19 6 [(0, .ref 1000), (1, .long w), (3, .int (nI (c + zb))), (4, .int 40)] [] S Q) : w_R (d + 7) 19 6 [(0, .ref 1000), (1, .long w), (3, .int (nI c)), (4, .int 48)] [] S Q := by
  refine h19l6 (d := d + 6) hW hc (by omega) (fun c1 => ?_) (fun c1 c2 => ?_) (fun c1 c2 c3 => ?_) (fun c1 c2 c3 => ?_)
  · rw [hB] at c1
    have z := (j_b0 hb).mp c1
    rw [hz, if_pos z] at kg
    exact kg (Or.inl z)
  · rw [hB] at c1 c2
    have z := (j_b32 hb).mp c2
    have z0 : ¬ b = 0 := fun y => c1 ((j_b0 hb).mpr y)
    exact kb (fun g => by rcases g with g | g <;> omega)
  · rw [hB] at c1 c2 c3
    have z := (j_b126 hb).mp c3
    have z0 : ¬ b = 0 := fun y => c1 ((j_b0 hb).mpr y)
    have z1 : ¬ b < 32 := fun y => c2 ((j_b32 hb).mpr y)
    rw [hz, if_neg z0] at kg
    exact kg (Or.inr ⟨by omega, z⟩)
  · rw [hB] at c1 c2 c3
    have z : ¬ b ≤ 126 := fun y => c3 ((j_b126 hb).mpr y)
    have z0 : ¬ b = 0 := fun y => c1 ((j_b0 hb).mpr y)
    exact kb (fun g => by rcases g with g | g <;> omega)
theorem j_144l6 (hW : w_W (q_S0 L xs) S) (hc : c < 20) (hB : (((w_lsr w (48 : Int32)).toInt32) &&& (255 : Int32)) = nI b) (hb : b < 256) (hz : zb = if b = 0 then 0 else 1) (kb : ¬ j_gb b → Q (.returned (some (.int 0))) (q_sI S 1097 0 (1 : Int32))) (kg : j_gb b → w_R (d + 1) 144 10 [(0, .ref 1097), (1, .long w), (3, .int (nI (c + zb))), (4, .int 7)] [] S Q) : w_R (d + 1) 144 10 [(0, .ref 1097), (1, .long w), (3, .int (nI c)), (4, .int 6)] [] S Q := by
  refine m144l6 hW hc (fun c1 => ?_) (fun c1 c2 => ?_) (fun c1 c2 c3 => ?_) (fun c1 c2 c3 => ?_)
  · rw [hB] at c1
    have z := (j_b0 hb).mp c1
    rw [hz, if_pos z] at kg
    exact kg (Or.inl z)
  · rw [hB] at c1 c2
    have z := (j_b32 hb).mp c2
    have z0 : ¬ b = 0 := fun y => c1 ((j_b0 hb).mpr y)
    exact kb (fun g => by rcases g with g | g <;> omega)
  · rw [hB] at c1 c2 c3
    have z := (j_b126' hb).mp c3
    have z0 : ¬ b = 0 := fun y => c1 ((j_b0 hb).mpr y)
    exact kb (fun g => by rcases g with g | g <;> omega)
  · rw [hB] at c1 c2 c3
    have z : ¬ 126 < b := fun y => c3 ((j_b126' hb).mpr y)
    have z0 : ¬ b = 0 := fun y => c1 ((j_b0 hb).mpr y)
    have z1 : ¬ b < 32 := fun y => c2 ((j_b32 hb).mpr y)
    rw [hz, if_neg z0] at kg
    exact kg (Or.inr ⟨by omega, by omega⟩)
theorem j_19l7 (hW : w_W (q_S0 L xs) S) (hc : c < 20) (hB : (((w_lsr w (56 : Int32)).toInt32) &&& (255 : Int32)) = nI b) (hb : b < 256) (hz : zb = if b = 0 then 0 else 1) (kb : ¬ j_gb b → Q (.threw (q_tp S)) (q_new S (10, 6) 6)) (kg : j_gb b → w_R (d + 7) 19 6 [(0, .ref 1000), (1, .long w), (3, .int (nI (c + zb))), (4, .int 48)] [] S Q) : w_R (d + 7) 19 6 [(0, .ref 1000), (1, .long w), (3, .int (nI c)), (4, .int 56)] [] S Q := by
  refine h19l7 (d := d + 6) hW hc (by omega) (fun c1 => ?_) (fun c1 c2 => ?_) (fun c1 c2 c3 => ?_) (fun c1 c2 c3 => ?_)
  · rw [hB] at c1
    have z := (j_b0 hb).mp c1
    rw [hz, if_pos z] at kg
    exact kg (Or.inl z)
  · rw [hB] at c1 c2
    have z := (j_b32 hb).mp c2
    have z0 : ¬ b = 0 := fun y => c1 ((j_b0 hb).mpr y)
    exact kb (fun g => by rcases g with g | g <;> omega)
  · rw [hB] at c1 c2 c3
    have z := (j_b126 hb).mp c3
    have z0 : ¬ b = 0 := fun y => c1 ((j_b0 hb).mpr y)
    have z1 : ¬ b < 32 := fun y => c2 ((j_b32 hb).mpr y)
    rw [hz, if_neg z0] at kg
    exact kg (Or.inr ⟨by omega, z⟩)
  · rw [hB] at c1 c2 c3
    have z : ¬ b ≤ 126 := fun y => c3 ((j_b126 hb).mpr y)
    have z0 : ¬ b = 0 := fun y => c1 ((j_b0 hb).mpr y)
    exact kb (fun g => by rcases g with g | g <;> omega)
theorem j_144l7 (hW : w_W (q_S0 L xs) S) (hc : c < 20) (hB : (((w_lsr w (56 : Int32)).toInt32) &&& (255 : Int32)) = nI b) (hb : b < 256) (hz : zb = if b = 0 then 0 else 1) (kb : ¬ j_gb b → Q (.returned (some (.int 0))) (q_sI S 1097 0 (1 : Int32))) (kg : j_gb b → w_R (d + 1) 144 10 [(0, .ref 1097), (1, .long w), (3, .int (nI (c + zb))), (4, .int 8)] [] S Q) : w_R (d + 1) 144 10 [(0, .ref 1097), (1, .long w), (3, .int (nI c)), (4, .int 7)] [] S Q := by
  refine m144l7 hW hc (fun c1 => ?_) (fun c1 c2 => ?_) (fun c1 c2 c3 => ?_) (fun c1 c2 c3 => ?_)
  · rw [hB] at c1
    have z := (j_b0 hb).mp c1
    rw [hz, if_pos z] at kg
    exact kg (Or.inl z)
  · rw [hB] at c1 c2
    have z := (j_b32 hb).mp c2
    have z0 : ¬ b = 0 := fun y => c1 ((j_b0 hb).mpr y)
    exact kb (fun g => by rcases g with g | g <;> omega)
  · rw [hB] at c1 c2 c3
    have z := (j_b126' hb).mp c3
    have z0 : ¬ b = 0 := fun y => c1 ((j_b0 hb).mpr y)
    exact kb (fun g => by rcases g with g | g <;> omega)
  · rw [hB] at c1 c2 c3
    have z : ¬ 126 < b := fun y => c3 ((j_b126' hb).mpr y)
    have z0 : ¬ b = 0 := fun y => c1 ((j_b0 hb).mpr y)
    have z1 : ¬ b < 32 := fun y => c2 ((j_b32 hb).mpr y)
    rw [hz, if_neg z0] at kg
    exact kg (Or.inr ⟨by omega, by omega⟩)
/-- the text so far, in the class -/
def j_R2 (L : Nat) (xs : Nat → Int32) (S S' : q_S) (st : Nat × (Nat → Nat)) : Prop := w_W (q_S0 L xs) S' ∧ u_f 0 (j_X 1000 1001 2000 2000) S S' ∧ q_iv S' 1000 1 = nI st.1 ∧ (∀ j, j < st.1 → q_iv S' 1001 j = nI (st.2 j)) ∧ q_iv S' 1000 2 = q_iv S 1000 2 ∧ q_rv S' 1000 = q_rv S 1000 ∧ q_iv S' 1097 = q_iv S 1097
def j_R3 (L : Nat) (xs : Nat → Int32) (S S' : q_S) (st : Nat × (Nat → Nat)) : Prop := w_W (q_S0 L xs) S' ∧ u_f 0 (j_X 0 0 1098 1098) S S' ∧ q_iv S' 1097 3 = nI st.1 ∧ (∀ j, j < st.1 → q_iv S' 1098 j = nI (st.2 j)) ∧ (∀ k, k ≠ 3 → q_iv S' 1097 k = q_iv S 1097 k) ∧ q_jv S' 1139 = q_jv S 1139
theorem j_R2_s (h : j_R2 L xs S S' st) (hb : ¬ b = 0) : j_R2 L xs S (q_sI (q_sI S' 1001 st.1 (nI b)) 1000 1 (nI (st.1 + 1))) (j_sp st b) := by
  obtain ⟨h1, h2, h3, h4, h5, h6, h7⟩ := h
  have e : j_sp st b = (st.1 + 1, fun j => if j = st.1 then b else st.2 j) := if_neg hb
  rw [e]
  refine ⟨(h1.sI (by decide)).sI (by decide), (h2.sI (by decide)).sI (by decide), v_hI, fun j hj => ?_, (v_kI (by decide)).trans ((v_aI (by decide)).trans h5), h6, h7⟩
  rw [v_aI (by decide)]
  show _ = nI (if j = st.1 then b else st.2 j)
  by_cases hjs : j = st.1
  · rw [if_pos hjs, hjs, v_hI]
  · rw [if_neg hjs, v_kI hjs]
    have hj' : j < st.1 + 1 := hj
    exact h4 j (by omega)
theorem j_R3_s (h : j_R3 L xs S S' st) (hb : ¬ b = 0) : j_R3 L xs S (q_sI (q_sI S' 1098 st.1 (nI b)) 1097 3 (nI (st.1 + 1))) (j_sp st b) := by
  obtain ⟨h1, h2, h3, h4, h5, h6⟩ := h
  have e : j_sp st b = (st.1 + 1, fun j => if j = st.1 then b else st.2 j) := if_neg hb
  rw [e]
  refine ⟨(h1.sI (by decide)).sI (by decide), (h2.sI (by decide)).sI (by decide), v_hI, fun j hj => ?_, fun k hk => (v_kI hk).trans ((v_aI (by decide)).trans (h5 k hk)), h6⟩
  rw [v_aI (by decide)]
  show _ = nI (if j = st.1 then b else st.2 j)
  by_cases hjs : j = st.1
  · rw [if_pos hjs, hjs, v_hI]
  · rw [if_neg hjs, v_kI hjs]
    have hj' : j < st.1 + 1 := hj
    exact h4 j (by omega)
theorem j_sp0 (hb : b = 0) : j_sp st b = st := if_pos hb
theorem j_sp1 (hz : zb = if b = 0 then 0 else 1) : (j_sp st b).1 = st.1 + zb := by
  rw [hz]
  unfold j_sp
  split
  · rfl
  · rfl
theorem j_sp_ok (hg : j_gb b) (h : ∀ j, j < st.1 → 32 ≤ st.2 j ∧ st.2 j ≤ 126) : ∀ j, j < (j_sp st b).1 → 32 ≤ (j_sp st b).2 j ∧ (j_sp st b).2 j ≤ 126 := by
  intro j hj
  by_cases hb : b = 0
  · rw [j_sp0 hb] at hj ⊢
    exact h j hj
  · have e : j_sp st b = (st.1 + 1, fun j => if j = st.1 then b else st.2 j) := if_neg hb
    rw [e] at hj ⊢
    have hj' : j < st.1 + 1 := hj
    show 32 ≤ (if j = st.1 then b else st.2 j) ∧ (if j = st.1 then b else st.2 j) ≤ 126
    by_cases hjs : j = st.1
    · rw [if_pos hjs]
      rcases hg with g | g
      · exact absurd g hb
      · exact g
    · rw [if_neg hjs]
      exact h j (by omega)
theorem j_19m0 (h : j_R2 L xs S S' st) (hB : (((w_lsr w (0 : Int32)).toInt32) &&& (255 : Int32)) = nI b) (hb : b < 256) (hl : st.1 < 101) (hr : ¬ b = 0 → st.1 < 100) (k : ∀ S2, j_R2 L xs S S2 (j_sp st b) → w_R (d + 1) 19 92 [(0, .ref 1000), (1, .long w), (4, .int (-8))] [] S2 Q) : w_R (d + 1) 19 92 [(0, .ref 1000), (1, .long w), (4, .int 0)] [] S' Q := by
  refine h19m0 h.1 hl (fun _ => h.2.2.1) (fun _ _ => ?_) (fun c1 => ?_) (fun c1 c2 => ?_) (fun c1 c2 => ?_)
  · rw [hB, j_i2c hb]
    exact v_ncN (by omega)
  · rw [hB] at c1
    refine k S' ?_
    rw [j_sp0 ((j_b0 hb).mp c1)]
    exact h
  · rw [hB] at c1
    have z0 : ¬ b = 0 := fun y => c1 ((j_b0 hb).mpr y)
    have := hr z0
    omega
  · rw [hB] at c1
    have z0 : ¬ b = 0 := fun y => c1 ((j_b0 hb).mpr y)
    rw [hB, j_i2c hb]
    exact k _ (j_R2_s h z0)
theorem j_144m0 (h : j_R3 L xs S S' st) (hB : (((w_lsr w (0 : Int32)).toInt32) &&& (255 : Int32)) = nI b) (hb : b < 256) (hr : ¬ b = 0 → st.1 < 100) (k : ∀ S2, j_R3 L xs S S2 (j_sp st b) → w_R (d + 1) 144 89 [(0, .ref 1097), (1, .long w), (4, .int (-1))] [] S2 Q) : w_R (d + 1) 144 89 [(0, .ref 1097), (1, .long w), (4, .int 0)] [] S' Q := by
  by_cases z : b = 0
  · refine m144m0 (l := 0) h.1 (by decide) (fun c1 => absurd (by rw [hB, z]; rfl) c1) (fun c1 => absurd (by rw [hB, z]; rfl) c1) (fun _ => k S' ?_)
    rw [j_sp0 z]
    exact h
  · refine m144m0 (l := st.1) h.1 (hr z) (fun _ => h.2.2.1) (fun _ => ?_) (fun c1 => ?_)
    · rw [hB]
      exact k _ (j_R3_s h z)
    · rw [hB] at c1
      exact absurd ((j_b0 hb).mp c1) z
theorem j_19m1 (h : j_R2 L xs S S' st) (hB : (((w_lsr w (8 : Int32)).toInt32) &&& (255 : Int32)) = nI b) (hb : b < 256) (hl : st.1 < 101) (hr : ¬ b = 0 → st.1 < 100) (k : ∀ S2, j_R2 L xs S S2 (j_sp st b) → w_R (d + 1) 19 92 [(0, .ref 1000), (1, .long w), (4, .int 0)] [] S2 Q) : w_R (d + 1) 19 92 [(0, .ref 1000), (1, .long w), (4, .int 8)] [] S' Q := by
  refine h19m1 h.1 hl (fun _ => h.2.2.1) (fun _ _ => ?_) (fun c1 => ?_) (fun c1 c2 => ?_) (fun c1 c2 => ?_)
  · rw [hB, j_i2c hb]
    exact v_ncN (by omega)
  · rw [hB] at c1
    refine k S' ?_
    rw [j_sp0 ((j_b0 hb).mp c1)]
    exact h
  · rw [hB] at c1
    have z0 : ¬ b = 0 := fun y => c1 ((j_b0 hb).mpr y)
    have := hr z0
    omega
  · rw [hB] at c1
    have z0 : ¬ b = 0 := fun y => c1 ((j_b0 hb).mpr y)
    rw [hB, j_i2c hb]
    exact k _ (j_R2_s h z0)
theorem j_144m1 (h : j_R3 L xs S S' st) (hB : (((w_lsr w (8 : Int32)).toInt32) &&& (255 : Int32)) = nI b) (hb : b < 256) (hr : ¬ b = 0 → st.1 < 100) (k : ∀ S2, j_R3 L xs S S2 (j_sp st b) → w_R (d + 1) 144 89 [(0, .ref 1097), (1, .long w), (4, .int 0)] [] S2 Q) : w_R (d + 1) 144 89 [(0, .ref 1097), (1, .long w), (4, .int 1)] [] S' Q := by
  by_cases z : b = 0
  · refine m144m1 (l := 0) h.1 (by decide) (fun c1 => absurd (by rw [hB, z]; rfl) c1) (fun c1 => absurd (by rw [hB, z]; rfl) c1) (fun _ => k S' ?_)
    rw [j_sp0 z]
    exact h
  · refine m144m1 (l := st.1) h.1 (hr z) (fun _ => h.2.2.1) (fun _ => ?_) (fun c1 => ?_)
    · rw [hB]
      exact k _ (j_R3_s h z)
    · rw [hB] at c1
      exact absurd ((j_b0 hb).mp c1) z
theorem j_19m2 (h : j_R2 L xs S S' st) (hB : (((w_lsr w (16 : Int32)).toInt32) &&& (255 : Int32)) = nI b) (hb : b < 256) (hl : st.1 < 101) (hr : ¬ b = 0 → st.1 < 100) (k : ∀ S2, j_R2 L xs S S2 (j_sp st b) → w_R (d + 1) 19 92 [(0, .ref 1000), (1, .long w), (4, .int 8)] [] S2 Q) : w_R (d + 1) 19 92 [(0, .ref 1000), (1, .long w), (4, .int 16)] [] S' Q := by
  refine h19m2 h.1 hl (fun _ => h.2.2.1) (fun _ _ => ?_) (fun c1 => ?_) (fun c1 c2 => ?_) (fun c1 c2 => ?_)
  · rw [hB, j_i2c hb]
    exact v_ncN (by omega)
  · rw [hB] at c1
    refine k S' ?_
    rw [j_sp0 ((j_b0 hb).mp c1)]
    exact h
  · rw [hB] at c1
    have z0 : ¬ b = 0 := fun y => c1 ((j_b0 hb).mpr y)
    have := hr z0
    omega
  · rw [hB] at c1
    have z0 : ¬ b = 0 := fun y => c1 ((j_b0 hb).mpr y)
    rw [hB, j_i2c hb]
    exact k _ (j_R2_s h z0)
theorem j_144m2 (h : j_R3 L xs S S' st) (hB : (((w_lsr w (16 : Int32)).toInt32) &&& (255 : Int32)) = nI b) (hb : b < 256) (hr : ¬ b = 0 → st.1 < 100) (k : ∀ S2, j_R3 L xs S S2 (j_sp st b) → w_R (d + 1) 144 89 [(0, .ref 1097), (1, .long w), (4, .int 1)] [] S2 Q) : w_R (d + 1) 144 89 [(0, .ref 1097), (1, .long w), (4, .int 2)] [] S' Q := by
  by_cases z : b = 0
  · refine m144m2 (l := 0) h.1 (by decide) (fun c1 => absurd (by rw [hB, z]; rfl) c1) (fun c1 => absurd (by rw [hB, z]; rfl) c1) (fun _ => k S' ?_)
    rw [j_sp0 z]
    exact h
  · refine m144m2 (l := st.1) h.1 (hr z) (fun _ => h.2.2.1) (fun _ => ?_) (fun c1 => ?_)
    · rw [hB]
      exact k _ (j_R3_s h z)
    · rw [hB] at c1
      exact absurd ((j_b0 hb).mp c1) z
theorem j_19m3 (h : j_R2 L xs S S' st) (hB : (((w_lsr w (24 : Int32)).toInt32) &&& (255 : Int32)) = nI b) (hb : b < 256) (hl : st.1 < 101) (hr : ¬ b = 0 → st.1 < 100) (k : ∀ S2, j_R2 L xs S S2 (j_sp st b) → w_R (d + 1) 19 92 [(0, .ref 1000), (1, .long w), (4, .int 16)] [] S2 Q) : w_R (d + 1) 19 92 [(0, .ref 1000), (1, .long w), (4, .int 24)] [] S' Q := by
  refine h19m3 h.1 hl (fun _ => h.2.2.1) (fun _ _ => ?_) (fun c1 => ?_) (fun c1 c2 => ?_) (fun c1 c2 => ?_)
  · rw [hB, j_i2c hb]
    exact v_ncN (by omega)
  · rw [hB] at c1
    refine k S' ?_
    rw [j_sp0 ((j_b0 hb).mp c1)]
    exact h
  · rw [hB] at c1
    have z0 : ¬ b = 0 := fun y => c1 ((j_b0 hb).mpr y)
    have := hr z0
    omega
  · rw [hB] at c1
    have z0 : ¬ b = 0 := fun y => c1 ((j_b0 hb).mpr y)
    rw [hB, j_i2c hb]
    exact k _ (j_R2_s h z0)
theorem j_144m3 (h : j_R3 L xs S S' st) (hB : (((w_lsr w (24 : Int32)).toInt32) &&& (255 : Int32)) = nI b) (hb : b < 256) (hr : ¬ b = 0 → st.1 < 100) (k : ∀ S2, j_R3 L xs S S2 (j_sp st b) → w_R (d + 1) 144 89 [(0, .ref 1097), (1, .long w), (4, .int 2)] [] S2 Q) : w_R (d + 1) 144 89 [(0, .ref 1097), (1, .long w), (4, .int 3)] [] S' Q := by
  by_cases z : b = 0
  · refine m144m3 (l := 0) h.1 (by decide) (fun c1 => absurd (by rw [hB, z]; rfl) c1) (fun c1 => absurd (by rw [hB, z]; rfl) c1) (fun _ => k S' ?_)
    rw [j_sp0 z]
    exact h
  · refine m144m3 (l := st.1) h.1 (hr z) (fun _ => h.2.2.1) (fun _ => ?_) (fun c1 => ?_)
    · rw [hB]
      exact k _ (j_R3_s h z)
    · rw [hB] at c1
      exact absurd ((j_b0 hb).mp c1) z
theorem j_19m4 (h : j_R2 L xs S S' st) (hB : (((w_lsr w (32 : Int32)).toInt32) &&& (255 : Int32)) = nI b) (hb : b < 256) (hl : st.1 < 101) (hr : ¬ b = 0 → st.1 < 100) (k : ∀ S2, j_R2 L xs S S2 (j_sp st b) → w_R (d + 1) 19 92 [(0, .ref 1000), (1, .long w), (4, .int 24)] [] S2 Q) : w_R (d + 1) 19 92 [(0, .ref 1000), (1, .long w), (4, .int 32)] [] S' Q := by
  refine h19m4 h.1 hl (fun _ => h.2.2.1) (fun _ _ => ?_) (fun c1 => ?_) (fun c1 c2 => ?_) (fun c1 c2 => ?_)
  · rw [hB, j_i2c hb]
    exact v_ncN (by omega)
  · rw [hB] at c1
    refine k S' ?_
    rw [j_sp0 ((j_b0 hb).mp c1)]
    exact h
  · rw [hB] at c1
    have z0 : ¬ b = 0 := fun y => c1 ((j_b0 hb).mpr y)
    have := hr z0
    omega
  · rw [hB] at c1
    have z0 : ¬ b = 0 := fun y => c1 ((j_b0 hb).mpr y)
    rw [hB, j_i2c hb]
    exact k _ (j_R2_s h z0)
theorem j_144m4 (h : j_R3 L xs S S' st) (hB : (((w_lsr w (32 : Int32)).toInt32) &&& (255 : Int32)) = nI b) (hb : b < 256) (hr : ¬ b = 0 → st.1 < 100) (k : ∀ S2, j_R3 L xs S S2 (j_sp st b) → w_R (d + 1) 144 89 [(0, .ref 1097), (1, .long w), (4, .int 3)] [] S2 Q) : w_R (d + 1) 144 89 [(0, .ref 1097), (1, .long w), (4, .int 4)] [] S' Q := by
  by_cases z : b = 0
  · refine m144m4 (l := 0) h.1 (by decide) (fun c1 => absurd (by rw [hB, z]; rfl) c1) (fun c1 => absurd (by rw [hB, z]; rfl) c1) (fun _ => k S' ?_)
    rw [j_sp0 z]
    exact h
  · refine m144m4 (l := st.1) h.1 (hr z) (fun _ => h.2.2.1) (fun _ => ?_) (fun c1 => ?_)
    · rw [hB]
      exact k _ (j_R3_s h z)
    · rw [hB] at c1
      exact absurd ((j_b0 hb).mp c1) z
theorem j_19m5 (h : j_R2 L xs S S' st) (hB : (((w_lsr w (40 : Int32)).toInt32) &&& (255 : Int32)) = nI b) (hb : b < 256) (hl : st.1 < 101) (hr : ¬ b = 0 → st.1 < 100) (k : ∀ S2, j_R2 L xs S S2 (j_sp st b) → w_R (d + 1) 19 92 [(0, .ref 1000), (1, .long w), (4, .int 32)] [] S2 Q) : w_R (d + 1) 19 92 [(0, .ref 1000), (1, .long w), (4, .int 40)] [] S' Q := by
  refine h19m5 h.1 hl (fun _ => h.2.2.1) (fun _ _ => ?_) (fun c1 => ?_) (fun c1 c2 => ?_) (fun c1 c2 => ?_)
  · rw [hB, j_i2c hb]
    exact v_ncN (by omega)
  · rw [hB] at c1
    refine k S' ?_
    rw [j_sp0 ((j_b0 hb).mp c1)]
    exact h
  · rw [hB] at c1
    have z0 : ¬ b = 0 := fun y => c1 ((j_b0 hb).mpr y)
    have := hr z0
    omega
  · rw [hB] at c1
    have z0 : ¬ b = 0 := fun y => c1 ((j_b0 hb).mpr y)
    rw [hB, j_i2c hb]
    exact k _ (j_R2_s h z0)
theorem j_144m5 (h : j_R3 L xs S S' st) (hB : (((w_lsr w (40 : Int32)).toInt32) &&& (255 : Int32)) = nI b) (hb : b < 256) (hr : ¬ b = 0 → st.1 < 100) (k : ∀ S2, j_R3 L xs S S2 (j_sp st b) → w_R (d + 1) 144 89 [(0, .ref 1097), (1, .long w), (4, .int 4)] [] S2 Q) : w_R (d + 1) 144 89 [(0, .ref 1097), (1, .long w), (4, .int 5)] [] S' Q := by
  by_cases z : b = 0
  · refine m144m5 (l := 0) h.1 (by decide) (fun c1 => absurd (by rw [hB, z]; rfl) c1) (fun c1 => absurd (by rw [hB, z]; rfl) c1) (fun _ => k S' ?_)
    rw [j_sp0 z]
    exact h
  · refine m144m5 (l := st.1) h.1 (hr z) (fun _ => h.2.2.1) (fun _ => ?_) (fun c1 => ?_)
    · rw [hB]
      exact k _ (j_R3_s h z)
    · rw [hB] at c1
      exact absurd ((j_b0 hb).mp c1) z
theorem j_19m6 (h : j_R2 L xs S S' st) (hB : (((w_lsr w (48 : Int32)).toInt32) &&& (255 : Int32)) = nI b) (hb : b < 256) (hl : st.1 < 101) (hr : ¬ b = 0 → st.1 < 100) (k : ∀ S2, j_R2 L xs S S2 (j_sp st b) → w_R (d + 1) 19 92 [(0, .ref 1000), (1, .long w), (4, .int 40)] [] S2 Q) : w_R (d + 1) 19 92 [(0, .ref 1000), (1, .long w), (4, .int 48)] [] S' Q := by
  refine h19m6 h.1 hl (fun _ => h.2.2.1) (fun _ _ => ?_) (fun c1 => ?_) (fun c1 c2 => ?_) (fun c1 c2 => ?_)
  · rw [hB, j_i2c hb]
    exact v_ncN (by omega)
  · rw [hB] at c1
    refine k S' ?_
    rw [j_sp0 ((j_b0 hb).mp c1)]
    exact h
  · rw [hB] at c1
    have z0 : ¬ b = 0 := fun y => c1 ((j_b0 hb).mpr y)
    have := hr z0
    omega
  · rw [hB] at c1
    have z0 : ¬ b = 0 := fun y => c1 ((j_b0 hb).mpr y)
    rw [hB, j_i2c hb]
    exact k _ (j_R2_s h z0)
theorem j_144m6 (h : j_R3 L xs S S' st) (hB : (((w_lsr w (48 : Int32)).toInt32) &&& (255 : Int32)) = nI b) (hb : b < 256) (hr : ¬ b = 0 → st.1 < 100) (k : ∀ S2, j_R3 L xs S S2 (j_sp st b) → w_R (d + 1) 144 89 [(0, .ref 1097), (1, .long w), (4, .int 5)] [] S2 Q) : w_R (d + 1) 144 89 [(0, .ref 1097), (1, .long w), (4, .int 6)] [] S' Q := by
  by_cases z : b = 0
  · refine m144m6 (l := 0) h.1 (by decide) (fun c1 => absurd (by rw [hB, z]; rfl) c1) (fun c1 => absurd (by rw [hB, z]; rfl) c1) (fun _ => k S' ?_)
    rw [j_sp0 z]
    exact h
  · refine m144m6 (l := st.1) h.1 (hr z) (fun _ => h.2.2.1) (fun _ => ?_) (fun c1 => ?_)
    · rw [hB]
      exact k _ (j_R3_s h z)
    · rw [hB] at c1
      exact absurd ((j_b0 hb).mp c1) z
theorem j_19m7 (h : j_R2 L xs S S' st) (hB : (((w_lsr w (56 : Int32)).toInt32) &&& (255 : Int32)) = nI b) (hb : b < 256) (hl : st.1 < 101) (hr : ¬ b = 0 → st.1 < 100) (k : ∀ S2, j_R2 L xs S S2 (j_sp st b) → w_R (d + 1) 19 92 [(0, .ref 1000), (1, .long w), (4, .int 48)] [] S2 Q) : w_R (d + 1) 19 92 [(0, .ref 1000), (1, .long w), (4, .int 56)] [] S' Q := by
  refine h19m7 h.1 hl (fun _ => h.2.2.1) (fun _ _ => ?_) (fun c1 => ?_) (fun c1 c2 => ?_) (fun c1 c2 => ?_)
  · rw [hB, j_i2c hb]
    exact v_ncN (by omega)
  · rw [hB] at c1
    refine k S' ?_
    rw [j_sp0 ((j_b0 hb).mp c1)]
    exact h
  · rw [hB] at c1
    have z0 : ¬ b = 0 := fun y => c1 ((j_b0 hb).mpr y)
    have := hr z0
    omega
  · rw [hB] at c1
    have z0 : ¬ b = 0 := fun y => c1 ((j_b0 hb).mpr y)
    rw [hB, j_i2c hb]
    exact k _ (j_R2_s h z0)
theorem j_144m7 (h : j_R3 L xs S S' st) (hB : (((w_lsr w (56 : Int32)).toInt32) &&& (255 : Int32)) = nI b) (hb : b < 256) (hr : ¬ b = 0 → st.1 < 100) (k : ∀ S2, j_R3 L xs S S2 (j_sp st b) → w_R (d + 1) 144 89 [(0, .ref 1097), (1, .long w), (4, .int 6)] [] S2 Q) : w_R (d + 1) 144 89 [(0, .ref 1097), (1, .long w), (4, .int 7)] [] S' Q := by
  by_cases z : b = 0
  · refine m144m7 (l := 0) h.1 (by decide) (fun c1 => absurd (by rw [hB, z]; rfl) c1) (fun c1 => absurd (by rw [hB, z]; rfl) c1) (fun _ => k S' ?_)
    rw [j_sp0 z]
    exact h
  · refine m144m7 (l := st.1) h.1 (hr z) (fun _ => h.2.2.1) (fun _ => ?_) (fun c1 => ?_)
    · rw [hB]
      exact k _ (j_R3_s h z)
    · rw [hB] at c1
      exact absurd ((j_b0 hb).mp c1) z
theorem j_Xm {a lo hi lo' hi' lo2 hi2 lo2' hi2' : Nat} (hA : ∀ a, j_u a = true → lo2 ≤ a ∧ a ≤ hi2 → lo ≤ a ∧ a ≤ hi) (hB : ∀ a, j_u a = true → lo2' ≤ a ∧ a ≤ hi2' → lo' ≤ a ∧ a ≤ hi') (h : j_X lo hi lo' hi' a = false) : j_X lo2 hi2 lo2' hi2' a = false := by
  unfold j_X at h ⊢
  simp only [Bool.or_eq_false_iff, decide_eq_false_iff_not] at h ⊢
  have hu : j_u a = true := by
    cases hz : j_u a with
    | true => rfl
    | false =>
      rw [hz] at h
      exact absurd h.2.2 (by decide)
  exact ⟨fun z => h.1 (hA a hu z), fun z => h.2.1 (hB a hu z), h.2.2⟩
theorem j_no0 {a : Nat} (h : j_u a = true) : 1000 ≤ a ∧ a ≤ 1125 := by
  have := of_decide_eq_true h
  omega
theorem j_19c (hW : w_W (q_S0 L xs) S) (nb z : Nat → Nat) (hn0 : (((w_lsr w (0 : Int32)).toInt32) &&& (255 : Int32)) = nI (nb 0) ∧ (((w_lsr w (8 : Int32)).toInt32) &&& (255 : Int32)) = nI (nb 1) ∧ (((w_lsr w (16 : Int32)).toInt32) &&& (255 : Int32)) = nI (nb 2) ∧ (((w_lsr w (24 : Int32)).toInt32) &&& (255 : Int32)) = nI (nb 3) ∧ (((w_lsr w (32 : Int32)).toInt32) &&& (255 : Int32)) = nI (nb 4) ∧ (((w_lsr w (40 : Int32)).toInt32) &&& (255 : Int32)) = nI (nb 5) ∧ (((w_lsr w (48 : Int32)).toInt32) &&& (255 : Int32)) = nI (nb 6) ∧ (((w_lsr w (56 : Int32)).toInt32) &&& (255 : Int32)) = nI (nb 7)) (hn : ∀ i, nb i < 256) (hz : ∀ i, z i = if nb i = 0 then 0 else 1) (kb : (∃ i, i < 8 ∧ ¬ j_gb (nb i)) → Q (.threw (q_tp S)) (q_new S (10, 6) 6)) (kg : (∀ i, i < 8 → j_gb (nb i)) → w_R (d + 7) 19 6 [(0, .ref 1000), (1, .long w), (3, .int (nI (0 + z 7 + z 6 + z 5 + z 4 + z 3 + z 2 + z 1 + z 0))), (4, .int (-8))] [] S Q) : w_R (d + 7) 19 6 [(0, .ref 1000), (1, .long w), (3, .int (nI 0)), (4, .int 56)] [] S Q := by
  have zl : ∀ i, z i ≤ 1 := fun i => by
    rw [hz i]
    split <;> omega
  have zl0 := zl 0
  have zl1 := zl 1
  have zl2 := zl 2
  have zl3 := zl 3
  have zl4 := zl 4
  have zl5 := zl 5
  have zl6 := zl 6
  have zl7 := zl 7
  exact (j_19l7 (c := 0) hW (by omega) hn0.2.2.2.2.2.2.2 (hn 7) (hz 7) (fun h => kb ⟨7, by decide, h⟩) (fun g7 => (j_19l6 (c := 0 + z 7) hW (by omega) hn0.2.2.2.2.2.2.1 (hn 6) (hz 6) (fun h => kb ⟨6, by decide, h⟩) (fun g6 => (j_19l5 (c := 0 + z 7 + z 6) hW (by omega) hn0.2.2.2.2.2.1 (hn 5) (hz 5) (fun h => kb ⟨5, by decide, h⟩) (fun g5 => (j_19l4 (c := 0 + z 7 + z 6 + z 5) hW (by omega) hn0.2.2.2.2.1 (hn 4) (hz 4) (fun h => kb ⟨4, by decide, h⟩) (fun g4 => (j_19l3 (c := 0 + z 7 + z 6 + z 5 + z 4) hW (by omega) hn0.2.2.2.1 (hn 3) (hz 3) (fun h => kb ⟨3, by decide, h⟩) (fun g3 => (j_19l2 (c := 0 + z 7 + z 6 + z 5 + z 4 + z 3) hW (by omega) hn0.2.2.1 (hn 2) (hz 2) (fun h => kb ⟨2, by decide, h⟩) (fun g2 => (j_19l1 (c := 0 + z 7 + z 6 + z 5 + z 4 + z 3 + z 2) hW (by omega) hn0.2.1 (hn 1) (hz 1) (fun h => kb ⟨1, by decide, h⟩) (fun g1 => (j_19l0 (c := 0 + z 7 + z 6 + z 5 + z 4 + z 3 + z 2 + z 1) hW (by omega) hn0.1 (hn 0) (hz 0) (fun h => kb ⟨0, by decide, h⟩) (fun g0 => (kg (fun i hi => by
    obtain rfl | rfl | rfl | rfl | rfl | rfl | rfl | rfl : i = 0 ∨ i = 1 ∨ i = 2 ∨ i = 3 ∨ i = 4 ∨ i = 5 ∨ i = 6 ∨ i = 7 := by omega
    all_goals assumption))))))))))))))))))
theorem j_144c (hW : w_W (q_S0 L xs) S) (nb z : Nat → Nat) (hn0 : (((w_lsr w (0 : Int32)).toInt32) &&& (255 : Int32)) = nI (nb 0) ∧ (((w_lsr w (8 : Int32)).toInt32) &&& (255 : Int32)) = nI (nb 1) ∧ (((w_lsr w (16 : Int32)).toInt32) &&& (255 : Int32)) = nI (nb 2) ∧ (((w_lsr w (24 : Int32)).toInt32) &&& (255 : Int32)) = nI (nb 3) ∧ (((w_lsr w (32 : Int32)).toInt32) &&& (255 : Int32)) = nI (nb 4) ∧ (((w_lsr w (40 : Int32)).toInt32) &&& (255 : Int32)) = nI (nb 5) ∧ (((w_lsr w (48 : Int32)).toInt32) &&& (255 : Int32)) = nI (nb 6) ∧ (((w_lsr w (56 : Int32)).toInt32) &&& (255 : Int32)) = nI (nb 7)) (hn : ∀ i, nb i < 256) (hz : ∀ i, z i = if nb i = 0 then 0 else 1) (kb : (∃ i, i < 8 ∧ ¬ j_gb (nb i)) → Q (.returned (some (.int 0))) (q_sI S 1097 0 (1 : Int32))) (kg : (∀ i, i < 8 → j_gb (nb i)) → w_R (d + 1) 144 10 [(0, .ref 1097), (1, .long w), (3, .int (nI (0 + z 0 + z 1 + z 2 + z 3 + z 4 + z 5 + z 6 + z 7))), (4, .int 8)] [] S Q) : w_R (d + 1) 144 10 [(0, .ref 1097), (1, .long w), (3, .int (nI 0)), (4, .int 0)] [] S Q := by
  have zl : ∀ i, z i ≤ 1 := fun i => by
    rw [hz i]
    split <;> omega
  have zl0 := zl 0
  have zl1 := zl 1
  have zl2 := zl 2
  have zl3 := zl 3
  have zl4 := zl 4
  have zl5 := zl 5
  have zl6 := zl 6
  have zl7 := zl 7
  exact (j_144l0 (c := 0) hW (by omega) hn0.1 (hn 0) (hz 0) (fun h => kb ⟨0, by decide, h⟩) (fun g0 => (j_144l1 (c := 0 + z 0) hW (by omega) hn0.2.1 (hn 1) (hz 1) (fun h => kb ⟨1, by decide, h⟩) (fun g1 => (j_144l2 (c := 0 + z 0 + z 1) hW (by omega) hn0.2.2.1 (hn 2) (hz 2) (fun h => kb ⟨2, by decide, h⟩) (fun g2 => (j_144l3 (c := 0 + z 0 + z 1 + z 2) hW (by omega) hn0.2.2.2.1 (hn 3) (hz 3) (fun h => kb ⟨3, by decide, h⟩) (fun g3 => (j_144l4 (c := 0 + z 0 + z 1 + z 2 + z 3) hW (by omega) hn0.2.2.2.2.1 (hn 4) (hz 4) (fun h => kb ⟨4, by decide, h⟩) (fun g4 => (j_144l5 (c := 0 + z 0 + z 1 + z 2 + z 3 + z 4) hW (by omega) hn0.2.2.2.2.2.1 (hn 5) (hz 5) (fun h => kb ⟨5, by decide, h⟩) (fun g5 => (j_144l6 (c := 0 + z 0 + z 1 + z 2 + z 3 + z 4 + z 5) hW (by omega) hn0.2.2.2.2.2.2.1 (hn 6) (hz 6) (fun h => kb ⟨6, by decide, h⟩) (fun g6 => (j_144l7 (c := 0 + z 0 + z 1 + z 2 + z 3 + z 4 + z 5 + z 6) hW (by omega) hn0.2.2.2.2.2.2.2 (hn 7) (hz 7) (fun h => kb ⟨7, by decide, h⟩) (fun g7 => (kg (fun i hi => by
    obtain rfl | rfl | rfl | rfl | rfl | rfl | rfl | rfl : i = 0 ∨ i = 1 ∨ i = 2 ∨ i = 3 ∨ i = 4 ∨ i = 5 ∨ i = 6 ∨ i = 7 := by omega
    all_goals assumption))))))))))))))))))
theorem j_19d (h : j_R2 L xs S S' st) (nb z : Nat → Nat) (hn0 : (((w_lsr w (0 : Int32)).toInt32) &&& (255 : Int32)) = nI (nb 0) ∧ (((w_lsr w (8 : Int32)).toInt32) &&& (255 : Int32)) = nI (nb 1) ∧ (((w_lsr w (16 : Int32)).toInt32) &&& (255 : Int32)) = nI (nb 2) ∧ (((w_lsr w (24 : Int32)).toInt32) &&& (255 : Int32)) = nI (nb 3) ∧ (((w_lsr w (32 : Int32)).toInt32) &&& (255 : Int32)) = nI (nb 4) ∧ (((w_lsr w (40 : Int32)).toInt32) &&& (255 : Int32)) = nI (nb 5) ∧ (((w_lsr w (48 : Int32)).toInt32) &&& (255 : Int32)) = nI (nb 6) ∧ (((w_lsr w (56 : Int32)).toInt32) &&& (255 : Int32)) = nI (nb 7)) (hn : ∀ i, nb i < 256) (hz : ∀ i, z i = if nb i = 0 then 0 else 1) (hs : st.1 + z 7 + z 6 + z 5 + z 4 + z 3 + z 2 + z 1 + z 0 ≤ 100) (kg : ∀ S2, j_R2 L xs S S2 (j_sp (j_sp (j_sp (j_sp (j_sp (j_sp (j_sp (j_sp st (nb 7)) (nb 6)) (nb 5)) (nb 4)) (nb 3)) (nb 2)) (nb 1)) (nb 0)) → w_R (d + 1) 19 92 [(0, .ref 1000), (1, .long w), (4, .int (-8))] [] S2 Q) : w_R (d + 1) 19 92 [(0, .ref 1000), (1, .long w), (4, .int 56)] [] S' Q := by
  have zl : ∀ i, z i ≤ 1 := fun i => by
    rw [hz i]
    split <;> omega
  have zl0 := zl 0
  have zl1 := zl 1
  have zl2 := zl 2
  have zl3 := zl 3
  have zl4 := zl 4
  have zl5 := zl 5
  have zl6 := zl 6
  have zl7 := zl 7
  have zn0 : ¬ nb 0 = 0 → z 0 = 1 := fun h => by rw [hz 0, if_neg h]
  have zn1 : ¬ nb 1 = 0 → z 1 = 1 := fun h => by rw [hz 1, if_neg h]
  have zn2 : ¬ nb 2 = 0 → z 2 = 1 := fun h => by rw [hz 2, if_neg h]
  have zn3 : ¬ nb 3 = 0 → z 3 = 1 := fun h => by rw [hz 3, if_neg h]
  have zn4 : ¬ nb 4 = 0 → z 4 = 1 := fun h => by rw [hz 4, if_neg h]
  have zn5 : ¬ nb 5 = 0 → z 5 = 1 := fun h => by rw [hz 5, if_neg h]
  have zn6 : ¬ nb 6 = 0 → z 6 = 1 := fun h => by rw [hz 6, if_neg h]
  have zn7 : ¬ nb 7 = 0 → z 7 = 1 := fun h => by rw [hz 7, if_neg h]
  have e1 : (j_sp st (nb 7)).1 = st.1 + z 7 := by
    rw [j_sp1 (hz 7)]
  have e2 : (j_sp (j_sp st (nb 7)) (nb 6)).1 = st.1 + z 7 + z 6 := by
    rw [j_sp1 (hz 6), e1]
  have e3 : (j_sp (j_sp (j_sp st (nb 7)) (nb 6)) (nb 5)).1 = st.1 + z 7 + z 6 + z 5 := by
    rw [j_sp1 (hz 5), e2]
  have e4 : (j_sp (j_sp (j_sp (j_sp st (nb 7)) (nb 6)) (nb 5)) (nb 4)).1 = st.1 + z 7 + z 6 + z 5 + z 4 := by
    rw [j_sp1 (hz 4), e3]
  have e5 : (j_sp (j_sp (j_sp (j_sp (j_sp st (nb 7)) (nb 6)) (nb 5)) (nb 4)) (nb 3)).1 = st.1 + z 7 + z 6 + z 5 + z 4 + z 3 := by
    rw [j_sp1 (hz 3), e4]
  have e6 : (j_sp (j_sp (j_sp (j_sp (j_sp (j_sp st (nb 7)) (nb 6)) (nb 5)) (nb 4)) (nb 3)) (nb 2)).1 = st.1 + z 7 + z 6 + z 5 + z 4 + z 3 + z 2 := by
    rw [j_sp1 (hz 2), e5]
  have e7 : (j_sp (j_sp (j_sp (j_sp (j_sp (j_sp (j_sp st (nb 7)) (nb 6)) (nb 5)) (nb 4)) (nb 3)) (nb 2)) (nb 1)).1 = st.1 + z 7 + z 6 + z 5 + z 4 + z 3 + z 2 + z 1 := by
    rw [j_sp1 (hz 1), e6]
  have e8 : (j_sp (j_sp (j_sp (j_sp (j_sp (j_sp (j_sp (j_sp st (nb 7)) (nb 6)) (nb 5)) (nb 4)) (nb 3)) (nb 2)) (nb 1)) (nb 0)).1 = st.1 + z 7 + z 6 + z 5 + z 4 + z 3 + z 2 + z 1 + z 0 := by
    rw [j_sp1 (hz 0), e7]
  exact (j_19m7 h hn0.2.2.2.2.2.2.2 (hn 7) (by omega) (fun y => by have := zn7 y; omega) (fun S1 h1 => (j_19m6 h1 hn0.2.2.2.2.2.2.1 (hn 6) (by omega) (fun y => by have := zn6 y; omega) (fun S2 h2 => (j_19m5 h2 hn0.2.2.2.2.2.1 (hn 5) (by omega) (fun y => by have := zn5 y; omega) (fun S3 h3 => (j_19m4 h3 hn0.2.2.2.2.1 (hn 4) (by omega) (fun y => by have := zn4 y; omega) (fun S4 h4 => (j_19m3 h4 hn0.2.2.2.1 (hn 3) (by omega) (fun y => by have := zn3 y; omega) (fun S5 h5 => (j_19m2 h5 hn0.2.2.1 (hn 2) (by omega) (fun y => by have := zn2 y; omega) (fun S6 h6 => (j_19m1 h6 hn0.2.1 (hn 1) (by omega) (fun y => by have := zn1 y; omega) (fun S7 h7 => (j_19m0 h7 hn0.1 (hn 0) (by omega) (fun y => by have := zn0 y; omega) (fun S8 h8 => (kg _ h8)))))))))))))))))
theorem j_144d (h : j_R3 L xs S S' st) (nb z : Nat → Nat) (hn0 : (((w_lsr w (0 : Int32)).toInt32) &&& (255 : Int32)) = nI (nb 0) ∧ (((w_lsr w (8 : Int32)).toInt32) &&& (255 : Int32)) = nI (nb 1) ∧ (((w_lsr w (16 : Int32)).toInt32) &&& (255 : Int32)) = nI (nb 2) ∧ (((w_lsr w (24 : Int32)).toInt32) &&& (255 : Int32)) = nI (nb 3) ∧ (((w_lsr w (32 : Int32)).toInt32) &&& (255 : Int32)) = nI (nb 4) ∧ (((w_lsr w (40 : Int32)).toInt32) &&& (255 : Int32)) = nI (nb 5) ∧ (((w_lsr w (48 : Int32)).toInt32) &&& (255 : Int32)) = nI (nb 6) ∧ (((w_lsr w (56 : Int32)).toInt32) &&& (255 : Int32)) = nI (nb 7)) (hn : ∀ i, nb i < 256) (hz : ∀ i, z i = if nb i = 0 then 0 else 1) (hs : st.1 + z 7 + z 6 + z 5 + z 4 + z 3 + z 2 + z 1 + z 0 ≤ 100) (kg : ∀ S2, j_R3 L xs S S2 (j_sp (j_sp (j_sp (j_sp (j_sp (j_sp (j_sp (j_sp st (nb 7)) (nb 6)) (nb 5)) (nb 4)) (nb 3)) (nb 2)) (nb 1)) (nb 0)) → w_R (d + 1) 144 89 [(0, .ref 1097), (1, .long w), (4, .int (-1))] [] S2 Q) : w_R (d + 1) 144 89 [(0, .ref 1097), (1, .long w), (4, .int 7)] [] S' Q := by
  have zl : ∀ i, z i ≤ 1 := fun i => by
    rw [hz i]
    split <;> omega
  have zl0 := zl 0
  have zl1 := zl 1
  have zl2 := zl 2
  have zl3 := zl 3
  have zl4 := zl 4
  have zl5 := zl 5
  have zl6 := zl 6
  have zl7 := zl 7
  have zn0 : ¬ nb 0 = 0 → z 0 = 1 := fun h => by rw [hz 0, if_neg h]
  have zn1 : ¬ nb 1 = 0 → z 1 = 1 := fun h => by rw [hz 1, if_neg h]
  have zn2 : ¬ nb 2 = 0 → z 2 = 1 := fun h => by rw [hz 2, if_neg h]
  have zn3 : ¬ nb 3 = 0 → z 3 = 1 := fun h => by rw [hz 3, if_neg h]
  have zn4 : ¬ nb 4 = 0 → z 4 = 1 := fun h => by rw [hz 4, if_neg h]
  have zn5 : ¬ nb 5 = 0 → z 5 = 1 := fun h => by rw [hz 5, if_neg h]
  have zn6 : ¬ nb 6 = 0 → z 6 = 1 := fun h => by rw [hz 6, if_neg h]
  have zn7 : ¬ nb 7 = 0 → z 7 = 1 := fun h => by rw [hz 7, if_neg h]
  have e1 : (j_sp st (nb 7)).1 = st.1 + z 7 := by
    rw [j_sp1 (hz 7)]
  have e2 : (j_sp (j_sp st (nb 7)) (nb 6)).1 = st.1 + z 7 + z 6 := by
    rw [j_sp1 (hz 6), e1]
  have e3 : (j_sp (j_sp (j_sp st (nb 7)) (nb 6)) (nb 5)).1 = st.1 + z 7 + z 6 + z 5 := by
    rw [j_sp1 (hz 5), e2]
  have e4 : (j_sp (j_sp (j_sp (j_sp st (nb 7)) (nb 6)) (nb 5)) (nb 4)).1 = st.1 + z 7 + z 6 + z 5 + z 4 := by
    rw [j_sp1 (hz 4), e3]
  have e5 : (j_sp (j_sp (j_sp (j_sp (j_sp st (nb 7)) (nb 6)) (nb 5)) (nb 4)) (nb 3)).1 = st.1 + z 7 + z 6 + z 5 + z 4 + z 3 := by
    rw [j_sp1 (hz 3), e4]
  have e6 : (j_sp (j_sp (j_sp (j_sp (j_sp (j_sp st (nb 7)) (nb 6)) (nb 5)) (nb 4)) (nb 3)) (nb 2)).1 = st.1 + z 7 + z 6 + z 5 + z 4 + z 3 + z 2 := by
    rw [j_sp1 (hz 2), e5]
  have e7 : (j_sp (j_sp (j_sp (j_sp (j_sp (j_sp (j_sp st (nb 7)) (nb 6)) (nb 5)) (nb 4)) (nb 3)) (nb 2)) (nb 1)).1 = st.1 + z 7 + z 6 + z 5 + z 4 + z 3 + z 2 + z 1 := by
    rw [j_sp1 (hz 1), e6]
  have e8 : (j_sp (j_sp (j_sp (j_sp (j_sp (j_sp (j_sp (j_sp st (nb 7)) (nb 6)) (nb 5)) (nb 4)) (nb 3)) (nb 2)) (nb 1)) (nb 0)).1 = st.1 + z 7 + z 6 + z 5 + z 4 + z 3 + z 2 + z 1 + z 0 := by
    rw [j_sp1 (hz 0), e7]
  exact (j_144m7 h hn0.2.2.2.2.2.2.2 (hn 7) (fun y => by have := zn7 y; omega) (fun S1 h1 => (j_144m6 h1 hn0.2.2.2.2.2.2.1 (hn 6) (fun y => by have := zn6 y; omega) (fun S2 h2 => (j_144m5 h2 hn0.2.2.2.2.2.1 (hn 5) (fun y => by have := zn5 y; omega) (fun S3 h3 => (j_144m4 h3 hn0.2.2.2.2.1 (hn 4) (fun y => by have := zn4 y; omega) (fun S4 h4 => (j_144m3 h4 hn0.2.2.2.1 (hn 3) (fun y => by have := zn3 y; omega) (fun S5 h5 => (j_144m2 h5 hn0.2.2.1 (hn 2) (fun y => by have := zn2 y; omega) (fun S6 h6 => (j_144m1 h6 hn0.2.1 (hn 1) (fun y => by have := zn1 y; omega) (fun S7 h7 => (j_144m0 h7 hn0.1 (hn 0) (fun y => by have := zn0 y; omega) (fun S8 h8 => (kg _ h8)))))))))))))))))
end JOA
