/-! SPELLINGS: the strings of the signs, their bytes. -/
def v_spt : List (List Nat) := [[112, 101, 114, 109, 105, 116], [102, 111, 114, 98, 105, 100], [119, 104, 101, 110], [117, 110, 108, 101, 115, 115], [116, 114, 117, 101], [102, 97, 108, 115, 101], [112], [114], [120], [121], [122], [40], [41], [123], [125], [44], [46], [95], [33], [124, 124], [38, 38], [61, 61], [33, 61], [60], [60, 61], [105, 110], [104, 97, 115], [43], [45], [42], [], [], [], []]
def v_sl (g : Nat) : Nat := (v_spt.getD g []).length
def v_ch (g k : Nat) : Nat := (v_spt.getD g []).getD k 0
theorem v_byt : q_byt = v_spt.map (fun l => l.map nI) := by decide +kernel
theorem v_byt1 (g : Nat) : q_byt.getD g [] = (v_spt.getD g []).map nI := by
  rw [v_byt, List.getD_eq_getElem?_getD, List.getElem?_map, List.getD_eq_getElem?_getD]
  cases v_spt[g]? <;> rfl
theorem v_byt2 (g : Nat) : (q_byt.getD g []).length = v_sl g := by
  rw [v_byt1, List.length_map]
  rfl
theorem v_gm (l : List Nat) (k : Nat) : (l.map nI).getD k 0 = nI (l.getD k 0) := by
  rw [List.getD_eq_getElem?_getD, List.getElem?_map, List.getD_eq_getElem?_getD]
  cases l[k]? <;> rfl
theorem v_byt3 (g k : Nat) : (q_byt.getD g []).getD k 0 = nI (v_ch g k) := by
  unfold v_ch
  rw [v_byt1]
  exact v_gm _ _
theorem v_sl_c : ∀ g, g < 34 → v_sl g ≤ 6 := by decide +kernel
theorem v_sl_b (g : Nat) : v_sl g ≤ 6 := by
  by_cases h : g < 34
  · exact v_sl_c g h
  · unfold v_sl
    rw [List.getD_eq_getElem?_getD, List.getElem?_eq_none (by show 34 ≤ g; omega)]
    decide
theorem v_ch_c : ∀ g, g < 34 → ∀ k, k < 6 → v_ch g k < 128 := by decide +kernel
theorem v_ch_b (g k : Nat) : v_ch g k < 128 := by
  by_cases h : g < 34
  · by_cases hk : k < 6
    · exact v_ch_c g h k hk
    · have := v_sl_c g h
      unfold v_sl at this
      unfold v_ch
      rw [List.getD_eq_getElem?_getD, List.getElem?_eq_none (by omega)]
      decide
  · unfold v_ch
    rw [show v_spt.getD g [] = [] from by rw [List.getD_eq_getElem?_getD, List.getElem?_eq_none (by show 34 ≤ g; omega)]; rfl]
    exact (by decide : (0 : Nat) < 128)
section VABC
variable {d m pc pc' r L g k n a j : Nat} {xs : Nat → Int32} {S : q_S} {lv : List (Nat × Value)} {st : List Value} {y : Int32} {Q : Outcome → q_S → Prop}
theorem v_fkT (hW : w_W (q_S0 L xs) S) (hg : g < 34) (hr : r / 128 = 16) : q_fk r (300 + g) S = true := by
  unfold q_fk
  rw [w_oS hW (a := 300 + g) (s := (16, 2)) (by omega) (by show (if _ then _ else if _ then _ else if _ then _ else if _ then _ else _) = _; rw [if_neg (by omega), if_neg (by omega), if_neg (by omega), if_pos (by omega)]), hr, decide_eq_true (show 1000 ≤ 300 + g ↔ 16 < 10 from ⟨fun z => by omega, fun z => by omega⟩)]
  rfl
theorem v_rsT (hW : w_W (q_S0 L xs) S) (hg : g < 34) : (q_sh S (300 + g)).1 = 16 ∧ (1000 ≤ 300 + g ↔ 16 < 10) := by
  rw [w_oS hW (a := 300 + g) (s := (16, 2)) (by omega) (by show (if _ then _ else if _ then _ else if _ then _ else if _ then _ else _) = _; rw [if_neg (by omega), if_neg (by omega), if_neg (by omega), if_pos (by omega)])]
  exact ⟨rfl, ⟨fun z => by omega, fun z => by omega⟩⟩
theorem v_shY (hW : w_W (q_S0 L xs) S) (hg : g < 34) : q_sh S (400 + g) = (104, v_sl g) := by
  refine w_oS hW (by omega) ?_
  show (if _ then _ else if _ then _ else if _ then _ else if _ then _ else if _ then _ else _) = _
  rw [if_neg (by omega), if_neg (by omega), if_neg (by omega), if_neg (by omega), if_pos (by omega), show 400 + g - 400 = g by omega, v_byt2]
theorem v_strR (hW : w_W (q_S0 L xs) S) (hg : g < 34) : q_rv S g 1 = some (300 + g) := by
  rw [v_oR hW (by omega)]
  exact if_pos hg
theorem v_valR (hW : w_W (q_S0 L xs) S) (hg : g < 34) : q_rv S (300 + g) 0 = some (400 + g) := by
  rw [v_oR hW (by omega)]
  show (if _ then _ else if _ then _ else if _ then _ else _) = _
  rw [if_neg (by omega), if_neg (by omega), if_pos (by omega), show 300 + g + 100 = 400 + g by omega]
theorem v_cod (hW : w_W (q_S0 L xs) S) (hg : g < 34) : q_iv S (300 + g) 1 = 0 := by
  rw [v_oI hW (by omega)]
  show (if _ then _ else if _ then _ else if _ then _ else if _ then _ else _) = _
  rw [if_neg (by omega), if_neg (by omega), if_neg (by omega), if_neg (by omega)]
theorem v_btY (hW : w_W (q_S0 L xs) S) (hg : g < 34) : q_iv S (400 + g) k = nI (v_ch g k) := by
  rw [v_oI hW (by omega)]
  show (if _ then _ else if _ then _ else if _ then _ else if _ then _ else _) = _
  rw [if_neg (by omega), if_neg (by omega), if_pos (by omega), show 400 + g - 400 = g by omega, v_byt3]
theorem w_balw (hf : q_fetch m pc = some (.baload, 1, r)) (h8 : (r == 9998) = false) (hs : q_sh S a = (104, n)) (hj : j < n) (hn : n < 2 ^ 31) (hv : q_iv S a j = y) (hp : pc + 1 = pc') (k : w_R d m pc' lv (.int y :: st) S Q) : w_R d m pc lv (.int (nI j) :: .ref a :: st) S Q := by
  subst hv
  exact w_bal hf h8 (Or.inr hs) (v_ix hj hn) hp (by rw [nI_clamp (by omega)]; exact k)
end VABC
/-- the row of characters -/
def v_RW (S : q_S) (c : Nat → Nat) (n : Nat) : Prop := n ≤ 100 ∧ ∀ j, j < n → q_iv S 1001 j = nI (c j) ∧ 32 ≤ c j ∧ c j ≤ 126
theorem v_RW.b {S : q_S} {c : Nat → Nat} {n : Nat} (h : v_RW S c n) : n ≤ 100 := h.1
theorem v_RW.r {S : q_S} {c : Nat → Nat} {n j : Nat} (h : v_RW S c n) (hj : j < n) : q_iv S 1001 j = nI (c j) := (h.2 j hj).1
theorem v_RW.u {S : q_S} {c : Nat → Nat} {n j : Nat} (h : v_RW S c n) (hj : j < n) : c j < 128 := by have := (h.2 j hj).2.2; omega
