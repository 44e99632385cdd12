/-! SETS OF SIXTEEN AS NUMBERS: what is reached in sixteen turns is all that is ever reached. -/
def v_b (s : Int32) (k : Nat) : Bool := s.toBitVec.getLsbD k
theorem v_ext {s t : Int32} (h : ∀ k, k < 32 → v_b s k = v_b t k) : s = t := Int32.toBitVec_inj.mp (BitVec.eq_of_getLsbD_eq h)
theorem v_b_or (s t : Int32) (k : Nat) : v_b (s ||| t) k = (v_b s k || v_b t k) := by
  show (s.toBitVec ||| t.toBitVec).getLsbD k = _
  rw [BitVec.getLsbD_or]
  rfl
theorem v_b_and (s t : Int32) (k : Nat) : v_b (s &&& t) k = (v_b s k && v_b t k) := by
  show (s.toBitVec &&& t.toBitVec).getLsbD k = _
  rw [BitVec.getLsbD_and]
  rfl
theorem v_b_0 (k : Nat) : v_b 0 k = false := by
  show (0 : BitVec 32).getLsbD k = false
  exact BitVec.getLsbD_zero
theorem v_b_1 (k : Nat) : v_b 1 k = decide (k = 0) := by
  show (1#32).getLsbD k = _
  rw [BitVec.getLsbD_one]
  simp
theorem v_sh5 : ∀ k, k < 32 → ((nI k &&& 31 : Int32).toBitVec.smod 32).toNat = k := by decide +kernel
theorem v_b_shr (s : Int32) {k : Nat} (hk : k < 32) (i : Nat) (hi : k + i < 32) : v_b (s >>> (nI k &&& 31)) i = v_b s (k + i) := by
  show (BitVec.sshiftRight' s.toBitVec ((nI k &&& 31 : Int32).toBitVec.smod 32)).getLsbD i = _
  rw [BitVec.getLsbD_sshiftRight', v_sh5 k hk, if_pos hi, decide_eq_false (by omega)]
  rfl
theorem v_b_shl (s : Int32) {k : Nat} (hk : k < 32) (i : Nat) : v_b (s <<< (nI k &&& 31)) i = (decide (i < 32) && (!decide (i < k) && v_b s (i - k))) := by
  show (s.toBitVec <<< ((nI k &&& 31 : Int32).toBitVec.smod 32)).getLsbD i = _
  rw [BitVec.getLsbD_shiftLeft', v_sh5 k hk, Bool.and_assoc]
  rfl
theorem v_a1 (s : Int32) : s &&& 1 = if v_b s 0 then 1 else 0 := by
  apply v_ext
  intro k _
  rw [v_b_and, v_b_1]
  by_cases h : k = 0
  · subst h
    cases v_b s 0 <;> rfl
  · rw [decide_eq_false h, Bool.and_false]
    split
    · rw [v_b_1, decide_eq_false h]
    · rw [v_b_0]
/-- the test of a bit, as both sides write it -/
theorem v_tst (s : Int32) {k : Nat} (hk : k < 32) : (s >>> (nI k &&& 31)) &&& 1 = if v_b s k then 1 else 0 := by
  rw [v_a1, v_b_shr s hk 0 (by omega)]
  rfl
theorem v_tst0 (s : Int32) {k : Nat} (hk : k < 32) : (s >>> (nI k &&& 31)) &&& 1 = 0 ↔ v_b s k = false := by
  rw [v_tst s hk]
  cases v_b s k <;> decide
theorem v_tst1 (s : Int32) {k : Nat} (hk : k < 32) : (s >>> (nI k &&& 31)) &&& 1 = 1 ↔ v_b s k = true := by
  rw [v_tst s hk]
  cases v_b s k <;> decide
/-- a turn: the parents of the first k are put to a set -/
def v_g (f : Nat → Int32) (s : Int32) : Nat → Int32
  | 0 => s
  | k + 1 => v_g f s k ||| (if v_b s k then f k else 0)
def v_f (f : Nat → Int32) (s : Int32) : Int32 := v_g f s 16
def v_it (f : Nat → Int32) : Nat → Int32 → Int32
  | 0, s => s
  | n + 1, s => v_it f n (v_f f s)
theorem v_it_s (f : Nat → Int32) (n : Nat) (s : Int32) : v_it f (n + 1) s = v_f f (v_it f n s) := by
  induction n generalizing s with
  | zero => rfl
  | succ n ih => exact ih (v_f f s)
theorem v_it_add (f : Nat → Int32) (n m : Nat) (s : Int32) : v_it f (n + m) s = v_it f m (v_it f n s) := by
  induction n generalizing s with
  | zero => rw [Nat.zero_add]; rfl
  | succ n ih => rw [Nat.succ_add]; exact ih (v_f f s)
theorem v_it_fix (f : Nat → Int32) {s : Int32} (h : v_f f s = s) (n : Nat) : v_it f n s = s := by
  induction n with
  | zero => rfl
  | succ n ih => rw [v_it_s, ih, h]
def v_lo (s : Int32) : Prop := ∀ k, 16 ≤ k → v_b s k = false
def v_cn (s : Int32) : Nat → Nat
  | 0 => 0
  | n + 1 => v_cn s n + (if v_b s n then 1 else 0)
theorem v_cn_le (s : Int32) (n : Nat) : v_cn s n ≤ n := by
  induction n with
  | zero => exact Nat.le_refl _
  | succ n ih => unfold v_cn; split <;> omega
theorem v_cn_sub {s t : Int32} (h : ∀ k, v_b s k = true → v_b t k = true) (n : Nat) : v_cn s n ≤ v_cn t n := by
  induction n with
  | zero => exact Nat.le_refl _
  | succ n ih =>
    unfold v_cn
    cases hs : v_b s n with
    | true => rw [h n hs]; simp; exact ih
    | false => simp; omega
theorem v_cn_eq {s t : Int32} (h : ∀ k, v_b s k = true → v_b t k = true) (n : Nat) (he : v_cn t n ≤ v_cn s n) : ∀ k, k < n → v_b s k = v_b t k := by
  induction n with
  | zero => intro k hk; omega
  | succ n ih =>
    have h1 := v_cn_sub h n
    unfold v_cn at he
    intro k hk
    have key : v_b s n = v_b t n ∧ v_cn t n ≤ v_cn s n := by
      cases hs : v_b s n with
      | true =>
        have ht := h n hs
        rw [hs, ht] at he
        simp at he
        exact ⟨ht.symm, he⟩
      | false =>
        cases ht : v_b t n with
        | true => rw [hs, ht] at he; simp at he; omega
        | false => rw [hs, ht] at he; simp at he; exact ⟨rfl, he⟩
    by_cases hkn : k = n
    · subst hkn; exact key.1
    · exact ih key.2 k (by omega)
theorem v_g_sub (f : Nat → Int32) (s : Int32) (n : Nat) : ∀ k, v_b s k = true → v_b (v_g f s n) k = true := by
  induction n with
  | zero => intro k h; exact h
  | succ n ih => intro k h; unfold v_g; rw [v_b_or, ih k h]; rfl
theorem v_g_lo {f : Nat → Int32} {s : Int32} (hf : ∀ k, k < 16 → v_lo (f k)) (hs : v_lo s) (n : Nat) (hn : n ≤ 16) : v_lo (v_g f s n) := by
  induction n with
  | zero => exact hs
  | succ n ih =>
    intro k hk
    unfold v_g
    rw [v_b_or, ih (by omega) k hk]
    split
    · rw [hf n (by omega) k hk]; rfl
    · rw [v_b_0]; rfl
theorem v_grow {f : Nat → Int32} {s : Int32} (hf : ∀ k, k < 16 → v_lo (f k)) (hs : v_lo s) (h : v_f f s ≠ s) : v_cn s 16 < v_cn (v_f f s) 16 := by
  refine Nat.lt_of_not_le (fun hle => h ?_)
  have h1 := v_cn_eq (v_g_sub f s 16) 16 hle
  apply v_ext
  intro k _
  by_cases hk : k < 16
  · exact (h1 k hk).symm
  · rw [hs k (by omega)]
    exact v_g_lo hf hs 16 (by omega) k (by omega)
theorem v_it_lo {f : Nat → Int32} {s : Int32} (hf : ∀ k, k < 16 → v_lo (f k)) (hs : v_lo s) (n : Nat) : v_lo (v_it f n s) := by
  induction n with
  | zero => exact hs
  | succ n ih => rw [v_it_s]; exact v_g_lo hf ih 16 (by omega)
theorem v_it_cn {f : Nat → Int32} {s : Int32} (hf : ∀ k, k < 16 → v_lo (f k)) (hs : v_lo s) (n : Nat) : v_f f (v_it f n s) = v_it f n s ∨ n + v_cn s 16 ≤ v_cn (v_it f n s) 16 := by
  induction n with
  | zero => exact Or.inr (by show 0 + v_cn s 16 ≤ v_cn s 16; omega)
  | succ n ih =>
    rcases ih with h | h
    · left
      rw [v_it_s, h, h]
    · by_cases he : v_f f (v_it f n s) = v_it f n s
      · left
        rw [v_it_s, he, he]
      · right
        rw [v_it_s]
        have := v_grow hf (v_it_lo hf hs n) he
        omega
theorem v_fix {f : Nat → Int32} {s : Int32} (hf : ∀ k, k < 16 → v_lo (f k)) (hs : v_lo s) (h0 : 0 < v_cn s 16) : v_f f (v_it f 16 s) = v_it f 16 s := by
  rcases v_it_cn hf hs 16 with h | h
  · exact h
  · have := v_cn_le (v_it f 16 s) 16
    omega
theorem v_fixU {f : Nat → Int32} {s : Int32} (hf : ∀ k, k < 16 → v_lo (f k)) (hs : v_lo s) (h0 : 0 < v_cn s 16) (n : Nat) (h : v_f f (v_it f n s) = v_it f n s) : v_it f n s = v_it f 16 s := by
  have h16 := v_fix hf hs h0
  by_cases hn : n ≤ 16
  · have := v_it_add f n (16 - n) s
    rw [show n + (16 - n) = 16 by omega, v_it_fix f h] at this
    exact this.symm
  · have := v_it_add f 16 (n - 16) s
    rw [show 16 + (n - 16) = n by omega, v_it_fix f h16] at this
    exact this
theorem v_one_lo : ∀ e, e < 16 → v_lo ((1 : Int32) <<< (nI e &&& 31)) := by
  intro e he k hk
  rw [v_b_shl 1 (by omega), v_b_1, decide_eq_false (show ¬ k - e = 0 by omega)]
  simp
theorem v_one_cn : ∀ e, e < 16 → 0 < v_cn ((1 : Int32) <<< (nI e &&& 31)) 16 := by decide +kernel
/-- what is above an entity -/
def v_up (f : Nat → Int32) (e : Nat) : Int32 := v_it f 16 ((1 : Int32) <<< (nI e &&& 31))
theorem v_g_congr {f g : Nat → Int32} (h : ∀ k, k < 16 → f k = g k) (s : Int32) (n : Nat) (hn : n ≤ 16) : v_g f s n = v_g g s n := by
  induction n with
  | zero => rfl
  | succ n ih => unfold v_g; rw [ih (by omega), h n (by omega)]
theorem v_up_congr {f g : Nat → Int32} (h : ∀ k, k < 16 → f k = g k) (e : Nat) : v_up f e = v_up g e := by
  have : ∀ n s, v_it f n s = v_it g n s := by
    intro n
    induction n with
    | zero => intro s; rfl
    | succ n ih => intro s; show v_it f n (v_f f s) = v_it g n (v_f g s); rw [ih, show v_f f s = v_f g s from v_g_congr h s 16 (by omega)]
  exact this _ _
