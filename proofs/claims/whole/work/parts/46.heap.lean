/-! THE SURROUNDINGS, and the instructions on the heap. -/
def q_A (base : Nat) : Nat → Prop := fun q => base ≤ q
def q_isN (w : Jvm.Cond) : Bool := match w with
  | .fieldLinkNest _ _ _ _ _ _ => true
  | .methodLinkNest _ _ _ _ => true
  | _ => false
/-- an old cell: an enum's constant, a String, an array -/
def q_ol (cv : q_M) (A : Nat → Prop) (S0 : q_S) (a : Nat) (U : State) (H : Heap) : Prop :=
  ((q_sh S0 a).1 = 15 ∨ (q_sh S0 a).1 = 16 → va_O (q_cname (q_sh S0 a).1) (cv.1 a) A U H ∧ ∀ k, k < (q_sh S0 a).2 → va_OF (q_T (q_sh S0 a).1 k).1 (q_T (q_sh S0 a).1 k).2.1 (q_T (q_sh S0 a).1 k).2.2.1 (q_fv cv S0 a k) (cv.1 a) A U H) ∧
  (∀ ty, q_ty (q_sh S0 a).1 = some ty → va_T ty (cv.1 a) (q_sh S0 a).2 (fun j => if q_tr (q_sh S0 a).1 = true then va_rf ((q_rv S0 a j).map cv.1) else .int (q_iv S0 a j)) A U H ∧ (q_sh S0 a).1 ≠ 103)
/-- what holds of the tables and of the old cells all along the law, at a state with its heap -/
def q_EF (D : va_G) (cA : Nat → ClassId) (cv : q_M) (base : Nat) (S0 : q_S) (U : State) (H : Heap) : Prop :=
  (∀ w ∈ lw_tbl, goodWord w = true → ∀ X, w.before X U = true) ∧ (∀ w ∈ tables_1, q_isN w = true → ∀ X, w.before X U = true) ∧
  (va_AO "PolicyForge$Policy" U ∧ va_AO "PolicyForge$Sign" U) ∧ va_K D q_cls [] U ∧ (∀ t ty, q_ty t = some ty → ArrOfT U (cA t) ty ∧ va_RA U (cA t) ty) ∧ (∀ a, a < 1000 → q_ol cv (q_A base) S0 a U H) ∧
  (∀ r v, q_sv r = some v → va_Z (q_sd r).1 (q_sd r).2.1 (q_sd r).2.2.1 (q_vv cv v) (q_A base) U H)
theorem q_EF.move {D : va_G} {cA : Nat → ClassId} {cv : q_M} {base : Nat} {S0 : q_S} {s U : State} {H H1 : Heap} (E : q_EF D cA cv base S0 s H) (hW : s.WarmedH U.vm) (hq : ∀ q : Nat, q < H.size → ¬ q_A base q → H1[q]? = H[q]?) : q_EF D cA cv base S0 U H1 := by
  obtain ⟨e1, e2, e3, e4, e5, e6, e7⟩ := E
  have hal := hW.alike
  refine ⟨fun w hw hg X => word_at hW (good_of_word hg) (e1 w hw hg #[]), fun w hw hn X => ?_, ⟨e3.1.moved hal, e3.2.moved hal⟩, e4.moved hal, fun t ty h => ⟨arrOfT_moved hal (e5 t ty h).1, (e5 t ty h).2.moved hal⟩, fun a ha => ⟨fun h => ?_, fun ty h => ?_⟩, fun r v h => ((e7 r v h).moved hal).kept hq⟩
  · have h0 : va_Nw w s := e2 w hw hn #[]
    cases w <;> first | (cases hn; done) | exact va_Nw.use rfl (va_Nw.warmF hW h0) | exact va_Nw.use rfl (va_Nw.warmM hW h0)
  · exact ⟨(((e6 a ha).1 h).1.moved hal).kept hq, fun k hk => ((((e6 a ha).1 h).2 k hk).moved hal).kept hq⟩
  · exact ⟨((((e6 a ha).2 ty h).1).moved hal).kept hq, ((e6 a ha).2 ty h).2⟩
theorem q_EF.link {D : va_G} {cA : Nat → ClassId} {cv : q_M} {base : Nat} {S0 : q_S} {s : State} {H : Heap} (E : q_EF D cA cv base S0 s H) {nest : Bool} {own o n d : String} {x : Nat} (h : (if nest = true then Jvm.Cond.fieldLinkNest own x o n d "PolicyForge" else Jvm.Cond.fieldLink own x o n d) ∈ tables_1) (X : Array Value) :
    (Jvm.Cond.fieldLink own x o n d).before X s = true ∨ ∃ host, (Jvm.Cond.fieldLinkNest own x o n d host).before X s = true := by
  cases nest with
  | true => exact Or.inr ⟨"PolicyForge", E.2.1 _ h rfl X⟩
  | false => exact Or.inl (E.1 _ (List.mem_append_right _ h) rfl X)
theorem q_vv_rf (cv : q_M) (r : Option Nat) : q_vv cv (q_rf r) = va_rf (r.map cv.1) := by cases r <;> rfl
theorem q_fval {cv : q_M} {S : q_S} {a r : Nat} (h : r % 2 = q_kf (q_sh S a).1 (r / 2 % 64)) : q_vv cv (if r % 2 = 0 then .int (q_iv S a (r / 2 % 64)) else q_rf (q_rv S a (r / 2 % 64))) = q_fv cv S a (r / 2 % 64) := by
  unfold q_fv
  rw [← h]
  by_cases h0 : r % 2 = 0
  · rw [if_pos h0, if_pos h0]; rfl
  · rw [if_neg h0, if_neg h0]; exact q_vv_rf cv _
theorem q_fget {cv : q_M} {S : q_S} {a k n : Nat} (hk : k < n) : ((List.range n).map (q_fv cv S a))[k]? = some (q_fv cv S a k) := by
  simp [hk]
theorem q_fsetI {cv : q_M} {S : q_S} {a k n : Nat} {x : Int32} (h : q_kf (q_sh S a).1 k = 0) : ((List.range n).map (q_fv cv S a)).set k (.int x) = (List.range n).map (q_fv cv (q_sI S a k x) a) := by
  have e : ∀ j, q_fv cv (q_sI S a k x) a j = if q_kf (q_sh S a).1 j = 0 then .int (q_u2 (q_iv S) a k x a j) else va_rf ((q_rv S a j).map cv.1) := fun _ => rfl
  have e0 : ∀ j, q_fv cv S a j = if q_kf (q_sh S a).1 j = 0 then .int (q_iv S a j) else va_rf ((q_rv S a j).map cv.1) := fun _ => rfl
  apply List.ext_getElem?
  intro j
  rw [List.getElem?_set]
  by_cases hjk : k = j
  · subst hjk
    by_cases hj : k < n
    · simp [hj, e, h, q_u2]
    · simp [hj]
  · rw [if_neg hjk]
    by_cases hj : j < n
    · have h2 : ¬ j = k := fun z => hjk z.symm
      simp [hj, e, e0, q_u2, h2]
    · simp [hj]
theorem q_fsetR {cv : q_M} {S : q_S} {a k n : Nat} {x : Option Nat} (h : q_kf (q_sh S a).1 k = 1) : ((List.range n).map (q_fv cv S a)).set k (va_rf (x.map cv.1)) = (List.range n).map (q_fv cv (q_sR S a k x) a) := by
  have e : ∀ j, q_fv cv (q_sR S a k x) a j = if q_kf (q_sh S a).1 j = 0 then .int (q_iv S a j) else va_rf ((q_u2 (q_rv S) a k x a j).map cv.1) := fun _ => rfl
  have e0 : ∀ j, q_fv cv S a j = if q_kf (q_sh S a).1 j = 0 then .int (q_iv S a j) else va_rf ((q_rv S a j).map cv.1) := fun _ => rfl
  apply List.ext_getElem?
  intro j
  rw [List.getElem?_set]
  by_cases hjk : k = j
  · subst hjk
    by_cases hj : k < n
    · simp [hj, e, h, q_u2]
    · simp [hj]
  · rw [if_neg hjk]
    by_cases hj : j < n
    · have h2 : ¬ j = k := fun z => hjk z.symm
      simp [hj, e, e0, q_u2, h2]
    · simp [hj]
set_option maxRecDepth 100000 in
theorem q_fIZB : (List.range 10).all (fun c => (List.range (q_nf c)).all (fun k => if q_kf c k = 0 then decide ((q_T c k).2.2.1 = "I" ∧ q_tyf c k = .int) || decide ((q_T c k).2.2.1 = "Z" ∧ q_tyf c k = .boolean) else match q_tyf c k with
  | .object _ => true
  | .array _ => true
  | _ => false)) = true := by decide +kernel
theorem q_fIZ {c k : Nat} (hc : c < 10) (hk : k < q_nf c) (h : q_kf c k = 0) : ((q_T c k).2.2.1 = "I" ∧ q_tyf c k = .int) ∨ ((q_T c k).2.2.1 = "Z" ∧ q_tyf c k = .boolean) := by
  have := List.all_eq_true.mp (List.all_eq_true.mp q_fIZB c (List.mem_range.mpr hc)) k (List.mem_range.mpr hk)
  rw [if_pos h, Bool.or_eq_true] at this
  rcases this with h | h
  · exact Or.inl (of_decide_eq_true h)
  · exact Or.inr (of_decide_eq_true h)
theorem q_fRf {c k : Nat} (hc : c < 10) (hk : k < q_nf c) (h : q_kf c k = 1) (a : Nat) : narrow (q_tyf c k) (.ref a) = .ref a ∧ fits (q_tyf c k) (.ref a) = true := by
  have := List.all_eq_true.mp (List.all_eq_true.mp q_fIZB c (List.mem_range.mpr hc)) k (List.mem_range.mpr hk)
  rw [if_neg (by rw [h]; decide)] at this
  cases hty : q_tyf c k <;> rw [hty] at this <;> first | (cases this; done) | exact ⟨rfl, rfl⟩
theorem q_fI {c k : Nat} {r : Nat} {x : Int32} (hc : c < 10) (hk : k < q_nf c) (h : q_kf c k = 0) (hr : q_fd r = q_T c k) (hz : q_fz r x = true) : narrow (q_tyf c k) (.int x) = .int x ∧ fits (q_tyf c k) (.int x) = true := by
  rcases q_fIZ hc hk h with ⟨-, h2⟩ | ⟨h1, h2⟩
  · rw [h2]; exact ⟨rfl, rfl⟩
  · rw [h2]
    unfold q_fz at hz
    rw [hr, h1] at hz
    have hz : x = 0 ∨ x = 1 := by simpa using hz
    rcases hz with rfl | rfl <;> exact ⟨rfl, rfl⟩
theorem q_in_of {j : Int32} {n : Nat} (h : q_ix j n = true) : vp_in j n := by
  unfold q_ix at h
  rw [Bool.and_eq_true] at h
  have h1 := of_decide_eq_true h.1
  have h2 := of_decide_eq_true h.2
  intro q
  rcases q with q | q
  · exact h1 q
  · omega
