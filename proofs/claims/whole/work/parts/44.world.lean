/-! THE PURE STATE AND THE HEAP: what a cell of the one is in the other. -/
def q_T (c : Nat) : u_T := fun k => (q_flds c).getD k ("", "", "", false)
def q_cls : List vw_C := (List.range 15).map (fun c => (q_cname c, q_T c, q_nf c))
theorem q_cls_at {c : Nat} (h : c < 15) : q_cls[c]? = some (q_cname c, q_T c, q_nf c) := by
  simp [q_cls, h]
/-- whether a field holds an int (0) or a reference (1) -/
def q_kf (c k : Nat) : Nat := if ["I", "Z", "B", "C", "S"].contains (q_T c k).2.2.1 = true then 0 else 1
def q_tyf (c k : Nat) : FieldType := (parseFieldDescriptor (q_T c k).2.2.1).getD .int
def q_fv (cv : q_M) (S : q_S) (a k : Nat) : Value := if q_kf (q_sh S a).1 k = 0 then .int (q_iv S a k) else va_rf ((q_rv S a k).map cv.1)
def q_ct (cv : q_M) (S : q_S) (a : Nat) : vp_A := ((q_sh S a).2, if (q_sh S a).1 = 103 then .inr (.inl (q_jv S a)) else if (q_sh S a).1 < 110 then .inl (q_iv S a) else .inr (.inr (.inr (.inr (fun j => (q_rv S a j).map cv.1)))))
def q_cE (cv : q_M) (cA : Nat → ClassId) (S : q_S) (a : Nat) : va_E := if (q_sh S a).1 < 100 then .inr ((q_sh S a).1, (List.range (q_sh S a).2).map (q_fv cv S a)) else .inl (cA (q_sh S a).1, q_ct cv S a)
/-- a made cell; of an exception only its class is told -/
def q_at (D : va_G) (cA : Nat → ClassId) (cv : q_M) (S : q_S) (a : Nat) (H : Heap) : Prop :=
  (10 ≤ (q_sh S a).1 ∧ (q_sh S a).1 < 100 → ∃ cell : Cell, H[cv.1 a]? = some cell ∧ cell.cls = D.1 (q_sh S a).1 ∧ cell.vm = .none) ∧ (¬ (10 ≤ (q_sh S a).1 ∧ (q_sh S a).1 < 100) → va_at D q_cls (cv.1 a, q_cE cv cA S a) H)
def q_R (D : va_G) (cA : Nat → ClassId) (cv : q_M) (base : Nat) (S : q_S) (H : Heap) : Prop :=
  1000 ≤ q_tp S ∧ H.size + 1000 = base + q_tp S ∧ (∀ a, 1000 ≤ a → a < q_tp S → q_at D cA cv S a H) ∧ ∀ a, q_tp S ≤ a → (q_sh S a).1 = 99
/-- the numbers from 1000 on stand in a row from 'base' on -/
def q_cvk (cv : q_M) (base : Nat) : Prop := ∀ a, 1000 ≤ a → cv.1 a = base + (a - 1000)
/-- two states are alike in a cell -/
def q_same (S S' : q_S) (a : Nat) : Prop := q_sh S' a = q_sh S a ∧ q_iv S' a = q_iv S a ∧ q_rv S' a = q_rv S a ∧ q_jv S' a = q_jv S a
theorem q_same_E {cv : q_M} {cA : Nat → ClassId} {S S' : q_S} {a : Nat} (h : q_same S S' a) : q_cE cv cA S' a = q_cE cv cA S a := by
  obtain ⟨h1, h2, h3, h4⟩ := h
  have h5 : q_fv cv S' a = q_fv cv S a := by funext k; unfold q_fv; rw [h1, h2, h3]
  unfold q_cE q_ct
  rw [h1, h2, h3, h4, h5]
theorem q_same_at {D : va_G} {cA : Nat → ClassId} {cv : q_M} {S S' : q_S} {a : Nat} {H H1 : Heap} (h : q_same S S' a) (hH : H1[cv.1 a]? = H[cv.1 a]?) (hat : q_at D cA cv S a H) : q_at D cA cv S' a H1 := by
  unfold q_at at hat ⊢
  rw [h.1, q_same_E h, hH]
  exact ⟨hat.1, fun z => (hat.2 z).kept hH⟩
theorem q_u2_ne {α : Type} {f : Nat → Nat → α} {a k b : Nat} {v : α} (h : b ≠ a) : q_u2 f a k v b = f b := by
  funext y; unfold q_u2; rw [if_neg (fun z => h z.1)]
theorem q_z_ne {α : Type} {f : Nat → Nat → α} {a b : Nat} {v : α} (h : b ≠ a) : q_z f a v b = f b := by
  funext y; unfold q_z; rw [if_neg h]
theorem q_z_eq {α : Type} {f : Nat → Nat → α} {a : Nat} {v : α} : q_z f a v a = fun _ => v := by
  funext y; unfold q_z; rw [if_pos rfl]
theorem q_sI_same {S : q_S} {a k b : Nat} {x : Int32} (h : b ≠ a) : q_same S (q_sI S a k x) b := ⟨rfl, q_u2_ne h, rfl, rfl⟩
theorem q_sR_same {S : q_S} {a k b : Nat} {x : Option Nat} (h : b ≠ a) : q_same S (q_sR S a k x) b := ⟨rfl, rfl, q_u2_ne h, rfl⟩
theorem q_sJ_same {S : q_S} {a k b : Nat} {x : Int64} (h : b ≠ a) : q_same S (q_sJ S a k x) b := ⟨rfl, rfl, rfl, q_u2_ne h⟩
theorem q_new_same {S : q_S} {sh : Nat × Nat} {n b : Nat} (h : b ≠ q_tp S) : q_same S (q_new S sh n) b := ⟨by show q_u1 _ _ _ b = _; unfold q_u1; rw [if_neg h], q_z_ne h, q_z_ne h, q_z_ne h⟩
theorem q_u2_upd {f : Nat → Nat → Int32} {a k : Nat} {v : Int32} : q_u2 f a k v a = upd (f a) k v := by
  funext y; unfold q_u2 upd; by_cases h : y = k
  · rw [if_pos ⟨rfl, h⟩, if_pos h]
  · rw [if_neg (fun z => h z.2), if_neg h]
theorem q_u2_updL {f : Nat → Nat → Int64} {a k : Nat} {v : Int64} : q_u2 f a k v a = vp_updL (f a) k v := by
  funext y; unfold q_u2 vp_updL; by_cases h : y = k
  · rw [if_pos ⟨rfl, h⟩, if_pos h]
  · rw [if_neg (fun z => h z.2), if_neg h]
theorem q_u2_up {f : Nat → Nat → Option Nat} {a k : Nat} {v : Option Nat} {g : Nat → Nat} : (fun j => (q_u2 f a k v a j).map g) = va_up (fun j => (f a j).map g) k (v.map g) := by
  funext y; unfold q_u2 va_up; by_cases h : y = k
  · rw [if_pos ⟨rfl, h⟩, if_pos h]
  · rw [if_neg (fun z => h z.2), if_neg h]
section QWLD
variable {D : va_G} {cA : Nat → ClassId} {cv : q_M} {base : Nat} {S S' : q_S} {H H1 : Heap} {A : Nat → Prop} {H0 : Heap} {locs locs1 : List Loc} {a : Nat}
theorem q_R.put (hcv : q_cvk cv base) (hR : q_R D cA cv base S H) (ha : 1000 ≤ a) (hu : q_up A H0 (cv.1 a) H H1 locs1) (hat : q_at D cA cv S' a H1) (ha2 : a < q_tp S) (hs : ∀ b, b ≠ a → q_same S S' b) (ht : q_tp S' = q_tp S) : q_R D cA cv base S' H1 := by
  obtain ⟨h1, h2, h3, h4⟩ := hR
  refine ⟨by rw [ht]; exact h1, by rw [ht, hu.1]; exact h2, fun b hb hb2 => ?_, fun b hb => ?_⟩
  · rw [ht] at hb2
    by_cases hba : b = a
    · rw [hba]; exact hat
    · refine q_same_at (hs b hba) (hu.2.1 _ (fun z => hba ?_)) (h3 b hb hb2)
      have e1 := hcv b hb
      have e2 := hcv a ha
      rw [e1, e2] at z
      omega
  · rw [ht] at hb
    rw [(hs b (fun z => by omega)).1]
    exact h4 b hb
theorem q_R.grow (hcv : q_cvk cv base) (hR : q_R D cA cv base S H) (hg : q_gr A H0 H H1 locs) {sh : Nat × Nat} {n : Nat} (hat : q_at D cA cv (q_new S sh n) (q_tp S) H1) : q_R D cA cv base (q_new S sh n) H1 := by
  obtain ⟨h1, h2, h3, h4⟩ := hR
  refine ⟨by show 1000 ≤ q_tp S + 1; omega, by show H1.size + 1000 = base + (q_tp S + 1); rw [hg.1]; omega, fun b hb hb2 => ?_, fun b hb => ?_⟩
  · have hb2' : b < q_tp S + 1 := hb2
    by_cases hba : b = q_tp S
    · rw [hba]; exact hat
    · refine q_same_at (q_new_same hba) (hg.2.1 _ ?_) (h3 b hb (by omega))
      rw [hcv b hb]
      omega
  · have hb' : q_tp S + 1 ≤ b := hb
    rw [(q_new_same (S := S) (sh := sh) (n := n) (fun z : b = q_tp S => by omega)).1]
    exact h4 b (by omega)
theorem q_R.lt (hR : q_R D cA cv base S H) (h : (q_sh S a).1 ≠ 99) : a < q_tp S := by
  rcases Nat.lt_or_ge a (q_tp S) with h1 | h1
  · exact h1
  · exact absurd (hR.2.2.2 a h1) h
theorem q_R.top (hcv : q_cvk cv base) (hR : q_R D cA cv base S H) : cv.1 (q_tp S) = H.size := by
  rw [hcv _ hR.1]
  have := hR.1
  have := hR.2.1
  omega
end QWLD
