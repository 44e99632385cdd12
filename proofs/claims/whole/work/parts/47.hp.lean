/-! WHAT THE HEAP'S INSTRUCTIONS DO IN THE PURE MACHINE, THE MACHINE DOES. -/
def q_eqo (S S0 : q_S) : Prop := ∀ a, a < 1000 → q_same S0 S a
theorem q_eqo.sI {S S0 : q_S} {a k : Nat} {x : Int32} (h : q_eqo S S0) (ha : 1000 ≤ a) : q_eqo (q_sI S a k x) S0 := fun b hb => by
  obtain ⟨h1, h2, h3, h4⟩ := h b hb
  obtain ⟨g1, g2, g3, g4⟩ := q_sI_same (S := S) (a := a) (k := k) (x := x) (b := b) (by omega)
  exact ⟨g1.trans h1, g2.trans h2, g3.trans h3, g4.trans h4⟩
theorem q_eqo.sR {S S0 : q_S} {a k : Nat} {x : Option Nat} (h : q_eqo S S0) (ha : 1000 ≤ a) : q_eqo (q_sR S a k x) S0 := fun b hb => by
  obtain ⟨h1, h2, h3, h4⟩ := h b hb
  obtain ⟨g1, g2, g3, g4⟩ := q_sR_same (S := S) (a := a) (k := k) (x := x) (b := b) (by omega)
  exact ⟨g1.trans h1, g2.trans h2, g3.trans h3, g4.trans h4⟩
theorem q_eqo.sJ {S S0 : q_S} {a k : Nat} {x : Int64} (h : q_eqo S S0) (ha : 1000 ≤ a) : q_eqo (q_sJ S a k x) S0 := fun b hb => by
  obtain ⟨h1, h2, h3, h4⟩ := h b hb
  obtain ⟨g1, g2, g3, g4⟩ := q_sJ_same (S := S) (a := a) (k := k) (x := x) (b := b) (by omega)
  exact ⟨g1.trans h1, g2.trans h2, g3.trans h3, g4.trans h4⟩
theorem q_eqo.new {S S0 : q_S} {sh : Nat × Nat} {n : Nat} (h : q_eqo S S0) (ha : 1000 ≤ q_tp S) : q_eqo (q_new S sh n) S0 := fun b hb => by
  obtain ⟨h1, h2, h3, h4⟩ := h b hb
  obtain ⟨g1, g2, g3, g4⟩ := q_new_same (S := S) (sh := sh) (n := n) (b := b) (by omega)
  exact ⟨g1.trans h1, g2.trans h2, g3.trans h3, g4.trans h4⟩
theorem q_uw {C : String} {T : u_T} {N : Nat} : ∀ w ∈ u_ws C T N, goodWord w = true := by
  intro w hw
  obtain ⟨k, -, rfl⟩ := List.mem_map.mp hw
  unfold u_lay
  split <;> rfl
theorem q_dtp {S : q_S} {sh : Nat × Nat} {n : Nat} : q_tp (q_new S sh n) - q_tp S = 1 := by show q_tp S + 1 - q_tp S = 1; omega
theorem q_dsm {S : q_S} {sh : Nat × Nat} {n : Nat} : q_sm (q_new S sh n) - q_sm S = n := by show q_sm S + n - q_sm S = n; omega
theorem q_new_sh {S : q_S} {sh : Nat × Nat} {n : Nat} : q_sh (q_new S sh n) (q_tp S) = sh := by show q_u1 _ _ _ _ = _; unfold q_u1; rw [if_pos rfl]
theorem q_ct_new {cv : q_M} {S : q_S} {t n k : Nat} : q_ct cv (q_new S (t, n) k) (q_tp S) = (n, if t = 103 then .inr (.inl (fun _ => 0)) else if t < 110 then .inl (fun _ => 0) else .inr (.inr (.inr (.inr (fun _ => none))))) := by
  unfold q_ct
  rw [q_new_sh]
  have e1 : q_iv (q_new S (t, n) k) (q_tp S) = fun _ => 0 := q_z_eq
  have e2 : q_jv (q_new S (t, n) k) (q_tp S) = fun _ => 0 := q_z_eq
  have e3 : q_rv (q_new S (t, n) k) (q_tp S) = fun _ => none := q_z_eq
  rw [e1, e2, e3]
  rfl
theorem q_fv_new {cv : q_M} {S : q_S} {c n k j : Nat} : q_fv cv (q_new S (c, n) k) (q_tp S) j = if q_kf c j = 0 then .int 0 else .null := by
  unfold q_fv
  rw [q_new_sh]
  have e1 : q_iv (q_new S (c, n) k) (q_tp S) = fun _ => 0 := q_z_eq
  have e3 : q_rv (q_new S (c, n) k) (q_tp S) = fun _ => none := q_z_eq
  rw [e1, e3]
  rfl
set_option maxRecDepth 100000 in
theorem q_arrB : Jvm.Cond.arrayClass .int ∈ tables_1 ∧ Jvm.Cond.arrayClass .char ∈ tables_1 ∧ Jvm.Cond.arrayClass .boolean ∈ tables_1 ∧ Jvm.Cond.arrayClass .long ∈ tables_1 ∧ Jvm.Cond.arrayClass .byte ∈ tables_1 := by decide +kernel
set_option maxRecDepth 100000 in
theorem q_signI : Jvm.Cond.instantiable "PolicyForge$Sign" 5 ∈ tables_1 := by decide +kernel
theorem q_arrT {ty : Jvm.ClassFile.ArrayType} (h : 100 ≤ q_tc ty) : Jvm.Cond.arrayClass (newarray.typeOf ty) ∈ tables_1 ∧ q_ty (q_tc ty) = some (newarray.typeOf ty) ∧ (∀ (U : State) (x : ClassId), va_RA U x (newarray.typeOf ty) → U.vm.findClass ("[" ++ (newarray.typeOf ty).toString) = some x) ∧ ∀ (n : Nat) (x : ClassId), vp_cell x (n, if q_tc ty = 103 then .inr (.inl (fun _ => 0)) else if q_tc ty < 110 then .inl (fun _ => 0) else .inr (.inr (.inr (.inr (fun _ => none))))) = arrV x n (fun _ => defaultValue (newarray.typeOf ty)) := by
  obtain ⟨h1, h2, h3, h4, h5⟩ := q_arrB
  cases ty
  · exact ⟨h3, rfl, fun _ _ h => h, fun _ _ => rfl⟩
  · exact ⟨h2, rfl, fun _ _ h => h, fun _ _ => rfl⟩
  · exact absurd h (by decide)
  · exact absurd h (by decide)
  · exact ⟨h5, rfl, fun _ _ h => h, fun _ _ => rfl⟩
  · exact absurd h (by decide)
  · exact ⟨h1, rfl, fun _ _ h => h, fun _ _ => rfl⟩
  · exact ⟨h4, rfl, fun _ _ h => h, fun _ _ => rfl⟩
theorem q_ct_i {cv : q_M} {S : q_S} {a t n : Nat} (h : q_sh S a = (t, n)) (h1 : t ≠ 103) (h2 : t < 110) : q_ct cv S a = (n, .inl (q_iv S a)) := by
  unfold q_ct; rw [h]; rw [if_neg h1, if_pos h2]
theorem q_ct_j {cv : q_M} {S : q_S} {a n : Nat} (h : q_sh S a = (103, n)) : q_ct cv S a = (n, .inr (.inl (q_jv S a))) := by
  unfold q_ct; rw [h]; rfl
theorem q_ct_r {cv : q_M} {S : q_S} {a t n : Nat} (h : q_sh S a = (t, n)) (h2 : 110 ≤ t) : q_ct cv S a = (n, .inr (.inr (.inr (.inr (fun j => (q_rv S a j).map cv.1))))) := by
  unfold q_ct; rw [h]; rw [if_neg (by omega), if_neg (by omega)]
theorem q_shp {S : q_S} {a t : Nat} (h : (q_sh S a).1 = t) : q_sh S a = (t, (q_sh S a).2) := by rw [← h]
section QHP
variable {p : Program} {l : Launch} {e : Env} {R : Room} {s : State} {m : MethodId} {args : Array Value} {below : List Frame} {meth : Method} {c : Code} {H : Heap} {locs : List Loc} {cells slots : Nat} {Q : State → Prop}
variable {cc : ByteArray} {pc : Nat} {ls : Array Slot} {D : va_G} {cA : Nat → ClassId} {cv : q_M} {base : Nat} {S0 S S' : q_S} {own r len : Nat} {i : Jvm.ClassFile.Instr} {st st' : List Value}
theorem q_hts (E : q_EF D cA cv base S0 s s.heap) {ci : Nat} (hc : ci < 15) : ∀ w ∈ u_ws (q_cname ci) (q_T ci) (q_nf ci), w.before args s = true := fun w hw => E.1 w (q_fin hc w hw) (q_uw w hw) args
/-- a made object of a class below 10 -/
theorem q_obj {a : Nat} (hR : q_R D cA cv base S H) (ha : 1000 ≤ a) {ci n : Nat} (hsh : q_sh S a = (ci, n)) (hc : ci < 10) : va_at D q_cls (cv.1 a, .inr (ci, (List.range n).map (q_fv cv S a))) H := by
  have h := (hR.2.2.1 a ha (hR.lt (by rw [hsh]; show ci ≠ 99; omega))).2 (by rw [hsh]; show ¬ (10 ≤ ci ∧ ci < 100); omega)
  unfold q_cE at h
  rw [hsh] at h
  rw [if_pos (show ci < 100 by omega)] at h
  exact h
theorem q_arr {a : Nat} (hR : q_R D cA cv base S H) (ha : 1000 ≤ a) {t n : Nat} (hsh : q_sh S a = (t, n)) (hc : 100 ≤ t) : va_at D q_cls (cv.1 a, .inl (cA t, q_ct cv S a)) H := by
  have h := (hR.2.2.1 a ha (hR.lt (by rw [hsh]; show t ≠ 99; omega))).2 (by rw [hsh]; show ¬ (10 ≤ t ∧ t < 100); omega)
  unfold q_cE at h
  rw [if_neg (by rw [hsh]; show ¬ t < 100; omega), hsh] at h
  exact h
theorem q_at_obj {S : q_S} {a ci n : Nat} (hsh : q_sh S a = (ci, n)) (hc : ci < 10) (h : va_at D q_cls (cv.1 a, .inr (ci, (List.range n).map (q_fv cv S a))) H) : q_at D cA cv S a H := by
  refine ⟨fun z => by rw [hsh] at z; have : 10 ≤ ci := z.1; omega, fun _ => ?_⟩
  unfold q_cE
  rw [hsh]
  rw [if_pos (show ci < 100 by omega)]
  exact h
theorem q_at_arr {S : q_S} {a t n : Nat} (hsh : q_sh S a = (t, n)) (hc : 100 ≤ t) (h : va_at D q_cls (cv.1 a, .inl (cA t, q_ct cv S a)) H) : q_at D cA cv S a H := by
  refine ⟨fun z => by rw [hsh] at z; have : t < 100 := z.2; omega, fun _ => ?_⟩
  unfold q_cE
  rw [if_neg (by rw [hsh]; show ¬ t < 100; omega), hsh]
  exact h
/-- an old object's field -/
theorem q_oget {a : Nat} (hexec : p.tables.exec = Jvm.exec) (hb : c.code = cc) (hown : s.vm.findClass (q_cname own) = some m.cls) (E : q_EF D cA cv base S0 s s.heap) (ho : q_eqo S S0) (hS : va_S (q_A base) s.heap H locs) (ha : a < 1000) {ci n k x : Nat} (hsh : q_sh S a = (ci, n)) (hc : ci = 15 ∨ ci = 16) (hk : k < n)
    (hl : (Jvm.Cond.fieldLink (q_cname own) x (q_T ci k).1 (q_T ci k).2.1 (q_T ci k).2.2.1).before args s = true ∨ ∃ host, (Jvm.Cond.fieldLinkNest (q_cname own) x (q_T ci k).1 (q_T ci k).2.1 (q_T ci k).2.2.1 host).before args s = true) (hdg : decode cc pc = .ok (.getfield x, 3)) {rest : List Value}
    (kk : W p l e R s m args below meth c H locs cells slots Q (F0 m (pc + 3) ls (q_fv cv S a k :: rest))) : W p l e R s m args below meth c H locs cells slots Q (F0 m pc ls (.ref (cv.1 a) :: rest)) := by
  have hs0 := ho a ha
  have e0 : q_sh S0 a = (ci, n) := hs0.1.symm.trans hsh
  have hfv : q_fv cv S0 a k = q_fv cv S a k := by unfold q_fv; rw [hs0.1, hs0.2.1, hs0.2.2.1]
  have h1 := ((E.2.2.2.2.2.1 a ha).1 (by rw [e0]; exact hc)).2 k (by rw [e0]; exact hk)
  rw [e0, hfv] at h1
  obtain ⟨cf, kc, fi, f, cell, g1, g2, g3, g4, g5, g6⟩ := h1.kept hS.2.1
  rcases hl with hl | ⟨host, hl⟩
  · exact W.getf hexec hb hown hl g1 g2 g3 g4 g5 rfl rfl hdg kk
  · exact va_Wgetf hexec hb hown hl g1 g2 g3 g4 g5 rfl rfl hdg kk
/-- an old array -/
theorem q_oarr {a : Nat} (E : q_EF D cA cv base S0 s s.heap) (ho : q_eqo S S0) (ha : a < 1000) {t n : Nat} (hsh : q_sh S a = (t, n)) {ty : FieldType} (hty : q_ty t = some ty) : va_T ty (cv.1 a) n (fun j => if q_tr t = true then va_rf ((q_rv S a j).map cv.1) else .int (q_iv S a j)) (q_A base) s s.heap ∧ t ≠ 103 := by
  have hs0 := ho a ha
  have e0 : q_sh S0 a = (t, n) := hs0.1.symm.trans hsh
  have h1 := (E.2.2.2.2.2.1 a ha).2 ty (by rw [e0]; exact hty)
  rw [e0] at h1
  rw [hs0.2.1, hs0.2.2.1]
  exact h1
set_option maxHeartbeats 8000000 in
theorem q_hp_W (hexec : p.tables.exec = Jvm.exec) (hb : c.code = cc) (hown : s.vm.findClass (q_cname own) = some m.cls) (E : q_EF D cA cv base S0 s s.heap) (hcv : q_cvk cv base) (hbase : base ≤ s.heap.size) (ho : q_eqo S S0) (hR : q_R D cA cv base S H) (hS : va_S (q_A base) s.heap H locs) (hlk : q_lk own pc i r = true)
    (hpf : ∀ x, i = .putfield x → (q_fd r).2.2.2 = true → meth.name = "<init>" ∧ (q_fd r).1 = q_cname own ∧ Jvm.Cond.fieldLink (q_cname own) x (q_fd r).1 (q_fd r).2.1 (q_fd r).2.2.1 ∈ tables_1) (hdg : decode cc pc = .ok (i, len)) (h : q_hp i r st S = some (len, st', S')) (hr8 : r ≠ 9998) (hnew : ∀ x, i = .new x → r < 10)
    (hce : cells + (q_tp S' - q_tp S) ≤ R.cells) (hsl : slots + (q_sm S' - q_sm S) ≤ R.slots)
    (k : ∀ (H1 : Heap) (locs1 : List Loc), q_R D cA cv base S' H1 → q_eqo S' S0 → va_S (q_A base) s.heap H1 locs1 → W p l e R s m args below meth c H1 locs1 (cells + (q_tp S' - q_tp S)) (slots + (q_sm S' - q_sm S)) Q (F0 m (pc + len) ls (st'.map (q_vv cv)))) :
    W p l e R s m args below meth c H locs cells slots Q (F0 m pc ls (st.map (q_vv cv))) := by
  have hK := E.2.2.2.1
  have hbA : ∀ a, 1000 ≤ a → q_A base (cv.1 a) := fun a ha => by rw [hcv a ha]; exact Nat.le_add_right _ _
  unfold q_hp at h
  split at h
  · -- getfield
    rename_i x a st1
    split at h
    · rename_i hfk
      cases h
      unfold q_fk at hfk
      rw [Bool.and_eq_true] at hfk
      have hsh := of_decide_eq_true hfk.1
      have hwh := of_decide_eq_true hfk.2
      have hk0 := k H locs hR ho hS
      rw [Nat.sub_self, Nat.sub_self, Nat.add_zero, Nat.add_zero] at hk0
      have hin3 : q_in3 q_fl own x r = true := by
        have : (r == 9998 || q_in3 q_fl own x r) = true := hlk
        rw [Bool.or_eq_true] at this
        rcases this with h | h
        · exact absurd (beq_iff_eq.mp h) hr8
        · exact h
      obtain ⟨⟨nest, hmem⟩, h17, hkn, hkf, hor⟩ := q_flink hin3
      have hl := E.link hmem args
      have hkf' : r % 2 = q_kf (q_sh S a).1 (r / 2 % 64) := by rw [hsh]; exact hkf
      rw [List.map_cons, q_fval hkf'] at hk0
      rcases Nat.lt_or_ge (r / 128) 10 with h10 | h10
      · exact q_cget hexec hb (q_hts E (by omega)) (fun w hw => hw) hown hK (q_obj hR (hwh.mpr h10) hsh h10) (q_cls_at (by omega)) (r / 2 % 64) hkn hl (q_fget hkn) hdg hk0
      · exact q_oget hexec hb hown E ho hS (Nat.not_le.mp fun z => by have := hwh.mp z; omega) hsh (by omega) hkn hl hdg hk0
    · cases h
  · -- putfield, an int
    rename_i x y a st1
    split at h
    · rename_i hc0
      cases h
      simp only [Bool.and_eq_true, decide_eq_true_eq] at hc0
      obtain ⟨hfk, ha, hr2, hz⟩ := hc0
      unfold q_fk at hfk
      simp only [Bool.and_eq_true, decide_eq_true_eq] at hfk
      obtain ⟨hsh, hwh⟩ := hfk
      have h10 : r / 128 < 10 := hwh.mp ha
      have hin3 : q_in3 q_fl own x r = true := by
        have : (r == 9998 || q_in3 q_fl own x r) = true := hlk
        rw [Bool.or_eq_true] at this
        rcases this with h | h
        · exact absurd (beq_iff_eq.mp h) hr8
        · exact h
      obtain ⟨⟨nest, hmem⟩, h17, hkn, hkf, hor⟩ := q_flink hin3
      have hl := E.link hmem args
      have hfin : (q_T (r / 128) (r / 2 % 64)).2.2.2 = false ∨ ((q_T (r / 128) (r / 2 % 64)).2.2.2 = true ∧ meth.name = "<init>" ∧ (q_T (r / 128) (r / 2 % 64)).1 = q_cname own ∧ (Jvm.Cond.fieldLink (q_cname own) x (q_T (r / 128) (r / 2 % 64)).1 (q_T (r / 128) (r / 2 % 64)).2.1 (q_T (r / 128) (r / 2 % 64)).2.2.1).before args s = true) := by
        cases hf : (q_fd r).2.2.2 with
        | false => exact Or.inl hf
        | true =>
          obtain ⟨f1, f2, f3⟩ := hpf x rfl hf
          exact Or.inr ⟨hf, f1, f2, E.1 _ (List.mem_append_right _ f3) rfl args⟩
      have hkf0 : q_kf (r / 128) (r / 2 % 64) = 0 := by rw [← hkf]; exact hr2
      have hnf := q_fI h10 hkn hkf0 (show q_fd r = q_T (r / 128) (r / 2 % 64) from rfl) hz
      refine q_cput hexec hb (q_hts E (by omega)) (fun w hw => hw) (q_tyf (r / 128)) (q_fty (by omega)) (q_fnm (by omega)) hown hK hS (hbA a ha) (q_obj hR ha hsh h10) (q_cls_at (by omega)) (r / 2 % 64) hkn hl hfin hnf.1 hnf.2 (by simpa using hkn) hdg (fun H1 locs1 hat hup => ?_)
      have hsh0 : q_kf (q_sh S a).1 (r / 2 % 64) = 0 := by rw [hsh]; exact hkf0
      have hat : va_at D q_cls (cv.1 a, .inr (r / 128, ((List.range (q_nf (r / 128))).map (q_fv cv S a)).set (r / 2 % 64) (.int y))) H1 := hat
      rw [q_fsetI hsh0] at hat
      have hk0 := k H1 locs1 (hR.put hcv ha hup (q_at_obj (S := q_sI S a (r / 2 % 64) y) hsh h10 hat) (hR.lt (by rw [hsh]; show r / 128 ≠ 99; omega)) (fun b hb => q_sI_same hb) rfl) (ho.sI ha) hup.2.2
      rw [show q_tp (q_sI S a (r / 2 % 64) y) - q_tp S = 0 from Nat.sub_self _, show q_sm (q_sI S a (r / 2 % 64) y) - q_sm S = 0 from Nat.sub_self _, Nat.add_zero, Nat.add_zero] at hk0
      exact hk0
    · cases h
  · -- putfield, a reference
    rename_i x y a st1
    split at h
    · rename_i hc0
      cases h
      simp only [Bool.and_eq_true, decide_eq_true_eq] at hc0
      obtain ⟨hfk, ha, hr2⟩ := hc0
      unfold q_fk at hfk
      simp only [Bool.and_eq_true, decide_eq_true_eq] at hfk
      obtain ⟨hsh, hwh⟩ := hfk
      have h10 : r / 128 < 10 := hwh.mp ha
      have hin3 : q_in3 q_fl own x r = true := by
        have : (r == 9998 || q_in3 q_fl own x r) = true := hlk
        rw [Bool.or_eq_true] at this
        rcases this with h | h
        · exact absurd (beq_iff_eq.mp h) hr8
        · exact h
      obtain ⟨⟨nest, hmem⟩, h17, hkn, hkf, hor⟩ := q_flink hin3
      have hl := E.link hmem args
      have hfin : (q_T (r / 128) (r / 2 % 64)).2.2.2 = false ∨ ((q_T (r / 128) (r / 2 % 64)).2.2.2 = true ∧ meth.name = "<init>" ∧ (q_T (r / 128) (r / 2 % 64)).1 = q_cname own ∧ (Jvm.Cond.fieldLink (q_cname own) x (q_T (r / 128) (r / 2 % 64)).1 (q_T (r / 128) (r / 2 % 64)).2.1 (q_T (r / 128) (r / 2 % 64)).2.2.1).before args s = true) := by
        cases hf : (q_fd r).2.2.2 with
        | false => exact Or.inl hf
        | true =>
          obtain ⟨f1, f2, f3⟩ := hpf x rfl hf
          exact Or.inr ⟨hf, f1, f2, E.1 _ (List.mem_append_right _ f3) rfl args⟩
      have hkf0 : q_kf (r / 128) (r / 2 % 64) = 1 := by rw [← hkf]; exact hr2
      have hnf := q_fRf h10 hkn hkf0 (cv.1 y)
      refine q_cput hexec hb (q_hts E (by omega)) (fun w hw => hw) (q_tyf (r / 128)) (q_fty (by omega)) (q_fnm (by omega)) hown hK hS (hbA a ha) (q_obj hR ha hsh h10) (q_cls_at (by omega)) (r / 2 % 64) hkn hl hfin hnf.1 hnf.2 (by simpa using hkn) hdg (fun H1 locs1 hat hup => ?_)
      have hsh0 : q_kf (q_sh S a).1 (r / 2 % 64) = 1 := by rw [hsh]; exact hkf0
      have e1 := q_fsetR (cv := cv) (n := q_nf (r / 128)) (x := some y) hsh0
      have hat : va_at D q_cls (cv.1 a, .inr (r / 128, ((List.range (q_nf (r / 128))).map (q_fv cv S a)).set (r / 2 % 64) (va_rf ((some y).map cv.1)))) H1 := hat
      rw [e1] at hat
      have hk0 := k H1 locs1 (hR.put hcv ha hup (q_at_obj (S := q_sR S a (r / 2 % 64) (some y)) hsh h10 hat) (hR.lt (by rw [hsh]; show r / 128 ≠ 99; omega)) (fun b hb => q_sR_same hb) rfl) (ho.sR ha) hup.2.2
      rw [show q_tp (q_sR S a (r / 2 % 64) (some y)) - q_tp S = 0 from Nat.sub_self _, show q_sm (q_sR S a (r / 2 % 64) (some y)) - q_sm S = 0 from Nat.sub_self _, Nat.add_zero, Nat.add_zero] at hk0
      exact hk0
    · cases h
  · -- getstatic
    rename_i x
    cases hv : q_sv r with
    | none => rw [hv] at h; cases h
    | some v =>
      rw [hv] at h
      cases h
      have hk0 := k H locs hR ho hS
      rw [Nat.sub_self, Nat.sub_self, Nat.add_zero, Nat.add_zero] at hk0
      have hin3 : q_in3 q_sl own x r = true := by
        have : (r == 9998 || q_in3 q_sl own x r) = true := hlk
        rw [Bool.or_eq_true] at this
        rcases this with h | h
        · exact absurd (beq_iff_eq.mp h) hr8
        · exact h
      obtain ⟨nest, hmem⟩ := q_slink hin3
      have hZ := E.2.2.2.2.2.2 r v hv
      rcases E.link hmem args with hl | ⟨host, hl⟩
      · exact va_gets hexec hb hZ hS hown hl (fun _ h => h) hdg hk0
      · exact va_getsN hexec hb hZ hS hown hl (fun _ h => h) hdg hk0
  · -- ldc2_w
    rename_i x
    cases hv : q_longs[r]? with
    | none => rw [hv] at h; cases h
    | some v =>
      rw [hv] at h
      cases h
      have hk0 := k H locs hR ho hS
      rw [Nat.sub_self, Nat.sub_self, Nat.add_zero, Nat.add_zero] at hk0
      have hmem := q_jlink (show q_in4 q_jl own x r = true from hlk)
      have hvd : q_longs.getD r 0 = v := by rw [List.getD_eq_getElem?_getD, hv]; rfl
      rw [hvd] at hmem
      exact lv_ldc2 hexec hb hown (E.1 _ (List.mem_append_right _ hmem) rfl args) hdg hk0
  · -- newarray
    rename_i ty x st1
    split at h
    · rename_i hc0
      cases h
      simp only [Bool.and_eq_true, decide_eq_true_eq] at hc0
      obtain ⟨h100, hx, hN⟩ := hc0
      have hrt : q_tc ty = r := beq_iff_eq.mp (show (q_tc ty == r) = true from hlk)
      subst hrt
      obtain ⟨g1, g2, g3, g4⟩ := q_arrT h100
      rw [q_dtp] at hce
      rw [q_dsm] at hsl
      refine q_cnewa (D := D) (cl := q_cls) (cA := cA (q_tc ty)) (a0 := q_ct cv (q_new S (q_tc ty, x.toNatClampNeg) x.toNatClampNeg) (q_tp S)) hexec hb (E.1 _ (List.mem_append_right _ g1) rfl args) hS (fun y => by rw [q_ct_new]; exact g4 _ y) hx rfl hN hce hsl (g3 _ _ (E.2.2.2.2.1 _ _ g2).2) hdg (fun H1 hat hgr => ?_)
      have hk0 := k H1 locs (hR.grow hcv hgr (q_at_arr q_new_sh h100 (by rw [hR.top hcv]; exact hat))) (ho.new hR.1) hgr.2.2
      rw [q_dtp, q_dsm, List.map_cons, show q_vv cv (.ref (q_tp S)) = .ref (cv.1 (q_tp S)) from rfl, hR.top hcv] at hk0
      exact hk0
    · cases h
  · -- anewarray
    rename_i y x st1
    split at h
    · rename_i hc0
      cases h
      simp only [Bool.and_eq_true, decide_eq_true_eq] at hc0
      obtain ⟨hx, hN⟩ := hc0
      obtain ⟨hmem, hrr⟩ := q_alink (show q_in4 q_al own y r = true from hlk)
      rw [q_dtp] at hce
      rw [q_dsm] at hsl
      have h100 : 100 ≤ r := by omega
      have hct : q_ct cv (q_new S (r, x.toNatClampNeg) x.toNatClampNeg) (q_tp S) = (x.toNatClampNeg, .inr (.inr (.inr (.inr (fun _ => none))))) := by
        rw [q_ct_new, if_neg (by omega), if_neg (by omega)]
      have key : ∀ C : String, q_cname (r - 110) = C → va_AO C s → va_RA s (cA r) (.object C) → W p l e R s m args below meth c H locs cells slots Q (F0 m pc ls (.int x :: st1.map (q_vv cv))) := by
        intro C hC hAO hRA
        obtain ⟨kA, comp, k1, k2, k3, k4⟩ := hRA
        refine q_cnewq (D := D) (cl := q_cls) (cA := cA r) hexec hb hown (E.1 _ (List.mem_append_right _ (hC ▸ hmem)) rfl args) hAO hS hx rfl hN hce hsl k4 hdg (fun H1 hat hgr => ?_)
        have hk0 := k H1 locs (hR.grow hcv hgr (q_at_arr q_new_sh h100 (by rw [hR.top hcv, hct]; exact hat))) (ho.new hR.1) hgr.2.2
        rw [q_dtp, q_dsm, List.map_cons, show q_vv cv (.ref (q_tp S)) = .ref (cv.1 (q_tp S)) from rfl, hR.top hcv] at hk0
        exact hk0
      rcases hrr with rfl | rfl
      · exact key "PolicyForge$Policy" rfl E.2.2.1.1 (E.2.2.2.2.1 111 _ rfl).2
      · exact key "PolicyForge$Sign" rfl E.2.2.1.2 (E.2.2.2.2.1 125 _ rfl).2
    · cases h
  · -- new
    rename_i x
    cases h
    have h10 : r < 10 := hnew x rfl
    have hmem := q_nlink (show q_in4 q_nl own x r = true from hlk)
    rw [q_dtp] at hce
    rw [q_dsm] at hsl
    refine q_cnew (ci := r) (N := q_nf r) (fs := (List.range (q_nf r)).map (q_fv cv (q_new S (r, q_nf r) (q_nf r)) (q_tp S))) hexec hb (q_hts E (by omega)) (fun w hw => hw) (q_tyf r) (q_fty (by omega)) hown (E.1 _ (List.mem_append_right _ hmem) rfl args) (E.1 _ (q_inst (by omega)).1 rfl args) (E.1 _ (q_inst (by omega)).2 rfl args) hK hS (q_cls_at (by omega)) (fun j hj => ?_) hce hsl hdg (fun H1 hat hgr => ?_)
    · rw [q_fdf h10 j hj]
      unfold vp_V
      rw [List.getD_eq_getElem?_getD, q_fget hj, q_fv_new]
      rfl
    · have hk0 := k H1 locs (hR.grow hcv hgr (q_at_obj q_new_sh h10 (by rw [hR.top hcv]; exact hat))) (ho.new hR.1) hgr.2.2
      rw [q_dtp, q_dsm, List.map_cons, show q_vv cv (.ref (q_tp S)) = .ref (cv.1 (q_tp S)) from rfl, hR.top hcv] at hk0
      exact hk0
  · -- iaload
    rename_i j a st1
    split at h
    · rename_i hc0
      cases h
      simp only [Bool.and_eq_true, decide_eq_true_eq] at hc0
      obtain ⟨ht, hix⟩ := hc0
      have hsh := q_shp ht
      have hk0 := k H locs hR ho hS
      rw [Nat.sub_self, Nat.sub_self, Nat.add_zero, Nat.add_zero] at hk0
      rcases Nat.lt_or_ge a 1000 with ha | ha
      · exact va_ti hexec hb (q_oarr E ho ha hsh (ty := .int) rfl).1 hS (q_in_of hix) (v := .int (q_iv S a j.toNatClampNeg)) rfl hdg hk0
      · have hat := q_arr hR ha hsh (by omega)
        rw [q_ct_i hsh (by omega) (by omega)] at hat
        exact q_cial hexec hb hat (E.2.2.2.2.1 100 _ rfl).1 (q_in_of hix) hdg hk0
    · cases h
  · -- caload
    rename_i j a st1
    split at h
    · rename_i hc0
      cases h
      simp only [Bool.and_eq_true, decide_eq_true_eq] at hc0
      obtain ⟨ht, hix⟩ := hc0
      have hsh := q_shp ht
      have hk0 := k H locs hR ho hS
      rw [Nat.sub_self, Nat.sub_self, Nat.add_zero, Nat.add_zero] at hk0
      rcases Nat.lt_or_ge a 1000 with ha | ha
      · exact va_tc hexec hb (q_oarr E ho ha hsh (ty := .char) rfl).1 hS (q_in_of hix) (v := .int (q_iv S a j.toNatClampNeg)) rfl hdg hk0
      · have hat := q_arr hR ha hsh (by omega)
        rw [q_ct_i hsh (by omega) (by omega)] at hat
        exact q_ccal hexec hb hat (E.2.2.2.2.1 101 _ rfl).1 (q_in_of hix) hdg hk0
    · cases h
  · -- baload
    rename_i j a st1
    split at h
    · rename_i hc0
      cases h
      simp only [Bool.and_eq_true, Bool.or_eq_true, decide_eq_true_eq] at hc0
      obtain ⟨ht, hix⟩ := hc0
      have hk0 := k H locs hR ho hS
      rw [Nat.sub_self, Nat.sub_self, Nat.add_zero, Nat.add_zero] at hk0
      rcases ht with ht | ht
      · have hsh := q_shp ht
        rcases Nat.lt_or_ge a 1000 with ha | ha
        · exact va_tz hexec hb (q_oarr E ho ha hsh (ty := .boolean) rfl).1 hS (q_in_of hix) (v := .int (q_iv S a j.toNatClampNeg)) rfl hdg hk0
        · have hat := q_arr hR ha hsh (by omega)
          rw [q_ct_i hsh (by omega) (by omega)] at hat
          exact q_czal hexec hb hat (E.2.2.2.2.1 102 _ rfl).1 (q_in_of hix) hdg hk0
      · have hsh := q_shp ht
        rcases Nat.lt_or_ge a 1000 with ha | ha
        · exact va_tb hexec hb (q_oarr E ho ha hsh (ty := .byte) rfl).1 hS (q_in_of hix) (v := .int (q_iv S a j.toNatClampNeg)) rfl hdg hk0
        · have hat := q_arr hR ha hsh (by omega)
          rw [q_ct_i hsh (by omega) (by omega)] at hat
          exact q_cbal hexec hb hat (E.2.2.2.2.1 104 _ rfl).1 (q_in_of hix) hdg hk0
    · cases h
  · -- laload
    rename_i j a st1
    split at h
    · rename_i hc0
      cases h
      simp only [Bool.and_eq_true, decide_eq_true_eq] at hc0
      obtain ⟨ht, hix⟩ := hc0
      have hsh := q_shp ht
      have hk0 := k H locs hR ho hS
      rw [Nat.sub_self, Nat.sub_self, Nat.add_zero, Nat.add_zero] at hk0
      rcases Nat.lt_or_ge a 1000 with ha | ha
      · exact absurd rfl (q_oarr E ho ha hsh (ty := .long) rfl).2
      · have hat := q_arr hR ha hsh (by omega)
        rw [q_ct_j hsh] at hat
        exact q_clal hexec hb hat (E.2.2.2.2.1 103 _ rfl).1 (q_in_of hix) hdg hk0
    · cases h
  · -- aaload
    rename_i j a st1
    split at h
    · rename_i hc0
      cases h
      rw [Bool.and_eq_true] at hc0
      obtain ⟨ht, hix⟩ := hc0
      have hk0 := k H locs hR ho hS
      rw [Nat.sub_self, Nat.sub_self, Nat.add_zero, Nat.add_zero, List.map_cons, q_vv_rf] at hk0
      have key : ∀ (t : Nat) (C : String), (q_sh S a).1 = t → 110 ≤ t → q_tr t = true → q_ty t = some (.object C) → W p l e R s m args below meth c H locs cells slots Q (F0 m pc ls (.int j :: .ref (cv.1 a) :: st1.map (q_vv cv))) := by
        intro t C ht h110 htr hty
        have hsh := q_shp ht
        rcases Nat.lt_or_ge a 1000 with ha | ha
        · exact vb_tq hexec hb (q_oarr E ho ha hsh hty).1 hS (q_in_of hix) (v := va_rf ((q_rv S a j.toNatClampNeg).map cv.1)) (if_pos htr) hdg hk0
        · have hat := q_arr hR ha hsh (by omega)
          rw [q_ct_r hsh h110] at hat
          exact q_caal hexec hb hat (E.2.2.2.2.1 t _ hty).1 (q_in_of hix) hdg hk0
      unfold q_tr at ht
      simp only [Bool.or_eq_true, decide_eq_true_eq] at ht
      rcases ht with ht | ht
      · exact key 111 _ ht (by omega) rfl rfl
      · exact key 125 _ ht (by omega) rfl rfl
    · cases h
  · -- iastore
    rename_i x j a st1
    split at h
    · rename_i hc0
      cases h
      simp only [Bool.and_eq_true, decide_eq_true_eq] at hc0
      obtain ⟨ha, ht, hix⟩ := hc0
      have hsh := q_shp ht
      have hat := q_arr hR ha hsh (by omega)
      rw [q_ct_i hsh (by omega) (by omega)] at hat
      refine q_cias hexec hb hS (hbA a ha) hat (E.2.2.2.2.1 100 _ rfl).1 (q_in_of hix) hdg (fun H1 locs1 hat hup => ?_)
      have hat2 : va_at D q_cls (cv.1 a, .inl (cA 100, q_ct cv (q_sI S a j.toNatClampNeg x) a)) H1 := by
        rw [q_ct_i (S := q_sI S a j.toNatClampNeg x) hsh (by omega) (by omega), show q_iv (q_sI S a j.toNatClampNeg x) a = upd (q_iv S a) j.toNatClampNeg x from q_u2_upd]
        exact hat
      have hk0 := k H1 locs1 (hR.put hcv ha hup (q_at_arr (S := q_sI S a j.toNatClampNeg x) hsh (by omega) hat2) (hR.lt (by rw [ht]; decide)) (fun b hb => q_sI_same hb) rfl) (ho.sI ha) hup.2.2
      rw [show q_tp (q_sI S a j.toNatClampNeg x) - q_tp S = 0 from Nat.sub_self _, show q_sm (q_sI S a j.toNatClampNeg x) - q_sm S = 0 from Nat.sub_self _, Nat.add_zero, Nat.add_zero] at hk0
      exact hk0
    · cases h
  · -- castore
    rename_i x j a st1
    split at h
    · rename_i hc0
      cases h
      simp only [Bool.and_eq_true, decide_eq_true_eq] at hc0
      obtain ⟨ha, ht, hix⟩ := hc0
      have hsh := q_shp ht
      have hat := q_arr hR ha hsh (by omega)
      rw [q_ct_i hsh (by omega) (by omega)] at hat
      refine q_ccas hexec hb hS (hbA a ha) hat (E.2.2.2.2.1 101 _ rfl).1 (q_in_of hix) hdg (fun H1 locs1 hat hup => ?_)
      have hat2 : va_at D q_cls (cv.1 a, .inl (cA 101, q_ct cv (q_sI S a j.toNatClampNeg (vp_nar .char x)) a)) H1 := by
        rw [q_ct_i (S := q_sI S a j.toNatClampNeg (vp_nar .char x)) hsh (by omega) (by omega), show q_iv (q_sI S a j.toNatClampNeg (vp_nar .char x)) a = upd (q_iv S a) j.toNatClampNeg (vp_nar .char x) from q_u2_upd]
        exact hat
      have hk0 := k H1 locs1 (hR.put hcv ha hup (q_at_arr (S := q_sI S a j.toNatClampNeg (vp_nar .char x)) hsh (by omega) hat2) (hR.lt (by rw [ht]; decide)) (fun b hb => q_sI_same hb) rfl) (ho.sI ha) hup.2.2
      rw [show q_tp (q_sI S a j.toNatClampNeg (vp_nar .char x)) - q_tp S = 0 from Nat.sub_self _, show q_sm (q_sI S a j.toNatClampNeg (vp_nar .char x)) - q_sm S = 0 from Nat.sub_self _, Nat.add_zero, Nat.add_zero] at hk0
      exact hk0
    · cases h
  · -- bastore
    rename_i x j a st1
    split at h
    · rename_i hc0
      cases h
      simp only [Bool.and_eq_true, decide_eq_true_eq] at hc0
      obtain ⟨ha, ht, hix⟩ := hc0
      have hsh := q_shp ht
      have hat := q_arr hR ha hsh (by omega)
      rw [q_ct_i hsh (by omega) (by omega)] at hat
      refine q_czas hexec hb hS (hbA a ha) hat (E.2.2.2.2.1 102 _ rfl).1 (q_in_of hix) hdg (fun H1 locs1 hat hup => ?_)
      have hat2 : va_at D q_cls (cv.1 a, .inl (cA 102, q_ct cv (q_sI S a j.toNatClampNeg (vp_nar .boolean x)) a)) H1 := by
        rw [q_ct_i (S := q_sI S a j.toNatClampNeg (vp_nar .boolean x)) hsh (by omega) (by omega), show q_iv (q_sI S a j.toNatClampNeg (vp_nar .boolean x)) a = upd (q_iv S a) j.toNatClampNeg (vp_nar .boolean x) from q_u2_upd]
        exact hat
      have hk0 := k H1 locs1 (hR.put hcv ha hup (q_at_arr (S := q_sI S a j.toNatClampNeg (vp_nar .boolean x)) hsh (by omega) hat2) (hR.lt (by rw [ht]; decide)) (fun b hb => q_sI_same hb) rfl) (ho.sI ha) hup.2.2
      rw [show q_tp (q_sI S a j.toNatClampNeg (vp_nar .boolean x)) - q_tp S = 0 from Nat.sub_self _, show q_sm (q_sI S a j.toNatClampNeg (vp_nar .boolean x)) - q_sm S = 0 from Nat.sub_self _, Nat.add_zero, Nat.add_zero] at hk0
      exact hk0
    · cases h
  · -- lastore
    rename_i x j a st1
    split at h
    · rename_i hc0
      cases h
      simp only [Bool.and_eq_true, decide_eq_true_eq] at hc0
      obtain ⟨ha, ht, hix⟩ := hc0
      have hsh := q_shp ht
      have hat := q_arr hR ha hsh (by omega)
      rw [q_ct_j hsh] at hat
      refine q_clas hexec hb hS (hbA a ha) hat (E.2.2.2.2.1 103 _ rfl).1 (q_in_of hix) hdg (fun H1 locs1 hat hup => ?_)
      have hat2 : va_at D q_cls (cv.1 a, .inl (cA 103, q_ct cv (q_sJ S a j.toNatClampNeg x) a)) H1 := by
        rw [q_ct_j (S := q_sJ S a j.toNatClampNeg x) hsh, show q_jv (q_sJ S a j.toNatClampNeg x) a = vp_updL (q_jv S a) j.toNatClampNeg x from q_u2_updL]
        exact hat
      have hk0 := k H1 locs1 (hR.put hcv ha hup (q_at_arr (S := q_sJ S a j.toNatClampNeg x) hsh (by omega) hat2) (hR.lt (by rw [ht]; decide)) (fun b hb => q_sJ_same hb) rfl) (ho.sJ ha) hup.2.2
      rw [show q_tp (q_sJ S a j.toNatClampNeg x) - q_tp S = 0 from Nat.sub_self _, show q_sm (q_sJ S a j.toNatClampNeg x) - q_sm S = 0 from Nat.sub_self _, Nat.add_zero, Nat.add_zero] at hk0
      exact hk0
    · cases h
  · -- aastore
    rename_i v j a st1
    split at h
    · rename_i hc0
      cases h
      simp only [Bool.and_eq_true, decide_eq_true_eq] at hc0
      obtain ⟨ha, htr, hvt, hvw, hix⟩ := hc0
      have key : ∀ (t : Nat) (C : String), (q_sh S a).1 = t → 110 ≤ t → q_ty t = some (.object C) → (∃ cell : Cell, H[cv.1 v]? = some cell ∧ cell.vm.isStatics = false ∧ s.vm.findClass C = some cell.cls) → (∃ cC, ClassAt s C cC) → W p l e R s m args below meth c H locs cells slots Q (F0 m pc ls (.ref (cv.1 v) :: .int j :: .ref (cv.1 a) :: st'.map (q_vv cv))) := by
        intro t C ht h110 hty hcell hcC
        have hsh := q_shp ht
        have hat := q_arr hR ha hsh (by omega)
        rw [q_ct_r hsh h110] at hat
        refine q_caas hexec hb hS (hbA a ha) hat (E.2.2.2.2.1 t _ hty).2 hcell hcC (q_in_of hix) hdg (fun H1 locs1 hat hup => ?_)
        have hat2 : va_at D q_cls (cv.1 a, .inl (cA t, q_ct cv (q_sR S a j.toNatClampNeg (some v)) a)) H1 := by
          rw [q_ct_r (S := q_sR S a j.toNatClampNeg (some v)) hsh h110, show (fun y => (q_rv (q_sR S a j.toNatClampNeg (some v)) a y).map cv.1) = va_up (fun y => (q_rv S a y).map cv.1) j.toNatClampNeg ((some v).map cv.1) from q_u2_up]
          exact hat
        have hk0 := k H1 locs1 (hR.put hcv ha hup (q_at_arr (S := q_sR S a j.toNatClampNeg (some v)) hsh (by omega) hat2) (hR.lt (by rw [ht]; omega)) (fun b hb => q_sR_same hb) rfl) (ho.sR ha) hup.2.2
        rw [show q_tp (q_sR S a j.toNatClampNeg (some v)) - q_tp S = 0 from Nat.sub_self _, show q_sm (q_sR S a j.toNatClampNeg (some v)) - q_sm S = 0 from Nat.sub_self _, Nat.add_zero, Nat.add_zero] at hk0
        exact hk0
      unfold q_tr at htr
      simp only [Bool.or_eq_true, decide_eq_true_eq] at htr
      rcases htr with ht | ht
      · have hv1 : (q_sh S v).1 = 1 := by rw [hvt, ht]
        obtain ⟨r1, h1, cell, q1, q2, q3, -⟩ := q_obj hR (hvw.mp ht) (q_shp hv1) (by omega)
        have hcl := (hK.1 1 _ (q_cls_at (c := 1) (by omega))).2
        refine key 111 "PolicyForge$Policy" ht (by omega) rfl ⟨cell, q1, by rw [q3]; rfl, by rw [q2]; exact hcl.1⟩ ⟨_, hcl⟩
      · have hv1 : (q_sh S v).1 = 15 := by rw [hvt, ht]
        have hv2 : v < 1000 := Nat.not_le.mp fun z => by have := hvw.mpr z; omega
        have hs0 := ho v hv2
        obtain ⟨cell, g1, g2, g3, -⟩ := (((E.2.2.2.2.2.1 v hv2).1 (Or.inl (by rw [← hs0.1]; exact hv1))).1).kept hS.2.1
        have e15 : (q_sh S0 v).1 = 15 := by rw [← hs0.1]; exact hv1
        rw [e15] at g3
        have hin := E.1 (.instantiable "PolicyForge$Sign" 5) (List.mem_append_right _ q_signI) rfl args
        obtain ⟨cC, kC, hfc, hkC, hkind, -⟩ := Cond.instantiable_spec hin
        exact key 125 "PolicyForge$Sign" ht (by omega) rfl ⟨cell, g1, g2, g3⟩ ⟨cC, hfc, kC, hkC, hkind⟩
    · cases h
  · -- arraylength
    rename_i a st1
    split at h
    · rename_i hc0
      cases h
      have hk0 := k H locs hR ho hS
      rw [Nat.sub_self, Nat.sub_self, Nat.add_zero, Nat.add_zero] at hk0
      obtain ⟨ty, hty⟩ := Option.isSome_iff_exists.mp hc0
      have hsh := q_shp (S := S) (a := a) rfl
      have h100 : 100 ≤ (q_sh S a).1 := by
        unfold q_ty at hty
        by_cases z : 100 ≤ (q_sh S a).1
        · exact z
        · rw [if_neg (by omega), if_neg (by omega), if_neg (by omega), if_neg (by omega), if_neg (by omega), if_neg (by omega), if_neg (by omega)] at hty
          cases hty
      rcases Nat.lt_or_ge a 1000 with ha | ha
      · exact va_tlen hexec hb (q_oarr E ho ha hsh hty).1 hS rfl hdg hk0
      · exact q_clen (ty := ty) hexec hb (q_arr hR ha hsh h100) (E.2.2.2.2.1 _ _ hty).1 hdg hk0
    · cases h
  · cases h
end QHP
