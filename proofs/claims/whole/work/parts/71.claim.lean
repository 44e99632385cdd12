/-! THE CLAIM OUT OF THE PURE MACHINE: whoever shows that the pure machine answers 1 at every script has shown the claim. -/
def q_pureStmt : Prop := ∀ (L : Nat) (xs : Nat → Int32), L ≤ 3072 → ∃ (n : Nat) (S' : q_S), q_run (q_exec 2047 n) 2048 n 205 0 [(0, .ref 999)] [] (q_S0 L xs) = some (.returned (some (.int 1)), S') ∧ q_tp S' ≤ 602024 ∧ q_sm S' ≤ 7293034
theorem q_205 : (q_mm 205).2.1 = code ∧ (q_mm 205).2.2.1 = 7 ∧ (q_mm 205).2.2.2.1 = ret ∧ (q_mm 205).1.name = "law" ∧ q_cname (q_mm 205).2.2.2.2.1 = R_law ∧ q_hx 205 = [] := ⟨rfl, rfl, rfl, rfl, rfl, rfl⟩
theorem whole_start (hpure : q_pureStmt) {p : Program} {e : Env} {s : State} {m : MethodId} {below : List Frame} {meth : Method} {c : Code} (l : Launch) {b L : Nat} {xs : Nat → Int32} (hL : L ≤ 3072) (C0 : lw_At p s m meth c b L xs) (hnm : meth.name = "law") (htab : c.exceptionTable.toList = []) (htr : ∀ e : Env, l.admits e → e.platform.stackTraces = false) :
    W p l e room_1 s m #[Value.ref b] below meth c s.heap [] 0 0 (lw_Z below #[Value.ref b] s) (entryFrame m ([Value.ref b] : List Value).toArray 7) := by
  obtain ⟨n, S', hrun, htp, hsm⟩ := hpure L xs hL
  obtain ⟨D, cA, cv, hE, hcv, hinj, h999, hR⟩ := q_laid C0 hL
  obtain ⟨a1, a2, a3, a4, a5, -, -, -, a9, -⟩ := C0
  obtain ⟨k1, k2, k3, k4, k5, k6⟩ := q_205
  have hC : q_Cx 205 p l s m meth c D cA cv s.heap.size (q_S0 L xs) := ⟨by decide, a1, by rw [k1]; exact a2, by rw [k2]; exact a4, by rw [k3]; exact a3, a9, by rw [k4]; exact hnm, by rw [k5]; exact a5, hE, hcv, hinj, Nat.le_refl _, q_nost hcv hR, by rw [htab, k6]; rfl, htr⟩
  have hup := q_run_up (q_exec_up 2047 n) _ _ _ _ _ _ _ _ hrun
  have t0 : q_tp (q_S0 L xs) = 1000 := rfl
  have s0 : q_sm (q_S0 L xs) = 0 := rfl
  rw [lg_entry_eq]
  have hl : lv_has ((lg_sl [Value.ref b] ++ List.replicate (7 - (lg_sl [Value.ref b]).length) Slot.unset).toArray) (q_mm 205).2.2.1 (q_lm cv [(0, .ref 999)]) := by
    have h1 := lv_entry [Value.ref b] (n := 7) (show 1 ≤ 7 by decide)
    have h2 : q_lm cv [(0, .ref 999)] = lv_args 0 [Value.ref b] := by
      show [(0, Value.ref (cv.1 999))] = [(0, Value.ref b)]
      rw [h999]
    rw [h2, k2]
    exact h1
  have K := q_run_W (R := room_1) (e := e) (args := #[Value.ref b]) (below := below) hC (d := 2048) (by decide) (by decide) (q_exec_up 2047 n) (fun d' h => by cases h; exact q_exec_OK htr hcv hinj 2047 n) (o := .returned (some (.int 1))) (S' := S') (mc := q_tp S' - 1000) (ms := q_sm S' - 0) (by show _ ≤ 601024; omega) (by show _ ≤ 7293034; omega) n 0 [(0, .ref 999)] [] (q_S0 L xs) s.heap [] 0 0 _ hrun hR (fun a _ => ⟨rfl, rfl, rfl, rfl⟩) ⟨Nat.le_refl _, fun _ _ _ => rfl, fun _ h => by cases h⟩ hl (Nat.zero_add _) (Nat.zero_add _)
  refine q_Wm (fun t ht => ?_) K
  obtain ⟨o, b1, b2, ⟨b3, -, -, -, -⟩, J, ⟨b4, b5⟩, b6⟩ := ht
  have ho : o = .returned (some (.int 1)) := b3
  subst ho
  refine ⟨_, b1, b2, rfl, ⟨_, rfl⟩, b4, ?_⟩
  have hd := State.sameButNew.drop_fresh (L := []) (J := J) b5 (fun x hx => b6 x hx)
  exact hd.mono (by omega) (by omega)
set_option maxHeartbeats 4000000 in
theorem lw_walk (hpure : q_pureStmt) (l : Launch) (htr : ∀ e : Env, l.admits e → e.platform.stackTraces = false) (b : Addr) (xs : List Int32) : MetFree l x (headSpec (Jvm.Cond.code x code maxLocals ret :: tables_1) room_1) (lw_P b xs) (fun _ _ _ _ _ => True) lw_Q := by
  refine MetFree.of_bodyS (code := code) (maxLocals := maxLocals) (ret := ret) (by decide) ?_ ?_
  · intro args s m h hn
    obtain ⟨meth, c, h1, h2, h3, h4, h5, h6, -, -⟩ := Cond.code_spec hn (atoms_spec (ws := Jvm.Cond.code x code maxLocals ret :: tables_1) h _ List.mem_cons_self)
    exact ⟨meth, c, h1, h2, h3, h4, h5, h6⟩
  · intro p e s m args below meth c s₁ B hml0 hP _
    obtain ⟨rfl, hx, hbd, hgv⟩ := hP
    obtain ⟨scr, harrAt, hlist, hof, hsmall⟩ := hx
    obtain ⟨hcb, hkn, -, -⟩ := State.arrayAt?_spec harrAt
    have hown : s.vm.findClass R_law = some m.cls := findClass_of_methodNamed B.named
    have hts0 : ∀ c ∈ (Jvm.Cond.code x code maxLocals ret :: tables_1), c.before #[Value.ref b] s = true := atoms_spec (ws := Jvm.Cond.code x code maxLocals ret :: tables_1) B.pre
    have hts : ∀ w ∈ lw_tbl, w.before #[Value.ref b] s = true := k2_hts_sels lw_privs (fun w hw => hts0 w (List.mem_cons_of_mem _ hw)) lw_privs_ok
    have hml : c.maxLocals = 7 := B.maxLocals_eq (hts0 _ List.mem_cons_self)
    have X₀ : Stand p l e room_1 s m #[Value.ref b] below meth c s₁ [] 0 0 := Stand.of_body B
    have hh0 : s₁.heap = s.heap := by rw [B.state]; rfl
    have hsz : scr.slots.size = xs.length := by rw [← Array.length_toList, hlist, List.length_map]
    have hval : ∀ j : Nat, j < xs.length → scr.slots[j]? = some (.int (xs.getD j 0)) := fun j hj => by
      rw [← Array.getElem?_toList, hlist]
      simp [hj]
    have hbl : b < s.heap.size := (Array.getElem?_eq_some_iff.mp hcb).1
    have hX : va_X b xs.length (fun j => xs.getD j 0) s s.heap := ⟨scr, hcb, hof, hkn, hsz, hval⟩
    have K : W p l e room_1 s m #[Value.ref b] below meth c s₁.heap [] 0 0 (lw_Z below #[Value.ref b] s) (entryFrame m ([Value.ref b] : List Value).toArray 7) := by
      rw [hh0]
      have htab : c.exceptionTable.toList = [] := by
        have hcode : meth.code = some c := by
          have h := B.here.code
          rw [State.code?_eq, show s₁.vm = s.vm from by rw [B.state]; rfl, B.method] at h
          exact h
        obtain ⟨meth', c', g1, g2, -, -, -, -, g7, -⟩ := Cond.code_spec B.named (hts0 _ List.mem_cons_self)
        cases B.method.symm.trans g1
        cases hcode.symm.trans g2
        have := Array.isEmpty_iff.mp g7
        rw [this]
      exact whole_start hpure l hbd ⟨B.exec, B.bytes, B.returns, hml, hown, hts, hX, hbl, B.notSynchronized, hgv⟩ (name_of_methodNamed B.named B.method).1 htab htr
    obtain ⟨t, a1, o, b1, b2, b3⟩ := K s₁ rfl X₀
    exact ⟨t, o, a1, b1, b2, b3⟩
theorem lw_pre_spec {args : Array Value} {s : State} (h : (Jvm.Cond.and given_1 narrow_1).before args s = true) (hr : rest_1_c.before args s = true) : ∃ (b : Addr) (xs : List Int32), lw_P b xs args s := by
  have hs := flat_of_before _ h
  have hq := flat_of_before _ hr
  have hc : (Cond.count 1).before args s = true := hs _ (by decide +kernel)
  have harr : (Cond.arrayOf (.arg 0) .int).before args s = true := hs _ (by decide +kernel)
  have hle : (Cond.le (.length (.arg 0)) (.int 3072)).before args s = true := hs _ (by decide +kernel)
  have hlen : (Cond.isInt (.length (.arg 0))).before args s = true := hq _ (by decide +kernel)
  have hall : (Cond.all (.arg 0) (.isInt (.elem (.arg 0) (.index 0)))).before args s = true := hq _ (by decide +kernel)
  obtain ⟨b, xs, hb, hx⟩ := State.ints_of_pre rfl harr hlen hall
  have hsm : xs.length < 2 ^ 31 := hx.choose_spec.2.2.2
  have hev : (Term.length (.arg 0)).eval args s none [] s = some (.int xs.length.toInt32) := hx.length_eval hb
  have hv := Cond.le_ints hev (show (Term.int 3072).eval args s none [] s = some (.int 3072) from rfl)
  have hd : xs.length.toInt32 ≤ 3072 := by
    simpa [Cond.before, Cond.holds, hv] using hle
  have hN : xs.length ≤ 3072 := (Int32.ofNat_le_ofNat hsm (by decide)).mp (show Int32.ofNat xs.length ≤ Int32.ofNat 3072 from hd)
  exact ⟨b, xs, Cond.one_arg hc (show args[0]? = some (.ref b) from hb), hx, hN, h⟩
theorem lw_comes (hpure : q_pureStmt) (l : Launch) (htr : ∀ e : Env, l.admits e → e.platform.stackTraces = false) : Comes l x (Jvm.Cond.code x code maxLocals ret :: tables_1) room_1 (fun tb e args s => Calls_1 tb e args s ∧ rest_1 tb e args s ∧ Pre_1 tb e args s)
    (fun _ _ args s o t => lw_Q args s o t) := by
  intro p e ha hc hk s m args below hf hfit hheap happ hpre
  obtain ⟨b, xs, hP⟩ := lw_pre_spec hpre.2.2 hpre.2.1
  obtain ⟨k, o, h1, h2, h3, hQ⟩ := lw_walk hpure l htr b xs p e ha hc hk s m args below hf ((Spec.applies_iff_loose hf).mp happ).1 hP trivial
  exact ⟨k, o, h1, h2, h3, hQ⟩
theorem lw_frame {s t : State} {o : Outcome} {args : Array Value} (h : Framed s o t [] 601024 7293034) :
    Framed s o t (fieldLocs frame_1_writes args s ++ arrayLocs frame_1_arrays args s ++ staticLocs frame_1_statics s) 601024 7293034 := h
theorem lw_limb (hpure : q_pureStmt) (L : Cond) (hL : ∀ (args : Array Value) (s t : State), L.after args s (.returned (some (.int 1))) t = true) :
    ArmFor flags0 classFile x code maxLocals ret World_1 tables_1 room_1 Calls_1 rest_1 Pre_1
      (fun tb e a s o t => postC L tb e a s o t ∧ Framed s o t (fieldLocs frame_1_writes a s ++ arrayLocs frame_1_arrays a s ++ staticLocs frame_1_statics s) 601024 7293034) := by
  intro l hfl _ _ p e ha hc hk s m args below hf hfit hheap happ hpre
  obtain ⟨k, o, h1, h2, h3, rfl, hF⟩ := lw_comes hpure l (fun e he => Launch.traces_off hfl he) p e ha hc hk s m args below hf hfit hheap happ hpre
  exact ⟨k, _, h1, h2, h3, hL args s _, lw_frame hF⟩
theorem q_whole (hpure : q_pureStmt) : Claimed_1_1 ∧ Claimed_1_2 := ⟨lw_limb hpure limb_1_1 (fun args s t => by simp [limb_1_1, Cond.after, Cond.holds, Cond.value]), lw_limb hpure limb_1_2 (fun args s t => Cond.after_iff.mpr (by
  first | (rw [show limb_1_2 = Cond.eq .result (.int 1) from rfl, Cond.eq_ints (x := 1) (y := 1) rfl rfl]; simp; done) | (simp [limb_1_2, Cond.value, Term.eval]; done)))⟩
