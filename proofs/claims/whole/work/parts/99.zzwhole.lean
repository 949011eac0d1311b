/-! THE CLAIM OUT OF ONE WALK OF THE LAW'S BODY. Your part is whole_start (and what it stands on); all else here is the same for every law, but numbers. -/
def R_law : String := "BrokerTreeLaw"
def lw_P (b : Addr) (xs : List Int32) (args : Array Value) (s : State) : Prop := args = #[.ref b] ∧ s.IntsAt b xs ∧ xs.length ≤ 2049 ∧ (Jvm.Cond.and given_1 narrow_1).before args s = true
def lw_Q (_ : Array Value) (s : State) (o : Outcome) (t : State) : Prop := o = .returned (some (.int 1)) ∧ Framed s o t [] 601024 7293000
def lw_Z (below : List Frame) (a : Array Value) (s : State) : State → Prop := fun t => ∃ o, t.status = .running ∧ Ended t below o ∧ lw_Q a s o t
/-- the law's own end, with 1 on the stack, nothing written that was there before, its room as the claim has it -/
theorem lw_ret {p : Program} {l : Launch} {e : Env} {s : State} {m : MethodId} {below : List Frame} {meth : Method} {c : Code} {b : Nat} (hx : p.tables.exec = Jvm.exec) (hb : c.code = code) (hr : meth.sig.returnType = ret) (hlocks : meth.locks = false) {pc : Nat} {H : Heap} {ls : Array Slot} (hdg : decode code pc = .ok (.ireturn, 1)) : W p l e room_1 s m #[Value.ref b] below meth c H [] 601024 7293000 (lw_Z below #[Value.ref b] s) (F0 m pc ls [.int 1]) := by
  intro T hT X
  obtain ⟨fs, hret, hrun, hended, hW, hframe⟩ := X.leave (v := some (.int 1)) (hlocks := hlocks) (fun h => by rw [hr] at h; cases h)
  have hmeth' : T.vm.method? m = some meth := X.method'
  refine ⟨T.setFrames fs, ?_, .returned (some (.int 1)), hrun, hended, rfl, ⟨_, rfl⟩, hW, hframe⟩
  jvm_step X.here [X.here.top, hx, hb, hdg, hmeth', hr, ret, narrow_b1]
  (try refine ⟨rfl, ?_⟩); (try refine ⟨rfl, ?_⟩)
  first | (intro acts; rw [hret _ acts rfl rfl rfl]) | rw [hret _ _ rfl rfl rfl]
  exact Steps.refl _
/-- what holds at the law's entry: the machine, the code, the tables' words (any of lw_tbl by 'hts w (by decide +kernel)'), the script of L ints xs at the cell b, what the Statement gives of the start (any of its parts by flat_of_before) -/
def lw_At (p : Program) (s : State) (m : MethodId) (meth : Method) (c : Code) (b L : Nat) (xs : Nat → Int32) : Prop :=
  p.tables.exec = Jvm.exec ∧ c.code = code ∧ meth.sig.returnType = ret ∧ c.maxLocals = 7 ∧ s.vm.findClass R_law = some m.cls ∧ (∀ w ∈ lw_tbl, w.before #[Value.ref b] s = true) ∧ va_X b L xs s s.heap ∧ b < s.heap.size ∧ meth.locks = false ∧ (Jvm.Cond.and given_1 narrow_1).before #[Value.ref b] s = true
theorem xNW_any : ∀ w ∈ xNW, ∀ (a a' : Array Value) (s : State), w.before a s = w.before a' s := by
  unfold xNW
  repeat refine List.forall_mem_cons.mpr ⟨fun _ _ _ => rfl, ?_⟩
  exact fun _ h => absurd h List.not_mem_nil
theorem x_arrP {s : State} {args : Array Value} {ty : FieldType} (h : (Cond.arrayClass ty).before args s = true) : ∃ cA, ArrOfT s cA ty ∧ s.vm.findClass ("[" ++ ty.toString) = some cA := by
  obtain ⟨c, k, comp, h1, h2, h3⟩ := Cond.arrayClass_spec h
  exact ⟨c, fun n z => ⟨fun k h => (by cases h), k, h2, comp, h3⟩, h1⟩
theorem x_arrO {s : State} {args : Array Value} {C : String} (h : (Cond.arrayOver (.object C)).before args s = true) : ∃ cA, ArrOfT s cA (.object C) ∧ va_RA s cA (.object C) := by
  obtain ⟨comp, c, k, f1, -, f2, f3, f4⟩ := Cond.arrayOver_spec h
  exact ⟨c, fun n z => ⟨fun k h => (by cases h), k, f2, comp, f3⟩, k, comp, f2, f3, f1, f4⟩
theorem x_stOf {s : State} {args : Array Value} {C n d : String} {A : Nat → Prop} (hl : (Cond.laysStatic C n d).before args s = true) (hr : (Cond.isRef (.static C n d)).before args s = true) (hA : ∀ a : Nat, a < s.heap.size → ¬ A a) : ∃ v : Value, v.isRef = true ∧ x_St C n d v A s s.heap := by
  obtain ⟨v, hv, hvr⟩ := Cond.isRef_spec hr
  obtain ⟨c, k, i, f, a, cell, hc, hi, hst, ha, hcell, hs, hcls, hlt, hty⟩ := Cond.laysStatic_spec hl
  obtain ⟨hst', a', cell', ha', hcell', -, hslot⟩ := Term.static_spec hi hv
  cases ha.symm.trans ha'
  cases hcell.symm.trans hcell'
  exact ⟨v, hvr, c, k, i, f, a, cell, hc, hi, hst, ha, hcell, hs, hcls, hlt, hty, hslot, hA a (Array.getElem?_eq_some_iff.mp hcell).1⟩
theorem xi_447 : Cond.instantiable "java/lang/IllegalArgumentException" 6 ∈ xWS := List.mem_filter.mpr ⟨List.mem_append_right _ (List.mem_of_getElem? (i := 447) (by decide +kernel)), rfl⟩
theorem xi_510 : Cond.instantiable "java/lang/IllegalStateException" 6 ∈ xWS := List.mem_filter.mpr ⟨List.mem_append_right _ (List.mem_of_getElem? (i := 510) (by decide +kernel)), rfl⟩
theorem xi_609 : Cond.instantiable "java/util/NoSuchElementException" 6 ∈ xWS := List.mem_filter.mpr ⟨List.mem_append_right _ (List.mem_of_getElem? (i := 609) (by decide +kernel)), rfl⟩
theorem x_known {s : State} {args : Array Value} (hts : ∀ w ∈ xWS, w.before args s = true) : ∀ q ∈ xcl, ∃ (cC : ClassId) (iS : Nat → Nat), u_Kn s q.1 q.2.1 q.2.2 cC iS := by
  unfold xcl
  refine List.forall_mem_cons.mpr ⟨u_known hts okcBT.1 (hts _ xm_27), ?_⟩
  refine List.forall_mem_cons.mpr ⟨u_known hts okcCA.1 (hts _ xm_39), ?_⟩
  refine List.forall_mem_cons.mpr ⟨u_known hts okcFI.1 (hts _ xm_360), ?_⟩
  refine List.forall_mem_cons.mpr ⟨u_known hts okcLI.1 (hts _ xm_98), ?_⟩
  refine List.forall_mem_cons.mpr ⟨u_known hts okcNO.1 (hts _ xm_635), ?_⟩
  refine List.forall_mem_cons.mpr ⟨u_known hts okcQU.1 (hts _ xm_106), ?_⟩
  refine List.forall_mem_cons.mpr ⟨u_known hts okcRO.1 (hts _ xm_82), ?_⟩
  refine List.forall_mem_cons.mpr ⟨u_known hts okcSP.1 (hts _ xm_366), ?_⟩
  refine List.forall_mem_cons.mpr ⟨u_known hts okcMO.1 (hts _ xm_678), ?_⟩
  refine List.forall_mem_cons.mpr ⟨u_known hts okcAL.1 (hts _ xm_45), ?_⟩
  refine List.forall_mem_cons.mpr ⟨u_known hts (fun w hw => by cases hw) (hts _ xi_447), ?_⟩
  refine List.forall_mem_cons.mpr ⟨u_known hts (fun w hw => by cases hw) (hts _ xi_510), ?_⟩
  refine List.forall_mem_cons.mpr ⟨u_known hts (fun w hw => by cases hw) (hts _ xi_609), ?_⟩
  exact fun _ h => absurd h List.not_mem_nil
/-- the start: all that the judgement asks of the state before the law's first instruction -/
theorem x_start {s : State} {b L : Nat} {xs : Nat → Int32} (l : Launch) (hts : ∀ w ∈ lw_tbl, w.before #[Value.ref b] s = true) (hX : va_X b L xs s s.heap) (hb : b < s.heap.size) (hgv : (Jvm.Cond.and given_1 narrow_1).before #[Value.ref b] s = true) : ∃ P : x_P, P.1 = l ∧ P.2.2.2.1 = s.heap.size ∧ P.2.2.2.2.1 = b ∧ P.2.2.2.2.2.1 = L ∧ P.2.2.2.2.2.2.2.1 < s.heap.size ∧ x_Env P s s.heap ∧ x_Nb s := by
  have hs := flat_of_before _ hgv
  have htx : ∀ w ∈ xWS, w.before #[Value.ref b] s = true := fun w hw => hts w (List.mem_filter.mp hw).1
  have htb : ∀ w ∈ tables_1, w.before #[Value.ref b] s = true := fun w hw => hts w (List.mem_append_right _ hw)
  have hA : ∀ a : Nat, a < s.heap.size → ¬ s.heap.size ≤ a := fun a h1 h2 => absurd h1 (Nat.not_lt.mpr h2)
  have hk0 : ∀ ci : Nat, ∃ D : ClassId × (Nat → Nat), ∀ q, xcl[ci]? = some q → u_Kn s q.1 q.2.1 q.2.2 D.1 D.2 := fun ci => by
    cases hq : xcl[ci]? with
    | none => exact ⟨((0 : Nat), fun _ => 0), fun q h => by cases h⟩
    | some q =>
      obtain ⟨c, i, k⟩ := x_known htx q (List.mem_of_getElem? hq)
      exact ⟨(c, i), fun q' h => by cases h; exact k⟩
  obtain ⟨D, hD⟩ := Classical.axiomOfChoice hk0
  obtain ⟨c0, a0, r0⟩ := x_arrP (ty := .int) (htb _ (List.mem_of_getElem? (i := 78) (by decide +kernel)))
  obtain ⟨c1, a1, r1⟩ := x_arrP (ty := .boolean) (htb _ (List.mem_of_getElem? (i := 97) (by decide +kernel)))
  obtain ⟨c2, a2, r2⟩ := x_arrP (ty := .char) (htb _ (List.mem_of_getElem? (i := 70) (by decide +kernel)))
  obtain ⟨c3, a3, r3⟩ := x_arrP (ty := .long) (htb _ (List.mem_of_getElem? (i := 989) (by decide +kernel)))
  obtain ⟨c4, a4, r4⟩ := x_arrO (C := "BrokerTree$Link") (htb _ (List.mem_of_getElem? (i := 35) (by decide +kernel)))
  obtain ⟨c5, a5, r5⟩ := x_arrO (C := "BrokerTree$Queue") (htb _ (List.mem_of_getElem? (i := 37) (by decide +kernel)))
  obtain ⟨c6, a6, r6⟩ := x_arrO (C := "java/lang/Object") (htb _ (List.mem_of_getElem? (i := 592) (by decide +kernel)))
  have hlen := va_eqt (s := s) (args := #[Value.ref b]) (t := .length (.static "java/util/ArrayList" "DEFAULTCAPACITY_EMPTY_ELEMENTDATA" "[Ljava/lang/Object;")) (z := 0) (hs _ (by decide +kernel))
  obtain ⟨E, hE, hT⟩ := va_Tof (s := s) (args := #[Value.ref b]) (tm := .static "java/util/ArrayList" "DEFAULTCAPACITY_EMPTY_ELEMENTDATA" "[Ljava/lang/Object;") (ty := .object "java/lang/Object") (N := 0) (f := fun _ => .null) (A := fun q => s.heap.size ≤ q) (by decide) (hs _ (by decide +kernel)) hlen (fun j hj => absurd hj (Nat.not_lt_zero _)) hA
  have hZ := va_Zof (s := s) (args := #[Value.ref b]) (C := "java/util/ArrayList") (n := "DEFAULTCAPACITY_EMPTY_ELEMENTDATA") (d := "[Ljava/lang/Object;") (A := fun q => s.heap.size ≤ q) (htb _ (List.mem_of_getElem? (i := 57) (by decide +kernel))) (htb _ (List.mem_of_getElem? (i := 5) (by decide +kernel))) hE hA
  obtain ⟨mi, hmi⟩ := va_Mi.of (s := s) (args := #[Value.ref b]) (C := "[Ljava/lang/Object;") (hs _ (by decide +kernel))
  have t1 := x_stOf (s := s) (args := #[Value.ref b]) (C := "java/lang/Throwable") (n := "UNASSIGNED_STACK") (d := "[Ljava/lang/StackTraceElement;") (A := fun q => s.heap.size ≤ q) (htb _ (List.mem_of_getElem? (i := 473) (by decide +kernel))) (hs _ (by decide +kernel)) hA
  have t2 := x_stOf (s := s) (args := #[Value.ref b]) (C := "java/lang/Throwable") (n := "SUPPRESSED_SENTINEL") (d := "Ljava/util/List;") (A := fun q => s.heap.size ≤ q) (htb _ (List.mem_of_getElem? (i := 475) (by decide +kernel))) (hs _ (by decide +kernel)) hA
  have hEl : E < s.heap.size := by
    obtain ⟨cell, h1, -⟩ := hT
    exact (Array.getElem?_eq_some_iff.mp h1).1
  refine ⟨(l, (fun c => (D c).1, fun c => (D c).2), (fun k => match k with | 0 => c0 | 1 => c1 | 2 => c2 | 3 => c3 | 4 => c4 | 5 => c5 | _ => c6), s.heap.size, b, L, xs, E, mi), rfl, rfl, rfl, rfl, hEl, ⟨⟨fun c q hq => hD c q hq, ?_⟩, fun w hw => (xNW_any w hw _ _ s).trans (htb w (xNW_in w hw)), hX, hb, hZ, hT, hmi, t1, t2⟩, va_Nc.of (args := #[Value.ref b]) (hs _ (by decide +kernel)), va_Nc.of (args := #[Value.ref b]) (hs _ (by decide +kernel))⟩
  intro k q hk
  match k, hk with
  | 0, hk => cases hk; exact ⟨a0, r0⟩
  | 1, hk => cases hk; exact ⟨a1, r1⟩
  | 2, hk => cases hk; exact ⟨a2, r2⟩
  | 3, hk => cases hk; exact ⟨a3, r3⟩
  | 4, hk => cases hk; exact ⟨a4, r4⟩
  | 5, hk => cases hk; exact ⟨a5, r5⟩
  | 6, hk => cases hk; exact ⟨a6, r6⟩
  | k + 7, hk => cases hk
theorem whole_start {p : Program} {e : Env} {s : State} {m : MethodId} {below : List Frame} {meth : Method} {c : Code} (l : Launch) (hf : l.flags = flags0) (hnm : meth.name = "law") {b L : Nat} {xs : Nat → Int32} (hL : L ≤ 2049) (C0 : lw_At p s m meth c b L xs) : W p l e room_1 s m #[Value.ref b] below meth c s.heap [] 0 0 (lw_Z below #[Value.ref b] s) (entryFrame m ([Value.ref b] : List Value).toArray 7) := by
  obtain ⟨hx, hcode, hret, hml, hown, hts, hX, hb, hlk, hgv⟩ := C0
  obtain ⟨P, e1, e2, e3, e4, hEl, hEn, hNb⟩ := x_start l hts hX hb hgv
  have hl : ∀ e : Env, P.1.admits e → e.platform.stackTraces = false := fun e ha => Launch.traces_off (by rw [e1]; exact hf) ha
  obtain ⟨oc, h', ⟨eo, b1, b2⟩, j⟩ := sLW_law (P := P) (h := (fun _ => none, s.heap.size, 0)) (b := s.heap.size) rfl hEl hl (by rw [e4]; exact hL)
  subst eo
  have b1' : h'.2.1 ≤ s.heap.size + 601024 := b1
  have b2' : h'.2.2 ≤ 0 + 7293000 := b2
  have C : x_C P 12 mLW_law p room_1 s m #[Value.ref b] meth c := ⟨hx, hcode, hml, hret, hlk, hown, hnm, fun hne => absurd rfl hne, fun w hw => hts w (List.mem_filter.mp hw).1, hEn, by decide, by decide, by rw [e2]; exact Nat.le_refl _⟩
  have hLs : x_L ((lg_sl [Value.ref b] ++ List.replicate (7 - (lg_sl [Value.ref b]).length) Slot.unset).toArray) 7 [some (.ref P.2.2.2.2.1), none, none, none, none, none, none] := by
    rw [e3]
    exact x_Lent (As := [Value.ref b]) (n := 7) (by intro v hv; cases List.mem_singleton.mp hv; rfl) (Nat.le_of_ble_eq_true rfl)
  have key := j.2 (e := e) (below := below) (n0 := s.heap.size) (s0 := 0) (H := s.heap) (locs := []) (Qc := fun _ _ o _ => o = .returned (some (.int 1))) C hNb ⟨Nat.le_refl _, Nat.le_refl _, by show _ ≤ 601024; omega, by show _ ≤ 7293000; omega⟩ ⟨rfl, by rw [e2]; exact Nat.le_refl _, fun a x ha => by cases ha⟩ va_S.rf hLs (fun t _ _ _ => rfl)
  rw [e1] at key
  rw [lg_entry_eq]
  intro T hT X
  have X' : Stand p l e room_1 s m #[Value.ref b] below meth c T [] (s.heap.size - s.heap.size) (0 - 0) := by
    rw [Nat.sub_self]
    exact X
  obtain ⟨t, a, o, q1, q2, q3, Lc, -, q5, q6, q7⟩ := key T hT X'
  refine ⟨t, a, o, q1, q2, q3, ⟨_, q3⟩, q5, q6.weaken (fun y hy hlt => ?_) (by omega) (by omega)⟩
  have := q7 y hy
  have h9 : P.2.2.2.1 ≤ y.base := this
  rw [e2] at h9
  exact absurd hlt (Nat.not_lt.mpr h9)
set_option maxHeartbeats 4000000 in
theorem lw_walk (l : Launch) (hf : l.flags = flags0) (b : Addr) (xs : List Int32) : MetFree l x (headSpec (Jvm.Cond.code x code maxLocals ret :: tables_1) room_1) (lw_P b xs) (fun _ _ _ _ _ => True) lw_Q := by
  refine MetFree.of_bodyS (code := code) (maxLocals := maxLocals) (ret := ret) (by decide) ?_ ?_
  · intro args s m h hn
    obtain ⟨meth, c, h1, h2, h3, h4, h5, h6, -, -⟩ := Cond.code_spec hn (atoms_spec (ws := Jvm.Cond.code x code maxLocals ret :: tables_1) h _ List.mem_cons_self)
    exact ⟨meth, c, h1, h2, h3, h4, h5, h6⟩
  · intro p e s m args below meth c s₁ B hml0 hP _
    obtain ⟨rfl, hx, hbd, hgv⟩ := hP
    obtain ⟨scr, harrAt, hlist, hof, hsmall⟩ := hx
    obtain ⟨hcb, hkn, -, -⟩ := State.arrayAt?_spec harrAt
    have hown : s.vm.findClass R_law = some m.cls := findClass_of_methodNamed B.named
    have hts0 : ∀ c ∈ (Jvm.Cond.code x code maxLocals ret :: tables_1), c.before #[Value.ref b] s = true := atoms_spec (ws := Jvm.Cond.code x code maxLocals ret :: tables_1) B.pre
    have hts : ∀ w ∈ lw_tbl, w.before #[Value.ref b] s = true := k2_hts_sels lw_privs (fun w hw => hts0 w (List.mem_cons_of_mem _ hw)) lw_privs_ok
    have hml : c.maxLocals = 7 := B.maxLocals_eq (hts0 _ List.mem_cons_self)
    have X₀ : Stand p l e room_1 s m #[Value.ref b] below meth c s₁ [] 0 0 := Stand.of_body B
    have hh0 : s₁.heap = s.heap := by rw [B.state]; rfl
    have hsz : scr.slots.size = xs.length := by rw [← Array.length_toList, hlist, List.length_map]
    have hval : ∀ j : Nat, j < xs.length → scr.slots[j]? = some (.int (xs.getD j 0)) := fun j hj => by
      rw [← Array.getElem?_toList, hlist]
      simp [hj]
    have hbl : b < s.heap.size := (Array.getElem?_eq_some_iff.mp hcb).1
    have hX : va_X b xs.length (fun j => xs.getD j 0) s s.heap := ⟨scr, hcb, hof, hkn, hsz, hval⟩
    have K : W p l e room_1 s m #[Value.ref b] below meth c s₁.heap [] 0 0 (lw_Z below #[Value.ref b] s) (entryFrame m ([Value.ref b] : List Value).toArray 7) := by
      rw [hh0]
      exact whole_start l hf (name_of_methodNamed B.named B.method).1 hbd ⟨B.exec, B.bytes, B.returns, hml, hown, hts, hX, hbl, B.notSynchronized, hgv⟩
    obtain ⟨t, a1, o, b1, b2, b3⟩ := K s₁ rfl X₀
    exact ⟨t, o, a1, b1, b2, b3⟩
theorem lw_pre_spec {args : Array Value} {s : State} (h : (Jvm.Cond.and given_1 narrow_1).before args s = true) (hr : rest_1_c.before args s = true) : ∃ (b : Addr) (xs : List Int32), lw_P b xs args s := by
  have hs := flat_of_before _ h
  have hq := flat_of_before _ hr
  have hc : (Cond.count 1).before args s = true := hs _ (by decide +kernel)
  have harr : (Cond.arrayOf (.arg 0) .int).before args s = true := hs _ (by decide +kernel)
  have hle : (Cond.le (.length (.arg 0)) (.int 2049)).before args s = true := hs _ (by decide +kernel)
  have hlen : (Cond.isInt (.length (.arg 0))).before args s = true := hq _ (by decide +kernel)
  have hall : (Cond.all (.arg 0) (.isInt (.elem (.arg 0) (.index 0)))).before args s = true := hq _ (by decide +kernel)
  obtain ⟨b, xs, hb, hx⟩ := State.ints_of_pre rfl harr hlen hall
  have hsm : xs.length < 2 ^ 31 := hx.choose_spec.2.2.2
  have hev : (Term.length (.arg 0)).eval args s none [] s = some (.int xs.length.toInt32) := hx.length_eval hb
  have hv := Cond.le_ints hev (show (Term.int 2049).eval args s none [] s = some (.int 2049) from rfl)
  have hd : xs.length.toInt32 ≤ 2049 := by
    simpa [Cond.before, Cond.holds, hv] using hle
  have hN : xs.length ≤ 2049 := (Int32.ofNat_le_ofNat hsm (by decide)).mp (show Int32.ofNat xs.length ≤ Int32.ofNat 2049 from hd)
  exact ⟨b, xs, Cond.one_arg hc (show args[0]? = some (.ref b) from hb), hx, hN, h⟩
theorem lw_comes (l : Launch) (hfl : l.flags = flags0) : Comes l x (Jvm.Cond.code x code maxLocals ret :: tables_1) room_1 (fun tb e args s => Calls_1 tb e args s ∧ rest_1 tb e args s ∧ Pre_1 tb e args s)
    (fun _ _ args s o t => lw_Q args s o t) := by
  intro p e ha hc hk s m args below hf hfit hheap happ hpre
  obtain ⟨b, xs, hP⟩ := lw_pre_spec hpre.2.2 hpre.2.1
  obtain ⟨k, o, h1, h2, h3, hQ⟩ := lw_walk l hfl b xs p e ha hc hk s m args below hf ((Spec.applies_iff_loose hf).mp happ).1 hP trivial
  exact ⟨k, o, h1, h2, h3, hQ⟩
theorem lw_frame {s t : State} {o : Outcome} {args : Array Value} (h : Framed s o t [] 601024 7293000) :
    Framed s o t (fieldLocs frame_1_writes args s ++ arrayLocs frame_1_arrays args s ++ staticLocs frame_1_statics s) 601024 7293000 := h
theorem lw_limb (L : Cond) (hL : ∀ (args : Array Value) (s t : State), L.after args s (.returned (some (.int 1))) t = true) :
    ArmFor flags0 classFile x code maxLocals ret World_1 tables_1 room_1 Calls_1 rest_1 Pre_1
      (fun tb e a s o t => postC L tb e a s o t ∧ Framed s o t (fieldLocs frame_1_writes a s ++ arrayLocs frame_1_arrays a s ++ staticLocs frame_1_statics s) 601024 7293000) := by
  intro l hfl _ _ p e ha hc hk s m args below hf hfit hheap happ hpre
  obtain ⟨k, o, h1, h2, h3, rfl, hF⟩ := lw_comes l hfl p e ha hc hk s m args below hf hfit hheap happ hpre
  exact ⟨k, _, h1, h2, h3, hL args s _, lw_frame hF⟩
theorem i_vc : Claimed_1_1 ∧ Claimed_1_2 := ⟨lw_limb limb_1_1 (fun args s t => by simp [limb_1_1, Cond.after, Cond.holds, Cond.value]), lw_limb limb_1_2 (fun args s t => Cond.after_iff.mpr (by
  first | (rw [show limb_1_2 = Cond.eq .result (.int 1) from rfl, Cond.eq_ints (x := 1) (y := 1) rfl rfl]; simp; done) | (simp [limb_1_2, Cond.value, Term.eval]; done)))⟩

