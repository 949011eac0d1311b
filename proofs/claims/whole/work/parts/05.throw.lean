/-! A throw -/
section
variable {P : x_P} {d : Nat} {M : x_M} {pc : Nat} {lv : List (Option Value)} {st : List Value} {h h' : x_H} {oc : Outcome}
theorem xj_athrow {a : Nat} (hd : decode M.2.1 pc = .ok (.athrow, 1)) (hcl : M.1.cls ≠ "BrokerTreeLaw") : x_J P d M pc lv (.ref a :: st) h (.threw a) h := by
  refine ⟨⟨Nat.le_refl _, Nat.le_refl _⟩, fun {p e R s m args below meth c n0 s0 H locs ls Qc} C N hR hS hL hQ => ?_⟩
  intro T hT X
  obtain ⟨hw, hrun, hend, hW, hsame⟩ := X.athrowLeaves C.ex (g := F0 m pc ls (.ref a :: st)) rfl rfl rfl (covers_of_empty (C.nh hcl) _) rfl (by rw [C.cd]; exact hd) (hlocks := C.lk)
  refine ⟨_, hw, .threw a, hrun, hend, hQ _ ?_ ⟨locs, ?_⟩ hW, locs, Or.inr ⟨a, rfl⟩, hW, hsame, hS.2.2⟩
  · show x_R P h T.heap
    rw [hT]
    exact hR
  · show va_S _ _ T.heap _
    rw [hT]
    exact hS
theorem x_stLay {C n dd : String} {v : Value} {A : Nat → Prop} {s : State} {H : Heap} {args : Array Value} (hH : H = s.heap) (k : x_St C n dd v A s H) : (Cond.laysStatic C n dd).before args s = true := by
  obtain ⟨c, kk, i, f, a, cell, h0, h1, h2, h3, h4, h5, h6, h7, h8, h9, h10⟩ := k
  subst hH
  simp_all [Cond.before, Cond.holds, Cond.value]
theorem x_stRef {C n dd : String} {v : Value} {A : Nat → Prop} {s : State} {H : Heap} {args : Array Value} (hH : H = s.heap) (hv : v.isRef = true) (k : x_St C n dd v A s H) : (Cond.isRef (.static C n dd)).before args s = true := by
  obtain ⟨c, kk, i, f, a, cell, h0, h1, h2, h3, h4, h5, h6, h7, h8, h9, h10⟩ := k
  subst hH
  cases v <;> simp_all [Cond.before, Cond.holds, Cond.value, Term.eval, State.fieldNamed?, Value.isRef]
end
section
variable {p : Program} {l : Launch} {e : Env} {R : Room} {s : State} {m : MethodId} {args : Array Value} {below : List Frame} {meth : Method} {c : Code} {W0 : State} {locs : List Loc} {cells slots : Nat}
/-- the constructor of an exception of one's own: only the new cell changes -/
theorem x_ctor (X : Stand p l e R s m args below meth c W0 locs cells slots) (hex : p.tables.exec = Jvm.exec) (htr : e.platform.stackTraces = false) {own Xn : String} {names : List String} {ic : Nat} (hown : s.vm.findClass own = some m.cls) (hX : Bundle.fit Xn = true) (hnames : ∀ n ∈ names, Bundle.fit n = true)
    (h : ∀ a ∈ Bundle.ownAtoms0 own ic Xn names, a.before args s = true) {A : Nat → Prop} (hA : ∀ q : Nat, q < s.heap.size → ¬ A q → W0.heap[q]? = s.heap[q]?) {v1 : Value} (hU : x_St "java/lang/Throwable" "UNASSIGNED_STACK" "[Ljava/lang/StackTraceElement;" v1 A s s.heap)
    {a : Addr} {cX : ClassId} {kX : Class} (hfX : s.vm.findClass Xn = some cX) (hkX : s.vm.classes[cX]? = some kX) (hcell : W0.heap[a]? = some (freshCell cX kX)) (hnew : s.heap.size ≤ a)
    {g : JFrame} (hg : g.method = m) (hsize : g.locals.size = c.maxLocals) {rest : List Value} (hstack : g.stack = .ref a :: rest) (hd : decode c.code g.pc = .ok (.invokespecial ic, 3))
    (hRf : names.length + 3 < R.frames) (hRl : 2 * g.monitorRoom + (rest.map fun v => v.category).sum + (13 * (names.length + 1) + 41) ≤ R.locals) :
    ∃ (vm' : Vm) (cell' : Cell) (L : List Loc), cell'.cls = cX ∧ cell'.vm = .none ∧ (∀ q ∈ L, q.base = a) ∧ Stand p l e R s m args below meth c ((W0.setVm vm').setCell a cell') (locs ++ L) cells slots ∧
      ∀ target, Steps p.tables e below (((W0.setVm vm').setCell a cell').setTop { g with pc := g.pc + 3, stack := rest }) target → Steps p.tables e below (W0.setTop g) target := by
  have b1 : e.platform.frameOwnsMonitors = true := by rw [X.admits.platform]
  have b2 : e.platform.finalization = false := by rw [X.admits.platform]
  have b3 : e.platform.magicAccessors = ({} : Platform).magicAccessors := by rw [X.admits.platform]
  have at' : ∀ x, x ∈ Bundle.ownAtoms0 own ic Xn names → x.holds args s none s [] = true := fun x hx => h x hx
  obtain ⟨T, Z, L, LZ, Y⟩ := ThrowableC.of_atoms (args := args) b1 b2 b3 (fun x hx => h x (by simp [Bundle.ownAtoms0, hx]))
  obtain ⟨P1, Ps, hlen, L1, hL, hP1, hk1, hk2⟩ := Bundle.chain0 (args := args) b3 Y.init0 names Xn hX hnames (fun x hx => h x (by simp [Bundle.ownAtoms0, hx]))
  have hf1 : s.vm.findClass Xn = some P1.m.cls := findClass_of_methodNamed hP1
  cases Option.some.inj (hfX.symm.trans hf1)
  obtain ⟨c1, k1, hc1, hkk, hord, -, -, hn6⟩ := Cond.instantiable_spec (at' (.instantiable Xn 6) (by simp [Bundle.ownAtoms0]))
  cases Option.some.inj (hc1.symm.trans hf1)
  cases Option.some.inj (hkX.symm.trans hkk)
  have s0 : selectMethod e.platform s.vm P1.m.cls T.fill0 = .method T.fill0 := by
    obtain ⟨c2, r2, m2, q1, q2, q3, q4, -⟩ := Cond.selects_spec (at' (.selects Xn Bundle.tFill0 Bundle.tFill0) (by simp [Bundle.ownAtoms0]))
    cases Option.some.inj (q1.symm.trans hf1)
    cases Option.some.inj (q2.symm.trans (State.methodFound?_of_named Y.fill0 (by decide)))
    cases Option.some.inj (q3.symm.trans Y.fill0)
    rw [Launch.admits_selectMethod X.admits]
    exact q4
  have s1 : selectMethod e.platform s.vm P1.m.cls T.fill = .method T.fill := by
    obtain ⟨c2, r2, m2, q1, q2, q3, q4, -⟩ := Cond.selects_spec (at' (.selects Xn Bundle.tFill Bundle.tFill) (by simp [Bundle.ownAtoms0]))
    cases Option.some.inj (q1.symm.trans hf1)
    cases Option.some.inj (q2.symm.trans (State.methodFound?_of_named Y.fill (by decide)))
    cases Option.some.inj (q3.symm.trans Y.fill)
    rw [Launch.admits_selectMethod X.admits]
    exact q4
  -- the statics of Throwable lie outside of what may have changed
  obtain ⟨c9, k9, i9, f9, aS, cellS, -, w1, -, w3, w4, w5, -, -, -, -, w10⟩ := hU
  have hY := Y.unassigned
  cases Option.some.inj (w1.symm.trans hY)
  have haS : aS = T.aS := Option.some.inj (w3.symm.trans L.statics)
  subst haS
  obtain ⟨u0, hu0⟩ := Cond.staticRefV Y.unassigned L.unassignedStatic L.statics w4 w5 (at' (.isRef (.static Bundle.tN "UNASSIGNED_STACK" Bundle.steD)) (by simp [Bundle.ownAtoms0]))
  obtain ⟨sen, hsen⟩ := Cond.staticRefV Y.sentinel L.sentinelStatic L.statics w4 w5 (at' (.isRef (.static Bundle.tN "SUPPRESSED_SENTINEL" Bundle.listD)) (by simp [Bundle.ownAtoms0]))
  have hlS : T.aS < s.heap.size := (Array.getElem?_eq_some_iff.mp w4).1
  have hcS : W0.heap[T.aS]? = some cellS := (hA _ hlS w10).trans w4
  have hneS : T.aS ≠ a := Nat.ne_of_lt (Nat.lt_of_lt_of_le hlS hnew)
  have hkS : cellS.vm ≠ .unknown := fun hu => by rw [hu] at w5; cases w5
  -- the fields of the new one
  obtain ⟨ciB, iB, fB, g1, g2, g3, g4, -, hnB, htB, hfB⟩ := Cond.ownField (t := .object "java/lang/Object") Y.found L.cls (by decide +kernel) (at' (.fieldLink Bundle.tN 198 Bundle.tN "backtrace" "Ljava/lang/Object;") (by simp [Bundle.ownAtoms0])) (at' (.lays Bundle.tN Bundle.tN "backtrace" "Ljava/lang/Object;") (by simp [Bundle.ownAtoms0])) e.platform b3
  obtain ⟨tyC, dC, hdC, hnC⟩ := Cond.laysAt hf1 hkk Y.cause (at' (.lays Xn Bundle.tN "cause" "Ljava/lang/Throwable;") (by simp [Bundle.ownAtoms0]))
  obtain ⟨tyS, dS, hdS, hnS⟩ := Cond.laysAt hf1 hkk Y.stack (at' (.lays Xn Bundle.tN "stackTrace" Bundle.steD) (by simp [Bundle.ownAtoms0]))
  obtain ⟨tyP, dP, hdP, hnP⟩ := Cond.laysAt hf1 hkk Y.supp (at' (.lays Xn Bundle.tN "suppressedExceptions" Bundle.listD) (by simp [Bundle.ownAtoms0]))
  obtain ⟨tyB, dB, hdB, hnB2⟩ := Cond.laysAt hf1 hkk hfB (at' (.lays Xn Bundle.tN "backtrace" "Ljava/lang/Object;") (by simp [Bundle.ownAtoms0]))
  have nBC := Cond.laysApart hdB hdC hnB2 hnC (by rw [hnB, Y.causeName]; decide)
  have nBS := Cond.laysApart hdB hdS hnB2 hnS (by rw [hnB, Y.stackName]; decide)
  have nBP := Cond.laysApart hdB hdP hnB2 hnP (by rw [hnB, Y.suppName]; decide)
  have hsk : SkipFacts T e.platform s (fun u => u) u0 ((preparedCellV T.toThrowableT (freshCell P1.m.cls kX) a u0 sen).withEntry W0.cur) :=
    ⟨{ ci198 := ciB, i198 := iB, fBack := fB }, ⟨g1, g2, g3, g4⟩, by
      have h9 := fresh_default (c := P1.m.cls) tyB
      rw [htB] at h9
      simpa [preparedCellV, Cell.setSlot, Cell.withEntry, Array.getElem?_setIfInBounds, nBC, nBS, nBP, nBC.symm, nBS.symm, nBP.symm, defaultValue] using h9, fun _ _ => rfl⟩
  obtain ⟨tm, mC, cC, kC, vm1, hnm, -, -, -, -, -, -, -, hW1, st1⟩ := Steps.initCold (tb := p.tables) (e := e) (below := below) (s := s) (U := W0) X.here hex X.warmed b3 hown (t := Bundle.init0 Xn) rfl rfl (Bundle.fit_spec hX).2
    (at' (.methodLink own ic (Bundle.init0 Xn)) (by simp [Bundle.ownAtoms0])) (h (.instanceMethod (Bundle.init0 Xn)) (by cases names <;> simp [Bundle.ownAtoms0, Bundle.chain0Atoms, Bundle.passAtoms])) (bytes := Bundle.five) (maxL := 1) (h (.code (Bundle.init0 Xn) Bundle.five 1 none) (by cases names <;> simp [Bundle.ownAtoms0, Bundle.chain0Atoms, Bundle.passAtoms]))
    (f := g) hg (a := a) (rest := rest) hstack hd
  cases Option.some.inj (hnm.symm.trans hP1)
  obtain ⟨vm2, X2, st2⟩ := (X.noted hW1).ctorPlainOffV hex (g := { g with stack := rest }) hg hsize T L Z LZ (P1 :: Ps)
    (fun q hq => by
      rcases List.mem_cons.mp hq with h9 | h9
      · rw [h9]; exact L1
      · exact hL q h9) ⟨hk1, hk2⟩ (u0 := u0) (sen := sen) (self := a) (cell := freshCell P1.m.cls kX) (cellS := cellS)
    hcell (fun _ => by simp) (by simp) rfl rfl s0 s1 hcS hneS hkS hu0 hsen
    (Takes.of_laid hkk hord tyC (by rw [Y.causeType]; rfl)) (Takes.of_laid hkk hord tyS (by rw [Y.stackType]; exact fits_refV_array _ u0)) (Takes.of_laid hkk hord tyP (by rw [Y.suppType]; exact fits_refV_object _ sen)) Y.objLocals hsk htr [] hd
    (by simp only [List.length_cons, hlen]; omega) (by simp only [List.length_cons, hlen]; exact hRl)
  refine ⟨vm2, _, _, ?_, ?_, ?_, X2, fun target k => st1 _ (fun acts => ?_)⟩
  · rfl
  · rfl
  · intro q hq
    simp only [List.mem_cons, List.not_mem_nil, or_false] at hq
    rcases hq with rfl | rfl | rfl | rfl <;> rfl
  · rw [doInvoke_state]
    exact st2 _ k
end
section
variable {P : x_P} {d : Nat} {M : x_M} {pc : Nat} {lv : List (Option Value)} {st : List Value} {h h' : x_H} {oc : Outcome}
def xA3 (c : Cond) : Prop := c ∈ xWS ∨ (c ∈ xNW ∧ c.onTables = true) ∨ c = .isRef (.static "java/lang/Throwable" "UNASSIGNED_STACK" "[Ljava/lang/StackTraceElement;") ∨ c = .isRef (.static "java/lang/Throwable" "SUPPRESSED_SENTINEL" "Ljava/util/List;") ∨ c = .laysStatic "java/lang/Throwable" "UNASSIGNED_STACK" "[Ljava/lang/StackTraceElement;" ∨ c = .laysStatic "java/lang/Throwable" "SUPPRESSED_SENTINEL" "Ljava/util/List;"
theorem xA3.use {p : Program} {R : Room} {s : State} {m : MethodId} {args : Array Value} {meth : Method} {c : Code} {a : Cond} (k : xA3 a) (C : x_C P d M p R s m args meth c) : a.before args s = true := by
  obtain ⟨-, -, -, ⟨v1, hv1, hU⟩, v2, hv2, hV⟩ := C.en.2.2.2.2
  rcases k with h9 | h9 | h9 | h9 | h9 | h9
  · exact C.ts _ h9
  · exact va_Nw.use h9.2 (C.en.2.1 _ h9.1)
  · rw [h9]; exact x_stRef rfl hv1 hU
  · rw [h9]; exact x_stRef rfl hv2 hV
  · rw [h9]; exact x_stLay rfl hU
  · rw [h9]; exact x_stLay rfl hV
/-- new X; dup; X's constructor -/
theorem xj_newX {ci index ic : Nat} {Xn : String} {T0 : u_T} {names : List String} (hd0 : decode M.2.1 pc = .ok (.new index, 3)) (hd3 : decode M.2.1 (pc + 3) = .ok (.dup, 1)) (hd4 : decode M.2.1 (pc + 4) = .ok (.invokespecial ic, 3)) (hc : xcl[ci]? = some (Xn, T0, 0)) (hw : Cond.classLink M.1.cls index Xn ∈ xWS) (hin : Cond.instantiable Xn 6 ∈ xWS) (hini : Cond.initialized Xn ∈ xWS)
    (hX : Bundle.fit Xn = true) (hnames : ∀ n ∈ names, Bundle.fit n = true) (hat : ∀ a ∈ Bundle.ownAtoms0 M.1.cls ic Xn names, xA3 a) (hl : ∀ e : Env, P.1.admits e → e.platform.stackTraces = false) (hn2 : names.length = 2) (hd6 : 6 ≤ d) (hst : (st.map fun u => u.category).sum ≤ 8)
    (k : x_J P d M (pc + 7) lv (.ref h.2.1 :: st) (x_new h (.inr (ci, [])) 6) oc h') : x_J P d M pc lv st h oc h' := by
  refine ⟨⟨Nat.le_trans (Nat.le_succ _) k.1.1, Nat.le_trans (Nat.le_add_right _ _) k.1.2⟩, fun {p e R s m args below meth c n0 s0 H locs ls Qc} C N hR hS hL hQ => ?_⟩
  obtain ⟨N', c1, c2, c3, c4⟩ := x_Nnew N k.1
  have hKn := C.en.1.1 ci _ hc
  intro T hT X
  have htr : e.platform.stackTraces = false := hl e X.admits
  obtain ⟨vm1, cX, kX, hfX, hkX, -, hsz, X1, st1⟩ := X.newCold C.ex (own := M.1.cls) (C := Xn) (index := index) (n := 6) C.ow (C.ts _ hw) (C.ts _ hin) (C.ts _ hini) (g := F0 m pc ls st) rfl (by rw [C.cd]; exact hd0) c1 c2
  have hsT : T.heap.size = h.2.1 := by rw [hT]; exact hR.1
  have hex := C.en.2.2.2.2
  obtain ⟨-, -, -, ⟨v1, hv1, hU⟩, v2, hv2, hV⟩ := hex
  have hheap1 : ((T.setVm vm1).pushCell { cls := cX, slots := kX.instanceTypes.map defaultValue, vm := .none }).heap = T.heap.push (freshCell cX kX) := rfl
  have hs1 : s.heap.size ≤ T.heap.size := by rw [hT]; exact hS.1
  have hlo := C.lo
  have hfr := C.fr
  obtain ⟨vm2, cell', L, e1, e2, e3, X2, st2⟩ := x_ctor (A := x_A P) X1 C.ex htr (own := M.1.cls) (Xn := Xn) (names := names) (ic := ic) C.ow hX hnames
    (fun a ha => by
      exact (hat a ha).use C)
    (fun q hq hnA => by
      rw [hheap1, Array.getElem?_push, if_neg (by omega), hT]
      exact hS.2.1 q hq hnA)
    hU hfX hkX (a := T.heap.size) (by rw [hheap1]; simp) hs1
    (g := F0 m (pc + 4) ls (.ref T.heap.size :: .ref T.heap.size :: st)) rfl (by rw [C.ml]; exact hL.1) (rest := .ref T.heap.size :: st) rfl (by rw [C.cd]; exact hd4) (by omega) (by
      rw [hn2]
      show 2 * 0 + (1 + (st.map fun v => v.category).sum) + (13 * (2 + 1) + 41) ≤ R.locals
      omega)
  have hH2 : (((T.setVm vm1).pushCell { cls := cX, slots := kX.instanceTypes.map defaultValue, vm := .none }).setVm vm2 |>.setCell T.heap.size cell').heap = (T.heap.push (freshCell cX kX)).setIfInBounds T.heap.size cell' := rfl
  have r1 : x_at P h.2.1 (.inr (ci, [])) ((T.heap.push (freshCell cX kX)).setIfInBounds T.heap.size cell') := ⟨_, hc, cell', by simp [hsT], by rw [e1]; exact Option.some.inj (hfX.symm.trans hKn.2.1), e2, fun q hq => absurd hq (Nat.not_lt_zero q)⟩
  have r2 : ((T.heap.push (freshCell cX kX)).setIfInBounds T.heap.size cell').size = h.2.1 + 1 := by simp [hsT]
  have r3 : ∀ q : Nat, q < h.2.1 → ((T.heap.push (freshCell cX kX)).setIfInBounds T.heap.size cell')[q]? = H[q]? := by
    intro q hq
    rw [Array.getElem?_setIfInBounds, if_neg (by omega), Array.getElem?_push, if_neg (by omega), hT]
  have r4 : va_S (x_A P) s.heap ((T.heap.push (freshCell cX kX)).setIfInBounds T.heap.size cell') (locs ++ L) := by
    refine ⟨?_, ?_, ?_⟩
    · simp
      omega
    · intro q hq hnA
      rw [Array.getElem?_setIfInBounds, if_neg (by omega), Array.getElem?_push, if_neg (by omega), hT]
      exact hS.2.1 q hq hnA
    · intro q hq
      rcases List.mem_append.mp hq with h9 | h9
      · exact hS.2.2 q h9
      · rw [e3 q h9, hsT]
        exact hR.2.1
  obtain ⟨t, a1, b1⟩ := (W.cs c3 c4 (k.2 (e := e) (below := below) (Qc := Qc) C N' (hR.new r1 r2 r3) r4 hL hQ)) _ hH2 X2
  refine ⟨t, st1 t ?_, b1⟩
  show Steps p.tables e below (((T.setVm vm1).pushCell { cls := cX, slots := kX.instanceTypes.map defaultValue, vm := .none }).setTop (F0 m (pc + 3) ls (.ref T.heap.size :: st))) t
  have hdd : decode c.code (pc + 3) = .ok (.dup, 1) := by rw [C.cd]; exact hd3
  rw [← hsT] at a1
  have st3 := st2 t a1
  jvm_step X1.here [X1.here.top, C.ex, hdd]
  refine ⟨F0 m (pc + 3) ls (.ref T.heap.size :: st), ?_, _, _, rfl, rfl, st3⟩
  exact State.topJava?_setTop' _ X1.here.top
end

