/-! The judgement x_J: the machine, at a place of a method, over an abstract heap, ends with an outcome and an abstract heap. -/
abbrev x_E : Type := (Nat × vp_A) ⊕ (Nat × List Value)
abbrev x_H : Type := (Nat → Option x_E) × Nat × Nat
abbrev x_X : Type := Nat × Nat × (Nat → Int32) × Nat × Nat
abbrev x_P : Type := Launch × va_G × (Nat → ClassId) × Nat × x_X
def x_at (P : x_P) (a : Nat) (e : x_E) (H : Heap) : Prop := match e with
  | .inl x => H[a]? = some (vp_cell (P.2.2.1 x.1) x.2)
  | .inr o => va_at P.2.1 xcl (a, .inr o) H
def x_A (P : x_P) : Nat → Prop := fun q => P.2.2.2.1 ≤ q
def x_R (P : x_P) (h : x_H) (H : Heap) : Prop := H.size = h.2.1 ∧ P.2.2.2.1 ≤ h.2.1 ∧ ∀ (a : Nat) (e : x_E), h.1 a = some e → P.2.2.2.1 ≤ a ∧ x_at P a e H
/-- a static of an initialised class, with its value, in a cell that isn't ours -/
def x_St (C n d : String) (v : Value) (A : Nat → Prop) (U : State) (H : Heap) : Prop := ∃ (c : ClassId) (k : Class) (i : Nat) (f : Field) (a : Nat) (cell : Cell), U.vm.findClass C = some c ∧ U.fieldFound? C n d = some (c, k, i, f) ∧ f.isStatic = true ∧ k.statics = some a ∧ H[a]? = some cell ∧ cell.vm.isStatics = true ∧ cell.cls = c ∧ f.slot < cell.slots.size ∧ k.staticTypes[f.slot]? = some f.type ∧ cell.slots[f.slot]? = some v ∧ ¬ A a
theorem x_St.moved {C n d : String} {v : Value} {A : Nat → Prop} {u U : State} {H : Heap} (hvm : u.vm.Alike U.vm) (h : x_St C n d v A u H) : x_St C n d v A U H := by
  obtain ⟨c, k, i, f, a, cell, h0, h1, h2, h3, h4, h5, h6, h7, h8, h9⟩ := h
  obtain ⟨k', hi', he⟩ := State.fieldFound?_setVm hvm h1
  exact ⟨c, k', i, f, a, cell, by rw [hvm.findClass]; exact h0, hi', h2, by rw [he]; exact h3, h4, h5, h6, h7, by rw [he]; exact h8, h9⟩
theorem x_St.kept {C n d : String} {v : Value} {A : Nat → Prop} {U : State} {H H1 : Heap} (h : x_St C n d v A U H) (hq : ∀ a : Nat, a < H.size → ¬ A a → H1[a]? = H[a]?) : x_St C n d v A U H1 := by
  obtain ⟨c, k, i, f, a, cell, h0, h1, h2, h3, h4, h5, h6, h7, h8, h9, h10⟩ := h
  exact ⟨c, k, i, f, a, cell, h0, h1, h2, h3, by rw [hq a (Array.getElem?_eq_some_iff.mp h4).1 h10]; exact h4, h5, h6, h7, h8, h9, h10⟩
/-- what else holds of the start: ArrayList's empty array E, the mirror mi of Object[], Throwable's two statics -/
def x_Ex (P : x_P) (s : State) (H : Heap) : Prop := va_Z "java/util/ArrayList" "DEFAULTCAPACITY_EMPTY_ELEMENTDATA" "[Ljava/lang/Object;" (.ref P.2.2.2.2.2.2.2.1) (x_A P) s H ∧ va_T (.object "java/lang/Object") P.2.2.2.2.2.2.2.1 0 (fun _ => .null) (x_A P) s H ∧ va_Mi "[Ljava/lang/Object;" P.2.2.2.2.2.2.2.2 s ∧ (∃ v : Value, v.isRef = true ∧ x_St "java/lang/Throwable" "UNASSIGNED_STACK" "[Ljava/lang/StackTraceElement;" v (x_A P) s H) ∧ ∃ v : Value, v.isRef = true ∧ x_St "java/lang/Throwable" "SUPPRESSED_SENTINEL" "Ljava/util/List;" v (x_A P) s H
theorem x_Ex.moved {P : x_P} {u U : State} {H : Heap} (hvm : u.vm.Alike U.vm) (h : x_Ex P u H) : x_Ex P U H := by
  obtain ⟨h1, h2, h3, ⟨v, hv, h4⟩, w, hw, h5⟩ := h
  exact ⟨va_Z.moved hvm h1, va_T.moved hvm h2, va_Mi.moved hvm h3, ⟨v, hv, h4.moved hvm⟩, w, hw, h5.moved hvm⟩
theorem x_Ex.kept {P : x_P} {U : State} {H H1 : Heap} (h : x_Ex P U H) (hq : ∀ a : Nat, a < H.size → ¬ x_A P a → H1[a]? = H[a]?) : x_Ex P U H1 := by
  obtain ⟨h1, h2, h3, ⟨v, hv, h4⟩, w, hw, h5⟩ := h
  exact ⟨va_Z.kept h1 hq, va_T.kept h2 hq, h3, ⟨v, hv, h4.kept hq⟩, w, hw, h5.kept hq⟩
def x_Env (P : x_P) (s : State) (H : Heap) : Prop := va_K P.2.1 xcl (x_tys P.2.2.1) s ∧ (∀ w ∈ xNW, va_Nw w s) ∧ va_X P.2.2.2.2.1 P.2.2.2.2.2.1 P.2.2.2.2.2.2.1 s H ∧ P.2.2.2.2.1 < P.2.2.2.1 ∧ x_Ex P s H
def x_L (ls : Array Slot) (n : Nat) (lv : List (Option Value)) : Prop := ls.size = n ∧ lv_wf ls ∧ lv.length = n ∧ ∀ (i : Nat) (v : Value), lv[i]? = some (some v) → ls[i]? = some (.val v) ∧ v.category = 1
def x_C (P : x_P) (d : Nat) (M : x_M) (p : Program) (R : Room) (s : State) (m : MethodId) (args : Array Value) (meth : Method) (c : Code) : Prop :=
  p.tables.exec = Jvm.exec ∧ c.code = M.2.1 ∧ c.maxLocals = M.2.2.1 ∧ meth.sig.returnType = M.2.2.2 ∧ meth.locks = false ∧ s.vm.findClass M.1.cls = some m.cls ∧ meth.name = M.1.name ∧ (M.1.cls ≠ "BrokerTreeLaw" → c.exceptionTable.isEmpty = true) ∧
  (∀ w ∈ xWS, w.before args s = true) ∧ x_Env P s s.heap ∧ d ≤ R.frames ∧ 37 * d ≤ R.locals ∧ P.2.2.2.1 ≤ s.heap.size
def x_N (h h' : x_H) (n0 s0 : Nat) (R : Room) : Prop := n0 ≤ h.2.1 ∧ s0 ≤ h.2.2 ∧ h'.2.1 - n0 ≤ R.cells ∧ h'.2.2 - s0 ≤ R.slots
def x_Q (P : x_P) (h' : x_H) (s : State) (args : Array Value) (oc : Outcome) (Qc : Array Value → State → Outcome → State → Prop) : Prop :=
  ∀ t : State, x_R P h' t.heap → (∃ locs, va_S (x_A P) s.heap t.heap locs) → s.WarmedH t.vm → Qc args s oc t
/-- a method has ended, by a return or by a throw -/
def x_MQ (below : List Frame) (Qc : Array Value → State → Outcome → State → Prop) (a : Array Value) (s : State) (mc ms : Nat) (free : Addr → Prop) : State → Prop := fun t =>
  ∃ o, t.status = .running ∧ Ended t below o ∧ Qc a s o t ∧ ∃ L, ((∃ v, o = .returned v) ∨ ∃ x, o = .threw x) ∧ s.WarmedH t.vm ∧ s.sameButNew ({ t with vm := s.vm } : State) L mc ms ∧ ∀ q ∈ L, free q.base
theorem x_Wm {p : Program} {l : Launch} {e : Env} {R : Room} {s : State} {m : MethodId} {args : Array Value} {below : List Frame} {meth : Method} {c : Code} {H : Heap} {locs : List Loc} {cells slots mc ms : Nat} {Qc : Array Value → State → Outcome → State → Prop} {free : Addr → Prop} {g : JFrame} (k : W p l e R s m args below meth c H locs cells slots (MQ below Qc args s mc ms free) g) : W p l e R s m args below meth c H locs cells slots (x_MQ below Qc args s mc ms free) g := by
  intro T hT X
  obtain ⟨t, a, o, b1, b2, b3, L, ⟨b4, b5, b6⟩, b7⟩ := k T hT X
  exact ⟨t, a, o, b1, b2, b3, L, Or.inl b4, b5, b6, b7⟩
theorem x_Wr {p : Program} {l : Launch} {e : Env} {R : Room} {s : State} {m : MethodId} {args : Array Value} {below : List Frame} {meth : Method} {c : Code} {H : Heap} {locs : List Loc} {cells slots mc ms : Nat} {Qc : Array Value → State → Outcome → State → Prop} {free : Addr → Prop} {g : JFrame} (hq : ∀ o t, Qc args s o t → ∃ v, o = .returned v) (k : W p l e R s m args below meth c H locs cells slots (x_MQ below Qc args s mc ms free) g) : W p l e R s m args below meth c H locs cells slots (MQ below Qc args s mc ms free) g := by
  intro T hT X
  obtain ⟨t, a, o, b1, b2, b3, L, -, b5, b6, b7⟩ := k T hT X
  exact ⟨t, a, o, b1, b2, b3, L, ⟨hq o t b3, b5, b6⟩, b7⟩
def x_J (P : x_P) (d : Nat) (M : x_M) (pc : Nat) (lv : List (Option Value)) (st : List Value) (h : x_H) (oc : Outcome) (h' : x_H) : Prop :=
  (h.2.1 ≤ h'.2.1 ∧ h.2.2 ≤ h'.2.2) ∧
  ∀ {p : Program} {e : Env} {R : Room} {s : State} {m : MethodId} {args : Array Value} {below : List Frame} {meth : Method} {c : Code} {n0 s0 : Nat} {H : Heap} {locs : List Loc} {ls : Array Slot} {Qc : Array Value → State → Outcome → State → Prop},
    x_C P d M p R s m args meth c → x_N h h' n0 s0 R → x_R P h H → va_S (x_A P) s.heap H locs → x_L ls M.2.2.1 lv → x_Q P h' s args oc Qc →
    W p P.1 e R s m args below meth c H locs (h.2.1 - n0) (h.2.2 - s0) (x_MQ below Qc args s (h'.2.1 - n0) (h'.2.2 - s0) (x_A P)) (F0 m pc ls st)
def x_put (h : x_H) (a : Nat) (e : x_E) : x_H := (fun q => if q = a then some e else h.1 q, h.2)
def x_new (h : x_H) (e : x_E) (n : Nat) : x_H := (fun q => if q = h.2.1 then some e else h.1 q, h.2.1 + 1, h.2.2 + n)
section XJ0
variable {P : x_P} {d : Nat} {M : x_M} {p : Program} {R : Room} {s : State} {m : MethodId} {args : Array Value} {meth : Method} {c : Code}
theorem x_C.ex (C : x_C P d M p R s m args meth c) : p.tables.exec = Jvm.exec := C.1
theorem x_C.cd (C : x_C P d M p R s m args meth c) : c.code = M.2.1 := C.2.1
theorem x_C.ml (C : x_C P d M p R s m args meth c) : c.maxLocals = M.2.2.1 := C.2.2.1
theorem x_C.re (C : x_C P d M p R s m args meth c) : meth.sig.returnType = M.2.2.2 := C.2.2.2.1
theorem x_C.lk (C : x_C P d M p R s m args meth c) : meth.locks = false := C.2.2.2.2.1
theorem x_C.ow (C : x_C P d M p R s m args meth c) : s.vm.findClass M.1.cls = some m.cls := C.2.2.2.2.2.1
theorem x_C.nm (C : x_C P d M p R s m args meth c) : meth.name = M.1.name := C.2.2.2.2.2.2.1
theorem x_C.nh (C : x_C P d M p R s m args meth c) : M.1.cls ≠ "BrokerTreeLaw" → c.exceptionTable.isEmpty = true := C.2.2.2.2.2.2.2.1
theorem x_C.ts (C : x_C P d M p R s m args meth c) : ∀ w ∈ xWS, w.before args s = true := C.2.2.2.2.2.2.2.2.1
theorem x_C.en (C : x_C P d M p R s m args meth c) : x_Env P s s.heap := C.2.2.2.2.2.2.2.2.2.1
theorem x_C.fr (C : x_C P d M p R s m args meth c) : d ≤ R.frames := C.2.2.2.2.2.2.2.2.2.2.1
theorem x_C.lo (C : x_C P d M p R s m args meth c) : 37 * d ≤ R.locals := C.2.2.2.2.2.2.2.2.2.2.2.1
theorem x_C.hb (C : x_C P d M p R s m args meth c) : P.2.2.2.1 ≤ s.heap.size := C.2.2.2.2.2.2.2.2.2.2.2.2
theorem x_at.kept {a : Nat} {e : x_E} {H H1 : Heap} (h : x_at P a e H) (hq : H1[a]? = H[a]?) : x_at P a e H1 := by
  cases e with
  | inl x => exact hq.trans h
  | inr o => exact va_at.kept (q := (a, .inr o)) h hq
theorem x_R.put {h : x_H} {H H1 : Heap} {a : Nat} {e e0 : x_E} (hR : x_R P h H) (ha : h.1 a = some e0) (hn : x_at P a e H1) (hz : H1.size = H.size) (ho : ∀ q : Nat, q ≠ a → H1[q]? = H[q]?) : x_R P (x_put h a e) H1 := by
  refine ⟨hz.trans hR.1, hR.2.1, fun q x hq => ?_⟩
  simp only [x_put] at hq
  by_cases hqa : q = a
  · subst hqa
    rw [if_pos rfl] at hq
    cases hq
    exact ⟨(hR.2.2 _ _ ha).1, hn⟩
  · rw [if_neg hqa] at hq
    exact ⟨(hR.2.2 _ _ hq).1, (hR.2.2 _ _ hq).2.kept (ho q hqa)⟩
theorem x_at.lt {a : Nat} {e : x_E} {H : Heap} (h : x_at P a e H) : a < H.size := by
  cases e with
  | inl x => exact (Array.getElem?_eq_some_iff.mp h).1
  | inr o => exact va_at.lt (q := (a, .inr o)) h
theorem x_R.new {h : x_H} {H H1 : Heap} {e : x_E} {n : Nat} (hR : x_R P h H) (hn : x_at P h.2.1 e H1) (hz : H1.size = h.2.1 + 1) (ho : ∀ q : Nat, q < h.2.1 → H1[q]? = H[q]?) : x_R P (x_new h e n) H1 := by
  refine ⟨hz, Nat.le_succ_of_le hR.2.1, fun q x hq => ?_⟩
  simp only [x_new] at hq
  by_cases hqa : q = h.2.1
  · subst hqa
    rw [if_pos rfl] at hq
    cases hq
    exact ⟨hR.2.1, hn⟩
  · rw [if_neg hqa] at hq
    have h1 := hR.2.2 _ _ hq
    exact ⟨h1.1, h1.2.kept (ho q (by have := h1.2.lt; rw [hR.1] at this; exact this))⟩
def x_as (lv : List (Option Value)) : List (Nat × Value) := (List.range lv.length).filterMap (fun i => (lv[i]?).bind (fun o => o.map (fun v => (i, v))))
theorem x_as_mem {lv : List (Option Value)} {i : Nat} {v : Value} : (i, v) ∈ x_as lv ↔ lv[i]? = some (some v) := by
  simp only [x_as, List.mem_filterMap, List.mem_range]
  constructor
  · rintro ⟨j, hj, h⟩
    cases hl : lv[j]? with
    | none => rw [hl] at h; cases h
    | some o =>
      rw [hl] at h
      cases o with
      | none => cases h
      | some w =>
        simp only [Option.bind_some, Option.map_some, Option.some.injEq, Prod.mk.injEq] at h
        obtain ⟨rfl, rfl⟩ := h
        exact hl
  · intro h
    exact ⟨i, (List.getElem?_eq_some_iff.mp h).1, by rw [h]; rfl⟩
theorem x_L.has {ls : Array Slot} {n : Nat} {lv : List (Option Value)} (h : x_L ls n lv) : lv_has ls n (x_as lv) := ⟨h.1, h.2.1, fun q hq => (h.2.2.2 q.1 q.2 (x_as_mem.mp hq)).1⟩
theorem x_L.set {ls ls' : Array Slot} {n : Nat} {lv : List (Option Value)} {i : Nat} {v : Value} (h : x_L ls n lv) (hi : i < n) (hc : v.category = 1)
    (h' : lv_has ls' n ((i, v) :: (x_as lv).filter (fun q => !(q.1 == i) && !(q.1 + 1 == i && q.2.category == 2)))) : x_L ls' n (lv.set i (some v)) := by
  refine ⟨h'.1, h'.2.1, by rw [List.length_set]; exact h.2.2.1, fun j w hj => ?_⟩
  rw [List.getElem?_set] at hj
  by_cases hji : i = j
  · subst hji
    rw [if_pos rfl] at hj
    split at hj
    · cases hj
      exact ⟨h'.2.2 (i, v) List.mem_cons_self, hc⟩
    · cases hj
  · rw [if_neg hji] at hj
    have h1 := (h.2.2.2 j w hj).2
    refine ⟨h'.2.2 (j, w) (List.mem_cons_of_mem _ (List.mem_filter.mpr ⟨x_as_mem.mpr hj, ?_⟩)), h1⟩
    simp [h1, Ne.symm hji]
theorem x_L.get {ls : Array Slot} {n : Nat} {lv : List (Option Value)} {i : Nat} {v : Value} (h : x_L ls n lv) (hl : lv[i]? = some (some v)) : ls[i]? = some (.val v) := (h.2.2.2 i v hl).1
theorem x_L.len {ls : Array Slot} {n : Nat} {lv : List (Option Value)} {i : Nat} {o : Option Value} (h : x_L ls n lv) (hl : lv[i]? = some o) : i < n := by
  rw [← h.2.2.1]; exact (List.getElem?_eq_some_iff.mp hl).1
theorem x_isr (r : Option Nat) : (va_rf r).isRef = true := by cases r <;> rfl
theorem x_isr_rf {v : Value} (h : v.isRef = true) : ∃ r : Option Nat, v = va_rf r := by
  cases v with
  | null => exact ⟨none, rfl⟩
  | ref a => exact ⟨some a, rfl⟩
  | _ => cases h
end XJ0
section XJ1
variable {P : x_P} {d : Nat} {M : x_M} {pc : Nat} {lv : List (Option Value)} {st : List Value} {h h' : x_H} {oc : Outcome}
theorem xj_iconst {n : Int} {v : Int32} (hd : decode M.2.1 pc = .ok (.iconst n, 1)) (hv : Int32.ofInt n = v) (k : x_J P d M (pc + 1) lv (.int v :: st) h oc h') : x_J P d M pc lv st h oc h' :=
  ⟨k.1, fun C N hR hS hL hQ => lv_iconst C.ex C.cd hd hv (k.2 C N hR hS hL hQ)⟩
theorem xj_bipush {n : Int} {v : Int32} (hd : decode M.2.1 pc = .ok (.bipush n, 2)) (hv : (Int8.ofInt n).toInt32 = v) (k : x_J P d M (pc + 2) lv (.int v :: st) h oc h') : x_J P d M pc lv st h oc h' :=
  ⟨k.1, fun C N hR hS hL hQ => lv_bipush C.ex C.cd hd hv (k.2 C N hR hS hL hQ)⟩
theorem xj_sipush {n : Int} {v : Int32} (hd : decode M.2.1 pc = .ok (.sipush n, 3)) (hv : (Int16.ofInt n).toInt32 = v) (k : x_J P d M (pc + 3) lv (.int v :: st) h oc h') : x_J P d M pc lv st h oc h' :=
  ⟨k.1, fun C N hR hS hL hQ => lv_sipush C.ex C.cd hd hv (k.2 C N hR hS hL hQ)⟩
theorem xj_lconst {n : Fin 2} {v : Int64} (hd : decode M.2.1 pc = .ok (.lconst n, 1)) (hv : Int64.ofNat (n : Nat) = v) (k : x_J P d M (pc + 1) lv (.long v :: st) h oc h') : x_J P d M pc lv st h oc h' :=
  ⟨k.1, fun C N hR hS hL hQ => lv_lconst C.ex C.cd hd hv (k.2 C N hR hS hL hQ)⟩
theorem xj_null (hd : decode M.2.1 pc = .ok (.aconst_null, 1)) (k : x_J P d M (pc + 1) lv (.null :: st) h oc h') : x_J P d M pc lv st h oc h' :=
  ⟨k.1, fun C N hR hS hL hQ => lv_null C.ex C.cd hd (k.2 C N hR hS hL hQ)⟩
theorem xj_ldc {index : Nat} {v : Int32} (hd : decode M.2.1 pc = .ok (.ldc index, 2)) (hw : Cond.constant M.1.cls index v ∈ xWS) (k : x_J P d M (pc + 2) lv (.int v :: st) h oc h') : x_J P d M pc lv st h oc h' :=
  ⟨k.1, fun C N hR hS hL hQ => lv_ldc C.ex C.cd C.ow (C.ts _ hw) hd (k.2 C N hR hS hL hQ)⟩
theorem xj_iload_n {j : Fin 4} {i : Nat} {x : Int32} (hd : decode M.2.1 pc = .ok (.iload_n j, 1)) (hi : (j : Nat) = i) (hl : lv[i]? = some (some (.int x))) (k : x_J P d M (pc + 1) lv (.int x :: st) h oc h') : x_J P d M pc lv st h oc h' :=
  ⟨k.1, fun C N hR hS hL hQ => lv_iload_n C.ex C.cd hd hi (hL.get hl) (k.2 C N hR hS hL hQ)⟩
theorem xj_iload {i : Nat} {x : Int32} (hd : decode M.2.1 pc = .ok (.iload i, 2)) (hl : lv[i]? = some (some (.int x))) (k : x_J P d M (pc + 2) lv (.int x :: st) h oc h') : x_J P d M pc lv st h oc h' :=
  ⟨k.1, fun C N hR hS hL hQ => lv_iload C.ex C.cd hd (hL.get hl) (k.2 C N hR hS hL hQ)⟩
theorem xj_aload_n {j : Fin 4} {i : Nat} {v : Value} (hd : decode M.2.1 pc = .ok (.aload_n j, 1)) (hi : (j : Nat) = i) (hl : lv[i]? = some (some v)) (hv : v.isRef = true) (k : x_J P d M (pc + 1) lv (v :: st) h oc h') : x_J P d M pc lv st h oc h' := by
  refine ⟨k.1, fun C N hR hS hL hQ => ?_⟩
  cases v with
  | null => exact lv_aload_nN C.ex C.cd hd hi (hL.get hl) (k.2 C N hR hS hL hQ)
  | ref a => exact lv_aload_n C.ex C.cd hd hi (hL.get hl) (k.2 C N hR hS hL hQ)
  | _ => cases hv
theorem xj_aload {i : Nat} {v : Value} (hd : decode M.2.1 pc = .ok (.aload i, 2)) (hl : lv[i]? = some (some v)) (hv : v.isRef = true) (k : x_J P d M (pc + 2) lv (v :: st) h oc h') : x_J P d M pc lv st h oc h' := by
  refine ⟨k.1, fun C N hR hS hL hQ => ?_⟩
  cases v with
  | null => exact lv_aloadN C.ex C.cd hd (hL.get hl) (k.2 C N hR hS hL hQ)
  | ref a => exact lv_aload C.ex C.cd hd (hL.get hl) (k.2 C N hR hS hL hQ)
  | _ => cases hv
theorem xj_istore_n {j : Fin 4} {i : Nat} {x : Int32} {o : Option Value} (hd : decode M.2.1 pc = .ok (.istore_n j, 1)) (hi : (j : Nat) = i) (hl : lv[i]? = some o) (k : x_J P d M (pc + 1) (lv.set i (some (.int x))) st h oc h') : x_J P d M pc lv (.int x :: st) h oc h' :=
  ⟨k.1, fun C N hR hS hL hQ => lv_istore_n C.ex C.cd hd hi hL.has (hL.len hl) rfl (fun _ h9 => k.2 C N hR hS (hL.set (hL.len hl) rfl h9) hQ)⟩
theorem xj_istore {i : Nat} {x : Int32} {o : Option Value} (hd : decode M.2.1 pc = .ok (.istore i, 2)) (hl : lv[i]? = some o) (k : x_J P d M (pc + 2) (lv.set i (some (.int x))) st h oc h') : x_J P d M pc lv (.int x :: st) h oc h' :=
  ⟨k.1, fun C N hR hS hL hQ => lv_istore C.ex C.cd hd hL.has (hL.len hl) rfl (fun _ h9 => k.2 C N hR hS (hL.set (hL.len hl) rfl h9) hQ)⟩
theorem xj_astore_n {j : Fin 4} {i : Nat} {v : Value} {o : Option Value} (hd : decode M.2.1 pc = .ok (.astore_n j, 1)) (hi : (j : Nat) = i) (hl : lv[i]? = some o) (hv : v.isRef = true) (k : x_J P d M (pc + 1) (lv.set i (some v)) st h oc h') : x_J P d M pc lv (v :: st) h oc h' := by
  refine ⟨k.1, fun C N hR hS hL hQ => ?_⟩
  cases v with
  | null => exact lv_astore_nN C.ex C.cd hd hi hL.has (hL.len hl) rfl (fun _ h9 => k.2 C N hR hS (hL.set (hL.len hl) rfl h9) hQ)
  | ref a => exact lv_astore_n C.ex C.cd hd hi hL.has (hL.len hl) rfl (fun _ h9 => k.2 C N hR hS (hL.set (hL.len hl) rfl h9) hQ)
  | _ => cases hv
theorem xj_astore {i : Nat} {v : Value} {o : Option Value} (hd : decode M.2.1 pc = .ok (.astore i, 2)) (hl : lv[i]? = some o) (hv : v.isRef = true) (k : x_J P d M (pc + 2) (lv.set i (some v)) st h oc h') : x_J P d M pc lv (v :: st) h oc h' := by
  refine ⟨k.1, fun C N hR hS hL hQ => ?_⟩
  cases v with
  | null => exact lv_astoreN C.ex C.cd hd hL.has (hL.len hl) rfl (fun _ h9 => k.2 C N hR hS (hL.set (hL.len hl) rfl h9) hQ)
  | ref a => exact lv_astore C.ex C.cd hd hL.has (hL.len hl) rfl (fun _ h9 => k.2 C N hR hS (hL.set (hL.len hl) rfl h9) hQ)
  | _ => cases hv
theorem xj_iinc {i : Nat} {n : Int} {x v : Int32} (hd : decode M.2.1 pc = .ok (.iinc i n, 3)) (hl : lv[i]? = some (some (.int x))) (hv : x + Int32.ofInt n = v) (k : x_J P d M (pc + 3) (lv.set i (some (.int v))) st h oc h') : x_J P d M pc lv st h oc h' := by
  refine ⟨k.1, fun C N hR hS hL hQ => ?_⟩
  obtain ⟨q, hq⟩ := List.getElem?_of_mem (x_as_mem.mpr hl)
  exact lv_iinc C.ex C.cd hd hL.has hq hv (hL.len hl) rfl (fun _ h9 => k.2 C N hR hS (hL.set (hL.len hl) rfl h9) hQ)
theorem xj_iadd {x y : Int32} (hd : decode M.2.1 pc = .ok (.iadd, 1)) (k : x_J P d M (pc + 1) lv (.int (x + y) :: st) h oc h') : x_J P d M pc lv (.int y :: .int x :: st) h oc h' :=
  ⟨k.1, fun C N hR hS hL hQ => lv_iadd C.ex C.cd hd (k.2 C N hR hS hL hQ)⟩
theorem xj_isub {x y : Int32} (hd : decode M.2.1 pc = .ok (.isub, 1)) (k : x_J P d M (pc + 1) lv (.int (x - y) :: st) h oc h') : x_J P d M pc lv (.int y :: .int x :: st) h oc h' :=
  ⟨k.1, fun C N hR hS hL hQ => lv_isub C.ex C.cd hd (k.2 C N hR hS hL hQ)⟩
theorem xj_imul {x y : Int32} (hd : decode M.2.1 pc = .ok (.imul, 1)) (k : x_J P d M (pc + 1) lv (.int (x * y) :: st) h oc h') : x_J P d M pc lv (.int y :: .int x :: st) h oc h' :=
  ⟨k.1, fun C N hR hS hL hQ => lv_imul C.ex C.cd hd (k.2 C N hR hS hL hQ)⟩
theorem xj_iand {x y : Int32} (hd : decode M.2.1 pc = .ok (.iand, 1)) (k : x_J P d M (pc + 1) lv (.int (x &&& y) :: st) h oc h') : x_J P d M pc lv (.int y :: .int x :: st) h oc h' :=
  ⟨k.1, fun C N hR hS hL hQ => lv_iand C.ex C.cd hd (k.2 C N hR hS hL hQ)⟩
theorem xj_ior {x y : Int32} (hd : decode M.2.1 pc = .ok (.ior, 1)) (k : x_J P d M (pc + 1) lv (.int (x ||| y) :: st) h oc h') : x_J P d M pc lv (.int y :: .int x :: st) h oc h' :=
  ⟨k.1, fun C N hR hS hL hQ => lv_ior C.ex C.cd hd (k.2 C N hR hS hL hQ)⟩
theorem xj_ixor {x y : Int32} (hd : decode M.2.1 pc = .ok (.ixor, 1)) (k : x_J P d M (pc + 1) lv (.int (x ^^^ y) :: st) h oc h') : x_J P d M pc lv (.int y :: .int x :: st) h oc h' :=
  ⟨k.1, fun C N hR hS hL hQ => lv_ixor C.ex C.cd hd (k.2 C N hR hS hL hQ)⟩
theorem xj_idiv {x y : Int32} (hd : decode M.2.1 pc = .ok (.idiv, 1)) (hne : ¬ y = 0) (k : x_J P d M (pc + 1) lv (.int (x / y) :: st) h oc h') : x_J P d M pc lv (.int y :: .int x :: st) h oc h' :=
  ⟨k.1, fun C N hR hS hL hQ => lv_idiv C.ex C.cd hd hne (k.2 C N hR hS hL hQ)⟩
theorem xj_irem {x y : Int32} (hd : decode M.2.1 pc = .ok (.irem, 1)) (hne : ¬ y = 0) (k : x_J P d M (pc + 1) lv (.int (x - x / y * y) :: st) h oc h') : x_J P d M pc lv (.int y :: .int x :: st) h oc h' :=
  ⟨k.1, fun C N hR hS hL hQ => lv_irem C.ex C.cd hd hne (k.2 C N hR hS hL hQ)⟩
theorem xj_ineg {x : Int32} (hd : decode M.2.1 pc = .ok (.ineg, 1)) (k : x_J P d M (pc + 1) lv (.int (-x) :: st) h oc h') : x_J P d M pc lv (.int x :: st) h oc h' :=
  ⟨k.1, fun C N hR hS hL hQ => lv_ineg C.ex C.cd hd (k.2 C N hR hS hL hQ)⟩
theorem xj_ishl {x y : Int32} (hd : decode M.2.1 pc = .ok (.ishl, 1)) (k : x_J P d M (pc + 1) lv (.int (x <<< (y &&& 31)) :: st) h oc h') : x_J P d M pc lv (.int y :: .int x :: st) h oc h' :=
  ⟨k.1, fun C N hR hS hL hQ => lv_ishl C.ex C.cd hd (k.2 C N hR hS hL hQ)⟩
theorem xj_ishr {x y : Int32} (hd : decode M.2.1 pc = .ok (.ishr, 1)) (k : x_J P d M (pc + 1) lv (.int (x >>> (y &&& 31)) :: st) h oc h') : x_J P d M pc lv (.int y :: .int x :: st) h oc h' :=
  ⟨k.1, fun C N hR hS hL hQ => lv_ishr C.ex C.cd hd (k.2 C N hR hS hL hQ)⟩
theorem xj_iushr {x y v : Int32} (hd : decode M.2.1 pc = .ok (.iushr, 1)) (hv : (x.toUInt32 >>> (y.toUInt32 &&& Int32.toUInt32 31)).toInt32 = v) (k : x_J P d M (pc + 1) lv (.int v :: st) h oc h') : x_J P d M pc lv (.int y :: .int x :: st) h oc h' :=
  ⟨k.1, fun C N hR hS hL hQ => lv_iushr C.ex C.cd hd hv (k.2 C N hR hS hL hQ)⟩
theorem xj_i2l {x : Int32} {v : Int64} (hd : decode M.2.1 pc = .ok (.i2l, 1)) (hv : x.toInt64 = v) (k : x_J P d M (pc + 1) lv (.long v :: st) h oc h') : x_J P d M pc lv (.int x :: st) h oc h' :=
  ⟨k.1, fun C N hR hS hL hQ => lv_i2l C.ex C.cd hd hv (k.2 C N hR hS hL hQ)⟩
theorem xj_i2c {x v : Int32} (hd : decode M.2.1 pc = .ok (.i2c, 1)) (hv : (x.toUInt32 % 65536).toInt32 = v) (k : x_J P d M (pc + 1) lv (.int v :: st) h oc h') : x_J P d M pc lv (.int x :: st) h oc h' :=
  ⟨k.1, fun C N hR hS hL hQ => lv_i2c C.ex C.cd hd hv (k.2 C N hR hS hL hQ)⟩
theorem xj_lcmp {x y : Int64} (hd : decode M.2.1 pc = .ok (.lcmp, 1)) (k : x_J P d M (pc + 1) lv (.int (lg_cmp x y) :: st) h oc h') : x_J P d M pc lv (.long y :: .long x :: st) h oc h' :=
  ⟨k.1, fun C N hR hS hL hQ => W.lcmp C.ex C.cd hd (k.2 C N hR hS hL hQ)⟩
theorem xj_dup {v : Value} (hd : decode M.2.1 pc = .ok (.dup, 1)) (hv : v.category = 1) (k : x_J P d M (pc + 1) lv (v :: v :: st) h oc h') : x_J P d M pc lv (v :: st) h oc h' :=
  ⟨k.1, fun C N hR hS hL hQ => lv_dup C.ex C.cd hd hv (k.2 C N hR hS hL hQ)⟩
theorem xj_pop {v : Value} (hd : decode M.2.1 pc = .ok (.pop, 1)) (hv : v.category = 1) (k : x_J P d M (pc + 1) lv st h oc h') : x_J P d M pc lv (v :: st) h oc h' :=
  ⟨k.1, fun C N hR hS hL hQ => lv_pop C.ex C.cd hd hv (k.2 C N hR hS hL hQ)⟩
theorem xj_dup_x1 {v u : Value} (hd : decode M.2.1 pc = .ok (.dup_x1, 1)) (hv : v.category = 1) (hu : u.category = 1) (k : x_J P d M (pc + 1) lv (v :: u :: v :: st) h oc h') : x_J P d M pc lv (v :: u :: st) h oc h' :=
  ⟨k.1, fun C N hR hS hL hQ => lv_dup_x1 C.ex C.cd hd hv hu (k.2 C N hR hS hL hQ)⟩
theorem xj_dup_x2 {v u t : Value} (hd : decode M.2.1 pc = .ok (.dup_x2, 1)) (hv : v.category = 1) (hu : u.category = 1) (ht : t.category = 1) (k : x_J P d M (pc + 1) lv (v :: u :: t :: v :: st) h oc h') : x_J P d M pc lv (v :: u :: t :: st) h oc h' :=
  ⟨k.1, fun C N hR hS hL hQ => lv_dup_x2 C.ex C.cd hd hv hu ht (k.2 C N hR hS hL hQ)⟩
theorem xj_dup2 {v u : Value} (hd : decode M.2.1 pc = .ok (.dup2, 1)) (hv : v.category = 1) (hu : u.category = 1) (k : x_J P d M (pc + 1) lv (v :: u :: v :: u :: st) h oc h') : x_J P d M pc lv (v :: u :: st) h oc h' :=
  ⟨k.1, fun C N hR hS hL hQ => lv_dup2_11 C.ex C.cd hd hv hu (k.2 C N hR hS hL hQ)⟩
--BRANCHES
theorem xj_goto {off : Int} {tgt : Nat} (hd : decode M.2.1 pc = .ok (.goto off, 3)) (ht : (pc : Int) + off = (tgt : Int)) (k : x_J P d M tgt lv st h oc h') : x_J P d M pc lv st h oc h' :=
  ⟨k.1, fun C N hR hS hL hQ => lv_goto C.ex C.cd hd ht (k.2 C N hR hS hL hQ)⟩
theorem xj_if_eq {x : Int32} {off : Int} {tgt : Nat} (hd : decode M.2.1 pc = .ok (.ifCond .eq off, 3)) (ht : (pc : Int) + off = (tgt : Int)) (kt : x = 0 → x_J P d M tgt lv st h oc h') (kf : ¬ x = 0 → x_J P d M (pc + 3) lv st h oc h') : x_J P d M pc lv (.int x :: st) h oc h' :=
  ⟨by
    by_cases h9 : x = 0
    · exact (kt h9).1
    · exact (kf h9).1, fun C N hR hS hL hQ => lv_if_eq C.ex C.cd hd ht (fun h9 => (kt h9).2 C N hR hS hL hQ) (fun h9 => (kf h9).2 C N hR hS hL hQ)⟩
theorem xj_icmp_eq {x y : Int32} {off : Int} {tgt : Nat} (hd : decode M.2.1 pc = .ok (.if_icmp .eq off, 3)) (ht : (pc : Int) + off = (tgt : Int)) (kt : x = y → x_J P d M tgt lv st h oc h') (kf : ¬ x = y → x_J P d M (pc + 3) lv st h oc h') : x_J P d M pc lv (.int y :: .int x :: st) h oc h' :=
  ⟨by
    by_cases h9 : x = y
    · exact (kt h9).1
    · exact (kf h9).1, fun C N hR hS hL hQ => lv_icmp_eq C.ex C.cd hd ht (fun h9 => (kt h9).2 C N hR hS hL hQ) (fun h9 => (kf h9).2 C N hR hS hL hQ)⟩
theorem xj_if_ne {x : Int32} {off : Int} {tgt : Nat} (hd : decode M.2.1 pc = .ok (.ifCond .ne off, 3)) (ht : (pc : Int) + off = (tgt : Int)) (kt : ¬ x = 0 → x_J P d M tgt lv st h oc h') (kf : x = 0 → x_J P d M (pc + 3) lv st h oc h') : x_J P d M pc lv (.int x :: st) h oc h' :=
  ⟨by
    by_cases h9 : x = 0
    · exact (kf h9).1
    · exact (kt h9).1, fun C N hR hS hL hQ => lv_if_ne C.ex C.cd hd ht (fun h9 => (kt h9).2 C N hR hS hL hQ) (fun h9 => (kf h9).2 C N hR hS hL hQ)⟩
theorem xj_icmp_ne {x y : Int32} {off : Int} {tgt : Nat} (hd : decode M.2.1 pc = .ok (.if_icmp .ne off, 3)) (ht : (pc : Int) + off = (tgt : Int)) (kt : ¬ x = y → x_J P d M tgt lv st h oc h') (kf : x = y → x_J P d M (pc + 3) lv st h oc h') : x_J P d M pc lv (.int y :: .int x :: st) h oc h' :=
  ⟨by
    by_cases h9 : x = y
    · exact (kf h9).1
    · exact (kt h9).1, fun C N hR hS hL hQ => lv_icmp_ne C.ex C.cd hd ht (fun h9 => (kt h9).2 C N hR hS hL hQ) (fun h9 => (kf h9).2 C N hR hS hL hQ)⟩
theorem xj_if_lt {x : Int32} {off : Int} {tgt : Nat} (hd : decode M.2.1 pc = .ok (.ifCond .lt off, 3)) (ht : (pc : Int) + off = (tgt : Int)) (kt : x < 0 → x_J P d M tgt lv st h oc h') (kf : ¬ x < 0 → x_J P d M (pc + 3) lv st h oc h') : x_J P d M pc lv (.int x :: st) h oc h' :=
  ⟨by
    by_cases h9 : x < 0
    · exact (kt h9).1
    · exact (kf h9).1, fun C N hR hS hL hQ => lv_if_lt C.ex C.cd hd ht (fun h9 => (kt h9).2 C N hR hS hL hQ) (fun h9 => (kf h9).2 C N hR hS hL hQ)⟩
theorem xj_icmp_lt {x y : Int32} {off : Int} {tgt : Nat} (hd : decode M.2.1 pc = .ok (.if_icmp .lt off, 3)) (ht : (pc : Int) + off = (tgt : Int)) (kt : x < y → x_J P d M tgt lv st h oc h') (kf : ¬ x < y → x_J P d M (pc + 3) lv st h oc h') : x_J P d M pc lv (.int y :: .int x :: st) h oc h' :=
  ⟨by
    by_cases h9 : x < y
    · exact (kt h9).1
    · exact (kf h9).1, fun C N hR hS hL hQ => lv_icmp_lt C.ex C.cd hd ht (fun h9 => (kt h9).2 C N hR hS hL hQ) (fun h9 => (kf h9).2 C N hR hS hL hQ)⟩
theorem xj_if_ge {x : Int32} {off : Int} {tgt : Nat} (hd : decode M.2.1 pc = .ok (.ifCond .ge off, 3)) (ht : (pc : Int) + off = (tgt : Int)) (kt : 0 ≤ x → x_J P d M tgt lv st h oc h') (kf : ¬ 0 ≤ x → x_J P d M (pc + 3) lv st h oc h') : x_J P d M pc lv (.int x :: st) h oc h' :=
  ⟨by
    by_cases h9 : 0 ≤ x
    · exact (kt h9).1
    · exact (kf h9).1, fun C N hR hS hL hQ => lv_if_ge C.ex C.cd hd ht (fun h9 => (kt h9).2 C N hR hS hL hQ) (fun h9 => (kf h9).2 C N hR hS hL hQ)⟩
theorem xj_icmp_ge {x y : Int32} {off : Int} {tgt : Nat} (hd : decode M.2.1 pc = .ok (.if_icmp .ge off, 3)) (ht : (pc : Int) + off = (tgt : Int)) (kt : y ≤ x → x_J P d M tgt lv st h oc h') (kf : ¬ y ≤ x → x_J P d M (pc + 3) lv st h oc h') : x_J P d M pc lv (.int y :: .int x :: st) h oc h' :=
  ⟨by
    by_cases h9 : y ≤ x
    · exact (kt h9).1
    · exact (kf h9).1, fun C N hR hS hL hQ => lv_icmp_ge C.ex C.cd hd ht (fun h9 => (kt h9).2 C N hR hS hL hQ) (fun h9 => (kf h9).2 C N hR hS hL hQ)⟩
theorem xj_if_gt {x : Int32} {off : Int} {tgt : Nat} (hd : decode M.2.1 pc = .ok (.ifCond .gt off, 3)) (ht : (pc : Int) + off = (tgt : Int)) (kt : 0 < x → x_J P d M tgt lv st h oc h') (kf : ¬ 0 < x → x_J P d M (pc + 3) lv st h oc h') : x_J P d M pc lv (.int x :: st) h oc h' :=
  ⟨by
    by_cases h9 : 0 < x
    · exact (kt h9).1
    · exact (kf h9).1, fun C N hR hS hL hQ => lv_if_gt C.ex C.cd hd ht (fun h9 => (kt h9).2 C N hR hS hL hQ) (fun h9 => (kf h9).2 C N hR hS hL hQ)⟩
theorem xj_icmp_gt {x y : Int32} {off : Int} {tgt : Nat} (hd : decode M.2.1 pc = .ok (.if_icmp .gt off, 3)) (ht : (pc : Int) + off = (tgt : Int)) (kt : y < x → x_J P d M tgt lv st h oc h') (kf : ¬ y < x → x_J P d M (pc + 3) lv st h oc h') : x_J P d M pc lv (.int y :: .int x :: st) h oc h' :=
  ⟨by
    by_cases h9 : y < x
    · exact (kt h9).1
    · exact (kf h9).1, fun C N hR hS hL hQ => lv_icmp_gt C.ex C.cd hd ht (fun h9 => (kt h9).2 C N hR hS hL hQ) (fun h9 => (kf h9).2 C N hR hS hL hQ)⟩
theorem xj_if_le {x : Int32} {off : Int} {tgt : Nat} (hd : decode M.2.1 pc = .ok (.ifCond .le off, 3)) (ht : (pc : Int) + off = (tgt : Int)) (kt : x ≤ 0 → x_J P d M tgt lv st h oc h') (kf : ¬ x ≤ 0 → x_J P d M (pc + 3) lv st h oc h') : x_J P d M pc lv (.int x :: st) h oc h' :=
  ⟨by
    by_cases h9 : x ≤ 0
    · exact (kt h9).1
    · exact (kf h9).1, fun C N hR hS hL hQ => lv_if_le C.ex C.cd hd ht (fun h9 => (kt h9).2 C N hR hS hL hQ) (fun h9 => (kf h9).2 C N hR hS hL hQ)⟩
theorem xj_icmp_le {x y : Int32} {off : Int} {tgt : Nat} (hd : decode M.2.1 pc = .ok (.if_icmp .le off, 3)) (ht : (pc : Int) + off = (tgt : Int)) (kt : x ≤ y → x_J P d M tgt lv st h oc h') (kf : ¬ x ≤ y → x_J P d M (pc + 3) lv st h oc h') : x_J P d M pc lv (.int y :: .int x :: st) h oc h' :=
  ⟨by
    by_cases h9 : x ≤ y
    · exact (kt h9).1
    · exact (kf h9).1, fun C N hR hS hL hQ => lv_icmp_le C.ex C.cd hd ht (fun h9 => (kt h9).2 C N hR hS hL hQ) (fun h9 => (kf h9).2 C N hR hS hL hQ)⟩
theorem xj_ifnull {off : Int} {a : Nat} (hd : decode M.2.1 pc = .ok (.ifnull off, 3)) (k : x_J P d M (pc + 3) lv st h oc h') : x_J P d M pc lv (.ref a :: st) h oc h' :=
  ⟨k.1, fun C N hR hS hL hQ => lv_ifnull C.ex C.cd hd (k.2 C N hR hS hL hQ)⟩
theorem xj_ifnullN {off : Int} {tgt : Nat} (hd : decode M.2.1 pc = .ok (.ifnull off, 3)) (ht : (pc : Int) + off = (tgt : Int)) (k : x_J P d M tgt lv st h oc h') : x_J P d M pc lv (.null :: st) h oc h' :=
  ⟨k.1, fun C N hR hS hL hQ => lv_ifnullN C.ex C.cd hd ht (k.2 C N hR hS hL hQ)⟩
theorem xj_ifnonnull {off : Int} {tgt : Nat} {a : Nat} (hd : decode M.2.1 pc = .ok (.ifnonnull off, 3)) (ht : (pc : Int) + off = (tgt : Int)) (k : x_J P d M tgt lv st h oc h') : x_J P d M pc lv (.ref a :: st) h oc h' :=
  ⟨k.1, fun C N hR hS hL hQ => lv_ifnonnull C.ex C.cd hd ht (k.2 C N hR hS hL hQ)⟩
theorem xj_ifnonnullN {off : Int} (hd : decode M.2.1 pc = .ok (.ifnonnull off, 3)) (k : x_J P d M (pc + 3) lv st h oc h') : x_J P d M pc lv (.null :: st) h oc h' :=
  ⟨k.1, fun C N hR hS hL hQ => lv_ifnonnullN C.ex C.cd hd (k.2 C N hR hS hL hQ)⟩
theorem xj_lookup {dflt : Int} {ps : Array (Int × Int)} {len : Nat} {x : Int32} {off : Int} {tgt : Nat} (hd : decode M.2.1 pc = .ok (.lookupswitch dflt ps, len)) (hp : (ps.toList.zip (ps.toList.drop 1)).all (fun (a, next) => a.1 < next.1) = true) (ho : Op.lookupswitch.offset ps.toList dflt x.toInt = off) (ht : (pc : Int) + off = (tgt : Int)) (k : x_J P d M tgt lv st h oc h') : x_J P d M pc lv (.int x :: st) h oc h' :=
  ⟨k.1, fun C N hR hS hL hQ => lv_lookup C.ex C.cd hd hp ho ht (k.2 C N hR hS hL hQ)⟩
theorem xj_tableOut {dflt lo hi : Int} {offs : Array Int} {len : Nat} {x : Int32} {tgt : Nat} (hd : decode M.2.1 pc = .ok (.tableswitch dflt lo hi offs, len)) (h1 : x.toInt < lo ∨ hi < x.toInt) (ht : (pc : Int) + dflt = (tgt : Int)) (k : x_J P d M tgt lv st h oc h') : x_J P d M pc lv (.int x :: st) h oc h' :=
  ⟨k.1, fun C N hR hS hL hQ => lv_tableOut C.ex C.cd hd h1 ht (k.2 C N hR hS hL hQ)⟩
theorem xj_tableIn {dflt lo hi : Int} {offs : Array Int} {len : Nat} {x : Int32} {off : Int} {tgt : Nat} (hd : decode M.2.1 pc = .ok (.tableswitch dflt lo hi offs, len)) (h1 : ¬ x.toInt < lo) (h2 : ¬ hi < x.toInt) (ho : offs[(x.toInt - lo).toNat]? = some off) (ht : (pc : Int) + off = (tgt : Int)) (k : x_J P d M tgt lv st h oc h') : x_J P d M pc lv (.int x :: st) h oc h' :=
  ⟨k.1, fun C N hR hS hL hQ => lv_tableIn C.ex C.cd hd h1 h2 ho ht (k.2 C N hR hS hL hQ)⟩
theorem xj_iret {v : Int32} (hd : decode M.2.1 pc = .ok (.ireturn, 1)) (hr : M.2.2.2 = some .int) : x_J P d M pc lv [.int v] h (.returned (some (.int v))) h :=
  ⟨⟨Nat.le_refl _, Nat.le_refl _⟩, fun C N hR hS hL hQ => x_Wm (W.iret C.ex C.cd (C.re.trans hr) (fun t ht hW => hQ t (by rw [ht]; exact hR) ⟨_, by rw [ht]; exact hS⟩ hW) hS.2.2 hd (hlocks := C.lk))⟩
theorem xj_zret {v : Int32} {ty : FieldType} (hd : decode M.2.1 pc = .ok (.ireturn, 1)) (hr : M.2.2.2 = some ty) (hn : narrow ty (.int v) = .int v) : x_J P d M pc lv [.int v] h (.returned (some (.int v))) h :=
  ⟨⟨Nat.le_refl _, Nat.le_refl _⟩, fun C N hR hS hL hQ => x_Wm (W.zret C.ex C.cd (C.re.trans hr) hn (fun t ht hW => hQ t (by rw [ht]; exact hR) ⟨_, by rw [ht]; exact hS⟩ hW) hS.2.2 hd (hlocks := C.lk))⟩
theorem xj_vret (hd : decode M.2.1 pc = .ok (.return_, 1)) (hr : M.2.2.2 = none) : x_J P d M pc lv [] h (.returned none) h :=
  ⟨⟨Nat.le_refl _, Nat.le_refl _⟩, fun C N hR hS hL hQ => x_Wm (W.vret C.ex C.cd (C.re.trans hr) (fun t ht hW => hQ t (by rw [ht]; exact hR) ⟨_, by rw [ht]; exact hS⟩ hW) hS.2.2 hd (hlocks := C.lk))⟩
theorem xj_aret {v : Value} {rt : FieldType} (hd : decode M.2.1 pc = .ok (.areturn, 1)) (hr : M.2.2.2 = some rt) (hrt : (∃ n, rt = .object n) ∨ ∃ t, rt = .array t) (hv : v.isRef = true) : x_J P d M pc lv [v] h (.returned (some v)) h :=
  ⟨⟨Nat.le_refl _, Nat.le_refl _⟩, fun C N hR hS hL hQ => x_Wm (W.aret C.ex C.cd (C.re.trans hr) hrt (by obtain ⟨r, rfl⟩ := x_isr_rf hv; exact va_rf_or r) (fun t ht hW => hQ t (by rw [ht]; exact hR) ⟨_, by rw [ht]; exact hS⟩ hW) hS.2.2 hd (hlocks := C.lk))⟩
theorem x_hP {P : x_P} {h : x_H} {H : Heap} {a : Nat} {t : Nat} {x : vp_A} (hR : x_R P h H) (ha : h.1 a = some (.inl (t, x))) : va_P P.2.1 xcl [(a, .inl (P.2.2.1 t, x))] H := by
  intro k q hk
  have hz : k < 1 := (List.getElem?_eq_some_iff.mp hk).1
  rw [show k = 0 by omega] at hk
  cases hk
  exact (hR.2.2 _ _ ha).2
theorem x_hPo {P : x_P} {h : x_H} {H : Heap} {a : Nat} {o : Nat × List Value} (hR : x_R P h H) (ha : h.1 a = some (.inr o)) : va_P P.2.1 xcl [(a, .inr o)] H := by
  intro k q hk
  have hz : k < 1 := (List.getElem?_eq_some_iff.mp hk).1
  rw [show k = 0 by omega] at hk
  cases hk
  exact (hR.2.2 _ _ ha).2
theorem xj_iald {a n : Nat} {f : Nat → Int32} {i : Int32} (hd : decode M.2.1 pc = .ok (.iaload, 1)) (ha : h.1 a = some (.inl (0, n, .inl f))) (hi : vp_in i n) (k : x_J P d M (pc + 1) lv (.int (f i.toNatClampNeg) :: st) h oc h') : x_J P d M pc lv (.int i :: .ref a :: st) h oc h' :=
  ⟨k.1, fun C N hR hS hL hQ => va_iald C.ex C.cd C.en.1 (x_hP hR ha) 0 0 rfl rfl hi hd (k.2 C N hR hS hL hQ)⟩
theorem xj_zald {a n : Nat} {f : Nat → Int32} {i : Int32} (hd : decode M.2.1 pc = .ok (.baload, 1)) (ha : h.1 a = some (.inl (1, n, .inl f))) (hi : vp_in i n) (k : x_J P d M (pc + 1) lv (.int (f i.toNatClampNeg) :: st) h oc h') : x_J P d M pc lv (.int i :: .ref a :: st) h oc h' :=
  ⟨k.1, fun C N hR hS hL hQ => va_zald C.ex C.cd C.en.1 (x_hP hR ha) 0 1 rfl rfl hi hd (k.2 C N hR hS hL hQ)⟩
theorem xj_cald {a n : Nat} {f : Nat → Int32} {i : Int32} (hd : decode M.2.1 pc = .ok (.caload, 1)) (ha : h.1 a = some (.inl (2, n, .inl f))) (hi : vp_in i n) (k : x_J P d M (pc + 1) lv (.int (f i.toNatClampNeg) :: st) h oc h') : x_J P d M pc lv (.int i :: .ref a :: st) h oc h' :=
  ⟨k.1, fun C N hR hS hL hQ => va_cald C.ex C.cd C.en.1 (x_hP hR ha) 0 2 rfl rfl hi hd (k.2 C N hR hS hL hQ)⟩
theorem xj_lald {a n : Nat} {f : Nat → Int64} {i : Int32} (hd : decode M.2.1 pc = .ok (.laload, 1)) (ha : h.1 a = some (.inl (3, n, .inr (.inl f)))) (hi : vp_in i n) (k : x_J P d M (pc + 1) lv (.long (f i.toNatClampNeg) :: st) h oc h') : x_J P d M pc lv (.int i :: .ref a :: st) h oc h' :=
  ⟨k.1, fun C N hR hS hL hQ => va_lald C.ex C.cd C.en.1 (x_hP hR ha) 0 3 rfl rfl hi hd (k.2 C N hR hS hL hQ)⟩
theorem xj_aald {a n t : Nat} {C : String} {f : Nat → Option Nat} {i : Int32} (hd : decode M.2.1 pc = .ok (.aaload, 1)) (ha : h.1 a = some (.inl (t, n, .inr (.inr (.inr (.inr f)))))) (ht : (x_tys P.2.2.1)[t]? = some (P.2.2.1 t, .object C)) (hi : vp_in i n) (k : x_J P d M (pc + 1) lv (va_rf (f i.toNatClampNeg) :: st) h oc h') : x_J P d M pc lv (.int i :: .ref a :: st) h oc h' :=
  ⟨k.1, fun C N hR hS hL hQ => va_aldq C.ex C.cd C.en.1 (x_hP hR ha) 0 t rfl ht hi hd (k.2 C N hR hS hL hQ)⟩
theorem xj_alen {a t : Nat} {x : vp_A} {ty : FieldType} {v : Int32} (hd : decode M.2.1 pc = .ok (.arraylength, 1)) (ha : h.1 a = some (.inl (t, x))) (ht : (x_tys P.2.2.1)[t]? = some (P.2.2.1 t, ty)) (hv : Int32.ofNat x.1 = v) (k : x_J P d M (pc + 1) lv (.int v :: st) h oc h') : x_J P d M pc lv (.ref a :: st) h oc h' :=
  ⟨k.1, fun C N hR hS hL hQ => va_alen C.ex C.cd C.en.1 (x_hP hR ha) 0 t rfl ht hv hd (k.2 C N hR hS hL hQ)⟩
theorem xj_sald {i : Int32} (hd : decode M.2.1 pc = .ok (.iaload, 1)) (hi : vp_in i P.2.2.2.2.2.1) (k : x_J P d M (pc + 1) lv (.int (P.2.2.2.2.2.2.1 i.toNatClampNeg) :: st) h oc h') : x_J P d M pc lv (.int i :: .ref P.2.2.2.2.1 :: st) h oc h' :=
  ⟨k.1, fun C N hR hS hL hQ => va_sld C.ex C.cd C.en.2.2.1 (Nat.lt_of_lt_of_le C.en.2.2.2.1 C.hb) (Nat.not_le.mpr C.en.2.2.2.1) hS hi hd (k.2 C N hR hS hL hQ)⟩
theorem xj_slen (hd : decode M.2.1 pc = .ok (.arraylength, 1)) (k : x_J P d M (pc + 1) lv (.int (Int32.ofNat P.2.2.2.2.2.1) :: st) h oc h') : x_J P d M pc lv (.ref P.2.2.2.2.1 :: st) h oc h' :=
  ⟨k.1, fun C N hR hS hL hQ => va_slen C.ex C.cd C.en.2.2.1 (Nat.lt_of_lt_of_le C.en.2.2.2.1 C.hb) (Nat.not_le.mpr C.en.2.2.2.1) hS hd (k.2 C N hR hS hL hQ)⟩
theorem xj_iast {a n : Nat} {f : Nat → Int32} {i : Int32} {x : Int32} (hd : decode M.2.1 pc = .ok (.iastore, 1)) (ha : h.1 a = some (.inl (0, n, .inl f))) (hi : vp_in i n) (k : x_J P d M (pc + 1) lv st (x_put h a (.inl (0, n, .inl (upd f i.toNatClampNeg x)))) oc h') : x_J P d M pc lv (.int x :: .int i :: .ref a :: st) h oc h' := by
  refine ⟨k.1, fun C N hR hS hL hQ => ?_⟩
  have hat : _ = some (vp_cell (P.2.2.1 0) (n, .inl f)) := (hR.2.2 _ _ ha).2
  refine W.iast C.ex C.cd hat ((C.en.1.2 0 _ rfl).1 n (fun j => .int (f j))) (fun q => by cases q) (by show ¬ (i < 0 ∨ (arrV _ _ _).slots.size ≤ _); rw [arrV_size]; exact hi) rfl rfl hd fun H1 e z oq => ?_
  refine k.2 C N (hR.put ha ?_ z oq) (hS.put z oq (hR.2.2 _ _ ha).1) hL hQ
  show H1[a]? = some (vp_cell _ _)
  rw [e, vp_cell_i, vp_cell_i, arrV_store]
  congr 2
  funext q
  by_cases hq : q = i.toNatClampNeg
  · subst hq
    simp [updV, upd]
    try rfl
  · simp [updV, upd, hq]
theorem xj_zast {a n : Nat} {f : Nat → Int32} {i : Int32} {x : Int32} (hd : decode M.2.1 pc = .ok (.bastore, 1)) (ha : h.1 a = some (.inl (1, n, .inl f))) (hi : vp_in i n) (k : x_J P d M (pc + 1) lv st (x_put h a (.inl (1, n, .inl (upd f i.toNatClampNeg (vp_nar .boolean x))))) oc h') : x_J P d M pc lv (.int x :: .int i :: .ref a :: st) h oc h' := by
  refine ⟨k.1, fun C N hR hS hL hQ => ?_⟩
  have hat : _ = some (vp_cell (P.2.2.1 1) (n, .inl f)) := (hR.2.2 _ _ ha).2
  refine W.zast C.ex C.cd hat ((C.en.1.2 1 _ rfl).1 n (fun j => .int (f j))) (fun q => by cases q) (by show ¬ (i < 0 ∨ (arrV _ _ _).slots.size ≤ _); rw [arrV_size]; exact hi) rfl rfl hd fun H1 e z oq => ?_
  refine k.2 C N (hR.put ha ?_ z oq) (hS.put z oq (hR.2.2 _ _ ha).1) hL hQ
  show H1[a]? = some (vp_cell _ _)
  rw [e, vp_cell_i, vp_cell_i, arrV_store]
  congr 2
  funext q
  by_cases hq : q = i.toNatClampNeg
  · subst hq
    simp [updV, upd, vp_nar]
    try rfl
  · simp [updV, upd, vp_nar, hq]
theorem xj_cast {a n : Nat} {f : Nat → Int32} {i : Int32} {x : Int32} (hd : decode M.2.1 pc = .ok (.castore, 1)) (ha : h.1 a = some (.inl (2, n, .inl f))) (hi : vp_in i n) (k : x_J P d M (pc + 1) lv st (x_put h a (.inl (2, n, .inl (upd f i.toNatClampNeg (vp_nar .char x))))) oc h') : x_J P d M pc lv (.int x :: .int i :: .ref a :: st) h oc h' := by
  refine ⟨k.1, fun C N hR hS hL hQ => ?_⟩
  have hat : _ = some (vp_cell (P.2.2.1 2) (n, .inl f)) := (hR.2.2 _ _ ha).2
  refine W.cast C.ex C.cd hat ((C.en.1.2 2 _ rfl).1 n (fun j => .int (f j))) (fun q => by cases q) (by show ¬ (i < 0 ∨ (arrV _ _ _).slots.size ≤ _); rw [arrV_size]; exact hi) rfl rfl hd fun H1 e z oq => ?_
  refine k.2 C N (hR.put ha ?_ z oq) (hS.put z oq (hR.2.2 _ _ ha).1) hL hQ
  show H1[a]? = some (vp_cell _ _)
  rw [e, vp_cell_i, vp_cell_i, arrV_store]
  congr 2
  funext q
  by_cases hq : q = i.toNatClampNeg
  · subst hq
    simp [updV, upd, vp_nar]
    try rfl
  · simp [updV, upd, vp_nar, hq]
theorem xj_last {a n : Nat} {f : Nat → Int64} {i : Int32} {x : Int64} (hd : decode M.2.1 pc = .ok (.lastore, 1)) (ha : h.1 a = some (.inl (3, n, .inr (.inl f)))) (hi : vp_in i n) (k : x_J P d M (pc + 1) lv st (x_put h a (.inl (3, n, .inr (.inl (vp_updL f i.toNatClampNeg x))))) oc h') : x_J P d M pc lv (.long x :: .int i :: .ref a :: st) h oc h' := by
  refine ⟨k.1, fun C N hR hS hL hQ => ?_⟩
  have hat : _ = some (vp_cell (P.2.2.1 3) (n, .inr (.inl f))) := (hR.2.2 _ _ ha).2
  refine W.last C.ex C.cd hat ((C.en.1.2 3 _ rfl).1 n (fun j => .long (f j))) (fun q => by cases q) (by show ¬ (i < 0 ∨ (arrV _ _ _).slots.size ≤ _); rw [arrV_size]; exact hi) rfl rfl hd fun H1 e z oq => ?_
  refine k.2 C N (hR.put ha ?_ z oq) (hS.put z oq (hR.2.2 _ _ ha).1) hL hQ
  show H1[a]? = some (vp_cell _ _)
  rw [e, vp_cell_l, vp_cell_l, arrV_store]
  congr 2
  funext q
  by_cases hq : q = i.toNatClampNeg
  · subst hq
    simp [updV, vp_updL]
    try rfl
  · simp [updV, vp_updL, hq]
theorem xj_aast {a n t v ci : Nat} {r : vw_C} {vs : List Value} {f : Nat → Option Nat} {i : Int32} (hd : decode M.2.1 pc = .ok (.aastore, 1)) (ha : h.1 a = some (.inl (t, n, .inr (.inr (.inr (.inr f)))))) (ht : (x_tys P.2.2.1)[t]? = some (P.2.2.1 t, .object r.1)) (hv : h.1 v = some (.inr (ci, vs))) (hc : xcl[ci]? = some r) (hi : vp_in i n) (k : x_J P d M (pc + 1) lv st (x_put h a (.inl (t, n, .inr (.inr (.inr (.inr (va_up f i.toNatClampNeg (some v)))))))) oc h') : x_J P d M pc lv (.ref v :: .int i :: .ref a :: st) h oc h' := by
  refine ⟨k.1, fun C N hR hS hL hQ => ?_⟩
  have hat : _ = some (vp_cell (P.2.2.1 t) (n, .inr (.inr (.inr (.inr f))))) := (hR.2.2 _ _ ha).2
  have hlt : i.toNatClampNeg < n := Nat.not_le.mp fun q => hi (Or.inr q)
  have h0 : ¬ i < 0 := fun q => hi (Or.inl q)
  obtain ⟨r', hr', cellV, g1, g2, g3, -⟩ := (hR.2.2 _ _ hv).2
  have hcls := (C.en.1.1 ci r hc).2
  obtain ⟨kA, comp, k1, k2, k3, -⟩ := (C.en.1.2 t _ ht).2
  have hcomp : comp = P.2.1.1 ci := Option.some.inj (k3.symm.trans hcls.1)
  subst hcomp
  obtain ⟨kC, hkC, -⟩ := hcls.2
  refine W.aast C.ex C.cd hat (fun q h => by cases h) (fun h => by cases h) k1 k2 rfl hkC ⟨h0, by show _ < (arrV _ _ _).slots.size; rw [arrV_size]; exact hlt⟩ g1 (fun q h => by rw [g3] at h; cases h) (by rw [g2]; exact hkC) (by rw [g2]; exact va_assign hcls) rfl rfl hd fun H1 e z oq => ?_
  refine k.2 C N (hR.put ha ?_ z oq) (hS.put z oq (hR.2.2 _ _ ha).1) hL hQ
  show H1[a]? = some (vp_cell _ _)
  rw [e, vp_cell_q, vp_cell_q, arrV_store]
  congr 2
  funext q
  by_cases hq : q = i.toNatClampNeg
  · subst hq
    simp [updV, va_up, va_rf]
  · simp [updV, va_up, hq]
theorem x_Nnew {h h' : x_H} {e : x_E} {n n0 s0 : Nat} {R : Room} (N : x_N h h' n0 s0 R) (hk : (x_new h e n).2.1 ≤ h'.2.1 ∧ (x_new h e n).2.2 ≤ h'.2.2) : x_N (x_new h e n) h' n0 s0 R ∧ (h.2.1 - n0) + 1 ≤ R.cells ∧ (h.2.2 - s0) + n ≤ R.slots ∧ (h.2.1 - n0) + 1 = (x_new h e n).2.1 - n0 ∧ (h.2.2 - s0) + n = (x_new h e n).2.2 - s0 := by
  obtain ⟨h1, h2, h3, h4⟩ := N
  simp only [x_new] at hk ⊢
  unfold x_N
  simp only
  omega
theorem xj_newa {atype : ArrayType} {ty : FieldType} {t : Nat} {n : Int32} {nn : Nat} {a0 : vp_A} (hd : decode M.2.1 pc = .ok (.newarray atype, 2)) (hw : Cond.arrayClass (newarray.typeOf atype) ∈ xWS) (hty : newarray.typeOf atype = ty) (ht : (x_tys P.2.2.1)[t]? = some (P.2.2.1 t, ty)) (hra : ∀ (U : State) (cA : ClassId), va_RA U cA ty → U.vm.findClass ("[" ++ ty.toString) = some cA) (h0 : ∀ cA : ClassId, vp_cell cA a0 = arrV cA nn (fun _ => defaultValue ty)) (hn : ¬ n < 0) (hN : n.toNatClampNeg = nn) (hby : nn * componentBytes ty ≤ 536870912) (k : x_J P d M (pc + 2) lv (.ref h.2.1 :: st) (x_new h (.inl (t, a0)) nn) oc h') : x_J P d M pc lv (.int n :: st) h oc h' := by
  refine ⟨⟨Nat.le_trans (Nat.le_succ _) k.1.1, Nat.le_trans (Nat.le_add_right _ _) k.1.2⟩, fun C N hR hS hL hQ => ?_⟩
  obtain ⟨N', c1, c2, c3, c4⟩ := x_Nnew N k.1
  subst hty
  refine va_newaK C.ex C.cd (C.ts _ hw) rfl hd rfl hn hN hby c1 c2 hR.1 fun H1 cA e1 z1 o1 hAr hNm => ?_
  have hcA : cA = P.2.2.1 t := Option.some.inj (hNm.symm.trans (hra _ _ (C.en.1.2 t _ ht).2))
  subst hcA
  refine W.cs c3 c4 (k.2 C N' (hR.new ?_ z1 o1) ⟨Nat.le_trans hS.1 (by rw [hR.1, z1]; exact Nat.le_succ _), fun q h1 h2 => (o1 q (by rw [← hR.1]; exact Nat.lt_of_lt_of_le h1 hS.1)).trans (hS.2.1 q h1 h2), hS.2.2⟩ hL hQ)
  show H1[h.2.1]? = some (vp_cell _ _)
  rw [h0]
  exact e1
theorem xj_newq {t : Nat} {n : Int32} {nn index : Nat} {Cn : String} (hd : decode M.2.1 pc = .ok (.anewarray index, 3)) (hw : Cond.classLink M.1.cls index Cn ∈ xWS) (hao : Cond.arrayOver (.object Cn) ∈ xNW) (ht : (x_tys P.2.2.1)[t]? = some (P.2.2.1 t, .object Cn)) (hn : ¬ n < 0) (hN : n.toNatClampNeg = nn) (hby : nn * 4 ≤ 536870912) (k : x_J P d M (pc + 3) lv (.ref h.2.1 :: st) (x_new h (.inl (t, nn, .inr (.inr (.inr (.inr (fun _ => none)))))) nn) oc h') : x_J P d M pc lv (.int n :: st) h oc h' := by
  refine ⟨⟨Nat.le_trans (Nat.le_succ _) k.1.1, Nat.le_trans (Nat.le_add_right _ _) k.1.2⟩, fun {p e R s m args below meth c n0 s0 H locs ls Qc} C N hR hS hL hQ => ?_⟩
  obtain ⟨N', c1, c2, c3, c4⟩ := x_Nnew N k.1
  subst hN
  refine W.anew C.ex C.cd C.ow (C.ts _ hw) (va_AO.use (C.en.2.1 _ hao)) rfl hd rfl hn hby c1 c2 fun cA kA comp f1 f2 f3 f4 => ?_
  have hcA : cA = P.2.2.1 t := by
    obtain ⟨_, _, _, _, _, g5⟩ := (C.en.1.2 t _ ht).2
    exact Option.some.inj (f1.symm.trans g5)
  subst hcA
  generalize hH1 : H.push ({ cls := P.2.2.1 t, slots := Array.replicate n.toNatClampNeg .null, vm := .none } : Cell) = H1
  have z1 : H1.size = h.2.1 + 1 := by rw [← hH1, Array.size_push, hR.1]
  have e1 : H1[h.2.1]? = some (arrV (P.2.2.1 t) n.toNatClampNeg (fun _ => .null)) := by rw [← hR.1, ← hH1, Array.getElem?_push_size, ← arrV_new]
  have o1 : ∀ q : Nat, q < h.2.1 → H1[q]? = H[q]? := fun q hq => by rw [← hH1, Array.getElem?_push, if_neg (by rw [hR.1]; exact Nat.ne_of_lt hq)]
  refine W.cs c3 c4 (W.eq (g2 := F0 m (pc + 3) ls (.ref h.2.1 :: st)) (by rw [← hR.1]) (k.2 C N' (hR.new ?_ z1 o1) ⟨Nat.le_trans hS.1 (by rw [hR.1, z1]; exact Nat.le_succ _), fun q h1 h2 => (o1 q (by rw [← hR.1]; exact Nat.lt_of_lt_of_le h1 hS.1)).trans (hS.2.1 q h1 h2), hS.2.2⟩ hL hQ))
  show H1[h.2.1]? = some (vp_cell _ _)
  rw [vp_cell_q]
  exact e1
/-- a class of the world, as its words have it -/
def x_ok (C : String) (T : u_T) (n : Nat) : Prop := (∀ w ∈ u_ws C T n, w ∈ xWS) ∧ (∃ ty : Nat → FieldType, ∀ k, k < n → parseFieldDescriptor (T k).2.2.1 = some (ty k)) ∧ ∀ a, a < n → ∀ b, b < n → a ≠ b → (T a).2.1 ≠ (T b).2.1
theorem xj_get {a ci j index n : Nat} {Cn : String} {T : u_T} {fs : List Value} {v : Value} (hd : decode M.2.1 pc = .ok (.getfield index, 3)) (hok : x_ok Cn T n) (hc : xcl[ci]? = some (Cn, T, n)) (hj : j < n) (hw : Cond.fieldLink M.1.cls index (T j).1 (T j).2.1 (T j).2.2.1 ∈ xWS) (ha : h.1 a = some (.inr (ci, fs))) (hv : fs[j]? = some v) (k : x_J P d M (pc + 3) lv (v :: st) h oc h') : x_J P d M pc lv (.ref a :: st) h oc h' :=
  ⟨k.1, fun C N hR hS hL hQ => va_get C.ex C.cd C.ts hok.1 C.ow C.en.1 (x_hPo hR ha) 0 rfl hc j hj (C.ts _ hw) (fun _ h9 => h9) hv hd (k.2 C N hR hS hL hQ)⟩
theorem xj_getN {a ci j index n : Nat} {Cn host : String} {T : u_T} {fs : List Value} {v : Value} (hd : decode M.2.1 pc = .ok (.getfield index, 3)) (hok : x_ok Cn T n) (hc : xcl[ci]? = some (Cn, T, n)) (hj : j < n) (hw : Cond.fieldLinkNest M.1.cls index (T j).1 (T j).2.1 (T j).2.2.1 host ∈ xNW) (ha : h.1 a = some (.inr (ci, fs))) (hv : fs[j]? = some v) (k : x_J P d M (pc + 3) lv (v :: st) h oc h') : x_J P d M pc lv (.ref a :: st) h oc h' :=
  ⟨k.1, fun C N hR hS hL hQ => va_getN C.ex C.cd C.ts hok.1 C.ow C.en.1 (x_hPo hR ha) 0 rfl hc j hj (va_Nw.use rfl (C.en.2.1 _ hw)) (fun _ h9 => h9) hv hd (k.2 C N hR hS hL hQ)⟩
theorem xj_put {a ci j index n : Nat} {Cn : String} {T : u_T} {fs : List Value} {v : Value} {ty : FieldType} (hd : decode M.2.1 pc = .ok (.putfield index, 3)) (hok : x_ok Cn T n) (hc : xcl[ci]? = some (Cn, T, n)) (hj : j < n) (hw : Cond.fieldLink M.1.cls index (T j).1 (T j).2.1 (T j).2.2.1 ∈ xWS) (hf : (T j).2.2.2 = false) (ha : h.1 a = some (.inr (ci, fs))) (hl : j < fs.length) (hp : parseFieldDescriptor (T j).2.2.1 = some ty) (hn : narrow ty v = v) (hfit : fits ty v = true) (k : x_J P d M (pc + 3) lv st (x_put h a (.inr (ci, fs.set j v))) oc h') : x_J P d M pc lv (v :: .ref a :: st) h oc h' := by
  refine ⟨k.1, fun C N hR hS hL hQ => ?_⟩
  have hat := (hR.2.2 _ _ ha).2
  obtain ⟨ty0, hty⟩ := hok.2.1
  have hap := va_apart (own := M.1.cls) C.ts hok.1 ty0 hty hok.2.2 C.en.1 hc
  obtain ⟨r, h1, cell, q1, q2, q3, q4⟩ := hat
  have hr : r = (Cn, T, n) := Option.some.inj (h1.symm.trans hc)
  subst hr
  obtain ⟨hS9, hfc, kC, hkC, hkind⟩ := C.en.1.1 ci _ hc
  obtain ⟨cf, kf, fi, f, hi, hsl⟩ := hS9 j hj
  have hlay := C.ts _ (hok.1 _ (u_in_lay hj))
  unfold u_lay at hlay
  rw [if_neg (by rw [hf]; decide)] at hlay
  have hst := (u_facts hfc hkC (u_lays C.ts hok.1 hj) hi).1
  have h6 := u_store hfc hkC hkind hlay hi hp hn hfit
  refine W.putK C.ex C.cd (f := f) ⟨C.ow, C.ts _ hw, ⟨_, _, _, hi⟩, hst⟩ (by rw [q2]; exact h6) q1 q3 (by rw [hsl]; exact k2_hasslot (q4 j hj)) rfl rfl hd fun H' e1 e2 e3 => ?_
  rw [hsl] at e1 ⊢
  exact k.2 C N (hR.put ha ⟨_, hc, t_OB.to (V := updV (vp_V fs) j v) ⟨_, e1, q2, q3, t_set q4 hap hj v⟩ (fun q _ => vp_updV_set hl v q)⟩ e2 e3) (hS.put e2 e3 (hR.2.2 _ _ ha).1) hL hQ
theorem xj_putN {a ci j index n : Nat} {Cn host : String} {T : u_T} {fs : List Value} {v : Value} {ty : FieldType} (hd : decode M.2.1 pc = .ok (.putfield index, 3)) (hok : x_ok Cn T n) (hc : xcl[ci]? = some (Cn, T, n)) (hj : j < n) (hw : Cond.fieldLinkNest M.1.cls index (T j).1 (T j).2.1 (T j).2.2.1 host ∈ xNW) (hf : (T j).2.2.2 = false) (ha : h.1 a = some (.inr (ci, fs))) (hl : j < fs.length) (hp : parseFieldDescriptor (T j).2.2.1 = some ty) (hn : narrow ty v = v) (hfit : fits ty v = true) (k : x_J P d M (pc + 3) lv st (x_put h a (.inr (ci, fs.set j v))) oc h') : x_J P d M pc lv (v :: .ref a :: st) h oc h' := by
  refine ⟨k.1, fun C N hR hS hL hQ => ?_⟩
  have hat := (hR.2.2 _ _ ha).2
  obtain ⟨ty0, hty⟩ := hok.2.1
  have hap := va_apart (own := M.1.cls) C.ts hok.1 ty0 hty hok.2.2 C.en.1 hc
  obtain ⟨r, h1, cell, q1, q2, q3, q4⟩ := hat
  have hr : r = (Cn, T, n) := Option.some.inj (h1.symm.trans hc)
  subst hr
  obtain ⟨hS9, hfc, kC, hkC, hkind⟩ := C.en.1.1 ci _ hc
  obtain ⟨cf, kf, fi, f, hi, hsl⟩ := hS9 j hj
  have hlay := C.ts _ (hok.1 _ (u_in_lay hj))
  unfold u_lay at hlay
  rw [if_neg (by rw [hf]; decide)] at hlay
  have hst := (u_facts hfc hkC (u_lays C.ts hok.1 hj) hi).1
  have h6 := u_store hfc hkC hkind hlay hi hp hn hfit
  refine va_WputK C.ex C.cd (f := f) C.ow (va_Nw.use rfl (C.en.2.1 _ hw)) hi hst (by rw [q2]; exact h6) q1 q3 (by rw [hsl]; exact k2_hasslot (q4 j hj)) rfl rfl hd fun H' e1 e2 e3 => ?_
  rw [hsl] at e1 ⊢
  exact k.2 C N (hR.put ha ⟨_, hc, t_OB.to (V := updV (vp_V fs) j v) ⟨_, e1, q2, q3, t_set q4 hap hj v⟩ (fun q _ => vp_updV_set hl v q)⟩ e2 e3) (hS.put e2 e3 (hR.2.2 _ _ ha).1) hL hQ
theorem xj_putF {a ci j index n : Nat} {Cn : String} {T : u_T} {fs : List Value} {v : Value} {ty : FieldType} (hd : decode M.2.1 pc = .ok (.putfield index, 3)) (hok : x_ok Cn T n) (hc : xcl[ci]? = some (Cn, T, n)) (hj : j < n) (hw : Cond.fieldLink M.1.cls index (T j).1 (T j).2.1 (T j).2.2.1 ∈ xWS) (hf : (T j).2.2.2 = true) (hi2 : M.1.name = "<init>") (hdc : (T j).1 = M.1.cls) (ha : h.1 a = some (.inr (ci, fs))) (hl : j < fs.length) (hp : parseFieldDescriptor (T j).2.2.1 = some ty) (hn : narrow ty v = v) (hfit : fits ty v = true) (k : x_J P d M (pc + 3) lv st (x_put h a (.inr (ci, fs.set j v))) oc h') : x_J P d M pc lv (v :: .ref a :: st) h oc h' := by
  refine ⟨k.1, fun {p e R s m args below meth c n0 s0 H locs ls Qc} C N hR hS hL hQ => ?_⟩
  have hat := (hR.2.2 _ _ ha).2
  obtain ⟨ty0, hty⟩ := hok.2.1
  have hap := va_apart (own := M.1.cls) C.ts hok.1 ty0 hty hok.2.2 C.en.1 hc
  obtain ⟨r, h1, cell, q1, q2, q3, q4⟩ := hat
  have hr : r = (Cn, T, n) := Option.some.inj (h1.symm.trans hc)
  subst hr
  obtain ⟨hS9, hfc, kC, hkC, hkind⟩ := C.en.1.1 ci _ hc
  obtain ⟨cf, kf, fi, f, hi, hsl⟩ := hS9 j hj
  have hlay := C.ts _ (hok.1 _ (u_in_lay hj))
  unfold u_lay at hlay
  rw [if_pos hf] at hlay
  have hst := (u_facts hfc hkC (u_lays C.ts hok.1 hj) hi).1
  have hcf : m.cls = cf := by
    obtain ⟨_, _, c', _, _, _, -, -, hf', -, -, -, hown2, -⟩ := Cond.laysFinal_spec hlay
    have e1 : c' = cf := by have := hi.symm.trans hf'; simp at this; exact this.1.symm
    rw [hdc] at hown2
    rw [← e1]; exact Option.some.inj (C.ow.symm.trans hown2)
  have h6 := u_fits hfc hkC hkind (Or.inr hlay) hi hp hn hfit
  refine W.putFinK C.ex C.cd C.ow (C.ts _ hw) hi hst hcf (C.nm.trans hi2) (by rw [q2]; exact h6) q1 q3 (by rw [hsl]; exact k2_hasslot (q4 j hj)) rfl rfl hd fun H' e1 e2 e3 => ?_
  rw [hsl] at e1 ⊢
  exact k.2 C N (hR.put ha ⟨_, hc, t_OB.to (V := updV (vp_V fs) j v) ⟨_, e1, q2, q3, t_set q4 hap hj v⟩ (fun q _ => vp_updV_set hl v q)⟩ e2 e3) (hS.put e2 e3 (hR.2.2 _ _ ha).1) hL hQ
theorem xj_new {ci index n : Nat} {Cn : String} {T : u_T} {fs : List Value} (hd : decode M.2.1 pc = .ok (.new index, 3)) (hok : x_ok Cn T n) (hc : xcl[ci]? = some (Cn, T, n)) (hw : Cond.classLink M.1.cls index Cn ∈ xWS) (hin : Cond.instantiable Cn n ∈ xWS) (hini : Cond.initialized Cn ∈ xWS) (hfs : ∃ ty : Nat → FieldType, (∀ j, j < n → parseFieldDescriptor (T j).2.2.1 = some (ty j)) ∧ ∀ j, j < n → defaultValue (ty j) = vp_V fs j) (k : x_J P d M (pc + 3) lv (.ref h.2.1 :: st) (x_new h (.inr (ci, fs)) n) oc h') : x_J P d M pc lv st h oc h' := by
  refine ⟨⟨Nat.le_trans (Nat.le_succ _) k.1.1, Nat.le_trans (Nat.le_add_right _ _) k.1.2⟩, fun C N hR hS hL hQ => ?_⟩
  obtain ⟨N', c1, c2, c3, c4⟩ := x_Nnew N k.1
  obtain ⟨ty, hty, hfs⟩ := hfs
  have hKn := C.en.1.1 ci _ hc
  refine W.newcK C.ex C.cd C.ow (C.ts _ hw) (C.ts _ hin) (C.ts _ hini) rfl hd c1 c2 hKn.2.1 hR.1 fun H1 kC hkC e1 z1 o1 => ?_
  refine W.cs c3 c4 (k.2 C N' (hR.new ⟨_, hc, (u_born ty C.ts hok.1 hKn hkC e1 hty).to hfs⟩ z1 o1) ⟨Nat.le_trans hS.1 (by rw [hR.1, z1]; exact Nat.le_succ _), fun q h1 h2 => (o1 q (by rw [← hR.1]; exact Nat.lt_of_lt_of_le h1 hS.1)).trans (hS.2.1 q h1 h2), hS.2.2⟩ hL hQ)
theorem x_recv {P : x_P} {h : x_H} {H : Heap} {s : State} {a ci : Nat} {q : vw_C} {fs : List Value} (hE : va_K P.2.1 xcl (x_tys P.2.2.1) s) (hR : x_R P h H) (ha : h.1 a = some (.inr (ci, fs))) (hc : xcl[ci]? = some q) : ∃ cell : Cell, H[a]? = some cell ∧ cell.vm.isStatics = false ∧ s.vm.findClass q.1 = some cell.cls :=
  va_recv (q0 := 0) hE (x_hPo hR ha) hc rfl
theorem xj_ccast {a ci index : Nat} {q : vw_C} {fs : List Value} (hd : decode M.2.1 pc = .ok (.checkcast index, 3)) (hw : Cond.classLink M.1.cls index q.1 ∈ xWS) (ha : h.1 a = some (.inr (ci, fs))) (hc : xcl[ci]? = some q) (k : x_J P d M (pc + 3) lv (.ref a :: st) h oc h') : x_J P d M pc lv (.ref a :: st) h oc h' :=
  ⟨k.1, fun C N hR hS hL hQ => va_castS C.ex C.cd C.ow (C.ts _ hw) (C.en.1.1 ci _ hc).2 (x_recv C.en.1 hR ha hc) hd (k.2 C N hR hS hL hQ)⟩
theorem xj_objInit {a idx : Nat} (hd : decode M.2.1 pc = .ok (.invokespecial idx, 3)) (h1 : Cond.methodLink M.1.cls idx Lib.objectInit ∈ xWS) (h2 : Cond.instanceMethod Lib.objectInit ∈ xWS) (h3 : Cond.code Lib.objectInit ⟨#[0xb1]⟩ 1 none ∈ xWS) (hst : (st.map fun v => v.category).sum ≤ 8) (hd1 : 1 ≤ d) (k : x_J P d M (pc + 3) lv st h oc h') : x_J P d M pc lv (.ref a :: st) h oc h' :=
  ⟨k.1, fun {p e R s m args below meth c n0 s0 H locs ls Qc} C N hR hS hL hQ => W.objInit C.ex C.cd C.ow (C.ts _ h1) (C.ts _ h2) (C.ts _ h3) rfl (by rw [C.ml]; exact hL.1) rfl hd (Nat.le_trans hd1 C.fr) (by have h8 := C.lo; show 2 * 0 + _ + 12 ≤ R.locals; omega) (k.2 C N hR hS hL hQ)⟩
end XJ1
