/-! A callee that throws and is caught; the law's wrappers -/
section
variable {P : x_P} {d : Nat} {M M2 : x_M} {h h1 h' : x_H} {oc : Outcome} {As : List Value} {x : Nat}
def x_QT (P : x_P) (x : Nat) (h h1 : x_H) : Array Value → State → Outcome → State → Prop := fun a st o t => x_Qc P (.threw x) h1 a st o t ∧ ∃ L, FrameEndT st o t L (h1.2.1 - h.2.1) (h1.2.2 - h.2.2) ∧ ∀ q ∈ L, x_A P q.base
theorem x_metT (hp : plainName M2.1.cls = true) (hcat : ∀ v ∈ As, v.category = 1) (hle : As.length ≤ M2.2.2.1) (kc : x_J P d M2 0 (x_ent As M2.2.2.1) [] h (.threw x) h1) :
    MetFree P.1 M2.1 (headSpec (x_ws M2) (x_rm d (h1.2.1 - h.2.1) (h1.2.2 - h.2.2))) (x_Pc P As h) (fun _ _ _ _ _ => True) (x_QT P x h h1) := by
  refine MetFree.of_bodyS (code := M2.2.1) (maxLocals := M2.2.2.1) (ret := M2.2.2.2) hp ?_ ?_
  · intro args s m hh hn
    obtain ⟨meth, c, h1, h2, h3, h4, h5, h6, -, -⟩ := Cond.code_spec hn (atoms_spec (ws := x_ws M2) hh _ List.mem_cons_self)
    exact ⟨meth, c, h1, h2, h3, h4, h5, h6⟩
  · intro p e s m args below meth c s₁ B hml hv _
    obtain ⟨rfl, hE, hR, hb⟩ := hv
    have hts := atoms_spec (ws := x_ws M2) B.pre
    have C : x_C P d M2 p (x_rm d (h1.2.1 - h.2.1) (h1.2.2 - h.2.2)) s m As.toArray meth c :=
      ⟨B.exec, B.bytes, hml, B.returns, B.notSynchronized, findClass_of_methodNamed B.named, (name_of_methodNamed B.named B.method).1, fun _ => B.noHandlers (hts _ List.mem_cons_self), fun w hw => hts w (List.mem_cons_of_mem _ hw), hE, Nat.le_refl _, Nat.le_refl _, hb⟩
    have N : x_N h h1 h.2.1 h.2.2 (x_rm d (h1.2.1 - h.2.1) (h1.2.2 - h.2.2)) := ⟨Nat.le_refl _, Nat.le_refl _, Nat.le_refl _, Nat.le_refl _⟩
    have h9 := kc.2 (e := e) (below := below) (Qc := x_Qc P (.threw x) h1) C N hR va_S.rf (x_Lent hcat hle) (fun t hRt hSt hW => ⟨rfl, hRt, hSt.elim (fun _ h8 => h8.F rfl)⟩)
    rw [Nat.sub_self, Nat.sub_self] at h9
    have hh0 : s₁.heap = s.heap := by rw [B.state]; rfl
    have K : W p P.1 e (x_rm d (h1.2.1 - h.2.1) (h1.2.2 - h.2.2)) s m As.toArray below meth c s.heap [] 0 0 (x_MQ below (x_Qc P (.threw x) h1) As.toArray s (h1.2.1 - h.2.1) (h1.2.2 - h.2.2) (x_A P)) (entryFrame m As.toArray M2.2.2.1) := by
      rw [lg_entry_eq]
      exact h9
    obtain ⟨t, a1, o, b1, b2, b3, L, -, b5, b6, b7⟩ := K s₁ hh0 (Stand.of_body B)
    exact ⟨t, o, a1, b1, b2, b3, L, ⟨⟨x, b3.1⟩, b5, b6⟩, b7⟩
def x_PoT (P : x_P) (x : Nat) (h h1 : x_H) : Pt → Array Value → Addr → Pt → Prop := fun A a v B =>
  ∃ (g : JFrame) (mk : MethodId) (t : State) (L : List Loc), B.U.heap = t.heap ∧ B.U.vm = t.vm ∧ x_Qc P (.threw x) h1 a (A.U.calling g mk a) (.threw v) t ∧ B.locs = A.locs ++ L ∧ (∀ q ∈ L, x_A P q.base) ∧ B.cells = A.cells + (h1.2.1 - h.2.1) ∧ B.slots = A.slots + (h1.2.2 - h.2.2)
theorem x_bT {R : Room} {p : Program} {e : Env} {below : List Frame} {s : State} {sargs : Array Value} {len Wd n index : Nat} {own : String}
    (hM : MetFree P.1 M2.1 (headSpec (x_ws M2) (x_rm d (h1.2.1 - h.2.1) (h1.2.2 - h.2.2))) (x_Pc P As h) (fun _ _ _ _ _ => True) (x_QT P x h h1))
    (hframes : d + 1 ≤ R.frames) (hlocals : Wd + (M2.2.2.1 + 11) + 37 * d ≤ R.locals) (hws : ∀ w ∈ x_ws M2, ∀ (a' : Array Value) (U : State), s.WarmedH U.vm → w.before a' U = true) (hinit : ∀ (a' : Array Value) (U : State), s.WarmedH U.vm → (Cond.initialized M2.1.cls).before a' U = true) :
    BackT P.1 R p e below s sargs M2.1 len Wd (PreOf R (h1.2.1 - h.2.1) (h1.2.2 - h.2.2) (x_Pc P As h)) (x_PoT P x h h1) := by
  refine BackT.of_free (S := headSpec (x_ws M2) (x_rm d (h1.2.1 - h.2.1) (h1.2.2 - h.2.2))) (P := x_Pc P As h) (K := fun _ _ _ _ _ => True) (Q := x_QT P x h h1) (bytes := M2.2.1) (maxL := M2.2.2.1) (ret := M2.2.2.2)
    (E := fun a st o t L k n => k = h1.2.1 - h.2.1 ∧ n = h1.2.2 - h.2.2 ∧ ∀ q ∈ L, x_A P q.base) hM hframes hlocals ?_ ?_ (fun _ _ _ _ _ _ _ _ _ => trivial) ?_ ?_
  · intro m meth c A a X hp
    exact ⟨atoms_intro fun w hw => hws w hw _ _ X.warmed, hws _ List.mem_cons_self _ _ X.warmed, hinit _ _ X.warmed, hp.1, hp.2.1⟩
  · intro m meth c A a g mk X hp
    exact x_blind _ _ _ _ hp.2.2
  · intro a st o t ⟨hq, L, hF, hL⟩
    exact ⟨L, _, _, hF, rfl, rfl, hL⟩
  · intro m meth c A a g mk v t L k n X hp hq hF ⟨e1, e2, hL⟩
    subst e1; subst e2
    exact ⟨g, mk, t, L, rfl, rfl, hq.1, rfl, hL, rfl, rfl⟩
end
def x_tf (h : ExceptionTableEntry) : Nat × Nat × Nat × Nat := (h.startPc, h.endPc, h.handlerPc, h.catchType)
theorem x_split {L : List ExceptionTableEntry} {A B : List (Nat × Nat × Nat × Nat)} {t : Nat × Nat × Nat × Nat} (hL : L.map x_tf = A ++ t :: B) : ∃ pre y rest, L = pre ++ y :: rest ∧ pre.map x_tf = A ∧ x_tf y = t := by
  obtain ⟨l1, l2, e, h1, h2⟩ := List.map_eq_append_iff.mp hL
  obtain ⟨y, l3, e2, h3, h4⟩ := List.map_eq_cons_iff.mp h2
  exact ⟨l1, y, l3, by rw [e, e2], h1, h3⟩
section
variable {E : State → Code → Prop} {P : x_P} {d : Nat} {M M2 : x_M} {pc : Nat} {lv : List (Option Value)} {st : List Value} {h h1 h' : x_H} {oc : Outcome} {As : List Value} {index n x : Nat}
theorem xg_catchV (hd : decode M.2.1 pc = .ok (.invokevirtual index, 3)) (hl : Cond.methodLink M.1.cls index M2.1 ∈ xWS) {a ci : Nat} {q : vw_C} {fs : List Value} (hi : Cond.instanceMethod M2.1 ∈ xWS) (hse : Cond.selects M2.1.cls M2.1 M2.1 ∈ xWS) (ha : h.1 a = some (.inr (ci, fs))) (hc : xcl[ci]? = some q) (hq : q.1 = M2.1.cls) (hm : x_mok M2 n) (hn : As.length = n) (hcat : ∀ u ∈ .ref a :: As, u.category = 1) (hle : (.ref a :: As).length ≤ M2.2.2.1) (hst : (st.map fun u => u.category).sum ≤ 8)
    {cx : Nat} {qx : vw_C} (hx : h1.1 x = some (.inr (cx, []))) (hcx : xcl[cx]? = some qx) {pre : List ((Nat × Nat × Nat × Nat) × String)} {t : Nat × Nat × Nat × Nat} {post : List (Nat × Nat × Nat × Nat)} (hT : ∀ s c, E s c → c.exceptionTable.toList.map x_tf = pre.map Prod.fst ++ t :: post) (hpre : ∀ y ∈ pre, y.1.2.2.2 ≠ 0 ∧ Cond.classLink M.1.cls y.1.2.2.2 y.2 ∈ xWS ∧ ∀ s c, E s c → va_Nc qx.1 y.2 s) (ht1 : t.1 ≤ pc) (ht2 : pc < t.2.1) (ht0 : t.2.2.2 ≠ 0) (hlk : Cond.classLink M.1.cls t.2.2.2 qx.1 ∈ xWS)
    (kc : x_J P d M2 0 (x_ent (.ref a :: As) M2.2.2.1) [] h (.threw x) h1) (k : x_G E P (d + 1) M t.2.2.1 lv [.ref x] h1 oc h') : x_G E P (d + 1) M pc lv (As.reverse ++ .ref a :: st) h oc h' := by
  refine ⟨⟨Nat.le_trans kc.1.1 k.1.1, Nat.le_trans kc.1.2 k.1.2⟩, fun {p e R s m args below meth c n0 s0 H locs ls Qc} C hx9 N hR hS hL hQ => ?_⟩
  obtain ⟨N1, c1, c3, c4⟩ := x_Ncall N kc.1 k.1
  have hM := x_metT hm.1 hcat hle kc
  obtain ⟨b1, b2, b3, b4, b5, b6, hcode, hini, hy, hlen, hl'⟩ := x_cb (mc := h1.2.1 - h.2.1) (ms := h1.2.2 - h.2.2) C hm hl
  have hK : BackT P.1 R p e below s args M2.1 3 8 (PreOf R (h1.2.1 - h.2.1) (h1.2.2 - h.2.2) (x_Pc P (.ref a :: As) h)) (x_PoT P x h h1) := x_bT (n := 0) (index := 0) (own := "") hM b3 b4 b5 (fun a' U hW => word_at hW (Or.inl (by first | rfl | simp [Cond.onTables, Cond.keeps, Cond.steady])) hini)
  obtain ⟨cellB, hcB, hoB, hclB⟩ := x_recv C.en.1 hR ha hc
  rw [hq] at hclB
  intro T hT9 X
  obtain ⟨mk, methM, hnamed, hmethM, hstM, habM⟩ := Cond.instanceMethod_spec (C.ts _ hi)
  obtain ⟨methM', cM, hmethM', -, -, -, -, -, -, hsigM⟩ := Cond.code_spec hnamed hcode
  cases hmethM.symm.trans hmethM'
  obtain ⟨c2, r2, m2, q1, q2, q3, q4, kP, hkP, hkPi⟩ := Cond.selects_spec (C.ts _ hse)
  cases hclB.symm.trans q1
  cases (State.methodFound?_of_named hnamed hy).symm.trans q2
  cases hnamed.symm.trans q3
  have hselP : selectMethod e.platform s.vm cellB.cls mk = .method mk := by rw [Launch.admits_selectMethod X.admits]; exact q4
  obtain ⟨vm₁, X₁, hstep₁⟩ := X.invokevirtual C.ex C.ow hl' hnamed hmethM hstM hkP hkPi hy (a := a) (cell := cellB) (by rw [hT9]; exact hcB)
    (fun z h => by rw [h] at hoB; cases hoB) hselP hmethM habM hkP hkPi (g := F0 m pc ls (As.reverse ++ .ref a :: st)) rfl (argsL := As) (rest := st) (hn.trans (hlen _ hsigM)) rfl (by rw [C.cd]; exact hd)
  obtain ⟨v, ⟨U', l2, cc2, s2⟩, X', ⟨g', mk', t9, L, e1, e2, hq', hl2, hL2, hc2, hs2⟩, hsteps⟩ := hK m meth c ⟨T.setVm vm₁, locs, _, _⟩ (F0 m pc ls st) (.invokevirtual index) mk (.ref a :: As).toArray X₁ rfl (hL.1.trans C.ml.symm) (by rw [C.cd]; exact hd) (lv_room hst) (X₁.named hnamed) ⟨c1.1, c1.2, x_pre (U := T.setVm vm₁) C hR hS hT9 X₁.warmed⟩
  dsimp only [Pt.U, Pt.locs, Pt.cells, Pt.slots] at X' e1 e2 hl2 hc2 hs2 hsteps
  subst hl2; subst hc2; subst hs2
  obtain ⟨hv, hR1, hz, hk⟩ := hq'
  cases hv
  have hRU : x_R P h1 U'.heap := by rw [e1]; exact hR1
  obtain ⟨cellX, hcX, hoX, hclX⟩ := x_recv C.en.1 hRU hx hcx
  have hKn := (C.en.1.1 cx _ hcx).2
  have hcls : cellX.cls = P.2.1.1 cx := Option.some.inj (hclX.symm.trans hKn.1)
  have hpl : e.platform.magicAccessors = ({} : Platform).magicAccessors := by rw [X.admits.platform]
  obtain ⟨preL, y, restL, hsp, hpm, hyt⟩ := x_split (hT s c hx9)
  have hy4 : y.catchType = t.2.2.2 := by rw [← hyt]; rfl
  have hy3 : y.handlerPc = t.2.2.1 := by rw [← hyt]; rfl
  obtain ⟨hend, hk0⟩ := X'.catches_of_link (x := y) (name := qx.1) C.ow (by rw [hy4]; exact ht0) (by rw [hy4]; exact C.ts _ hlk) hclX (va_asg _ _)
  have hst0 := hstep₁ _ (fun acts => by rw [doInvoke_state]; exact Steps.refl _)
  obtain ⟨vm', XV, stV⟩ := X'.thenCaughtThrough x (g := F0 m pc ls st) rfl (hst0.trans hsteps) hcX hoX hk0 preL y restL hsp (fun z hz => by
    have hz2 : x_tf z ∈ pre.map Prod.fst := by rw [← hpm]; exact List.mem_map_of_mem hz
    obtain ⟨w, hw, hwz⟩ := List.mem_map.mp hz2
    obtain ⟨w1, w2, w3⟩ := hpre w hw
    have hz4 : z.catchType = w.1.2.2.2 := by rw [hwz]; rfl
    obtain ⟨c', hc', hcl⟩ := Cond.classLink_spec C.ow (C.ts _ w2) e.platform hpl
    obtain ⟨cc, tt, g1, g2, g3⟩ := w3 s c hx9
    cases hclX.symm.trans g1
    cases hc'.symm.trans g2
    exact Or.inr ⟨by rw [hz4]; exact w1, c', by rw [hz4]; exact hcl, g3⟩) (by
      have y1 : y.startPc = t.1 := by rw [← hyt]; rfl
      have y2 : y.endPc = t.2.1 := by rw [← hyt]; rfl
      show (decide (y.startPc ≤ pc) && decide (pc < y.endPc)) = true
      rw [y1, y2, decide_eq_true ht1, decide_eq_true ht2]
      rfl) hend
  have hS1 : va_S (x_A P) s.heap U'.heap (locs ++ L) := ⟨Nat.le_trans hS.1 (by
      rw [e1, ← hT9]; exact hz), fun q h1 h2 => by
      rw [e1, hk q (Nat.lt_of_lt_of_le h1 (by show s.heap.size ≤ T.heap.size; rw [hT9]; exact hS.1)) h2]
      show T.heap[q]? = _
      rw [hT9]
      exact hS.2.1 q h1 h2, fun q hq => by
      rcases List.mem_append.mp hq with h | h
      · exact hS.2.2 q h
      · exact hL2 q h⟩
  rw [hy3] at stV
  obtain ⟨t2, a1, b1⟩ := (W.cs c3 c4 (k.2 C hx9 N1 hRU hS1 hL hQ)) (U'.setVm vm') rfl XV
  exact ⟨t2, stV.trans a1, b1⟩
end

