/-! Calls of the judgement x_J; x_K: the same with a postcondition. -/
def x_code (M : x_M) : Cond := .code M.1 M.2.1 M.2.2.1 M.2.2.2
def x_ws (M : x_M) : List Cond := Cond.code M.1 M.2.1 M.2.2.1 M.2.2.2 :: xWS
def x_rm (d mc ms : Nat) : Room := { frames := d, cells := mc, slots := ms, locals := 37 * d }
def x_ent (As : List Value) (n : Nat) : List (Option Value) := As.map some ++ List.replicate (n - As.length) none
def x_Pc (P : x_P) (As : List Value) (h : x_H) : Array Value → State → Prop := va_Pc As (fun U => x_Env P U U.heap ∧ x_R P h U.heap ∧ P.2.2.2.1 ≤ U.heap.size)
def x_Qc (P : x_P) (oc : Outcome) (h1 : x_H) : Array Value → State → Outcome → State → Prop := fun _ st o t => o = oc ∧ x_R P h1 t.heap ∧ va_F (x_A P) st t
def x_mok (M : x_M) (n : Nat) : Prop := plainName M.1.cls = true ∧ (M.1.cls ≠ "java/lang/invoke/MethodHandle" ∧ M.1.cls ≠ "java/lang/invoke/VarHandle" ∧ (parseMethodDescriptor M.1.desc).map (fun d => d.parameters.length) = some n) ∧ M.2.2.1 ≤ 18 ∧ x_code M ∈ xWS ∧ Cond.initialized M.1.cls ∈ xWS
theorem x_good {M2 : x_M} (hc : x_code M2 ∈ xWS) : GoodIn xWS (x_ws M2) := fun w hw => by
  rcases List.mem_cons.mp hw with h | h
  · subst h
    exact ⟨hc, xWS_good _ hc⟩
  · exact ⟨h, xWS_good _ h⟩
theorem x_slv {As : List Value} (hc : ∀ v ∈ As, v.category = 1) : lg_sl As = As.map .val := by
  induction As with
  | nil => rfl
  | cons a t ih =>
    have h1 := hc a List.mem_cons_self
    have h2 := ih (fun v hv => hc v (List.mem_cons_of_mem _ hv))
    simp only [lg_sl, List.flatMap_cons, List.map_cons] at h2 ⊢
    rw [h2, if_neg (by omega)]
    rfl
theorem x_Lent {As : List Value} {n : Nat} (hc : ∀ v ∈ As, v.category = 1) (hn : As.length ≤ n) : x_L ((lg_sl As ++ List.replicate (n - (lg_sl As).length) Slot.unset).toArray) n (x_ent As n) := by
  have hl : (lg_sl As).length = As.length := by rw [x_slv hc, List.length_map]
  have h0 := lv_entry As (n := n) (by rw [hl]; exact hn)
  refine ⟨h0.1, h0.2.1, ?_, fun i v hi => ?_⟩
  · simp only [x_ent, List.length_append, List.length_map, List.length_replicate]
    omega
  · unfold x_ent at hi
    by_cases hlt : i < As.length
    · rw [List.getElem?_append_left (by rw [List.length_map]; exact hlt), List.getElem?_map, List.getElem?_eq_getElem hlt] at hi
      simp only [Option.map_some, Option.some.injEq] at hi
      subst hi
      refine ⟨?_, hc _ (List.getElem_mem hlt)⟩
      rw [x_slv hc, List.getElem?_toArray, List.getElem?_append_left (by rw [List.length_map]; exact hlt), List.getElem?_map, List.getElem?_eq_getElem hlt]
      rfl
    · rw [List.getElem?_append_right (by rw [List.length_map]; omega)] at hi
      rw [List.getElem?_replicate] at hi
      split at hi <;> cases hi
section XC0
variable {P : x_P} {d : Nat} {M M2 : x_M} {h h1 h' : x_H} {oc : Outcome} {As : List Value}
theorem x_met (hp : plainName M2.1.cls = true) (hcat : ∀ v ∈ As, v.category = 1) (hle : As.length ≤ M2.2.2.1) {v : Option Value} (kc : x_J P d M2 0 (x_ent As M2.2.2.1) [] h (.returned v) h1) :
    Met P.1 M2.1 (x_ws M2) (x_rm d (h1.2.1 - h.2.1) (h1.2.2 - h.2.2)) (x_Pc P As h) (x_Qc P (.returned v) h1) (h1.2.1 - h.2.1) (h1.2.2 - h.2.2) (x_A P) := by
  refine Met.ofW (cc := M2.2.1) (maxL := M2.2.2.1) (ret := M2.2.2.2) hp rfl ?_
  intro p e s m args below meth c s₁ B hml hv
  obtain ⟨rfl, hE, hR, hb⟩ := hv
  have hts := atoms_spec (ws := x_ws M2) B.pre
  rw [lg_entry_eq]
  have C : x_C P d M2 p (x_rm d (h1.2.1 - h.2.1) (h1.2.2 - h.2.2)) s m As.toArray meth c :=
    ⟨B.exec, B.bytes, hml, B.returns, B.notSynchronized, findClass_of_methodNamed B.named, (name_of_methodNamed B.named B.method).1, fun _ => B.noHandlers (hts _ List.mem_cons_self), fun w hw => hts w (List.mem_cons_of_mem _ hw), hE, Nat.le_refl _, Nat.le_refl _, hb⟩
  have N : x_N h h1 h.2.1 h.2.2 (x_rm d (h1.2.1 - h.2.1) (h1.2.2 - h.2.2)) := ⟨Nat.le_refl _, Nat.le_refl _, Nat.le_refl _, Nat.le_refl _⟩
  have h9 := kc.2 (e := e) (below := below) (Qc := x_Qc P (.returned v) h1) C N hR va_S.rf (x_Lent hcat hle) (fun t hRt hSt hW => ⟨rfl, hRt, hSt.elim (fun _ h8 => h8.F rfl)⟩)
  rw [Nat.sub_self, Nat.sub_self] at h9
  exact x_Wr (fun o t hq => ⟨v, hq.1⟩) h9
theorem x_Env.calling {U : State} {g : JFrame} {mk : MethodId} {a : Array Value} (h : x_Env P U U.heap) : x_Env P (U.calling g mk a) (U.calling g mk a).heap :=
  ⟨va_K.moved (u := U) (U := U.calling g mk a) (Vm.Alike.refl U.vm) h.1, fun w hw => (xNW_ok w hw).1 U (U.calling g mk a) rfl (h.2.1 w hw), va_X.moved (u := U) (U := U.calling g mk a) (Vm.Alike.refl U.vm) h.2.2.1, h.2.2.2.1, x_Ex.moved (u := U) (U := U.calling g mk a) (Vm.Alike.refl U.vm) h.2.2.2.2⟩
theorem x_Env.warm {s U : State} {H0 H1 : Heap} (h : x_Env P s H0) (hW : s.WarmedH U.vm) (hq : ∀ a : Nat, a < H0.size → ¬ x_A P a → H1[a]? = H0[a]?) : x_Env P U H1 :=
  ⟨va_K.moved hW.alike h.1, fun w hw => (xNW_ok w hw).2 _ _ hW (h.2.1 w hw), (h.2.2.1.kept (hq _ (Array.getElem?_eq_some_iff.mp h.2.2.1.choose_spec.1).1 (Nat.not_le.mpr h.2.2.2.1))).moved hW.alike, h.2.2.2.1, (h.2.2.2.2.kept hq).moved hW.alike⟩
theorem x_blind : FrameBlind (x_Pc P As h) := fun a U g mk q => ⟨q.1, q.2.1.calling, q.2.2.1, q.2.2.2⟩
theorem x_pre {p : Program} {R : Room} {s U : State} {m : MethodId} {args : Array Value} {meth : Method} {c : Code} {H : Heap} {locs : List Loc} (C : x_C P d M p R s m args meth c) (hR : x_R P h H) (hS : va_S (x_A P) s.heap H locs) (hU : U.heap = H) (hW : s.WarmedH U.vm) : x_Pc P As h As.toArray U := by
  refine ⟨rfl, C.en.warm hW ?_, by rw [hU]; exact hR, by rw [hU]; exact Nat.le_trans C.hb hS.1⟩
  rw [hU]
  exact hS.2.1
theorem x_go {p : Program} {e : Env} {R : Room} {s : State} {m : MethodId} {args : Array Value} {below : List Frame} {meth : Method} {c : Code} {H : Heap} {locs : List Loc} {cells slots mc ms pc : Nat} {Q : State → Prop} {ls : Array Slot} {st0 rest : List Value} {v : Option Value} {a : Array Value}
    (hr : va_Run p P.1 e R s m args below meth c H locs cells slots mc ms (F0 m pc ls st0) rest (x_Qc P (.returned v) h1 a) (x_A P)) (hS : va_S (x_A P) s.heap H locs)
    (kk : ∀ (H1 : Heap) (locs1 : List Loc), x_R P h1 H1 → va_S (x_A P) s.heap H1 locs1 → W p P.1 e R s m args below meth c H1 locs1 (cells + mc) (slots + ms) Q (F0 m (pc + 3) ls (v.toList ++ rest))) :
    W p P.1 e R s m args below meth c H locs cells slots Q (F0 m pc ls st0) := by
  intro T hT X
  obtain ⟨v', st₀, t, T', L, h0, X', hL, e1, e2, ⟨hv, hR1, hz, hk⟩, st⟩ := hr T hT X
  cases hv
  rw [h0] at hz hk
  obtain ⟨t2, a1, b1⟩ := kk T'.heap (locs ++ L) (by rw [e1]; exact hR1) ⟨Nat.le_trans hS.1 (by rw [e1]; exact hz), fun q h1 h2 => by rw [e1, hk q (Nat.lt_of_lt_of_le h1 hS.1) h2]; exact hS.2.1 q h1 h2, fun q hq => by
      rcases List.mem_append.mp hq with h | h
      · exact hS.2.2 q h
      · exact hL q h⟩ T' rfl X'
  exact ⟨t2, st t2 a1, b1⟩
theorem x_Ncall {n0 s0 : Nat} {R : Room} (N : x_N h h' n0 s0 R) (k1 : h.2.1 ≤ h1.2.1 ∧ h.2.2 ≤ h1.2.2) (k2 : h1.2.1 ≤ h'.2.1 ∧ h1.2.2 ≤ h'.2.2) :
    x_N h1 h' n0 s0 R ∧ ((h.2.1 - n0) + (h1.2.1 - h.2.1) ≤ R.cells ∧ (h.2.2 - s0) + (h1.2.2 - h.2.2) ≤ R.slots) ∧ (h.2.1 - n0) + (h1.2.1 - h.2.1) = h1.2.1 - n0 ∧ (h.2.2 - s0) + (h1.2.2 - h.2.2) = h1.2.2 - s0 := by
  obtain ⟨a1, a2, a3, a4⟩ := N
  unfold x_N
  omega
theorem x_cb {p : Program} {R : Room} {s : State} {m : MethodId} {args : Array Value} {meth : Method} {c : Code} {index n mc ms : Nat} (C : x_C P (d + 1) M p R s m args meth c) (hm : x_mok M2 n) (hl : Cond.methodLink M.1.cls index M2.1 ∈ xWS) : CallB R s args M.1.cls index M2.1 M2.2.1 M2.2.2.1 M2.2.2.2 (x_ws M2) (x_rm d mc ms) mc ms n := by
  obtain ⟨-, m2, m3, m4, m5⟩ := hm
  refine callB_of n C.ts (x_good m4) rfl rfl rfl (C.ts _ m5) (C.ts _ hl) m2 ⟨C.fr, ?_⟩
  have h1 := C.lo
  show 8 + (M2.2.2.1 + 11) + 37 * d ≤ R.locals
  omega
theorem x_cn {p : Program} {R : Room} {s : State} {m : MethodId} {args : Array Value} {meth : Method} {c : Code} {index n mc ms : Nat} {host : String} (C : x_C P (d + 1) M p R s m args meth c) (hm : x_mok M2 n) (hl : Cond.methodLinkNest M.1.cls index M2.1 host ∈ xNW) : va_CN R s args M.1.cls index M2.1 host M2.2.1 M2.2.2.1 M2.2.2.2 (x_ws M2) (x_rm d mc ms) mc ms n := by
  obtain ⟨-, m2, m3, m4, m5⟩ := hm
  refine va_cnB n C.ts (x_good m4) rfl rfl rfl (C.en.2.1 _ hl) (C.ts _ m5) m2 ⟨C.fr, ?_⟩
  have h1 := C.lo
  show 8 + (M2.2.2.1 + 11) + 37 * d ≤ R.locals
  omega
end XC0
section XC1
variable {P : x_P} {d : Nat} {M M2 : x_M} {pc : Nat} {lv : List (Option Value)} {st : List Value} {h h1 h' : x_H} {oc : Outcome} {As : List Value} {index n : Nat} {v : Option Value}
theorem xj_callS (hd : decode M.2.1 pc = .ok (.invokestatic index, 3)) (hl : Cond.methodLink M.1.cls index M2.1 ∈ xWS) (hs : Cond.static M2.1 ∈ xWS) (hm : x_mok M2 n) (hn : As.length = n) (hcat : ∀ u ∈ As, u.category = 1) (hle : (As).length ≤ M2.2.2.1) (hst : (st.map fun u => u.category).sum ≤ 8) (kc : x_J P d M2 0 (x_ent (As) M2.2.2.1) [] h (.returned v) h1) (k : x_J P (d + 1) M (pc + 3) lv (v.toList ++ st) h1 oc h') : x_J P (d + 1) M pc lv (As.reverse ++ st) h oc h' := by
  refine ⟨⟨Nat.le_trans kc.1.1 k.1.1, Nat.le_trans kc.1.2 k.1.2⟩, fun C N hR hS hL hQ => ?_⟩
  obtain ⟨N1, c1, c3, c4⟩ := x_Ncall N kc.1 k.1
  refine x_go (va_runS (As := As) (rest := st) ⟨C.ex, C.cd, C.ml, C.ow, C.ts⟩ (x_met hm.1 hcat hle kc) ⟨x_cb C hm hl, C.ts _ hs⟩ ⟨x_blind, fun U hU hW => x_pre C hR hS hU hW⟩ rfl hn hL.1 rfl (lv_room hst) hd c1) hS (fun H1 locs1 hR1 hS1 => ?_)
  exact W.cs c3 c4 (k.2 C N1 hR1 hS1 hL hQ)
theorem xj_callV (hd : decode M.2.1 pc = .ok (.invokevirtual index, 3)) (hl : Cond.methodLink M.1.cls index M2.1 ∈ xWS) {a ci : Nat} {q : vw_C} {fs : List Value} (hi : Cond.instanceMethod M2.1 ∈ xWS) (hse : Cond.selects M2.1.cls M2.1 M2.1 ∈ xWS) (ha : h.1 a = some (.inr (ci, fs))) (hc : xcl[ci]? = some q) (hq : q.1 = M2.1.cls) (hm : x_mok M2 n) (hn : As.length = n) (hcat : ∀ u ∈ .ref a :: As, u.category = 1) (hle : (.ref a :: As).length ≤ M2.2.2.1) (hst : (st.map fun u => u.category).sum ≤ 8) (kc : x_J P d M2 0 (x_ent (.ref a :: As) M2.2.2.1) [] h (.returned v) h1) (k : x_J P (d + 1) M (pc + 3) lv (v.toList ++ st) h1 oc h') : x_J P (d + 1) M pc lv (As.reverse ++ .ref a :: st) h oc h' := by
  refine ⟨⟨Nat.le_trans kc.1.1 k.1.1, Nat.le_trans kc.1.2 k.1.2⟩, fun C N hR hS hL hQ => ?_⟩
  obtain ⟨N1, c1, c3, c4⟩ := x_Ncall N kc.1 k.1
  refine x_go (va_runV (C := M2.1.cls) (As := As) (rest := st) ⟨C.ex, C.cd, C.ml, C.ow, C.ts⟩ (x_met hm.1 hcat hle kc) ⟨x_cb C hm hl, C.ts _ hi, C.ts _ hse⟩ ⟨x_blind, hq ▸ x_recv C.en.1 hR ha hc, fun U hU hW => x_pre C hR hS hU hW⟩ rfl hn hL.1 rfl (lv_room hst) hd c1) hS (fun H1 locs1 hR1 hS1 => ?_)
  exact W.cs c3 c4 (k.2 C N1 hR1 hS1 hL hQ)
theorem xj_callI (hd : decode M.2.1 pc = .ok (.invokespecial index, 3)) (hl : Cond.methodLink M.1.cls index M2.1 ∈ xWS) {a : Nat} (hr : M2.2.2.2 = none) (hy : M2.1.name = "<init>") (hi : Cond.instanceMethod M2.1 ∈ xWS) (hm : x_mok M2 n) (hn : As.length = n) (hcat : ∀ u ∈ .ref a :: As, u.category = 1) (hle : (.ref a :: As).length ≤ M2.2.2.1) (hst : (st.map fun u => u.category).sum ≤ 8) (kc : x_J P d M2 0 (x_ent (.ref a :: As) M2.2.2.1) [] h (.returned v) h1) (k : x_J P (d + 1) M (pc + 3) lv (v.toList ++ st) h1 oc h') : x_J P (d + 1) M pc lv (As.reverse ++ .ref a :: st) h oc h' := by
  refine ⟨⟨Nat.le_trans kc.1.1 k.1.1, Nat.le_trans kc.1.2 k.1.2⟩, fun C N hR hS hL hQ => ?_⟩
  obtain ⟨N1, c1, c3, c4⟩ := x_Ncall N kc.1 k.1
  refine x_go (va_runI (As := As) (rest := st) ⟨C.ex, C.cd, C.ml, C.ow, C.ts⟩ (x_met hm.1 hcat hle kc) ⟨by have h8 := x_cb (mc := h1.2.1 - h.2.1) (ms := h1.2.2 - h.2.2) C hm hl; rw [hr] at h8; exact h8, hy, C.ts _ hi⟩ ⟨x_blind, fun U hU hW => x_pre C hR hS hU hW⟩ rfl hn hL.1 rfl (lv_room hst) hd c1) hS (fun H1 locs1 hR1 hS1 => ?_)
  exact W.cs c3 c4 (k.2 C N1 hR1 hS1 hL hQ)
theorem xj_callSN {host : String} (hd : decode M.2.1 pc = .ok (.invokestatic index, 3)) (hl : Cond.methodLinkNest M.1.cls index M2.1 host ∈ xNW) (hs : Cond.static M2.1 ∈ xWS) (hm : x_mok M2 n) (hn : As.length = n) (hcat : ∀ u ∈ As, u.category = 1) (hle : (As).length ≤ M2.2.2.1) (hst : (st.map fun u => u.category).sum ≤ 8) (kc : x_J P d M2 0 (x_ent (As) M2.2.2.1) [] h (.returned v) h1) (k : x_J P (d + 1) M (pc + 3) lv (v.toList ++ st) h1 oc h') : x_J P (d + 1) M pc lv (As.reverse ++ st) h oc h' := by
  refine ⟨⟨Nat.le_trans kc.1.1 k.1.1, Nat.le_trans kc.1.2 k.1.2⟩, fun C N hR hS hL hQ => ?_⟩
  obtain ⟨N1, c1, c3, c4⟩ := x_Ncall N kc.1 k.1
  refine x_go (va_runSN (As := As) (rest := st) ⟨C.ex, C.cd, C.ml, C.ow, C.ts⟩ (x_met hm.1 hcat hle kc) ⟨x_cn C hm hl, C.ts _ hs, trivial⟩ ⟨x_blind, fun U hU hW => x_pre C hR hS hU hW⟩ rfl hn hL.1 rfl (lv_room hst) hd c1) hS (fun H1 locs1 hR1 hS1 => ?_)
  exact W.cs c3 c4 (k.2 C N1 hR1 hS1 hL hQ)
theorem xj_callVN {host : String} (hd : decode M.2.1 pc = .ok (.invokevirtual index, 3)) (hl : Cond.methodLinkNest M.1.cls index M2.1 host ∈ xNW) {a ci : Nat} {q : vw_C} {fs : List Value} (hi : Cond.instanceMethod M2.1 ∈ xWS) (hse : Cond.selects M2.1.cls M2.1 M2.1 ∈ xWS) (ha : h.1 a = some (.inr (ci, fs))) (hc : xcl[ci]? = some q) (hq : q.1 = M2.1.cls) (hm : x_mok M2 n) (hn : As.length = n) (hcat : ∀ u ∈ .ref a :: As, u.category = 1) (hle : (.ref a :: As).length ≤ M2.2.2.1) (hst : (st.map fun u => u.category).sum ≤ 8) (kc : x_J P d M2 0 (x_ent (.ref a :: As) M2.2.2.1) [] h (.returned v) h1) (k : x_J P (d + 1) M (pc + 3) lv (v.toList ++ st) h1 oc h') : x_J P (d + 1) M pc lv (As.reverse ++ .ref a :: st) h oc h' := by
  refine ⟨⟨Nat.le_trans kc.1.1 k.1.1, Nat.le_trans kc.1.2 k.1.2⟩, fun C N hR hS hL hQ => ?_⟩
  obtain ⟨N1, c1, c3, c4⟩ := x_Ncall N kc.1 k.1
  refine x_go (va_runVN (C := M2.1.cls) (As := As) (rest := st) ⟨C.ex, C.cd, C.ml, C.ow, C.ts⟩ (x_met hm.1 hcat hle kc) ⟨x_cn C hm hl, C.ts _ hi, C.ts _ hse⟩ ⟨x_blind, hq ▸ x_recv C.en.1 hR ha hc, fun U hU hW => x_pre C hR hS hU hW⟩ rfl hn hL.1 rfl (lv_room hst) hd c1) hS (fun H1 locs1 hR1 hS1 => ?_)
  exact W.cs c3 c4 (k.2 C N1 hR1 hS1 hL hQ)
theorem xj_callIN {host : String} (hd : decode M.2.1 pc = .ok (.invokespecial index, 3)) (hl : Cond.methodLinkNest M.1.cls index M2.1 host ∈ xNW) {a : Nat} (hr : M2.2.2.2 = none) (hy : M2.1.name = "<init>") (hi : Cond.instanceMethod M2.1 ∈ xWS) (hm : x_mok M2 n) (hn : As.length = n) (hcat : ∀ u ∈ .ref a :: As, u.category = 1) (hle : (.ref a :: As).length ≤ M2.2.2.1) (hst : (st.map fun u => u.category).sum ≤ 8) (kc : x_J P d M2 0 (x_ent (.ref a :: As) M2.2.2.1) [] h (.returned v) h1) (k : x_J P (d + 1) M (pc + 3) lv (v.toList ++ st) h1 oc h') : x_J P (d + 1) M pc lv (As.reverse ++ .ref a :: st) h oc h' := by
  refine ⟨⟨Nat.le_trans kc.1.1 k.1.1, Nat.le_trans kc.1.2 k.1.2⟩, fun C N hR hS hL hQ => ?_⟩
  obtain ⟨N1, c1, c3, c4⟩ := x_Ncall N kc.1 k.1
  refine x_go (va_runIN (As := As) (rest := st) ⟨C.ex, C.cd, C.ml, C.ow, C.ts⟩ (x_met hm.1 hcat hle kc) ⟨by have h8 := x_cn (mc := h1.2.1 - h.2.1) (ms := h1.2.2 - h.2.2) C hm hl; rw [hr] at h8; exact h8, hy, C.ts _ hi⟩ ⟨x_blind, fun U hU hW => x_pre C hR hS hU hW⟩ rfl hn hL.1 rfl (lv_room hst) hd c1) hS (fun H1 locs1 hR1 hS1 => ?_)
  exact W.cs c3 c4 (k.2 C N1 hR1 hS1 hL hQ)
theorem xj_max {x y : Int32} (hd : decode M.2.1 pc = .ok (.invokestatic index, 3)) (hl : Cond.methodLink M.1.cls index Lib.Math.max.name ∈ xWS) (hs : Cond.static Lib.Math.max.name ∈ xWS) (hi : Cond.initialized "java/lang/Math" ∈ xWS) (hc : Cond.code Lib.Math.max.name Lib.Math.max.code 2 (some .int) ∈ xWS) (hst : (st.map fun u => u.category).sum ≤ 8) (k : x_J P (d + 1) M (pc + 3) lv (.int (if x < y then y else x) :: st) h oc h') : x_J P (d + 1) M pc lv (.int y :: .int x :: st) h oc h' := by
  refine ⟨k.1, fun C N hR hS hL hQ => ?_⟩
  have h1 := C.lo
  have h2 := C.fr
  obtain ⟨n1, n2, n3, n4⟩ := N
  have h3 := k.1
  exact va_mmax C.ex C.cd (C.ml.trans hL.1.symm) C.ow (C.ts _ hl) (C.ts _ hs) (C.ts _ hi) (C.ts _ hc) (by omega) (by omega) (by omega) (by omega) hd (k.2 C ⟨n1, n2, n3, n4⟩ hR hS hL hQ)
theorem xj_min {x y : Int32} (hd : decode M.2.1 pc = .ok (.invokestatic index, 3)) (hl : Cond.methodLink M.1.cls index Lib.Math.min.name ∈ xWS) (hs : Cond.static Lib.Math.min.name ∈ xWS) (hi : Cond.initialized "java/lang/Math" ∈ xWS) (hc : Cond.code Lib.Math.min.name Lib.Math.min.code 2 (some .int) ∈ xWS) (hst : (st.map fun u => u.category).sum ≤ 8) (k : x_J P (d + 1) M (pc + 3) lv (.int (if y < x then y else x) :: st) h oc h') : x_J P (d + 1) M pc lv (.int y :: .int x :: st) h oc h' := by
  refine ⟨k.1, fun C N hR hS hL hQ => ?_⟩
  have h1 := C.lo
  have h2 := C.fr
  obtain ⟨n1, n2, n3, n4⟩ := N
  have h3 := k.1
  exact va_mmin C.ex C.cd (C.ml.trans hL.1.symm) C.ow (C.ts _ hl) (C.ts _ hs) (C.ts _ hi) (C.ts _ hc) (by omega) (by omega) (by omega) (by omega) hd (k.2 C ⟨n1, n2, n3, n4⟩ hR hS hL hQ)
end XC1
theorem x_C.down {P : x_P} {d d' : Nat} {M : x_M} {p : Program} {R : Room} {s : State} {m : MethodId} {args : Array Value} {meth : Method} {c : Code} (hd : d ≤ d') (C : x_C P d' M p R s m args meth c) : x_C P d M p R s m args meth c :=
  ⟨C.ex, C.cd, C.ml, C.re, C.lk, C.ow, C.nm, C.nh, C.ts, C.en, Nat.le_trans hd C.fr, Nat.le_trans (Nat.mul_le_mul_left 37 hd) C.lo, C.hb⟩
theorem x_J.up {P : x_P} {d d' : Nat} {M : x_M} {pc : Nat} {lv : List (Option Value)} {st : List Value} {h h' : x_H} {oc : Outcome} (hd : d ≤ d') (j : x_J P d M pc lv st h oc h') : x_J P d' M pc lv st h oc h' :=
  ⟨j.1, fun C N hR hS hL hQ => j.2 (C.down hd) N hR hS hL hQ⟩
def x_K (P : x_P) (d : Nat) (M : x_M) (pc : Nat) (lv : List (Option Value)) (st : List Value) (h : x_H) (Φ : Outcome → x_H → Prop) : Prop := ∃ (oc : Outcome) (h' : x_H), Φ oc h' ∧ x_J P d M pc lv st h oc h'
theorem x_K1 {P : x_P} {d : Nat} {M : x_M} {pc pc1 : Nat} {lv lv1 : List (Option Value)} {st st1 : List Value} {h h1 : x_H} {Φ : Outcome → x_H → Prop} (k : x_K P d M pc1 lv1 st1 h1 Φ) (f : ∀ oc h', x_J P d M pc1 lv1 st1 h1 oc h' → x_J P d M pc lv st h oc h') : x_K P d M pc lv st h Φ := by
  obtain ⟨oc, h', a, b⟩ := k
  exact ⟨oc, h', a, f oc h' b⟩
theorem x_K2 {P : x_P} {d : Nat} {M : x_M} {pc pc1 pc2 : Nat} {lv lv1 lv2 : List (Option Value)} {st st1 st2 : List Value} {h h1 h2 : x_H} {Φ : Outcome → x_H → Prop} {A B : Prop} (hAB : A ∨ B) (ka : A → x_K P d M pc1 lv1 st1 h1 Φ) (kb : B → x_K P d M pc2 lv2 st2 h2 Φ)
    (fa : A → ∀ oc h', x_J P d M pc1 lv1 st1 h1 oc h' → x_J P d M pc lv st h oc h') (fb : B → ∀ oc h', x_J P d M pc2 lv2 st2 h2 oc h' → x_J P d M pc lv st h oc h') : x_K P d M pc lv st h Φ := by
  rcases hAB with h9 | h9
  · exact x_K1 (ka h9) (fa h9)
  · exact x_K1 (kb h9) (fb h9)
theorem x_Kc {P : x_P} {d d2 : Nat} {M M2 : x_M} {pc pc1 : Nat} {lv lv1 lv2 : List (Option Value)} {st st1 : List Value} {h h2 : x_H} {Φ Ψ : Outcome → x_H → Prop} (kc : x_K P d2 M2 0 lv2 [] h2 Ψ) (k : ∀ oc h1, Ψ oc h1 → ∃ v, oc = .returned v ∧ x_K P d M pc1 lv1 (v.toList ++ st1) h1 Φ)
    (f : ∀ v h1 oc h', x_J P d2 M2 0 lv2 [] h2 (.returned v) h1 → x_J P d M pc1 lv1 (v.toList ++ st1) h1 oc h' → x_J P d M pc lv st h oc h') : x_K P d M pc lv st h Φ := by
  obtain ⟨oc, h1, a, b⟩ := kc
  obtain ⟨v, rfl, oc', h', a', b'⟩ := k oc h1 a
  exact ⟨oc', h', a', f v h1 oc' h' b b'⟩
theorem x_K.up {P : x_P} {d d' : Nat} {M : x_M} {pc : Nat} {lv : List (Option Value)} {st : List Value} {h : x_H} {Φ : Outcome → x_H → Prop} (hd : d ≤ d') (k : x_K P d M pc lv st h Φ) : x_K P d' M pc lv st h Φ := by
  obtain ⟨oc, h', a, b⟩ := k
  exact ⟨oc, h', a, b.up hd⟩
theorem x_Kmono {P : x_P} {d : Nat} {M : x_M} {pc : Nat} {lv : List (Option Value)} {st : List Value} {h : x_H} {Φ Ψ : Outcome → x_H → Prop} (k : x_K P d M pc lv st h Φ) (f : ∀ oc h', Φ oc h' → Ψ oc h') : x_K P d M pc lv st h Ψ := by
  obtain ⟨oc, h', a, b⟩ := k
  exact ⟨oc, h', f oc h' a, b⟩
theorem x_Kret {P : x_P} {d : Nat} {M : x_M} {pc : Nat} {lv : List (Option Value)} {st : List Value} {h h' : x_H} {oc : Outcome} {Φ : Outcome → x_H → Prop} (hΦ : Φ oc h') (j : x_J P d M pc lv st h oc h') : x_K P d M pc lv st h Φ := ⟨oc, h', hΦ, j⟩
