/-! The law's wrappers: how they call the object, how the law calls them -/
def x_Nb (s : State) : Prop := va_Nc "java/lang/IllegalStateException" "java/lang/IllegalArgumentException" s ∧ va_Nc "java/util/NoSuchElementException" "java/lang/IllegalArgumentException" s
theorem x_Nb.moved {u U : State} (hvm : u.vm.Alike U.vm) (k : x_Nb u) : x_Nb U := ⟨k.1.moved hvm, k.2.moved hvm⟩
def x_EL (s : State) (_ : Code) : Prop := x_Nb s
def x_ET (T : List (Nat × Nat × Nat × Nat)) (s : State) (c : Code) : Prop := c.exceptionTable.toList.map x_tf = T ∧ x_Nb s
def x_wW (M2 : x_M) (T : List (Nat × Nat × Nat × Nat)) : List Cond := Cond.codeWith M2.1 M2.2.1 M2.2.2.1 M2.2.2.2 T :: xWS
def x_PcW (P : x_P) (As : List Value) (h : x_H) : Array Value → State → Prop := fun v U => x_Pc P As h v U ∧ x_Nb U
section
variable {P : x_P} {d : Nat} {M M2 : x_M} {h h1 h' : x_H} {oc : Outcome} {As : List Value} {T : List (Nat × Nat × Nat × Nat)} {v : Option Value}
theorem x_metW (hp : plainName M2.1.cls = true) (hcl : M2.1.cls = "BrokerTreeLaw") (hcat : ∀ v ∈ As, v.category = 1) (hle : As.length ≤ M2.2.2.1) (kc : x_G (x_ET T) P d M2 0 (x_ent As M2.2.2.1) [] h (.returned v) h1) :
    Met P.1 M2.1 (x_wW M2 T) (x_rm d (h1.2.1 - h.2.1) (h1.2.2 - h.2.2)) (x_PcW P As h) (x_Qc P (.returned v) h1) (h1.2.1 - h.2.1) (h1.2.2 - h.2.2) (x_A P) := by
  refine va_MetW (cc := M2.2.1) (maxL := M2.2.2.1) (ret := M2.2.2.2) (hh := T) hp rfl ?_
  intro p e s m args below meth c s₁ B hml hv
  obtain ⟨⟨rfl, hE, hR, hb⟩, hN⟩ := hv
  have hts := atoms_spec (ws := x_wW M2 T) B.pre
  obtain ⟨m9, meth', c', hn9, hm', hc', -, -, htab, -⟩ := Cond.codeWith_spec (hts _ List.mem_cons_self)
  cases B.named.symm.trans hn9
  cases B.method.symm.trans hm'
  cases (Stand.of_body B).code.symm.trans hc'
  rw [lg_entry_eq]
  have C : x_C P d M2 p (x_rm d (h1.2.1 - h.2.1) (h1.2.2 - h.2.2)) s m As.toArray meth c :=
    ⟨B.exec, B.bytes, hml, B.returns, B.notSynchronized, findClass_of_methodNamed B.named, (name_of_methodNamed B.named B.method).1, fun hne => absurd hcl hne, fun w hw => hts w (List.mem_cons_of_mem _ hw), hE, Nat.le_refl _, Nat.le_refl _, hb⟩
  have N : x_N h h1 h.2.1 h.2.2 (x_rm d (h1.2.1 - h.2.1) (h1.2.2 - h.2.2)) := ⟨Nat.le_refl _, Nat.le_refl _, Nat.le_refl _, Nat.le_refl _⟩
  have h9 := kc.2 (e := e) (below := below) (Qc := x_Qc P (.returned v) h1) C ⟨htab, hN⟩ N hR va_S.rf (x_Lent hcat hle) (fun t hRt hSt hW => ⟨rfl, hRt, hSt.elim (fun _ h8 => h8.F rfl)⟩)
  rw [Nat.sub_self, Nat.sub_self] at h9
  exact x_Wr (fun o t hq => ⟨v, hq.1⟩) h9
theorem x_blindW : FrameBlind (x_PcW P As h) := fun a U g mk q => ⟨x_blind a U g mk q.1, q.2.moved (u := U) (U := U.calling g mk a) (Vm.Alike.refl U.vm)⟩
end
section
variable {E : State → Code → Prop} {P : x_P} {d : Nat} {M M2 : x_M} {pc : Nat} {lv : List (Option Value)} {st : List Value} {h h1 h' : x_H} {oc : Outcome} {As : List Value} {index n : Nat} {v : Option Value} {T : List (Nat × Nat × Nat × Nat)}
def x_wok (M : x_M) (T : List (Nat × Nat × Nat × Nat)) (n : Nat) : Prop := plainName M.1.cls = true ∧ M.1.cls = "BrokerTreeLaw" ∧ (M.1.cls ≠ "java/lang/invoke/MethodHandle" ∧ M.1.cls ≠ "java/lang/invoke/VarHandle") ∧ (parseMethodDescriptor M.1.desc).map (fun d => d.parameters.length) = some n ∧ M.2.2.1 ≤ 18 ∧ Cond.codeWith M.1 M.2.1 M.2.2.1 M.2.2.2 T ∈ xWS ∧ Cond.initialized M.1.cls ∈ xWS
theorem xg_callW (hd : decode M.2.1 pc = .ok (.invokestatic index, 3)) (hl : Cond.methodLink M.1.cls index M2.1 ∈ xWS) (hs : Cond.static M2.1 ∈ xWS) (hm : x_wok M2 T n) (hn : As.length = n) (hcat : ∀ u ∈ As, u.category = 1) (hle : As.length ≤ M2.2.2.1) (hst : (st.map fun u => u.category).sum ≤ 8) (hE : ∀ s c, E s c → x_Nb s) (kc : x_G (x_ET T) P d M2 0 (x_ent As M2.2.2.1) [] h (.returned v) h1) (k : x_G E P (d + 1) M (pc + 3) lv (v.toList ++ st) h1 oc h') : x_G E P (d + 1) M pc lv (As.reverse ++ st) h oc h' := by
  refine ⟨⟨Nat.le_trans kc.1.1 k.1.1, Nat.le_trans kc.1.2 k.1.2⟩, fun {p e R s m args below meth c n0 s0 H locs ls Qc} C hx N hR hS hL hQ => ?_⟩
  obtain ⟨N1, c1, c3, c4⟩ := x_Ncall N kc.1 k.1
  obtain ⟨m1, m2, m3, m4, m5, m6, m7⟩ := hm
  have hM := x_metW m1 m2 hcat hle kc
  have hws : ∀ w ∈ x_wW M2 T, ∀ (a' : Array Value) (U : State), s.WarmedH U.vm → w.before a' U = true := fun w hw a' U hW => by
    rcases List.mem_cons.mp hw with h | h
    · subst h; exact word_at hW (xWS_good _ m6) (C.ts _ m6)
    · exact word_at hW (xWS_good _ h) (C.ts _ h)
  have hlo := C.lo
  have hK : Back P.1 R p e below s args M2.1 3 8 (PreOf R (h1.2.1 - h.2.1) (h1.2.2 - h.2.2) (x_PcW P As h)) (PostOf (x_Qc P (.returned v) h1) (h1.2.1 - h.2.1) (h1.2.2 - h.2.2) (x_A P)) :=
    va_backW (hh := T) (bytes := M2.2.1) (maxL := M2.2.2.1) (ret := M2.2.2.2) hM x_blindW rfl rfl C.fr (by show 8 + (M2.2.2.1 + 11) + 37 * d ≤ R.locals; omega) hws List.mem_cons_self (fun a' U hW => word_at hW (xWS_good _ m7) (C.ts _ m7))
  refine x_go (mc := h1.2.1 - h.2.1) (ms := h1.2.2 - h.2.2) (rest := st) (v := v) (h1 := h1) (a := As.toArray) ?_ hS (fun H1 locs1 hR1 hS1 => ?_)
  · intro T0 hT X
    obtain ⟨mk, methM, cM, hnamed, hmethM, -, -, -, -, -, -, hsigM⟩ := Cond.codeWith_spec (C.ts _ m6)
    have hstatic : methM.isStatic = true := Cond.static_spec hnamed hmethM (C.ts _ hs)
    obtain ⟨kP, hkP, -⟩ := className_of_methodNamed hnamed
    have hinitP : kP.init = .initialized := Cond.initialized_spec (findClass_of_methodNamed hnamed) hkP (C.ts _ m7)
    have hlen : As.length = methM.sig.parameters.length := by
      rw [hsigM] at m4
      exact hn.trans (Option.some.inj m4).symm
    obtain ⟨vm₁, X₁, hstep₁⟩ := X.invokestatic C.ex C.ow (C.ts _ hl) hnamed hmethM hstatic hkP hinitP m3 (g := F0 m pc ls (As.reverse ++ st)) rfl (argsL := As) (rest := st) hlen rfl (by rw [C.cd]; exact hd)
    obtain ⟨v', ⟨U', l2, cc2, s2⟩, X', ⟨g', mk', t, L, e1, e2, hq, h1', hL', h2', h3'⟩, hsteps⟩ := hK m meth c ⟨T0.setVm vm₁, locs, _, _⟩ (F0 m pc ls st) (.invokestatic index) mk As.toArray X₁ rfl (hL.1.trans C.ml.symm) (by rw [C.cd]; exact hd) (lv_room hst) (X₁.named hnamed) ⟨c1.1, c1.2, x_pre (U := T0.setVm vm₁) C hR hS hT X₁.warmed, (hE s c hx).moved X₁.warmed.alike⟩
    dsimp only [Pt.U, Pt.locs, Pt.cells, Pt.slots] at X' e1 e2 h1' h2' h3' hsteps
    subst h1'; subst h2'; subst h3'
    exact ⟨v', (T0.setVm vm₁).calling g' mk' As.toArray, t, U', L, hT, X', hL', e1, e2, hq, fun target h => hstep₁ _ fun acts => by rw [doInvoke_state]; exact hsteps.trans h⟩
  · exact W.cs c3 c4 (k.2 C hx N1 hR1 hS1 hL hQ)
theorem x_KGw {E E2 : State → Code → Prop} {P : x_P} {d d2 : Nat} {M M2 : x_M} {pc pc1 : Nat} {lv lv1 lv2 : List (Option Value)} {st st1 : List Value} {h h2 : x_H} {Φ Ψ : Outcome → x_H → Prop} (kc : x_KG E2 P d2 M2 0 lv2 [] h2 Ψ) (k : ∀ oc h1, Ψ oc h1 → ∃ v, oc = .returned v ∧ x_KG E P d M pc1 lv1 (v.toList ++ st1) h1 Φ)
    (f : ∀ v h1 oc h', x_G E2 P d2 M2 0 lv2 [] h2 (.returned v) h1 → x_G E P d M pc1 lv1 (v.toList ++ st1) h1 oc h' → x_G E P d M pc lv st h oc h') : x_KG E P d M pc lv st h Φ := by
  obtain ⟨oc, h1, a, b⟩ := kc
  obtain ⟨v, rfl, oc', h', a', b'⟩ := k oc h1 a
  exact ⟨oc', h', a', f v h1 oc' h' b b'⟩
end
theorem xl_13 : Cond.classLink "BrokerTreeLaw" 13 "java/lang/IllegalArgumentException" ∈ xWS := List.mem_filter.mpr ⟨List.mem_append_right _ (List.mem_of_getElem? (i := 350) (by decide +kernel)), rfl⟩
theorem xl_15 : Cond.classLink "BrokerTreeLaw" 15 "java/lang/IllegalStateException" ∈ xWS := List.mem_filter.mpr ⟨List.mem_append_right _ (List.mem_of_getElem? (i := 351) (by decide +kernel)), rfl⟩
theorem xl_21 : Cond.classLink "BrokerTreeLaw" 21 "java/util/NoSuchElementException" ∈ xWS := List.mem_filter.mpr ⟨List.mem_append_right _ (List.mem_of_getElem? (i := 603) (by decide +kernel)), rfl⟩
abbrev tLW_subscribe : List (Nat × Nat × Nat × Nat) := [(0, 9, 12, 13), (0, 9, 15, 15)]
set_option maxRecDepth 20000 in
theorem wok_subscribe : x_wok mLW_subscribe tLW_subscribe 3 := ⟨by decide, rfl, ⟨by decide, by decide⟩, by decide +kernel, by decide, List.mem_filter.mpr ⟨List.mem_append_right _ (List.mem_of_getElem? (i := 349) rfl), rfl⟩, xm_0⟩
theorem xs_subscribe : Cond.static mLW_subscribe.1 ∈ xWS := List.mem_filter.mpr ⟨List.mem_append_right _ (List.mem_of_getElem? (i := 348) (by decide +kernel)), rfl⟩
theorem xk_subscribe : Cond.methodLink "BrokerTreeLaw" 54 mLW_subscribe.1 ∈ xWS := List.mem_filter.mpr ⟨List.mem_append_right _ (List.mem_of_getElem? (i := 347) (by decide +kernel)), rfl⟩
theorem dLWw_143 : decode cLW_law 143 = .ok (.invokestatic 54, 3) := by decide +kernel
theorem eLW_law_143 {E : State → Code → Prop} {P : x_P} {d : Nat} {st : List Value} {h : x_H} {Φ Ψ : Outcome → x_H → Prop} {v0 v1 v2 v3 v4 v5 v6 : Option Value} {a0 : Nat} {x1 : Int32} {a2 : Nat} (hE : ∀ s c, E s c → x_Nb s) (hst : (st.map fun u => u.category).sum ≤ 8) (kc : x_KG (x_ET tLW_subscribe) P d mLW_subscribe 0 [some (.ref a0), some (.int x1), some (.ref a2), none] [] h Ψ) (k : ∀ oc h1, Ψ oc h1 → ∃ v, oc = .returned v ∧ x_KG E P (d + 1) mLW_law 146 [v0, v1, v2, v3, v4, v5, v6] (v.toList ++ st) h1 Φ) : x_KG E P (d + 1) mLW_law 143 [v0, v1, v2, v3, v4, v5, v6] (.ref a2 :: .int x1 :: .ref a0 :: st) h Φ := x_KGw kc k (fun _ _ _ _ j1 j2 => xg_callW (M2 := mLW_subscribe) (As := [.ref a0, .int x1, .ref a2]) dLWw_143 xk_subscribe xs_subscribe wok_subscribe rfl (by simp only [List.forall_mem_cons]; exact ⟨rfl, rfl, rfl, fun _ h => absurd h List.not_mem_nil⟩) (Nat.le_of_ble_eq_true rfl) hst hE j1 j2)
theorem eLW_subscribe_4T10 {P : x_P} {d : Nat} {st : List Value} {h h1 : x_H} {x : Nat} {Φ : Outcome → x_H → Prop} {v0 v1 v2 v3 : Option Value} {x1 : Int32} {a : Nat} {fs : List Value} (ha : h.1 a = some (.inr (0, fs))) (hst : (st.map fun u => u.category).sum ≤ 8) (hx : h1.1 x = some (.inr (10, []))) (kc : x_J P d mBT_subscribe 0 [some (.ref a), some (.int x1), none, none] [] h (.threw x) h1) (k : x_KG (x_ET tLW_subscribe) P (d + 1) mLW_subscribe 12 [v0, v1, v2, v3] [.ref x] h1 Φ) : x_KG (x_ET tLW_subscribe) P (d + 1) mLW_subscribe 4 [v0, v1, v2, v3] (.int x1 :: .ref a :: st) h Φ :=
  x_KG1 k (fun _ _ j => xg_catchV (M2 := mBT_subscribe) (As := [.int x1]) dLW_subscribe_4 xm_352 xm_353 xm_354 ha rfl rfl ok_BT_subscribe rfl (by simp only [List.forall_mem_cons]; exact ⟨rfl, rfl, fun _ h => absurd h List.not_mem_nil⟩) (Nat.le_of_ble_eq_true rfl) hst hx rfl (pre := []) (t := (0, 9, 12, 13)) (post := [(0, 9, 15, 15)]) (fun s c h9 => h9.1) (fun y hy => by cases hy) (Nat.le_of_ble_eq_true rfl) (Nat.le_of_ble_eq_true rfl) (by decide) xl_13 kc j)
theorem eLW_subscribe_4T11 {P : x_P} {d : Nat} {st : List Value} {h h1 : x_H} {x : Nat} {Φ : Outcome → x_H → Prop} {v0 v1 v2 v3 : Option Value} {x1 : Int32} {a : Nat} {fs : List Value} (ha : h.1 a = some (.inr (0, fs))) (hst : (st.map fun u => u.category).sum ≤ 8) (hx : h1.1 x = some (.inr (11, []))) (kc : x_J P d mBT_subscribe 0 [some (.ref a), some (.int x1), none, none] [] h (.threw x) h1) (k : x_KG (x_ET tLW_subscribe) P (d + 1) mLW_subscribe 15 [v0, v1, v2, v3] [.ref x] h1 Φ) : x_KG (x_ET tLW_subscribe) P (d + 1) mLW_subscribe 4 [v0, v1, v2, v3] (.int x1 :: .ref a :: st) h Φ :=
  x_KG1 k (fun _ _ j => xg_catchV (M2 := mBT_subscribe) (As := [.int x1]) dLW_subscribe_4 xm_352 xm_353 xm_354 ha rfl rfl ok_BT_subscribe rfl (by simp only [List.forall_mem_cons]; exact ⟨rfl, rfl, fun _ h => absurd h List.not_mem_nil⟩) (Nat.le_of_ble_eq_true rfl) hst hx rfl (pre := [((0, 9, 12, 13), "java/lang/IllegalArgumentException")]) (t := (0, 9, 15, 15)) (post := []) (fun s c h9 => h9.1) (fun y hy => by
    rcases List.mem_cons.mp hy with rfl | hy
    · exact ⟨by decide, xl_13, fun s c h9 => h9.2.1⟩
    · cases hy) (Nat.le_of_ble_eq_true rfl) (Nat.le_of_ble_eq_true rfl) (by decide) xl_15 kc j)
abbrev tLW_unsubscribe : List (Nat × Nat × Nat × Nat) := [(0, 5, 8, 21)]
set_option maxRecDepth 20000 in
theorem wok_unsubscribe : x_wok mLW_unsubscribe tLW_unsubscribe 2 := ⟨by decide, rfl, ⟨by decide, by decide⟩, by decide +kernel, by decide, List.mem_filter.mpr ⟨List.mem_append_right _ (List.mem_of_getElem? (i := 602) rfl), rfl⟩, xm_0⟩
theorem xs_unsubscribe : Cond.static mLW_unsubscribe.1 ∈ xWS := List.mem_filter.mpr ⟨List.mem_append_right _ (List.mem_of_getElem? (i := 601) (by decide +kernel)), rfl⟩
theorem xk_unsubscribe : Cond.methodLink "BrokerTreeLaw" 62 mLW_unsubscribe.1 ∈ xWS := List.mem_filter.mpr ⟨List.mem_append_right _ (List.mem_of_getElem? (i := 600) (by decide +kernel)), rfl⟩
theorem dLWw_198 : decode cLW_law 198 = .ok (.invokestatic 62, 3) := by decide +kernel
theorem eLW_law_198 {E : State → Code → Prop} {P : x_P} {d : Nat} {st : List Value} {h : x_H} {Φ Ψ : Outcome → x_H → Prop} {v0 v1 v2 v3 v4 v5 v6 : Option Value} {a0 : Nat} {x1 : Int32} (hE : ∀ s c, E s c → x_Nb s) (hst : (st.map fun u => u.category).sum ≤ 8) (kc : x_KG (x_ET tLW_unsubscribe) P d mLW_unsubscribe 0 [some (.ref a0), some (.int x1), none] [] h Ψ) (k : ∀ oc h1, Ψ oc h1 → ∃ v, oc = .returned v ∧ x_KG E P (d + 1) mLW_law 201 [v0, v1, v2, v3, v4, v5, v6] (v.toList ++ st) h1 Φ) : x_KG E P (d + 1) mLW_law 198 [v0, v1, v2, v3, v4, v5, v6] (.int x1 :: .ref a0 :: st) h Φ := x_KGw kc k (fun _ _ _ _ j1 j2 => xg_callW (M2 := mLW_unsubscribe) (As := [.ref a0, .int x1]) dLWw_198 xk_unsubscribe xs_unsubscribe wok_unsubscribe rfl (by simp only [List.forall_mem_cons]; exact ⟨rfl, rfl, fun _ h => absurd h List.not_mem_nil⟩) (Nat.le_of_ble_eq_true rfl) hst hE j1 j2)
theorem eLW_unsubscribe_2T12 {P : x_P} {d : Nat} {st : List Value} {h h1 : x_H} {x : Nat} {Φ : Outcome → x_H → Prop} {v0 v1 v2 : Option Value} {x1 : Int32} {a : Nat} {fs : List Value} (ha : h.1 a = some (.inr (0, fs))) (hst : (st.map fun u => u.category).sum ≤ 8) (hx : h1.1 x = some (.inr (12, []))) (kc : x_J P d mBT_unsubscribe 0 [some (.ref a), some (.int x1)] [] h (.threw x) h1) (k : x_KG (x_ET tLW_unsubscribe) P (d + 1) mLW_unsubscribe 8 [v0, v1, v2] [.ref x] h1 Φ) : x_KG (x_ET tLW_unsubscribe) P (d + 1) mLW_unsubscribe 2 [v0, v1, v2] (.int x1 :: .ref a :: st) h Φ :=
  x_KG1 k (fun _ _ j => xg_catchV (M2 := mBT_unsubscribe) (As := [.int x1]) dLW_unsubscribe_2 xm_604 xm_605 xm_606 ha rfl rfl ok_BT_unsubscribe rfl (by simp only [List.forall_mem_cons]; exact ⟨rfl, rfl, fun _ h => absurd h List.not_mem_nil⟩) (Nat.le_of_ble_eq_true rfl) hst hx rfl (pre := []) (t := (0, 5, 8, 21)) (post := []) (fun s c h9 => h9.1) (fun y hy => by cases hy) (Nat.le_of_ble_eq_true rfl) (Nat.le_of_ble_eq_true rfl) (by decide) xl_21 kc j)
abbrev tLW_publish : List (Nat × Nat × Nat × Nat) := [(0, 12, 15, 13)]
set_option maxRecDepth 20000 in
theorem wok_publish : x_wok mLW_publish tLW_publish 5 := ⟨by decide, rfl, ⟨by decide, by decide⟩, by decide +kernel, by decide, List.mem_filter.mpr ⟨List.mem_append_right _ (List.mem_of_getElem? (i := 625) rfl), rfl⟩, xm_0⟩
theorem xs_publish : Cond.static mLW_publish.1 ∈ xWS := List.mem_filter.mpr ⟨List.mem_append_right _ (List.mem_of_getElem? (i := 624) (by decide +kernel)), rfl⟩
theorem xk_publish : Cond.methodLink "BrokerTreeLaw" 66 mLW_publish.1 ∈ xWS := List.mem_filter.mpr ⟨List.mem_append_right _ (List.mem_of_getElem? (i := 623) (by decide +kernel)), rfl⟩
theorem dLWw_247 : decode cLW_law 247 = .ok (.invokestatic 66, 3) := by decide +kernel
theorem eLW_law_247 {E : State → Code → Prop} {P : x_P} {d : Nat} {st : List Value} {h : x_H} {Φ Ψ : Outcome → x_H → Prop} {v0 v1 v2 v3 v4 v5 v6 : Option Value} {a0 : Nat} {x1 : Int32} {x2 : Int32} {x3 : Int32} {a4 : Nat} (hE : ∀ s c, E s c → x_Nb s) (hst : (st.map fun u => u.category).sum ≤ 8) (kc : x_KG (x_ET tLW_publish) P d mLW_publish 0 [some (.ref a0), some (.int x1), some (.int x2), some (.int x3), some (.ref a4), none] [] h Ψ) (k : ∀ oc h1, Ψ oc h1 → ∃ v, oc = .returned v ∧ x_KG E P (d + 1) mLW_law 250 [v0, v1, v2, v3, v4, v5, v6] (v.toList ++ st) h1 Φ) : x_KG E P (d + 1) mLW_law 247 [v0, v1, v2, v3, v4, v5, v6] (.ref a4 :: .int x3 :: .int x2 :: .int x1 :: .ref a0 :: st) h Φ := x_KGw kc k (fun _ _ _ _ j1 j2 => xg_callW (M2 := mLW_publish) (As := [.ref a0, .int x1, .int x2, .int x3, .ref a4]) dLWw_247 xk_publish xs_publish wok_publish rfl (by simp only [List.forall_mem_cons]; exact ⟨rfl, rfl, rfl, rfl, rfl, fun _ h => absurd h List.not_mem_nil⟩) (Nat.le_of_ble_eq_true rfl) hst hE j1 j2)
theorem eLW_publish_7T10 {P : x_P} {d : Nat} {st : List Value} {h h1 : x_H} {x : Nat} {Φ : Outcome → x_H → Prop} {v0 v1 v2 v3 v4 v5 : Option Value} {x1 : Int32} {x2 : Int32} {x3 : Int32} {a : Nat} {fs : List Value} (ha : h.1 a = some (.inr (0, fs))) (hst : (st.map fun u => u.category).sum ≤ 8) (hx : h1.1 x = some (.inr (10, []))) (kc : x_J P d mBT_publish 0 [some (.ref a), some (.int x1), some (.int x2), some (.int x3), none, none] [] h (.threw x) h1) (k : x_KG (x_ET tLW_publish) P (d + 1) mLW_publish 15 [v0, v1, v2, v3, v4, v5] [.ref x] h1 Φ) : x_KG (x_ET tLW_publish) P (d + 1) mLW_publish 7 [v0, v1, v2, v3, v4, v5] (.int x3 :: .int x2 :: .int x1 :: .ref a :: st) h Φ :=
  x_KG1 k (fun _ _ j => xg_catchV (M2 := mBT_publish) (As := [.int x1, .int x2, .int x3]) dLW_publish_7 xm_626 xm_627 xm_628 ha rfl rfl ok_BT_publish rfl (by simp only [List.forall_mem_cons]; exact ⟨rfl, rfl, rfl, rfl, fun _ h => absurd h List.not_mem_nil⟩) (Nat.le_of_ble_eq_true rfl) hst hx rfl (pre := []) (t := (0, 12, 15, 13)) (post := []) (fun s c h9 => h9.1) (fun y hy => by cases hy) (Nat.le_of_ble_eq_true rfl) (Nat.le_of_ble_eq_true rfl) (by decide) xl_13 kc j)
abbrev tLW_take : List (Nat × Nat × Nat × Nat) := [(0, 10, 13, 21)]
set_option maxRecDepth 20000 in
theorem wok_take : x_wok mLW_take tLW_take 4 := ⟨by decide, rfl, ⟨by decide, by decide⟩, by decide +kernel, by decide, List.mem_filter.mpr ⟨List.mem_append_right _ (List.mem_of_getElem? (i := 656) rfl), rfl⟩, xm_0⟩
theorem xs_take : Cond.static mLW_take.1 ∈ xWS := List.mem_filter.mpr ⟨List.mem_append_right _ (List.mem_of_getElem? (i := 655) (by decide +kernel)), rfl⟩
theorem xk_take : Cond.methodLink "BrokerTreeLaw" 70 mLW_take.1 ∈ xWS := List.mem_filter.mpr ⟨List.mem_append_right _ (List.mem_of_getElem? (i := 654) (by decide +kernel)), rfl⟩
theorem dLWw_321 : decode cLW_law 321 = .ok (.invokestatic 70, 3) := by decide +kernel
theorem eLW_law_321 {E : State → Code → Prop} {P : x_P} {d : Nat} {st : List Value} {h : x_H} {Φ Ψ : Outcome → x_H → Prop} {v0 v1 v2 v3 v4 v5 v6 : Option Value} {a0 : Nat} {x1 : Int32} {x2 : Int32} {a3 : Nat} (hE : ∀ s c, E s c → x_Nb s) (hst : (st.map fun u => u.category).sum ≤ 8) (kc : x_KG (x_ET tLW_take) P d mLW_take 0 [some (.ref a0), some (.int x1), some (.int x2), some (.ref a3), none] [] h Ψ) (k : ∀ oc h1, Ψ oc h1 → ∃ v, oc = .returned v ∧ x_KG E P (d + 1) mLW_law 324 [v0, v1, v2, v3, v4, v5, v6] (v.toList ++ st) h1 Φ) : x_KG E P (d + 1) mLW_law 321 [v0, v1, v2, v3, v4, v5, v6] (.ref a3 :: .int x2 :: .int x1 :: .ref a0 :: st) h Φ := x_KGw kc k (fun _ _ _ _ j1 j2 => xg_callW (M2 := mLW_take) (As := [.ref a0, .int x1, .int x2, .ref a3]) dLWw_321 xk_take xs_take wok_take rfl (by simp only [List.forall_mem_cons]; exact ⟨rfl, rfl, rfl, rfl, fun _ h => absurd h List.not_mem_nil⟩) (Nat.le_of_ble_eq_true rfl) hst hE j1 j2)
theorem eLW_take_5T12 {P : x_P} {d : Nat} {st : List Value} {h h1 : x_H} {x : Nat} {Φ : Outcome → x_H → Prop} {v0 v1 v2 v3 v4 : Option Value} {x1 : Int32} {x2 : Int32} {a : Nat} {fs : List Value} (ha : h.1 a = some (.inr (0, fs))) (hst : (st.map fun u => u.category).sum ≤ 8) (hx : h1.1 x = some (.inr (12, []))) (kc : x_J P d mBT_take 0 [some (.ref a), some (.int x1), some (.int x2), none] [] h (.threw x) h1) (k : x_KG (x_ET tLW_take) P (d + 1) mLW_take 13 [v0, v1, v2, v3, v4] [.ref x] h1 Φ) : x_KG (x_ET tLW_take) P (d + 1) mLW_take 5 [v0, v1, v2, v3, v4] (.int x2 :: .int x1 :: .ref a :: st) h Φ :=
  x_KG1 k (fun _ _ j => xg_catchV (M2 := mBT_take) (As := [.int x1, .int x2]) dLW_take_5 xm_657 xm_658 xm_659 ha rfl rfl ok_BT_take rfl (by simp only [List.forall_mem_cons]; exact ⟨rfl, rfl, rfl, fun _ h => absurd h List.not_mem_nil⟩) (Nat.le_of_ble_eq_true rfl) hst hx rfl (pre := []) (t := (0, 10, 13, 21)) (post := []) (fun s c h9 => h9.1) (fun y hy => by cases hy) (Nat.le_of_ble_eq_true rfl) (Nat.le_of_ble_eq_true rfl) (by decide) xl_21 kc j)
abbrev tLW_read : List (Nat × Nat × Nat × Nat) := [(0, 9, 12, 13), (0, 9, 15, 21)]
set_option maxRecDepth 20000 in
theorem wok_read : x_wok mLW_read tLW_read 3 := ⟨by decide, rfl, ⟨by decide, by decide⟩, by decide +kernel, by decide, List.mem_filter.mpr ⟨List.mem_append_right _ (List.mem_of_getElem? (i := 663) rfl), rfl⟩, xm_0⟩
theorem xs_read : Cond.static mLW_read.1 ∈ xWS := List.mem_filter.mpr ⟨List.mem_append_right _ (List.mem_of_getElem? (i := 662) (by decide +kernel)), rfl⟩
theorem xk_read : Cond.methodLink "BrokerTreeLaw" 82 mLW_read.1 ∈ xWS := List.mem_filter.mpr ⟨List.mem_append_right _ (List.mem_of_getElem? (i := 661) (by decide +kernel)), rfl⟩
theorem dLWw_433 : decode cLW_law 433 = .ok (.invokestatic 82, 3) := by decide +kernel
theorem eLW_law_433 {E : State → Code → Prop} {P : x_P} {d : Nat} {st : List Value} {h : x_H} {Φ Ψ : Outcome → x_H → Prop} {v0 v1 v2 v3 v4 v5 v6 : Option Value} {a0 : Nat} {x1 : Int32} {a2 : Nat} (hE : ∀ s c, E s c → x_Nb s) (hst : (st.map fun u => u.category).sum ≤ 8) (kc : x_KG (x_ET tLW_read) P d mLW_read 0 [some (.ref a0), some (.int x1), some (.ref a2), none] [] h Ψ) (k : ∀ oc h1, Ψ oc h1 → ∃ v, oc = .returned v ∧ x_KG E P (d + 1) mLW_law 436 [v0, v1, v2, v3, v4, v5, v6] (v.toList ++ st) h1 Φ) : x_KG E P (d + 1) mLW_law 433 [v0, v1, v2, v3, v4, v5, v6] (.ref a2 :: .int x1 :: .ref a0 :: st) h Φ := x_KGw kc k (fun _ _ _ _ j1 j2 => xg_callW (M2 := mLW_read) (As := [.ref a0, .int x1, .ref a2]) dLWw_433 xk_read xs_read wok_read rfl (by simp only [List.forall_mem_cons]; exact ⟨rfl, rfl, rfl, fun _ h => absurd h List.not_mem_nil⟩) (Nat.le_of_ble_eq_true rfl) hst hE j1 j2)
theorem eLW_read_4T10 {P : x_P} {d : Nat} {st : List Value} {h h1 : x_H} {x : Nat} {Φ : Outcome → x_H → Prop} {v0 v1 v2 v3 : Option Value} {x1 : Int32} {a : Nat} {fs : List Value} (ha : h.1 a = some (.inr (0, fs))) (hst : (st.map fun u => u.category).sum ≤ 8) (hx : h1.1 x = some (.inr (10, []))) (kc : x_J P d mBT_read 0 [some (.ref a), some (.int x1), none] [] h (.threw x) h1) (k : x_KG (x_ET tLW_read) P (d + 1) mLW_read 12 [v0, v1, v2, v3] [.ref x] h1 Φ) : x_KG (x_ET tLW_read) P (d + 1) mLW_read 4 [v0, v1, v2, v3] (.int x1 :: .ref a :: st) h Φ :=
  x_KG1 k (fun _ _ j => xg_catchV (M2 := mBT_read) (As := [.int x1]) dLW_read_4 xm_664 xm_665 xm_666 ha rfl rfl ok_BT_read rfl (by simp only [List.forall_mem_cons]; exact ⟨rfl, rfl, fun _ h => absurd h List.not_mem_nil⟩) (Nat.le_of_ble_eq_true rfl) hst hx rfl (pre := []) (t := (0, 9, 12, 13)) (post := [(0, 9, 15, 21)]) (fun s c h9 => h9.1) (fun y hy => by cases hy) (Nat.le_of_ble_eq_true rfl) (Nat.le_of_ble_eq_true rfl) (by decide) xl_13 kc j)
theorem eLW_read_4T12 {P : x_P} {d : Nat} {st : List Value} {h h1 : x_H} {x : Nat} {Φ : Outcome → x_H → Prop} {v0 v1 v2 v3 : Option Value} {x1 : Int32} {a : Nat} {fs : List Value} (ha : h.1 a = some (.inr (0, fs))) (hst : (st.map fun u => u.category).sum ≤ 8) (hx : h1.1 x = some (.inr (12, []))) (kc : x_J P d mBT_read 0 [some (.ref a), some (.int x1), none] [] h (.threw x) h1) (k : x_KG (x_ET tLW_read) P (d + 1) mLW_read 15 [v0, v1, v2, v3] [.ref x] h1 Φ) : x_KG (x_ET tLW_read) P (d + 1) mLW_read 4 [v0, v1, v2, v3] (.int x1 :: .ref a :: st) h Φ :=
  x_KG1 k (fun _ _ j => xg_catchV (M2 := mBT_read) (As := [.int x1]) dLW_read_4 xm_664 xm_665 xm_666 ha rfl rfl ok_BT_read rfl (by simp only [List.forall_mem_cons]; exact ⟨rfl, rfl, fun _ h => absurd h List.not_mem_nil⟩) (Nat.le_of_ble_eq_true rfl) hst hx rfl (pre := [((0, 9, 12, 13), "java/lang/IllegalArgumentException")]) (t := (0, 9, 15, 21)) (post := []) (fun s c h9 => h9.1) (fun y hy => by
    rcases List.mem_cons.mp hy with rfl | hy
    · exact ⟨by decide, xl_13, fun s c h9 => h9.2.2⟩
    · cases hy) (Nat.le_of_ble_eq_true rfl) (Nat.le_of_ble_eq_true rfl) (by decide) xl_21 kc j)
abbrev tLW_covers : List (Nat × Nat × Nat × Nat) := [(0, 15, 18, 13)]
set_option maxRecDepth 20000 in
theorem wok_covers : x_wok mLW_covers tLW_covers 2 := ⟨by decide, rfl, ⟨by decide, by decide⟩, by decide +kernel, by decide, List.mem_filter.mpr ⟨List.mem_append_right _ (List.mem_of_getElem? (i := 670) rfl), rfl⟩, xm_0⟩
theorem xs_covers : Cond.static mLW_covers.1 ∈ xWS := List.mem_filter.mpr ⟨List.mem_append_right _ (List.mem_of_getElem? (i := 669) (by decide +kernel)), rfl⟩
theorem xk_covers : Cond.methodLink "BrokerTreeLaw" 90 mLW_covers.1 ∈ xWS := List.mem_filter.mpr ⟨List.mem_append_right _ (List.mem_of_getElem? (i := 668) (by decide +kernel)), rfl⟩
theorem dLWw_548 : decode cLW_law 548 = .ok (.invokestatic 90, 3) := by decide +kernel
theorem eLW_law_548 {E : State → Code → Prop} {P : x_P} {d : Nat} {st : List Value} {h : x_H} {Φ Ψ : Outcome → x_H → Prop} {v0 v1 v2 v3 v4 v5 v6 : Option Value} {a0 : Nat} {a1 : Nat} (hE : ∀ s c, E s c → x_Nb s) (hst : (st.map fun u => u.category).sum ≤ 8) (kc : x_KG (x_ET tLW_covers) P d mLW_covers 0 [some (.ref a0), some (.ref a1), none] [] h Ψ) (k : ∀ oc h1, Ψ oc h1 → ∃ v, oc = .returned v ∧ x_KG E P (d + 1) mLW_law 551 [v0, v1, v2, v3, v4, v5, v6] (v.toList ++ st) h1 Φ) : x_KG E P (d + 1) mLW_law 548 [v0, v1, v2, v3, v4, v5, v6] (.ref a1 :: .ref a0 :: st) h Φ := x_KGw kc k (fun _ _ _ _ j1 j2 => xg_callW (M2 := mLW_covers) (As := [.ref a0, .ref a1]) dLWw_548 xk_covers xs_covers wok_covers rfl (by simp only [List.forall_mem_cons]; exact ⟨rfl, rfl, fun _ h => absurd h List.not_mem_nil⟩) (Nat.le_of_ble_eq_true rfl) hst hE j1 j2)
theorem eLW_covers_3T10 {P : x_P} {d : Nat} {st : List Value} {h h1 : x_H} {x : Nat} {Φ : Outcome → x_H → Prop} {v0 v1 v2 : Option Value} {a : Nat} {fs : List Value} (ha : h.1 a = some (.inr (0, fs))) (hst : (st.map fun u => u.category).sum ≤ 8) (hx : h1.1 x = some (.inr (10, []))) (kc : x_J P d mBT_covers 0 [some (.ref a), none, none, none] [] h (.threw x) h1) (k : x_KG (x_ET tLW_covers) P (d + 1) mLW_covers 18 [v0, v1, v2] [.ref x] h1 Φ) : x_KG (x_ET tLW_covers) P (d + 1) mLW_covers 3 [v0, v1, v2] (.ref a :: st) h Φ :=
  x_KG1 k (fun _ _ j => xg_catchV (M2 := mBT_covers) (As := []) dLW_covers_3 xm_671 xm_672 xm_673 ha rfl rfl ok_BT_covers rfl (by simp only [List.forall_mem_cons]; exact ⟨rfl, fun _ h => absurd h List.not_mem_nil⟩) (Nat.le_of_ble_eq_true rfl) hst hx rfl (pre := []) (t := (0, 15, 18, 13)) (post := []) (fun s c h9 => h9.1) (fun y hy => by cases hy) (Nat.le_of_ble_eq_true rfl) (Nat.le_of_ble_eq_true rfl) (by decide) xl_13 kc j)

