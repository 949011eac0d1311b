/-! The judgement once more, with a premise E on the start and the code -/
def x_G (E : State → Code → Prop) (P : x_P) (d : Nat) (M : x_M) (pc : Nat) (lv : List (Option Value)) (st : List Value) (h : x_H) (oc : Outcome) (h' : x_H) : Prop :=
  (h.2.1 ≤ h'.2.1 ∧ h.2.2 ≤ h'.2.2) ∧
  ∀ {p : Program} {e : Env} {R : Room} {s : State} {m : MethodId} {args : Array Value} {below : List Frame} {meth : Method} {c : Code} {n0 s0 : Nat} {H : Heap} {locs : List Loc} {ls : Array Slot} {Qc : Array Value → State → Outcome → State → Prop},
    x_C P d M p R s m args meth c → E s c → x_N h h' n0 s0 R → x_R P h H → va_S (x_A P) s.heap H locs → x_L ls M.2.2.1 lv → x_Q P h' s args oc Qc →
    W p P.1 e R s m args below meth c H locs (h.2.1 - n0) (h.2.2 - s0) (x_MQ below Qc args s (h'.2.1 - n0) (h'.2.2 - s0) (x_A P)) (F0 m pc ls st)
theorem x_J.toG {E : State → Code → Prop} {P : x_P} {d : Nat} {M : x_M} {pc : Nat} {lv : List (Option Value)} {st : List Value} {h : x_H} {oc : Outcome} {h' : x_H} (k : x_J P d M pc lv st h oc h') : x_G E P d M pc lv st h oc h' := ⟨k.1, fun C _ N hR hS hL hQ => k.2 C N hR hS hL hQ⟩
def x_KG (E : State → Code → Prop) (P : x_P) (d : Nat) (M : x_M) (pc : Nat) (lv : List (Option Value)) (st : List Value) (h : x_H) (Φ : Outcome → x_H → Prop) : Prop := ∃ (oc : Outcome) (h' : x_H), Φ oc h' ∧ x_G E P d M pc lv st h oc h'
theorem x_KG1 {E : State → Code → Prop} {P : x_P} {d : Nat} {M : x_M} {pc pc1 : Nat} {lv lv1 : List (Option Value)} {st st1 : List Value} {h h1 : x_H} {Φ : Outcome → x_H → Prop} (k : x_KG E P d M pc1 lv1 st1 h1 Φ) (f : ∀ oc h', x_G E P d M pc1 lv1 st1 h1 oc h' → x_G E P d M pc lv st h oc h') : x_KG E P d M pc lv st h Φ := by
  obtain ⟨oc, h', a, b⟩ := k
  exact ⟨oc, h', a, f oc h' b⟩
theorem x_KG2 {E : State → Code → Prop} {P : x_P} {d : Nat} {M : x_M} {pc pc1 pc2 : Nat} {lv lv1 lv2 : List (Option Value)} {st st1 st2 : List Value} {h h1 h2 : x_H} {Φ : Outcome → x_H → Prop} {A B : Prop} (hAB : A ∨ B) (ka : A → x_KG E P d M pc1 lv1 st1 h1 Φ) (kb : B → x_KG E P d M pc2 lv2 st2 h2 Φ)
    (fa : A → ∀ oc h', x_G E P d M pc1 lv1 st1 h1 oc h' → x_G E P d M pc lv st h oc h') (fb : B → ∀ oc h', x_G E P d M pc2 lv2 st2 h2 oc h' → x_G E P d M pc lv st h oc h') : x_KG E P d M pc lv st h Φ := by
  rcases hAB with h9 | h9
  · exact x_KG1 (ka h9) (fa h9)
  · exact x_KG1 (kb h9) (fb h9)
theorem x_KGc {E : State → Code → Prop} {P : x_P} {d d2 : Nat} {M M2 : x_M} {pc pc1 : Nat} {lv lv1 lv2 : List (Option Value)} {st st1 : List Value} {h h2 : x_H} {Φ Ψ : Outcome → x_H → Prop} (kc : x_K P d2 M2 0 lv2 [] h2 Ψ) (k : ∀ oc h1, Ψ oc h1 → ∃ v, oc = .returned v ∧ x_KG E P d M pc1 lv1 (v.toList ++ st1) h1 Φ)
    (f : ∀ v h1 oc h', x_J P d2 M2 0 lv2 [] h2 (.returned v) h1 → x_G E P d M pc1 lv1 (v.toList ++ st1) h1 oc h' → x_G E P d M pc lv st h oc h') : x_KG E P d M pc lv st h Φ := by
  obtain ⟨oc, h1, a, b⟩ := kc
  obtain ⟨v, rfl, oc', h', a', b'⟩ := k oc h1 a
  exact ⟨oc', h', a', f v h1 oc' h' b b'⟩
theorem x_KGret {E : State → Code → Prop} {P : x_P} {d : Nat} {M : x_M} {pc : Nat} {lv : List (Option Value)} {st : List Value} {h h' : x_H} {oc : Outcome} {Φ : Outcome → x_H → Prop} (hΦ : Φ oc h') (j : x_G E P d M pc lv st h oc h') : x_KG E P d M pc lv st h Φ := ⟨oc, h', hΦ, j⟩

theorem x_KGmono {E : State → Code → Prop} {P : x_P} {d : Nat} {M : x_M} {pc : Nat} {lv : List (Option Value)} {st : List Value} {h : x_H} {Φ Ψ : Outcome → x_H → Prop} (k : x_KG E P d M pc lv st h Φ) (f : ∀ oc h', Φ oc h' → Ψ oc h') : x_KG E P d M pc lv st h Ψ := by
  obtain ⟨oc, h', a, b⟩ := k
  exact ⟨oc, h', f oc h' a, b⟩
theorem x_K.toG {E : State → Code → Prop} {P : x_P} {d : Nat} {M : x_M} {pc : Nat} {lv : List (Option Value)} {st : List Value} {h : x_H} {Φ : Outcome → x_H → Prop} (k : x_K P d M pc lv st h Φ) : x_KG E P d M pc lv st h Φ := by
  obtain ⟨oc, h', a, b⟩ := k
  exact ⟨oc, h', a, b.toG⟩
section
variable {E : State → Code → Prop} {P : x_P} {d : Nat} {M : x_M} {pc : Nat} {lv : List (Option Value)} {st : List Value} {h h' : x_H} {oc : Outcome}
theorem xg_alen {a t : Nat} {x : vp_A} {ty : FieldType} {v : Int32} (hd : decode M.2.1 pc = .ok (.arraylength, 1)) (ha : h.1 a = some (.inl (t, x))) (ht : (x_tys P.2.2.1)[t]? = some (P.2.2.1 t, ty)) (hv : Int32.ofNat x.1 = v) (k : x_G E P d M (pc + 1) lv (.int v :: st) h oc h') : x_G E P d M pc lv (.ref a :: st) h oc h' :=
  ⟨k.1, fun C hx N hR hS hL hQ => va_alen C.ex C.cd C.en.1 (x_hP hR ha) 0 t rfl ht hv hd (k.2 C hx N hR hS hL hQ)⟩
end
section
variable {E : State → Code → Prop} {P : x_P} {d : Nat} {M : x_M} {pc : Nat} {lv : List (Option Value)} {st : List Value} {h h' : x_H} {oc : Outcome}
theorem xg_aload {i : Nat} {v : Value} (hd : decode M.2.1 pc = .ok (.aload i, 2)) (hl : lv[i]? = some (some v)) (hv : v.isRef = true) (k : x_G E P d M (pc + 2) lv (v :: st) h oc h') : x_G E P d M pc lv st h oc h' := by
  refine ⟨k.1, fun C hx N hR hS hL hQ => ?_⟩
  cases v with
  | null => exact lv_aloadN C.ex C.cd hd (hL.get hl) (k.2 C hx N hR hS hL hQ)
  | ref a => exact lv_aload C.ex C.cd hd (hL.get hl) (k.2 C hx N hR hS hL hQ)
  | _ => cases hv
end
section
variable {E : State → Code → Prop} {P : x_P} {d : Nat} {M : x_M} {pc : Nat} {lv : List (Option Value)} {st : List Value} {h h' : x_H} {oc : Outcome}
theorem xg_aload_n {j : Fin 4} {i : Nat} {v : Value} (hd : decode M.2.1 pc = .ok (.aload_n j, 1)) (hi : (j : Nat) = i) (hl : lv[i]? = some (some v)) (hv : v.isRef = true) (k : x_G E P d M (pc + 1) lv (v :: st) h oc h') : x_G E P d M pc lv st h oc h' := by
  refine ⟨k.1, fun C hx N hR hS hL hQ => ?_⟩
  cases v with
  | null => exact lv_aload_nN C.ex C.cd hd hi (hL.get hl) (k.2 C hx N hR hS hL hQ)
  | ref a => exact lv_aload_n C.ex C.cd hd hi (hL.get hl) (k.2 C hx N hR hS hL hQ)
  | _ => cases hv
end
section
variable {E : State → Code → Prop} {P : x_P} {d : Nat} {M : x_M} {pc : Nat} {lv : List (Option Value)} {st : List Value} {h h' : x_H} {oc : Outcome}
theorem xg_astore {i : Nat} {v : Value} {o : Option Value} (hd : decode M.2.1 pc = .ok (.astore i, 2)) (hl : lv[i]? = some o) (hv : v.isRef = true) (k : x_G E P d M (pc + 2) (lv.set i (some v)) st h oc h') : x_G E P d M pc lv (v :: st) h oc h' := by
  refine ⟨k.1, fun C hx N hR hS hL hQ => ?_⟩
  cases v with
  | null => exact lv_astoreN C.ex C.cd hd hL.has (hL.len hl) rfl (fun _ h9 => k.2 C hx N hR hS (hL.set (hL.len hl) rfl h9) hQ)
  | ref a => exact lv_astore C.ex C.cd hd hL.has (hL.len hl) rfl (fun _ h9 => k.2 C hx N hR hS (hL.set (hL.len hl) rfl h9) hQ)
  | _ => cases hv
end
section
variable {E : State → Code → Prop} {P : x_P} {d : Nat} {M : x_M} {pc : Nat} {lv : List (Option Value)} {st : List Value} {h h' : x_H} {oc : Outcome}
theorem xg_astore_n {j : Fin 4} {i : Nat} {v : Value} {o : Option Value} (hd : decode M.2.1 pc = .ok (.astore_n j, 1)) (hi : (j : Nat) = i) (hl : lv[i]? = some o) (hv : v.isRef = true) (k : x_G E P d M (pc + 1) (lv.set i (some v)) st h oc h') : x_G E P d M pc lv (v :: st) h oc h' := by
  refine ⟨k.1, fun C hx N hR hS hL hQ => ?_⟩
  cases v with
  | null => exact lv_astore_nN C.ex C.cd hd hi hL.has (hL.len hl) rfl (fun _ h9 => k.2 C hx N hR hS (hL.set (hL.len hl) rfl h9) hQ)
  | ref a => exact lv_astore_n C.ex C.cd hd hi hL.has (hL.len hl) rfl (fun _ h9 => k.2 C hx N hR hS (hL.set (hL.len hl) rfl h9) hQ)
  | _ => cases hv
end
section
variable {E : State → Code → Prop} {P : x_P} {d : Nat} {M : x_M} {pc : Nat} {lv : List (Option Value)} {st : List Value} {h h' : x_H} {oc : Outcome}
theorem xg_bipush {n : Int} {v : Int32} (hd : decode M.2.1 pc = .ok (.bipush n, 2)) (hv : (Int8.ofInt n).toInt32 = v) (k : x_G E P d M (pc + 2) lv (.int v :: st) h oc h') : x_G E P d M pc lv st h oc h' :=
  ⟨k.1, fun C hx N hR hS hL hQ => lv_bipush C.ex C.cd hd hv (k.2 C hx N hR hS hL hQ)⟩
end
section
variable {E : State → Code → Prop} {P : x_P} {d : Nat} {M M2 : x_M} {pc : Nat} {lv : List (Option Value)} {st : List Value} {h h1 h' : x_H} {oc : Outcome} {As : List Value} {index n : Nat} {v : Option Value}
theorem xg_callI (hd : decode M.2.1 pc = .ok (.invokespecial index, 3)) (hl : Cond.methodLink M.1.cls index M2.1 ∈ xWS) {a : Nat} (hr : M2.2.2.2 = none) (hy : M2.1.name = "<init>") (hi : Cond.instanceMethod M2.1 ∈ xWS) (hm : x_mok M2 n) (hn : As.length = n) (hcat : ∀ u ∈ .ref a :: As, u.category = 1) (hle : (.ref a :: As).length ≤ M2.2.2.1) (hst : (st.map fun u => u.category).sum ≤ 8) (kc : x_J P d M2 0 (x_ent (.ref a :: As) M2.2.2.1) [] h (.returned v) h1) (k : x_G E P (d + 1) M (pc + 3) lv (v.toList ++ st) h1 oc h') : x_G E P (d + 1) M pc lv (As.reverse ++ .ref a :: st) h oc h' := by
  refine ⟨⟨Nat.le_trans kc.1.1 k.1.1, Nat.le_trans kc.1.2 k.1.2⟩, fun C hx N hR hS hL hQ => ?_⟩
  obtain ⟨N1, c1, c3, c4⟩ := x_Ncall N kc.1 k.1
  refine x_go (va_runI (As := As) (rest := st) ⟨C.ex, C.cd, C.ml, C.ow, C.ts⟩ (x_met hm.1 hcat hle kc) ⟨by have h8 := x_cb (mc := h1.2.1 - h.2.1) (ms := h1.2.2 - h.2.2) C hm hl; rw [hr] at h8; exact h8, hy, C.ts _ hi⟩ ⟨x_blind, fun U hU hW => x_pre C hR hS hU hW⟩ rfl hn hL.1 rfl (lv_room hst) hd c1) hS (fun H1 locs1 hR1 hS1 => ?_)
  exact W.cs c3 c4 (k.2 C hx N1 hR1 hS1 hL hQ)
end
section
variable {E : State → Code → Prop} {P : x_P} {d : Nat} {M M2 : x_M} {pc : Nat} {lv : List (Option Value)} {st : List Value} {h h1 h' : x_H} {oc : Outcome} {As : List Value} {index n : Nat} {v : Option Value}
theorem xg_callS (hd : decode M.2.1 pc = .ok (.invokestatic index, 3)) (hl : Cond.methodLink M.1.cls index M2.1 ∈ xWS) (hs : Cond.static M2.1 ∈ xWS) (hm : x_mok M2 n) (hn : As.length = n) (hcat : ∀ u ∈ As, u.category = 1) (hle : (As).length ≤ M2.2.2.1) (hst : (st.map fun u => u.category).sum ≤ 8) (kc : x_J P d M2 0 (x_ent (As) M2.2.2.1) [] h (.returned v) h1) (k : x_G E P (d + 1) M (pc + 3) lv (v.toList ++ st) h1 oc h') : x_G E P (d + 1) M pc lv (As.reverse ++ st) h oc h' := by
  refine ⟨⟨Nat.le_trans kc.1.1 k.1.1, Nat.le_trans kc.1.2 k.1.2⟩, fun C hx N hR hS hL hQ => ?_⟩
  obtain ⟨N1, c1, c3, c4⟩ := x_Ncall N kc.1 k.1
  refine x_go (va_runS (As := As) (rest := st) ⟨C.ex, C.cd, C.ml, C.ow, C.ts⟩ (x_met hm.1 hcat hle kc) ⟨x_cb C hm hl, C.ts _ hs⟩ ⟨x_blind, fun U hU hW => x_pre C hR hS hU hW⟩ rfl hn hL.1 rfl (lv_room hst) hd c1) hS (fun H1 locs1 hR1 hS1 => ?_)
  exact W.cs c3 c4 (k.2 C hx N1 hR1 hS1 hL hQ)
end
section
variable {E : State → Code → Prop} {P : x_P} {d : Nat} {M M2 : x_M} {pc : Nat} {lv : List (Option Value)} {st : List Value} {h h1 h' : x_H} {oc : Outcome} {As : List Value} {index n : Nat} {v : Option Value}
theorem xg_callV (hd : decode M.2.1 pc = .ok (.invokevirtual index, 3)) (hl : Cond.methodLink M.1.cls index M2.1 ∈ xWS) {a ci : Nat} {q : vw_C} {fs : List Value} (hi : Cond.instanceMethod M2.1 ∈ xWS) (hse : Cond.selects M2.1.cls M2.1 M2.1 ∈ xWS) (ha : h.1 a = some (.inr (ci, fs))) (hc : xcl[ci]? = some q) (hq : q.1 = M2.1.cls) (hm : x_mok M2 n) (hn : As.length = n) (hcat : ∀ u ∈ .ref a :: As, u.category = 1) (hle : (.ref a :: As).length ≤ M2.2.2.1) (hst : (st.map fun u => u.category).sum ≤ 8) (kc : x_J P d M2 0 (x_ent (.ref a :: As) M2.2.2.1) [] h (.returned v) h1) (k : x_G E P (d + 1) M (pc + 3) lv (v.toList ++ st) h1 oc h') : x_G E P (d + 1) M pc lv (As.reverse ++ .ref a :: st) h oc h' := by
  refine ⟨⟨Nat.le_trans kc.1.1 k.1.1, Nat.le_trans kc.1.2 k.1.2⟩, fun C hx N hR hS hL hQ => ?_⟩
  obtain ⟨N1, c1, c3, c4⟩ := x_Ncall N kc.1 k.1
  refine x_go (va_runV (C := M2.1.cls) (As := As) (rest := st) ⟨C.ex, C.cd, C.ml, C.ow, C.ts⟩ (x_met hm.1 hcat hle kc) ⟨x_cb C hm hl, C.ts _ hi, C.ts _ hse⟩ ⟨x_blind, hq ▸ x_recv C.en.1 hR ha hc, fun U hU hW => x_pre C hR hS hU hW⟩ rfl hn hL.1 rfl (lv_room hst) hd c1) hS (fun H1 locs1 hR1 hS1 => ?_)
  exact W.cs c3 c4 (k.2 C hx N1 hR1 hS1 hL hQ)
end
section
variable {E : State → Code → Prop} {P : x_P} {d : Nat} {M : x_M} {pc : Nat} {lv : List (Option Value)} {st : List Value} {h h' : x_H} {oc : Outcome}
theorem xg_dup {v : Value} (hd : decode M.2.1 pc = .ok (.dup, 1)) (hv : v.category = 1) (k : x_G E P d M (pc + 1) lv (v :: v :: st) h oc h') : x_G E P d M pc lv (v :: st) h oc h' :=
  ⟨k.1, fun C hx N hR hS hL hQ => lv_dup C.ex C.cd hd hv (k.2 C hx N hR hS hL hQ)⟩
end
section
variable {E : State → Code → Prop} {P : x_P} {d : Nat} {M : x_M} {pc : Nat} {lv : List (Option Value)} {st : List Value} {h h' : x_H} {oc : Outcome}
theorem xg_goto {off : Int} {tgt : Nat} (hd : decode M.2.1 pc = .ok (.goto off, 3)) (ht : (pc : Int) + off = (tgt : Int)) (k : x_G E P d M tgt lv st h oc h') : x_G E P d M pc lv st h oc h' :=
  ⟨k.1, fun C hx N hR hS hL hQ => lv_goto C.ex C.cd hd ht (k.2 C hx N hR hS hL hQ)⟩
end
section
variable {E : State → Code → Prop} {P : x_P} {d : Nat} {M : x_M} {pc : Nat} {lv : List (Option Value)} {st : List Value} {h h' : x_H} {oc : Outcome}
theorem xg_i2c {x v : Int32} (hd : decode M.2.1 pc = .ok (.i2c, 1)) (hv : (x.toUInt32 % 65536).toInt32 = v) (k : x_G E P d M (pc + 1) lv (.int v :: st) h oc h') : x_G E P d M pc lv (.int x :: st) h oc h' :=
  ⟨k.1, fun C hx N hR hS hL hQ => lv_i2c C.ex C.cd hd hv (k.2 C hx N hR hS hL hQ)⟩
end
section
variable {E : State → Code → Prop} {P : x_P} {d : Nat} {M : x_M} {pc : Nat} {lv : List (Option Value)} {st : List Value} {h h' : x_H} {oc : Outcome}
theorem xg_i2l {x : Int32} {v : Int64} (hd : decode M.2.1 pc = .ok (.i2l, 1)) (hv : x.toInt64 = v) (k : x_G E P d M (pc + 1) lv (.long v :: st) h oc h') : x_G E P d M pc lv (.int x :: st) h oc h' :=
  ⟨k.1, fun C hx N hR hS hL hQ => lv_i2l C.ex C.cd hd hv (k.2 C hx N hR hS hL hQ)⟩
end
section
variable {E : State → Code → Prop} {P : x_P} {d : Nat} {M : x_M} {pc : Nat} {lv : List (Option Value)} {st : List Value} {h h' : x_H} {oc : Outcome}
theorem xg_iadd {x y : Int32} (hd : decode M.2.1 pc = .ok (.iadd, 1)) (k : x_G E P d M (pc + 1) lv (.int (x + y) :: st) h oc h') : x_G E P d M pc lv (.int y :: .int x :: st) h oc h' :=
  ⟨k.1, fun C hx N hR hS hL hQ => lv_iadd C.ex C.cd hd (k.2 C hx N hR hS hL hQ)⟩
end
section
variable {E : State → Code → Prop} {P : x_P} {d : Nat} {M : x_M} {pc : Nat} {lv : List (Option Value)} {st : List Value} {h h' : x_H} {oc : Outcome}
theorem xg_iald {a n : Nat} {f : Nat → Int32} {i : Int32} (hd : decode M.2.1 pc = .ok (.iaload, 1)) (ha : h.1 a = some (.inl (0, n, .inl f))) (hi : vp_in i n) (k : x_G E P d M (pc + 1) lv (.int (f i.toNatClampNeg) :: st) h oc h') : x_G E P d M pc lv (.int i :: .ref a :: st) h oc h' :=
  ⟨k.1, fun C hx N hR hS hL hQ => va_iald C.ex C.cd C.en.1 (x_hP hR ha) 0 0 rfl rfl hi hd (k.2 C hx N hR hS hL hQ)⟩
end
section
variable {E : State → Code → Prop} {P : x_P} {d : Nat} {M : x_M} {pc : Nat} {lv : List (Option Value)} {st : List Value} {h h' : x_H} {oc : Outcome}
theorem xg_iand {x y : Int32} (hd : decode M.2.1 pc = .ok (.iand, 1)) (k : x_G E P d M (pc + 1) lv (.int (x &&& y) :: st) h oc h') : x_G E P d M pc lv (.int y :: .int x :: st) h oc h' :=
  ⟨k.1, fun C hx N hR hS hL hQ => lv_iand C.ex C.cd hd (k.2 C hx N hR hS hL hQ)⟩
end
section
variable {E : State → Code → Prop} {P : x_P} {d : Nat} {M : x_M} {pc : Nat} {lv : List (Option Value)} {st : List Value} {h h' : x_H} {oc : Outcome}
theorem xg_icmp_eq {x y : Int32} {off : Int} {tgt : Nat} (hd : decode M.2.1 pc = .ok (.if_icmp .eq off, 3)) (ht : (pc : Int) + off = (tgt : Int)) (kt : x = y → x_G E P d M tgt lv st h oc h') (kf : ¬ x = y → x_G E P d M (pc + 3) lv st h oc h') : x_G E P d M pc lv (.int y :: .int x :: st) h oc h' :=
  ⟨by
    by_cases h9 : x = y
    · exact (kt h9).1
    · exact (kf h9).1, fun C hx N hR hS hL hQ => lv_icmp_eq C.ex C.cd hd ht (fun h9 => (kt h9).2 C hx N hR hS hL hQ) (fun h9 => (kf h9).2 C hx N hR hS hL hQ)⟩
end
section
variable {E : State → Code → Prop} {P : x_P} {d : Nat} {M : x_M} {pc : Nat} {lv : List (Option Value)} {st : List Value} {h h' : x_H} {oc : Outcome}
theorem xg_icmp_ge {x y : Int32} {off : Int} {tgt : Nat} (hd : decode M.2.1 pc = .ok (.if_icmp .ge off, 3)) (ht : (pc : Int) + off = (tgt : Int)) (kt : y ≤ x → x_G E P d M tgt lv st h oc h') (kf : ¬ y ≤ x → x_G E P d M (pc + 3) lv st h oc h') : x_G E P d M pc lv (.int y :: .int x :: st) h oc h' :=
  ⟨by
    by_cases h9 : y ≤ x
    · exact (kt h9).1
    · exact (kf h9).1, fun C hx N hR hS hL hQ => lv_icmp_ge C.ex C.cd hd ht (fun h9 => (kt h9).2 C hx N hR hS hL hQ) (fun h9 => (kf h9).2 C hx N hR hS hL hQ)⟩
end
section
variable {E : State → Code → Prop} {P : x_P} {d : Nat} {M : x_M} {pc : Nat} {lv : List (Option Value)} {st : List Value} {h h' : x_H} {oc : Outcome}
theorem xg_icmp_gt {x y : Int32} {off : Int} {tgt : Nat} (hd : decode M.2.1 pc = .ok (.if_icmp .gt off, 3)) (ht : (pc : Int) + off = (tgt : Int)) (kt : y < x → x_G E P d M tgt lv st h oc h') (kf : ¬ y < x → x_G E P d M (pc + 3) lv st h oc h') : x_G E P d M pc lv (.int y :: .int x :: st) h oc h' :=
  ⟨by
    by_cases h9 : y < x
    · exact (kt h9).1
    · exact (kf h9).1, fun C hx N hR hS hL hQ => lv_icmp_gt C.ex C.cd hd ht (fun h9 => (kt h9).2 C hx N hR hS hL hQ) (fun h9 => (kf h9).2 C hx N hR hS hL hQ)⟩
end
section
variable {E : State → Code → Prop} {P : x_P} {d : Nat} {M : x_M} {pc : Nat} {lv : List (Option Value)} {st : List Value} {h h' : x_H} {oc : Outcome}
theorem xg_iconst {n : Int} {v : Int32} (hd : decode M.2.1 pc = .ok (.iconst n, 1)) (hv : Int32.ofInt n = v) (k : x_G E P d M (pc + 1) lv (.int v :: st) h oc h') : x_G E P d M pc lv st h oc h' :=
  ⟨k.1, fun C hx N hR hS hL hQ => lv_iconst C.ex C.cd hd hv (k.2 C hx N hR hS hL hQ)⟩
end
section
variable {E : State → Code → Prop} {P : x_P} {d : Nat} {M : x_M} {pc : Nat} {lv : List (Option Value)} {st : List Value} {h h' : x_H} {oc : Outcome}
theorem xg_if_eq {x : Int32} {off : Int} {tgt : Nat} (hd : decode M.2.1 pc = .ok (.ifCond .eq off, 3)) (ht : (pc : Int) + off = (tgt : Int)) (kt : x = 0 → x_G E P d M tgt lv st h oc h') (kf : ¬ x = 0 → x_G E P d M (pc + 3) lv st h oc h') : x_G E P d M pc lv (.int x :: st) h oc h' :=
  ⟨by
    by_cases h9 : x = 0
    · exact (kt h9).1
    · exact (kf h9).1, fun C hx N hR hS hL hQ => lv_if_eq C.ex C.cd hd ht (fun h9 => (kt h9).2 C hx N hR hS hL hQ) (fun h9 => (kf h9).2 C hx N hR hS hL hQ)⟩
end
section
variable {E : State → Code → Prop} {P : x_P} {d : Nat} {M : x_M} {pc : Nat} {lv : List (Option Value)} {st : List Value} {h h' : x_H} {oc : Outcome}
theorem xg_if_ne {x : Int32} {off : Int} {tgt : Nat} (hd : decode M.2.1 pc = .ok (.ifCond .ne off, 3)) (ht : (pc : Int) + off = (tgt : Int)) (kt : ¬ x = 0 → x_G E P d M tgt lv st h oc h') (kf : x = 0 → x_G E P d M (pc + 3) lv st h oc h') : x_G E P d M pc lv (.int x :: st) h oc h' :=
  ⟨by
    by_cases h9 : x = 0
    · exact (kf h9).1
    · exact (kt h9).1, fun C hx N hR hS hL hQ => lv_if_ne C.ex C.cd hd ht (fun h9 => (kt h9).2 C hx N hR hS hL hQ) (fun h9 => (kf h9).2 C hx N hR hS hL hQ)⟩
end
section
variable {E : State → Code → Prop} {P : x_P} {d : Nat} {M : x_M} {pc : Nat} {lv : List (Option Value)} {st : List Value} {h h' : x_H} {oc : Outcome}
theorem xg_iinc {i : Nat} {n : Int} {x v : Int32} (hd : decode M.2.1 pc = .ok (.iinc i n, 3)) (hl : lv[i]? = some (some (.int x))) (hv : x + Int32.ofInt n = v) (k : x_G E P d M (pc + 3) (lv.set i (some (.int v))) st h oc h') : x_G E P d M pc lv st h oc h' := by
  refine ⟨k.1, fun C hx N hR hS hL hQ => ?_⟩
  obtain ⟨q, hq⟩ := List.getElem?_of_mem (x_as_mem.mpr hl)
  exact lv_iinc C.ex C.cd hd hL.has hq hv (hL.len hl) rfl (fun _ h9 => k.2 C hx N hR hS (hL.set (hL.len hl) rfl h9) hQ)
end
section
variable {E : State → Code → Prop} {P : x_P} {d : Nat} {M : x_M} {pc : Nat} {lv : List (Option Value)} {st : List Value} {h h' : x_H} {oc : Outcome}
theorem xg_iload {i : Nat} {x : Int32} (hd : decode M.2.1 pc = .ok (.iload i, 2)) (hl : lv[i]? = some (some (.int x))) (k : x_G E P d M (pc + 2) lv (.int x :: st) h oc h') : x_G E P d M pc lv st h oc h' :=
  ⟨k.1, fun C hx N hR hS hL hQ => lv_iload C.ex C.cd hd (hL.get hl) (k.2 C hx N hR hS hL hQ)⟩
end
section
variable {E : State → Code → Prop} {P : x_P} {d : Nat} {M : x_M} {pc : Nat} {lv : List (Option Value)} {st : List Value} {h h' : x_H} {oc : Outcome}
theorem xg_iload_n {j : Fin 4} {i : Nat} {x : Int32} (hd : decode M.2.1 pc = .ok (.iload_n j, 1)) (hi : (j : Nat) = i) (hl : lv[i]? = some (some (.int x))) (k : x_G E P d M (pc + 1) lv (.int x :: st) h oc h') : x_G E P d M pc lv st h oc h' :=
  ⟨k.1, fun C hx N hR hS hL hQ => lv_iload_n C.ex C.cd hd hi (hL.get hl) (k.2 C hx N hR hS hL hQ)⟩
end
section
variable {E : State → Code → Prop} {P : x_P} {d : Nat} {M : x_M} {pc : Nat} {lv : List (Option Value)} {st : List Value} {h h' : x_H} {oc : Outcome}
theorem xg_iret {v : Int32} (hd : decode M.2.1 pc = .ok (.ireturn, 1)) (hr : M.2.2.2 = some .int) : x_G E P d M pc lv [.int v] h (.returned (some (.int v))) h :=
  ⟨⟨Nat.le_refl _, Nat.le_refl _⟩, fun C hx N hR hS hL hQ => x_Wm (W.iret C.ex C.cd (C.re.trans hr) (fun t ht hW => hQ t (by rw [ht]; exact hR) ⟨_, by rw [ht]; exact hS⟩ hW) hS.2.2 hd (hlocks := C.lk))⟩
end
section
variable {E : State → Code → Prop} {P : x_P} {d : Nat} {M : x_M} {pc : Nat} {lv : List (Option Value)} {st : List Value} {h h' : x_H} {oc : Outcome}
theorem xg_istore {i : Nat} {x : Int32} {o : Option Value} (hd : decode M.2.1 pc = .ok (.istore i, 2)) (hl : lv[i]? = some o) (k : x_G E P d M (pc + 2) (lv.set i (some (.int x))) st h oc h') : x_G E P d M pc lv (.int x :: st) h oc h' :=
  ⟨k.1, fun C hx N hR hS hL hQ => lv_istore C.ex C.cd hd hL.has (hL.len hl) rfl (fun _ h9 => k.2 C hx N hR hS (hL.set (hL.len hl) rfl h9) hQ)⟩
end
section
variable {E : State → Code → Prop} {P : x_P} {d : Nat} {M : x_M} {pc : Nat} {lv : List (Option Value)} {st : List Value} {h h' : x_H} {oc : Outcome}
theorem xg_isub {x y : Int32} (hd : decode M.2.1 pc = .ok (.isub, 1)) (k : x_G E P d M (pc + 1) lv (.int (x - y) :: st) h oc h') : x_G E P d M pc lv (.int y :: .int x :: st) h oc h' :=
  ⟨k.1, fun C hx N hR hS hL hQ => lv_isub C.ex C.cd hd (k.2 C hx N hR hS hL hQ)⟩
end
section
variable {E : State → Code → Prop} {P : x_P} {d : Nat} {M : x_M} {pc : Nat} {lv : List (Option Value)} {st : List Value} {h h' : x_H} {oc : Outcome}
theorem xg_lald {a n : Nat} {f : Nat → Int64} {i : Int32} (hd : decode M.2.1 pc = .ok (.laload, 1)) (ha : h.1 a = some (.inl (3, n, .inr (.inl f)))) (hi : vp_in i n) (k : x_G E P d M (pc + 1) lv (.long (f i.toNatClampNeg) :: st) h oc h') : x_G E P d M pc lv (.int i :: .ref a :: st) h oc h' :=
  ⟨k.1, fun C hx N hR hS hL hQ => va_lald C.ex C.cd C.en.1 (x_hP hR ha) 0 3 rfl rfl hi hd (k.2 C hx N hR hS hL hQ)⟩
end
section
variable {E : State → Code → Prop} {P : x_P} {d : Nat} {M : x_M} {pc : Nat} {lv : List (Option Value)} {st : List Value} {h h' : x_H} {oc : Outcome}
theorem xg_last {a n : Nat} {f : Nat → Int64} {i : Int32} {x : Int64} (hd : decode M.2.1 pc = .ok (.lastore, 1)) (ha : h.1 a = some (.inl (3, n, .inr (.inl f)))) (hi : vp_in i n) (k : x_G E P d M (pc + 1) lv st (x_put h a (.inl (3, n, .inr (.inl (vp_updL f i.toNatClampNeg x))))) oc h') : x_G E P d M pc lv (.long x :: .int i :: .ref a :: st) h oc h' := by
  refine ⟨k.1, fun C hx N hR hS hL hQ => ?_⟩
  have hat : _ = some (vp_cell (P.2.2.1 3) (n, .inr (.inl f))) := (hR.2.2 _ _ ha).2
  refine W.last C.ex C.cd hat ((C.en.1.2 3 _ rfl).1 n (fun j => .long (f j))) (fun q => by cases q) (by show ¬ (i < 0 ∨ (arrV _ _ _).slots.size ≤ _); rw [arrV_size]; exact hi) rfl rfl hd fun H1 e z oq => ?_
  refine k.2 C hx N (hR.put ha ?_ z oq) (hS.put z oq (hR.2.2 _ _ ha).1) hL hQ
  show H1[a]? = some (vp_cell _ _)
  rw [e, vp_cell_l, vp_cell_l, arrV_store]
  congr 2
  funext q
  by_cases hq : q = i.toNatClampNeg
  · subst hq
    simp [updV, vp_updL]
    try rfl
  · simp [updV, vp_updL, hq]
end
section
variable {E : State → Code → Prop} {P : x_P} {d : Nat} {M : x_M} {pc : Nat} {lv : List (Option Value)} {st : List Value} {h h' : x_H} {oc : Outcome}
theorem xg_lcmp {x y : Int64} (hd : decode M.2.1 pc = .ok (.lcmp, 1)) (k : x_G E P d M (pc + 1) lv (.int (lg_cmp x y) :: st) h oc h') : x_G E P d M pc lv (.long y :: .long x :: st) h oc h' :=
  ⟨k.1, fun C hx N hR hS hL hQ => W.lcmp C.ex C.cd hd (k.2 C hx N hR hS hL hQ)⟩
end
section
variable {E : State → Code → Prop} {P : x_P} {d : Nat} {M : x_M} {pc : Nat} {lv : List (Option Value)} {st : List Value} {h h' : x_H} {oc : Outcome}
theorem xg_lconst {n : Fin 2} {v : Int64} (hd : decode M.2.1 pc = .ok (.lconst n, 1)) (hv : Int64.ofNat (n : Nat) = v) (k : x_G E P d M (pc + 1) lv (.long v :: st) h oc h') : x_G E P d M pc lv st h oc h' :=
  ⟨k.1, fun C hx N hR hS hL hQ => lv_lconst C.ex C.cd hd hv (k.2 C hx N hR hS hL hQ)⟩
end
section
variable {E : State → Code → Prop} {P : x_P} {d : Nat} {M : x_M} {pc : Nat} {lv : List (Option Value)} {st : List Value} {h h' : x_H} {oc : Outcome}
theorem xg_new {ci index n : Nat} {Cn : String} {T : u_T} {fs : List Value} (hd : decode M.2.1 pc = .ok (.new index, 3)) (hok : x_ok Cn T n) (hc : xcl[ci]? = some (Cn, T, n)) (hw : Cond.classLink M.1.cls index Cn ∈ xWS) (hin : Cond.instantiable Cn n ∈ xWS) (hini : Cond.initialized Cn ∈ xWS) (hfs : ∃ ty : Nat → FieldType, (∀ j, j < n → parseFieldDescriptor (T j).2.2.1 = some (ty j)) ∧ ∀ j, j < n → defaultValue (ty j) = vp_V fs j) (k : x_G E P d M (pc + 3) lv (.ref h.2.1 :: st) (x_new h (.inr (ci, fs)) n) oc h') : x_G E P d M pc lv st h oc h' := by
  refine ⟨⟨Nat.le_trans (Nat.le_succ _) k.1.1, Nat.le_trans (Nat.le_add_right _ _) k.1.2⟩, fun C hx N hR hS hL hQ => ?_⟩
  obtain ⟨N', c1, c2, c3, c4⟩ := x_Nnew N k.1
  obtain ⟨ty, hty, hfs⟩ := hfs
  have hKn := C.en.1.1 ci _ hc
  refine W.newcK C.ex C.cd C.ow (C.ts _ hw) (C.ts _ hin) (C.ts _ hini) rfl hd c1 c2 hKn.2.1 hR.1 fun H1 kC hkC e1 z1 o1 => ?_
  refine W.cs c3 c4 (k.2 C hx N' (hR.new ⟨_, hc, (u_born ty C.ts hok.1 hKn hkC e1 hty).to hfs⟩ z1 o1) ⟨Nat.le_trans hS.1 (by rw [hR.1, z1]; exact Nat.le_succ _), fun q h1 h2 => (o1 q (by rw [← hR.1]; exact Nat.lt_of_lt_of_le h1 hS.1)).trans (hS.2.1 q h1 h2), hS.2.2⟩ hL hQ)
end
section
variable {E : State → Code → Prop} {P : x_P} {d : Nat} {M : x_M} {pc : Nat} {lv : List (Option Value)} {st : List Value} {h h' : x_H} {oc : Outcome}
theorem xg_newa {atype : ArrayType} {ty : FieldType} {t : Nat} {n : Int32} {nn : Nat} {a0 : vp_A} (hd : decode M.2.1 pc = .ok (.newarray atype, 2)) (hw : Cond.arrayClass (newarray.typeOf atype) ∈ xWS) (hty : newarray.typeOf atype = ty) (ht : (x_tys P.2.2.1)[t]? = some (P.2.2.1 t, ty)) (hra : ∀ (U : State) (cA : ClassId), va_RA U cA ty → U.vm.findClass ("[" ++ ty.toString) = some cA) (h0 : ∀ cA : ClassId, vp_cell cA a0 = arrV cA nn (fun _ => defaultValue ty)) (hn : ¬ n < 0) (hN : n.toNatClampNeg = nn) (hby : nn * componentBytes ty ≤ 536870912) (k : x_G E P d M (pc + 2) lv (.ref h.2.1 :: st) (x_new h (.inl (t, a0)) nn) oc h') : x_G E P d M pc lv (.int n :: st) h oc h' := by
  refine ⟨⟨Nat.le_trans (Nat.le_succ _) k.1.1, Nat.le_trans (Nat.le_add_right _ _) k.1.2⟩, fun C hx N hR hS hL hQ => ?_⟩
  obtain ⟨N', c1, c2, c3, c4⟩ := x_Nnew N k.1
  subst hty
  refine va_newaK C.ex C.cd (C.ts _ hw) rfl hd rfl hn hN hby c1 c2 hR.1 fun H1 cA e1 z1 o1 hAr hNm => ?_
  have hcA : cA = P.2.2.1 t := Option.some.inj (hNm.symm.trans (hra _ _ (C.en.1.2 t _ ht).2))
  subst hcA
  refine W.cs c3 c4 (k.2 C hx N' (hR.new ?_ z1 o1) ⟨Nat.le_trans hS.1 (by rw [hR.1, z1]; exact Nat.le_succ _), fun q h1 h2 => (o1 q (by rw [← hR.1]; exact Nat.lt_of_lt_of_le h1 hS.1)).trans (hS.2.1 q h1 h2), hS.2.2⟩ hL hQ)
  show H1[h.2.1]? = some (vp_cell _ _)
  rw [h0]
  exact e1
end
section
variable {E : State → Code → Prop} {P : x_P} {d : Nat} {M : x_M} {pc : Nat} {lv : List (Option Value)} {st : List Value} {h h' : x_H} {oc : Outcome}
theorem xg_sald {i : Int32} (hd : decode M.2.1 pc = .ok (.iaload, 1)) (hi : vp_in i P.2.2.2.2.2.1) (k : x_G E P d M (pc + 1) lv (.int (P.2.2.2.2.2.2.1 i.toNatClampNeg) :: st) h oc h') : x_G E P d M pc lv (.int i :: .ref P.2.2.2.2.1 :: st) h oc h' :=
  ⟨k.1, fun C hx N hR hS hL hQ => va_sld C.ex C.cd C.en.2.2.1 (Nat.lt_of_lt_of_le C.en.2.2.2.1 C.hb) (Nat.not_le.mpr C.en.2.2.2.1) hS hi hd (k.2 C hx N hR hS hL hQ)⟩
end
section
variable {E : State → Code → Prop} {P : x_P} {d : Nat} {M : x_M} {pc : Nat} {lv : List (Option Value)} {st : List Value} {h h' : x_H} {oc : Outcome}
theorem xg_slen (hd : decode M.2.1 pc = .ok (.arraylength, 1)) (k : x_G E P d M (pc + 1) lv (.int (Int32.ofNat P.2.2.2.2.2.1) :: st) h oc h') : x_G E P d M pc lv (.ref P.2.2.2.2.1 :: st) h oc h' :=
  ⟨k.1, fun C hx N hR hS hL hQ => va_slen C.ex C.cd C.en.2.2.1 (Nat.lt_of_lt_of_le C.en.2.2.2.1 C.hb) (Nat.not_le.mpr C.en.2.2.2.1) hS hd (k.2 C hx N hR hS hL hQ)⟩
end
section
variable {E : State → Code → Prop} {P : x_P} {d : Nat} {M : x_M} {pc : Nat} {lv : List (Option Value)} {st : List Value} {h h' : x_H} {oc : Outcome}
theorem xg_tableIn {dflt lo hi : Int} {offs : Array Int} {len : Nat} {x : Int32} {off : Int} {tgt : Nat} (hd : decode M.2.1 pc = .ok (.tableswitch dflt lo hi offs, len)) (h1 : ¬ x.toInt < lo) (h2 : ¬ hi < x.toInt) (ho : offs[(x.toInt - lo).toNat]? = some off) (ht : (pc : Int) + off = (tgt : Int)) (k : x_G E P d M tgt lv st h oc h') : x_G E P d M pc lv (.int x :: st) h oc h' :=
  ⟨k.1, fun C hx N hR hS hL hQ => lv_tableIn C.ex C.cd hd h1 h2 ho ht (k.2 C hx N hR hS hL hQ)⟩
end
section
variable {E : State → Code → Prop} {P : x_P} {d : Nat} {M : x_M} {pc : Nat} {lv : List (Option Value)} {st : List Value} {h h' : x_H} {oc : Outcome}
theorem xg_tableOut {dflt lo hi : Int} {offs : Array Int} {len : Nat} {x : Int32} {tgt : Nat} (hd : decode M.2.1 pc = .ok (.tableswitch dflt lo hi offs, len)) (h1 : x.toInt < lo ∨ hi < x.toInt) (ht : (pc : Int) + dflt = (tgt : Int)) (k : x_G E P d M tgt lv st h oc h') : x_G E P d M pc lv (.int x :: st) h oc h' :=
  ⟨k.1, fun C hx N hR hS hL hQ => lv_tableOut C.ex C.cd hd h1 ht (k.2 C hx N hR hS hL hQ)⟩
end
section
variable {E : State → Code → Prop} {P : x_P} {d : Nat} {M : x_M} {pc : Nat} {lv : List (Option Value)} {st : List Value} {h h' : x_H} {oc : Outcome}
theorem xg_zret {v : Int32} {ty : FieldType} (hd : decode M.2.1 pc = .ok (.ireturn, 1)) (hr : M.2.2.2 = some ty) (hn : narrow ty (.int v) = .int v) : x_G E P d M pc lv [.int v] h (.returned (some (.int v))) h :=
  ⟨⟨Nat.le_refl _, Nat.le_refl _⟩, fun C hx N hR hS hL hQ => x_Wm (W.zret C.ex C.cd (C.re.trans hr) hn (fun t ht hW => hQ t (by rw [ht]; exact hR) ⟨_, by rw [ht]; exact hS⟩ hW) hS.2.2 hd (hlocks := C.lk))⟩
end
