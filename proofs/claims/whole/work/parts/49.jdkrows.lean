/-! rows that ArrayList and Arrays need -/
section
variable {P : x_P} {d : Nat} {M : x_M} {pc : Nat} {lv : List (Option Value)} {st : List Value} {h h' : x_H} {oc : Outcome}
/-- a field under the name by which javac spells it -/
theorem xj_getS {a ci j index n : Nat} {Cn ref : String} {T : u_T} {fs : List Value} {v : Value} (hd : decode M.2.1 pc = .ok (.getfield index, 3)) (hok : x_ok Cn T n) (hc : xcl[ci]? = some (Cn, T, n)) (hj : j < n) (hw : Cond.fieldLink M.1.cls index ref (T j).2.1 (T j).2.2.1 ∈ xWS) (hs : Cond.sameField ref (T j).1 (T j).2.1 (T j).2.2.1 ∈ xWS) (ha : h.1 a = some (.inr (ci, fs))) (hv : fs[j]? = some v) (k : x_J P d M (pc + 3) lv (v :: st) h oc h') : x_J P d M pc lv (.ref a :: st) h oc h' :=
  ⟨k.1, fun C N hR hS hL hQ => va_get C.ex C.cd C.ts hok.1 C.ow C.en.1 (x_hPo hR ha) 0 rfl hc j hj (C.ts _ hw) (fun x9 h9 => u_same (C.ts _ hs) x9 h9) hv hd (k.2 C N hR hS hL hQ)⟩
theorem xj_putS {a ci j index n : Nat} {Cn ref : String} {T : u_T} {fs : List Value} {v : Value} {ty : FieldType} (hd : decode M.2.1 pc = .ok (.putfield index, 3)) (hok : x_ok Cn T n) (hc : xcl[ci]? = some (Cn, T, n)) (hj : j < n) (hw : Cond.fieldLink M.1.cls index ref (T j).2.1 (T j).2.2.1 ∈ xWS) (hs : Cond.sameField ref (T j).1 (T j).2.1 (T j).2.2.1 ∈ xWS) (hf : (T j).2.2.2 = false) (ha : h.1 a = some (.inr (ci, fs))) (hl : j < fs.length) (hp : parseFieldDescriptor (T j).2.2.1 = some ty) (hn : narrow ty v = v) (hfit : fits ty v = true) (k : x_J P d M (pc + 3) lv st (x_put h a (.inr (ci, fs.set j v))) oc h') : x_J P d M pc lv (v :: .ref a :: st) h oc h' := by
  refine ⟨k.1, fun C N hR hS hL hQ => ?_⟩
  have hat := (hR.2.2 _ _ ha).2
  obtain ⟨ty0, hty⟩ := hok.2.1
  have hap := va_apart (own := M.1.cls) C.ts hok.1 ty0 hty hok.2.2 C.en.1 hc
  obtain ⟨r, h1, cell, q1, q2, q3, q4⟩ := hat
  have hr : r = (Cn, T, n) := Option.some.inj (h1.symm.trans hc)
  subst hr
  obtain ⟨hS9, hfc, kC, hkC, hkind⟩ := C.en.1.1 ci _ hc
  obtain ⟨cf, kf, fi, f, hi, hsl⟩ := hS9 j hj
  have hlay := C.ts _ (hok.1 _ (u_in_lay hj))
  unfold u_lay at hlay
  rw [if_neg (by rw [hf]; decide)] at hlay
  have hst := (u_facts hfc hkC (u_lays C.ts hok.1 hj) hi).1
  have h6 := u_store hfc hkC hkind hlay hi hp hn hfit
  refine W.putK C.ex C.cd (f := f) ⟨C.ow, C.ts _ hw, ⟨_, _, _, u_same (C.ts _ hs) _ hi⟩, hst⟩ (by rw [q2]; exact h6) q1 q3 (by rw [hsl]; exact k2_hasslot (q4 j hj)) rfl rfl hd fun H' e1 e2 e3 => ?_
  rw [hsl] at e1 ⊢
  exact k.2 C N (hR.put ha ⟨_, hc, t_OB.to (V := updV (vp_V fs) j v) ⟨_, e1, q2, q3, t_set q4 hap hj v⟩ (fun q _ => vp_updV_set hl v q)⟩ e2 e3) (hS.put e2 e3 (hR.2.2 _ _ ha).1) hL hQ
/-- ArrayList's empty array -/
theorem xj_getsE {index : Nat} (hd : decode M.2.1 pc = .ok (.getstatic index, 3)) (hw : Cond.fieldLink M.1.cls index "java/util/ArrayList" "DEFAULTCAPACITY_EMPTY_ELEMENTDATA" "[Ljava/lang/Object;" ∈ xWS) (k : x_J P d M (pc + 3) lv (.ref P.2.2.2.2.2.2.2.1 :: st) h oc h') : x_J P d M pc lv st h oc h' :=
  ⟨k.1, fun C N hR hS hL hQ => va_gets C.ex C.cd C.en.2.2.2.2.1 hS C.ow (C.ts _ hw) (fun _ h9 => h9) hd (k.2 C N hR hS hL hQ)⟩
theorem xj_lenE (hd : decode M.2.1 pc = .ok (.arraylength, 1)) (k : x_J P d M (pc + 1) lv (.int 0 :: st) h oc h') : x_J P d M pc lv (.ref P.2.2.2.2.2.2.2.1 :: st) h oc h' :=
  ⟨k.1, fun C N hR hS hL hQ => va_tlen C.ex C.cd C.en.2.2.2.2.2.1 hS rfl hd (k.2 C N hR hS hL hQ)⟩
theorem xj_acmp_eq {rx ry : Option Nat} {off : Int} {tgt : Nat} (hd : decode M.2.1 pc = .ok (.if_acmp .eq off, 3)) (ht : (pc : Int) + off = (tgt : Int)) (kt : rx = ry → x_J P d M tgt lv st h oc h') (kf : ¬ rx = ry → x_J P d M (pc + 3) lv st h oc h') : x_J P d M pc lv (va_rf ry :: va_rf rx :: st) h oc h' :=
  ⟨by
    by_cases h9 : rx = ry
    · exact (kt h9).1
    · exact (kf h9).1, fun C N hR hS hL hQ => lv_acmp_eq C.ex C.cd hd ht (fun h9 => (kt h9).2 C N hR hS hL hQ) (fun h9 => (kf h9).2 C N hR hS hL hQ)⟩
theorem xj_acmp_ne {rx ry : Option Nat} {off : Int} {tgt : Nat} (hd : decode M.2.1 pc = .ok (.if_acmp .ne off, 3)) (ht : (pc : Int) + off = (tgt : Int)) (kt : ¬ rx = ry → x_J P d M tgt lv st h oc h') (kf : rx = ry → x_J P d M (pc + 3) lv st h oc h') : x_J P d M pc lv (va_rf ry :: va_rf rx :: st) h oc h' :=
  ⟨by
    by_cases h9 : rx = ry
    · exact (kf h9).1
    · exact (kt h9).1, fun C N hR hS hL hQ => lv_acmp_ne C.ex C.cd hd ht (fun h9 => (kt h9).2 C N hR hS hL hQ) (fun h9 => (kf h9).2 C N hR hS hL hQ)⟩
/-- an object that may lie in an Object[] -/
def x_ob (h : x_H) (y : Nat) : Prop := ∃ (ci : Nat) (fs : List Value) (q : vw_C), h.1 y = some (.inr (ci, fs)) ∧ xcl[ci]? = some q ∧ Cond.castable q.1 "java/lang/Object" ∈ xNW
theorem x_obAny {p : Program} {R : Room} {s : State} {m : MethodId} {args : Array Value} {meth : Method} {c : Code} {H : Heap} {y : Nat} (C : x_C P d M p R s m args meth c) (hR : x_R P h H) (hy : x_ob h y) : va_Any "java/lang/Object" s H y := by
  obtain ⟨ci, fs, q, h1, h2, h3⟩ := hy
  obtain ⟨cell, g1, g2, g3⟩ := x_recv C.en.1 hR h1 h2
  obtain ⟨c0, t0, f1, f2, f3⟩ := Cond.castable_spec (va_Nw.use (A := args) rfl (C.en.2.1 _ h3))
  cases g3.symm.trans f1
  obtain ⟨kC, hkC, -⟩ := Vm.findClass_spec g3
  exact ⟨cell, g1, g2, ⟨kC, hkC⟩, fun comp hcomp => by cases hcomp.symm.trans f2; exact f3⟩
theorem xj_aastO {a n v : Nat} {f : Nat → Option Nat} {i : Int32} (hd : decode M.2.1 pc = .ok (.aastore, 1)) (ha : h.1 a = some (.inl (6, n, .inr (.inr (.inr (.inr f)))))) (hv : x_ob h v) (hi : vp_in i n) (k : x_J P d M (pc + 1) lv st (x_put h a (.inl (6, n, .inr (.inr (.inr (.inr (va_up f i.toNatClampNeg (some v)))))))) oc h') : x_J P d M pc lv (.ref v :: .int i :: .ref a :: st) h oc h' := by
  refine ⟨k.1, fun C N hR hS hL hQ => ?_⟩
  have hat : _ = some (vp_cell (P.2.2.1 6) (n, .inr (.inr (.inr (.inr f))))) := (hR.2.2 _ _ ha).2
  have hlt : i.toNatClampNeg < n := Nat.not_le.mp fun q => hi (Or.inr q)
  obtain ⟨cellV, g1, g3, ⟨kC, hkC⟩, hasg⟩ := x_obAny C hR hv
  obtain ⟨kA, comp, k1, k2, k3, -⟩ := (C.en.1.2 6 _ rfl).2
  obtain ⟨kE, hkE, -⟩ := Vm.findClass_spec k3
  refine W.aast C.ex C.cd hat (fun q h => by cases h) (fun h => by cases h) k1 k2 rfl hkE ⟨fun q => hi (Or.inl q), by show _ < (arrV _ _ _).slots.size; rw [arrV_size]; exact hlt⟩ g1 (fun q h => by rw [h] at g3; cases g3) hkC (hasg _ k3) rfl rfl hd fun H1 e z oq => ?_
  refine k.2 C N (hR.put ha ?_ z oq) (hS.put z oq (hR.2.2 _ _ ha).1) hL hQ
  show H1[a]? = some (vp_cell _ _)
  rw [e, vp_cell_q, vp_cell_q, arrV_store]
  congr 2
  funext q
  by_cases hq : q = i.toNatClampNeg
  · subst hq
    simp [updV, va_up, va_rf]
  · simp [updV, va_up, hq]
theorem x_nmO {p : Program} {R : Room} {s : State} {m : MethodId} {args : Array Value} {meth : Method} {c : Code} (C : x_C P d M p R s m args meth c) : s.vm.findClass "[Ljava/lang/Object;" = some (P.2.2.1 6) := va_nmO (C.en.1.2 6 _ rfl).2 (by decide)
theorem xj_getClass {a n index : Nat} {f : Nat → Option Nat} (hd : decode M.2.1 pc = .ok (.invokevirtual index, 3)) (h1 : Cond.methodLink M.1.cls index ⟨"java/lang/Object", "getClass", "()Ljava/lang/Class;"⟩ ∈ xWS) (h2 : Cond.declares ⟨"java/lang/Object", "getClass", "()Ljava/lang/Class;"⟩ ∈ xNW) (h3 : Cond.selects "[Ljava/lang/Object;" ⟨"java/lang/Object", "getClass", "()Ljava/lang/Class;"⟩ ⟨"java/lang/Object", "getClass", "()Ljava/lang/Class;"⟩ ∈ xWS) (h4 : Cond.instanceMethod ⟨"java/lang/Object", "getClass", "()Ljava/lang/Class;"⟩ ∈ xWS) (h5 : Cond.native ⟨"java/lang/Object", "getClass", "()Ljava/lang/Class;"⟩ ∈ xWS) (ha : h.1 a = some (.inl (6, n, .inr (.inr (.inr (.inr f)))))) (hst : (st.map fun u => u.category).sum ≤ 8) (k : x_J P (d + 1) M (pc + 3) lv (.ref P.2.2.2.2.2.2.2.2 :: st) h oc h') : x_J P (d + 1) M pc lv (.ref a :: st) h oc h' :=
  ⟨k.1, fun C N hR hS hL hQ => va_getC C.ex C.cd (C.ml.trans hL.1.symm) C.ow (C.ts _ h1) (va_Nw.use rfl (C.en.2.1 _ h2)) (C.ts _ h3) (C.ts _ h4) (C.ts _ h5) C.en.2.2.2.2.2.2.1 ⟨_, (hR.2.2 _ _ ha).2, rfl, x_nmO C⟩ (by have := C.fr; omega) (by have := C.lo; omega) hd (k.2 C N hR hS hL hQ)⟩
theorem xj_ldcM {index : Nat} (hd : decode M.2.1 pc = .ok (.ldc index, 2)) (hw : Cond.classLink M.1.cls index "[Ljava/lang/Object;" ∈ xWS) (k : x_J P d M (pc + 2) lv (.ref P.2.2.2.2.2.2.2.2 :: st) h oc h') : x_J P d M pc lv st h oc h' :=
  ⟨k.1, fun C N hR hS hL hQ => va_ldcM C.ex C.cd C.ow (C.ts _ hw) C.en.2.2.2.2.2.2.1 hd (k.2 C N hR hS hL hQ)⟩
theorem xj_castA {a n index : Nat} {f : Nat → Option Nat} (hd : decode M.2.1 pc = .ok (.checkcast index, 3)) (hw : Cond.classLink M.1.cls index "[Ljava/lang/Object;" ∈ xWS) (ha : h.1 a = some (.inl (6, n, .inr (.inr (.inr (.inr f)))))) (k : x_J P d M (pc + 3) lv (.ref a :: st) h oc h') : x_J P d M pc lv (.ref a :: st) h oc h' :=
  ⟨k.1, fun C N hR hS hL hQ => va_castA C.ex C.cd C.ow (C.ts _ hw) (x_hP hR ha) 0 rfl (x_nmO C) hd (k.2 C N hR hS hL hQ)⟩
/-- System.arraycopy from the beginning of one Object[] to that of another one -/
theorem xj_acopy {a0 a n0 n1 index : Nat} {f g : Nat → Option Nat} {n : Int32} (hd : decode M.2.1 pc = .ok (.invokestatic index, 3)) (h1 : Cond.methodLink M.1.cls index arraycopyName ∈ xWS) (h2 : Cond.native arraycopyName ∈ xWS) (h3 : Cond.static arraycopyName ∈ xWS) (h4 : Cond.initialized "java/lang/System" ∈ xWS) (ha0 : h.1 a0 = some (.inl (6, n0, .inr (.inr (.inr (.inr f)))))) (ha : h.1 a = some (.inl (6, n1, .inr (.inr (.inr (.inr g)))))) (hn : ¬ n < 0) (hn0 : n.toNatClampNeg ≤ n0) (hn1 : n.toNatClampNeg ≤ n1) (hel : ∀ i, i < n.toNatClampNeg → ∀ y, f i = some y → x_ob h y) (hst : (st.map fun u => u.category).sum ≤ 8) (k : x_J P (d + 1) M (pc + 3) lv st (x_put h a (.inl (6, n1, .inr (.inr (.inr (.inr (va_cpy f g 0 0 n.toNatClampNeg))))))) oc h') : x_J P (d + 1) M pc lv (.int n :: .int 0 :: .ref a :: .int 0 :: .ref a0 :: st) h oc h' := by
  refine ⟨k.1, fun {p e R s m args below meth c m0 s0 H locs ls Qc} C N hR hS hL hQ => ?_⟩
  have z0 : (0 : Int32).toNatClampNeg = 0 := by decide
  have nn : n.toInt = (n.toNatClampNeg : Int) := by
    have h9 : (0 : Int) ≤ n.toInt := by simpa using Int32.le_iff_toInt_le.mp (Int32.not_lt.mp hn)
    show n.toInt = ((n.toInt.toNat : Nat) : Int)
    omega
  have c0 : H[a0]? = some (vp_cell (P.2.2.1 6) (n0, .inr (.inr (.inr (.inr f))))) := (hR.2.2 _ _ ha0).2
  have c1 : H[a]? = some (vp_cell (P.2.2.1 6) (n1, .inr (.inr (.inr (.inr g))))) := (hR.2.2 _ _ ha).2
  obtain ⟨-, k0, hk0, cm0, hkk0⟩ := (C.en.1.2 6 _ rfl).1 n0 (fun j => va_rf (f j))
  have hel' : ∀ i, i < n.toNatClampNeg → ∀ y, f i = some y → va_Any "java/lang/Object" s H y := fun i hi y hy => x_obAny C hR (hel i hi y hy)
  have hfr := C.fr
  have hlo := C.lo
  intro T hT X
  obtain ⟨vm', X', step⟩ := X.arraycopy C.ex C.ow (C.ts _ h1) (C.ts _ h2) (C.ts _ h3) (C.ts _ h4) (src := a0) (dst := a) (cs := vp_cell (P.2.2.1 6) (n0, .inr (.inr (.inr (.inr f))))) (cd := vp_cell (P.2.2.1 6) (n1, .inr (.inr (.inr (.inr g))))) (srcPos := 0) (destPos := 0) (n := n) (by rw [hT]; exact c0) (by rw [hT]; exact c1)
    (fun _ h => by cases h) (fun _ h => by cases h) (fun h => by cases h) (fun h => by cases h) hk0 hk0 hkk0 hkk0 rfl (by decide) (by decide) hn
    (by rw [nn]; show ¬ _ > ((arrV (P.2.2.1 6) n0 (fun j => va_rf (f j))).slots.size : Int); rw [arrV_size, show (0 : Int32).toInt = 0 by decide]; omega)
    (by rw [nn]; show ¬ _ > ((arrV (P.2.2.1 6) n1 (fun j => va_rf (g j))).slots.size : Int); rw [arrV_size, show (0 : Int32).toInt = 0 by decide]; omega)
    (fun vm₁ hal i hi => by
      have e1 : (vp_cell (P.2.2.1 6) (n0, .inr (.inr (.inr (.inr f))))).slots.getD ((0 : Int32).toNatClampNeg + i) .null = va_rf (f i) := by
        show (arrV (P.2.2.1 6) n0 (fun j => va_rf (f j))).slots.getD _ _ = _
        rw [z0, Nat.zero_add, Array.getD_eq_getD_getElem?, arrV_read _ _ (by omega)]
        rfl
      rw [e1]
      cases hy : f i with
      | none => exact ⟨rfl, trivial⟩
      | some y =>
        obtain ⟨cellV, g1, g2, ⟨kC, hkC⟩, hasg⟩ := hel' i hi y hy
        obtain ⟨kA, comp, r1, r2, r3, -⟩ := (C.en.1.2 6 _ rfl).2
        cases hk0.symm.trans r1
        cases hkk0.symm.trans r2
        obtain ⟨kE, hkE, -⟩ := Vm.findClass_spec r3
        obtain ⟨kC', hkC', -⟩ := hal.2.2 _ _ hkC
        obtain ⟨kE', hkE', -⟩ := hal.2.2 _ _ hkE
        refine ⟨rfl, cellV, (show T.heap[y]? = some cellV by rw [hT]; exact g1), (fun q h => by rw [h] at g2; cases g2), ⟨kC', hkC'⟩, ⟨kE', hkE'⟩, ?_⟩
        show vm₁.assignable _ _ = true
        rw [hal.assignable]
        exact hasg _ r3)
    (g := F0 m pc ls (.int n :: .int 0 :: .ref a :: .int 0 :: .ref a0 :: st)) rfl (by rw [C.ml, hL.1]) (rest := st) rfl (by rw [C.cd]; exact hd) (by omega) (by show 2 * 0 + _ + _ ≤ _; have hw : nativeFrameWords "java/lang/System" "arraycopy" 5 = 7 := (by decide); omega)
  have e1 : copied (vp_cell (P.2.2.1 6) (n0, .inr (.inr (.inr (.inr f))))) (vp_cell (P.2.2.1 6) (n1, .inr (.inr (.inr (.inr g))))) 0 0 n = vp_cell (P.2.2.1 6) (n1, .inr (.inr (.inr (.inr (va_cpy f g 0 0 n.toNatClampNeg))))) := by
    have e2 := va_copied (n0 := n0) (n1 := n1) (sp := 0) (dp := 0) (n := n.toNatClampNeg) (fun z => va_rf z) (P.2.2.1 6) (P.2.2.1 6) f g (by omega)
    rw [vp_cell_q, vp_cell_q, vp_cell_q, ← e2]
    unfold copied
    rw [z0]
  rw [e1] at X' step
  have hlt : a < H.size := (Array.getElem?_eq_some_iff.mp c1).1
  have hh : ((T.setVm vm').setCell a (vp_cell (P.2.2.1 6) (n1, .inr (.inr (.inr (.inr (va_cpy f g 0 0 n.toNatClampNeg))))))).heap = H.setIfInBounds a (vp_cell (P.2.2.1 6) (n1, .inr (.inr (.inr (.inr (va_cpy f g 0 0 n.toNatClampNeg)))))) := by rw [← hT]; rfl
  have oq : ∀ q : Nat, q ≠ a → (H.setIfInBounds a (vp_cell (P.2.2.1 6) (n1, .inr (.inr (.inr (.inr (va_cpy f g 0 0 n.toNatClampNeg)))))))[q]? = H[q]? := fun q hq => by simp [Array.getElem?_setIfInBounds, Ne.symm hq]
  have hA : x_A P a := (hR.2.2 _ _ ha).1
  obtain ⟨t, a1, b1⟩ := k.2 (e := e) (below := below) (Qc := Qc) C N (hR.put ha (show x_at P a _ (H.setIfInBounds a (vp_cell (P.2.2.1 6) (n1, .inr (.inr (.inr (.inr (va_cpy f g 0 0 n.toNatClampNeg))))))) by show (H.setIfInBounds a _)[a]? = some _; simp [Array.getElem?_setIfInBounds, hlt]) (by simp) oq)
    ⟨by simp; exact hS.1, fun q g1 g2 => by rw [oq q (fun z => g2 (by rw [z]; exact hA))]; exact hS.2.1 q g1 g2, fun q hq => by
      rcases List.mem_append.mp hq with h9 | h9
      · exact hS.2.2 q h9
      · obtain ⟨z, -, hz⟩ := List.mem_map.mp h9
        rw [← hz]
        exact hA⟩ hL hQ _ hh X'
  exact ⟨t, step t a1, b1⟩
end

set_option maxRecDepth 100000 in
theorem xm_50 : (Jvm.Cond.instanceMethod ({ cls := "java/util/AbstractList", name := "<init>", desc := "()V" } : Jvm.MethodName)) ∈ xWS := List.mem_filter.mpr ⟨List.mem_append_right _ (List.mem_of_getElem? (i := 50) (by decide +kernel)), rfl⟩
set_option maxRecDepth 100000 in
theorem xm_51 : (Jvm.Cond.code ({ cls := "java/util/AbstractList", name := "<init>", desc := "()V" } : Jvm.MethodName) prog_23_method_1_code (1 : Nat) (Option.none : Option Jvm.ClassFile.FieldType)) ∈ xWS := List.mem_filter.mpr ⟨List.mem_append_right _ (List.mem_of_getElem? (i := 51) rfl), rfl⟩
set_option maxRecDepth 100000 in
theorem xm_4 : (Jvm.Cond.initialized "java/util/AbstractList") ∈ xWS := List.mem_filter.mpr ⟨List.mem_append_right _ (List.mem_of_getElem? (i := 4) (by decide +kernel)), rfl⟩
set_option maxRecDepth 100000 in
theorem xm_53 : (Jvm.Cond.instanceMethod ({ cls := "java/util/AbstractCollection", name := "<init>", desc := "()V" } : Jvm.MethodName)) ∈ xWS := List.mem_filter.mpr ⟨List.mem_append_right _ (List.mem_of_getElem? (i := 53) (by decide +kernel)), rfl⟩
set_option maxRecDepth 100000 in
theorem xm_54 : (Jvm.Cond.code ({ cls := "java/util/AbstractCollection", name := "<init>", desc := "()V" } : Jvm.MethodName) prog_22_method_1_code (1 : Nat) (Option.none : Option Jvm.ClassFile.FieldType)) ∈ xWS := List.mem_filter.mpr ⟨List.mem_append_right _ (List.mem_of_getElem? (i := 54) rfl), rfl⟩
set_option maxRecDepth 100000 in
theorem xm_3 : (Jvm.Cond.initialized "java/util/AbstractCollection") ∈ xWS := List.mem_filter.mpr ⟨List.mem_append_right _ (List.mem_of_getElem? (i := 3) (by decide +kernel)), rfl⟩
set_option maxRecDepth 100000 in
theorem xm_56 : (Jvm.Cond.fieldLink "java/util/ArrayList" (39 : Nat) "java/util/ArrayList" "DEFAULTCAPACITY_EMPTY_ELEMENTDATA" "[Ljava/lang/Object;") ∈ xWS := List.mem_filter.mpr ⟨List.mem_append_right _ (List.mem_of_getElem? (i := 56) (by decide +kernel)), rfl⟩
set_option maxRecDepth 100000 in
theorem xm_60 : (Jvm.Cond.fieldLink "java/util/AbstractList" (7 : Nat) "java/util/AbstractList" "modCount" "I") ∈ xWS := List.mem_filter.mpr ⟨List.mem_append_right _ (List.mem_of_getElem? (i := 60) (by decide +kernel)), rfl⟩
set_option maxRecDepth 100000 in
theorem xm_61 : (Jvm.Cond.fieldLink "java/util/ArrayList" (63 : Nat) "java/util/ArrayList" "modCount" "I") ∈ xWS := List.mem_filter.mpr ⟨List.mem_append_right _ (List.mem_of_getElem? (i := 61) (by decide +kernel)), rfl⟩
set_option maxRecDepth 100000 in
theorem xm_62 : (Jvm.Cond.sameField "java/util/ArrayList" "java/util/AbstractList" "modCount" "I") ∈ xWS := List.mem_filter.mpr ⟨List.mem_append_right _ (List.mem_of_getElem? (i := 62) (by decide +kernel)), rfl⟩
set_option maxRecDepth 100000 in
theorem xm_599 : (Jvm.Cond.classLink "java/util/ArrayList" (7 : Nat) "java/lang/Object") ∈ xWS := List.mem_filter.mpr ⟨List.mem_append_right _ (List.mem_of_getElem? (i := 599) (by decide +kernel)), rfl⟩
set_option maxRecDepth 100000 in
theorem xm_994 : (Jvm.Cond.selects "[Ljava/lang/Object;" ({ cls := "java/lang/Object", name := "getClass", desc := "()Ljava/lang/Class;" } : Jvm.MethodName) ({ cls := "java/lang/Object", name := "getClass", desc := "()Ljava/lang/Class;" } : Jvm.MethodName)) ∈ xWS := List.mem_filter.mpr ⟨List.mem_append_right _ (List.mem_of_getElem? (i := 994) (by decide +kernel)), rfl⟩
set_option maxRecDepth 100000 in
theorem xm_572 : (Jvm.Cond.instanceMethod ({ cls := "java/lang/Object", name := "getClass", desc := "()Ljava/lang/Class;" } : Jvm.MethodName)) ∈ xWS := List.mem_filter.mpr ⟨List.mem_append_right _ (List.mem_of_getElem? (i := 572) (by decide +kernel)), rfl⟩
set_option maxRecDepth 100000 in
theorem xm_587 : (Jvm.Cond.native ({ cls := "java/lang/Object", name := "getClass", desc := "()Ljava/lang/Class;" } : Jvm.MethodName)) ∈ xWS := List.mem_filter.mpr ⟨List.mem_append_right _ (List.mem_of_getElem? (i := 587) (by decide +kernel)), rfl⟩
set_option maxRecDepth 100000 in
theorem xm_591 : (Jvm.Cond.classLink "java/util/Arrays" (110 : Nat) "[Ljava/lang/Object;") ∈ xWS := List.mem_filter.mpr ⟨List.mem_append_right _ (List.mem_of_getElem? (i := 591) (by decide +kernel)), rfl⟩
set_option maxRecDepth 100000 in
theorem xm_593 : (Jvm.Cond.classLink "java/util/Arrays" (2 : Nat) "java/lang/Object") ∈ xWS := List.mem_filter.mpr ⟨List.mem_append_right _ (List.mem_of_getElem? (i := 593) (by decide +kernel)), rfl⟩
set_option maxRecDepth 100000 in
theorem xm_597 : (Jvm.Cond.native ({ cls := "java/lang/System", name := "arraycopy", desc := "(Ljava/lang/Object;ILjava/lang/Object;II)V" } : Jvm.MethodName)) ∈ xWS := List.mem_filter.mpr ⟨List.mem_append_right _ (List.mem_of_getElem? (i := 597) (by decide +kernel)), rfl⟩
set_option maxRecDepth 100000 in
theorem xm_596 : (Jvm.Cond.static ({ cls := "java/lang/System", name := "arraycopy", desc := "(Ljava/lang/Object;ILjava/lang/Object;II)V" } : Jvm.MethodName)) ∈ xWS := List.mem_filter.mpr ⟨List.mem_append_right _ (List.mem_of_getElem? (i := 596) (by decide +kernel)), rfl⟩
set_option maxRecDepth 100000 in
theorem xm_23 : (Jvm.Cond.initialized "java/lang/System") ∈ xWS := List.mem_filter.mpr ⟨List.mem_append_right _ (List.mem_of_getElem? (i := 23) (by decide +kernel)), rfl⟩
section
variable {P : x_P} {d : Nat} {st : List Value} {h : x_H} {Φ : Outcome → x_H → Prop}
theorem ok_AB_init : x_mok mAB_init 0 := ⟨by decide, ⟨by decide, by decide, by decide +kernel⟩, by decide, xm_51, xm_4⟩
set_option maxRecDepth 100000 in
theorem eAL_init_1 {v0 : Option Value} {a : Nat} {Ψ : Outcome → x_H → Prop} (hst : (st.map fun u => u.category).sum ≤ 8) (kc : x_K P d mAB_init 0 [some (.ref a)] [] h Ψ) (k : ∀ oc h1, Ψ oc h1 → ∃ v, oc = .returned v ∧ x_K P (d + 1) mAL_init 4 [v0] (v.toList ++ st) h1 Φ) : x_K P (d + 1) mAL_init 1 [v0] (.ref a :: st) h Φ := x_Kc kc k (fun _ _ _ _ j1 j2 => xj_callI (M2 := mAB_init) (As := []) dAL_init_1 xm_49 rfl rfl xm_50 ok_AB_init rfl (by simp only [List.forall_mem_cons]; exact ⟨rfl, fun _ h => absurd h List.not_mem_nil⟩) (Nat.le_of_ble_eq_true rfl) hst j1 j2)
theorem ok_AC_init : x_mok mAC_init 0 := ⟨by decide, ⟨by decide, by decide, by decide +kernel⟩, by decide, xm_54, xm_3⟩
set_option maxRecDepth 100000 in
theorem eAB_init_1 {v0 : Option Value} {a : Nat} {Ψ : Outcome → x_H → Prop} (hst : (st.map fun u => u.category).sum ≤ 8) (kc : x_K P d mAC_init 0 [some (.ref a)] [] h Ψ) (k : ∀ oc h1, Ψ oc h1 → ∃ v, oc = .returned v ∧ x_K P (d + 1) mAB_init 4 [v0] (v.toList ++ st) h1 Φ) : x_K P (d + 1) mAB_init 1 [v0] (.ref a :: st) h Φ := x_Kc kc k (fun _ _ _ _ j1 j2 => xj_callI (M2 := mAC_init) (As := []) dAB_init_1 xm_52 rfl rfl xm_53 ok_AC_init rfl (by simp only [List.forall_mem_cons]; exact ⟨rfl, fun _ h => absurd h List.not_mem_nil⟩) (Nat.le_of_ble_eq_true rfl) hst j1 j2)
theorem eAL_init_5 {v0 : Option Value} (k : x_K P d mAL_init 8 [v0] (.ref P.2.2.2.2.2.2.2.1 :: st) h Φ) : x_K P d mAL_init 5 [v0] st h Φ := x_K1 k (fun _ _ j => xj_getsE dAL_init_5 xm_56 j)
theorem eAB_init_6 {v0 : Option Value} {a : Nat} {fs : List Value} {z : Int32} (ha : h.1 a = some (.inr (9, fs))) (hl : 2 < fs.length) (k : x_K P d mAB_init 9 [v0] st (x_put h a (.inr (9, fs.set 2 (.int z)))) Φ) : x_K P d mAB_init 6 [v0] (.int z :: .ref a :: st) h Φ := x_K1 k (fun _ _ j => xj_put dAB_init_6 okcAL rfl (j := 2) (by decide) xm_60 rfl ha hl (ty := .int) (by decide +kernel) rfl rfl j)
theorem eAL_add_2 {v0 v1 : Option Value} {a : Nat} {fs : List Value} {u : Value} (ha : h.1 a = some (.inr (9, fs))) (hv : fs[2]? = some u) (k : x_K P d mAL_add 5 [v0, v1] (u :: st) h Φ) : x_K P d mAL_add 2 [v0, v1] (.ref a :: st) h Φ := x_K1 k (fun _ _ j => xj_getS dAL_add_2 okcAL rfl (j := 2) (by decide) xm_61 xm_62 ha hv j)
theorem eAL_add_7 {v0 v1 : Option Value} {a : Nat} {fs : List Value} {z : Int32} (ha : h.1 a = some (.inr (9, fs))) (hl : 2 < fs.length) (k : x_K P d mAL_add 10 [v0, v1] st (x_put h a (.inr (9, fs.set 2 (.int z)))) Φ) : x_K P d mAL_add 7 [v0, v1] (.int z :: .ref a :: st) h Φ := x_K1 k (fun _ _ j => xj_putS dAL_add_7 okcAL rfl (j := 2) (by decide) xm_61 xm_62 rfl ha hl (ty := .int) (by decide +kernel) rfl rfl j)
theorem eAL_add2_2E {v0 v1 v2 v3 : Option Value} (k : x_K P d mAL_add2 3 [v0, v1, v2, v3] (.int 0 :: st) h Φ) : x_K P d mAL_add2 2 [v0, v1, v2, v3] (.ref P.2.2.2.2.2.2.2.1 :: st) h Φ := x_K1 k (fun _ _ j => xj_lenE dAL_add2_2 j)
theorem eAL_add2_14 {v0 v1 v2 v3 : Option Value} {a n v : Nat} {f : Nat → Option Nat} {i : Int32} (ha : h.1 a = some (.inl (6, n, .inr (.inr (.inr (.inr f)))))) (hv : x_ob h v) (hi : vp_in i n) (k : x_K P d mAL_add2 15 [v0, v1, v2, v3] st (x_put h a (.inl (6, n, .inr (.inr (.inr (.inr (va_up f i.toNatClampNeg (some v)))))))) Φ) : x_K P d mAL_add2 14 [v0, v1, v2, v3] (.ref v :: .int i :: .ref a :: st) h Φ := x_K1 k (fun _ _ j => xj_aastO dAL_add2_14 ha hv hi j)
theorem eAL_grow2_4E {v0 v1 v2 v3 : Option Value} (k : x_K P d mAL_grow2 5 [v0, v1, v2, v3] (.int 0 :: st) h Φ) : x_K P d mAL_grow2 4 [v0, v1, v2, v3] (.ref P.2.2.2.2.2.2.2.1 :: st) h Φ := x_K1 k (fun _ _ j => xj_lenE dAL_grow2_4 j)
theorem eAL_grow2_14 {v0 v1 v2 v3 : Option Value} (k : x_K P d mAL_grow2 17 [v0, v1, v2, v3] (.ref P.2.2.2.2.2.2.2.1 :: st) h Φ) : x_K P d mAL_grow2 14 [v0, v1, v2, v3] st h Φ := x_K1 k (fun _ _ j => xj_getsE dAL_grow2_14 xm_56 j)
theorem eAL_grow2_17 {v0 v1 v2 v3 : Option Value} {x y : Nat} (kt : x = y → x_K P d mAL_grow2 45 [v0, v1, v2, v3] st h Φ) (kf : ¬ x = y → x_K P d mAL_grow2 20 [v0, v1, v2, v3] st h Φ) : x_K P d mAL_grow2 17 [v0, v1, v2, v3] (.ref y :: .ref x :: st) h Φ := by
  by_cases c : x = y
  · exact x_K1 (kt c) (fun _ _ j => xj_acmp_eq (rx := some x) (ry := some y) dAL_grow2_17 (tgt := 45) (by decide) (fun _ => j) (fun z => absurd (by rw [c]) z))
  · exact x_K1 (kf c) (fun _ _ j => xj_acmp_eq (rx := some x) (ry := some y) dAL_grow2_17 (tgt := 45) (by decide) (fun z => absurd (Option.some.inj z) c) (fun _ => j))
theorem eAL_grow2_52 {v0 v1 v2 v3 : Option Value} {x : Int32} {n : Nat} (hx : ¬ x < 0) (hn : x.toNatClampNeg = n) (hb : n * 4 ≤ 536870912) (k : x_K P d mAL_grow2 55 [v0, v1, v2, v3] (.ref h.2.1 :: st) (x_new h (.inl (6, n, .inr (.inr (.inr (.inr (fun _ => none)))))) n) Φ) : x_K P d mAL_grow2 52 [v0, v1, v2, v3] (.int x :: st) h Φ := x_K1 k (fun _ _ j => xj_newq (t := 6) dAL_grow2_52 xm_599 (List.mem_of_getElem? (i := 15) rfl) rfl hx hn hb j)
theorem eAR_copyOf_3 {v0 v1 : Option Value} {a n : Nat} {f : Nat → Option Nat} (ha : h.1 a = some (.inl (6, n, .inr (.inr (.inr (.inr f)))))) (hst : (st.map fun u => u.category).sum ≤ 8) (k : x_K P (d + 1) mAR_copyOf 6 [v0, v1] (.ref P.2.2.2.2.2.2.2.2 :: st) h Φ) : x_K P (d + 1) mAR_copyOf 3 [v0, v1] (.ref a :: st) h Φ := x_K1 k (fun _ _ j => xj_getClass dAR_copyOf_3 xm_571 (List.mem_of_getElem? (i := 19) rfl) xm_994 xm_572 xm_587 ha hst j)
theorem eAR_copyOf2_1 {v0 v1 v2 v3 : Option Value} (k : x_K P d mAR_copyOf2 3 [v0, v1, v2, v3] (.ref P.2.2.2.2.2.2.2.2 :: st) h Φ) : x_K P d mAR_copyOf2 1 [v0, v1, v2, v3] st h Φ := x_K1 k (fun _ _ j => xj_ldcM dAR_copyOf2_1 xm_591 j)
theorem eAR_copyOf2_3 {v0 v1 v2 v3 : Option Value} {x : Nat} (k : x_K P d mAR_copyOf2 6 [v0, v1, v2, v3] st h Φ) : x_K P d mAR_copyOf2 3 [v0, v1, v2, v3] (.ref x :: .ref x :: st) h Φ := x_K1 k (fun _ _ j => xj_acmp_ne (rx := some x) (ry := some x) dAR_copyOf2_3 (tgt := 13) (by decide) (fun z => absurd rfl z) (fun _ => j))
theorem eAR_copyOf2_7 {v0 v1 v2 v3 : Option Value} {x : Int32} {n : Nat} (hx : ¬ x < 0) (hn : x.toNatClampNeg = n) (hb : n * 4 ≤ 536870912) (k : x_K P d mAR_copyOf2 10 [v0, v1, v2, v3] (.ref h.2.1 :: st) (x_new h (.inl (6, n, .inr (.inr (.inr (.inr (fun _ => none)))))) n) Φ) : x_K P d mAR_copyOf2 7 [v0, v1, v2, v3] (.int x :: st) h Φ := x_K1 k (fun _ _ j => xj_newq (t := 6) dAR_copyOf2_7 xm_593 (List.mem_of_getElem? (i := 15) rfl) rfl hx hn hb j)
theorem eAR_copyOf2_35 {v0 v1 v2 v3 : Option Value} {a0 a n0 n1 : Nat} {f g : Nat → Option Nat} {n : Int32} (ha0 : h.1 a0 = some (.inl (6, n0, .inr (.inr (.inr (.inr f)))))) (ha : h.1 a = some (.inl (6, n1, .inr (.inr (.inr (.inr g)))))) (hn : ¬ n < 0) (hn0 : n.toNatClampNeg ≤ n0) (hn1 : n.toNatClampNeg ≤ n1) (hel : ∀ i, i < n.toNatClampNeg → ∀ y, f i = some y → x_ob h y) (hst : (st.map fun u => u.category).sum ≤ 8) (k : x_K P (d + 1) mAR_copyOf2 38 [v0, v1, v2, v3] st (x_put h a (.inl (6, n1, .inr (.inr (.inr (.inr (va_cpy f g 0 0 n.toNatClampNeg))))))) Φ) : x_K P (d + 1) mAR_copyOf2 35 [v0, v1, v2, v3] (.int n :: .int 0 :: .ref a :: .int 0 :: .ref a0 :: st) h Φ := x_K1 k (fun _ _ j => xj_acopy dAR_copyOf2_35 xm_595 xm_597 xm_596 xm_23 ha0 ha hn hn0 hn1 hel hst j)
end
