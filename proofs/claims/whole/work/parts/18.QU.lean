section
variable {P : x_P} {d : Nat} {st : List Value} {h : x_H} {Φ : Outcome → x_H → Prop}
theorem dQU_init_0 : decode cQU_init 0 = .ok (.aload_n 0, 1) := by decide +kernel
theorem eQU_init_0 {u : Value} (hu : u.isRef = true) (k : x_K P d mQU_init 1 [some u] (u :: st) h Φ) : x_K P d mQU_init 0 [some u] st h Φ := x_K1 k (fun _ _ j => xj_aload_n dQU_init_0 rfl rfl hu j)
theorem dQU_init_1 : decode cQU_init 1 = .ok (.invokespecial 3, 3) := by decide +kernel
set_option maxRecDepth 100000 in
theorem eQU_init_1 {v0 : Option Value} {a : Nat} (hst : (st.map fun u => u.category).sum ≤ 8) (k : x_K P (d + 1) mQU_init 4 [v0] st h Φ) : x_K P (d + 1) mQU_init 1 [v0] (.ref a :: st) h Φ := x_K1 k (fun _ _ j => xj_objInit dQU_init_1 xm_110 xm_32 xm_33 hst (Nat.le_add_left 1 _) j)
theorem dQU_init_4 : decode cQU_init 4 = .ok (.aload_n 0, 1) := by decide +kernel
theorem eQU_init_4 {u : Value} (hu : u.isRef = true) (k : x_K P d mQU_init 5 [some u] (u :: st) h Φ) : x_K P d mQU_init 4 [some u] st h Φ := x_K1 k (fun _ _ j => xj_aload_n dQU_init_4 rfl rfl hu j)
theorem dQU_init_5 : decode cQU_init 5 = .ok (.bipush 16, 2) := by decide +kernel
theorem eQU_init_5 {v0 : Option Value} (k : x_K P d mQU_init 7 [v0] (.int 16 :: st) h Φ) : x_K P d mQU_init 5 [v0] st h Φ := x_K1 k (fun _ _ j => xj_bipush dQU_init_5 (v := 16) (by decide) j)
theorem dQU_init_7 : decode cQU_init 7 = .ok (.newarray .int, 2) := by decide +kernel
theorem eQU_init_7 {v0 : Option Value} {x : Int32} {n : Nat} (hx : ¬ x < 0) (hn : x.toNatClampNeg = n) (hb : n * componentBytes .int ≤ 536870912) (k : x_K P d mQU_init 9 [v0] (.ref h.2.1 :: st) (x_new h (.inl (0, n, .inl (fun _ => 0))) n) Φ) : x_K P d mQU_init 7 [v0] (.int x :: st) h Φ := x_K1 k (fun _ _ j => xj_newa (t := 0) (a0 := (n, .inl (fun _ => 0))) dQU_init_7 xm_78 rfl rfl (fun _ _ h9 => h9) (fun _ => rfl) hx hn hb j)
theorem dQU_init_9 : decode cQU_init 9 = .ok (.putfield 9, 3) := by decide +kernel
theorem eQU_init_9 {v0 : Option Value} {a : Nat} {fs : List Value} {z : Nat} (ha : h.1 a = some (.inr (5, fs))) (hl : 0 < fs.length) (k : x_K P d mQU_init 12 [v0] st (x_put h a (.inr (5, fs.set 0 (.ref z)))) Φ) : x_K P d mQU_init 9 [v0] (.ref z :: .ref a :: st) h Φ := x_K1 k (fun _ _ j => xj_put dQU_init_9 okcQU rfl (j := 0) (by decide) xm_111 rfl ha hl (ty := .array (.int)) (by decide +kernel) rfl rfl j)
theorem dQU_init_12 : decode cQU_init 12 = .ok (.return_, 1) := by decide +kernel
theorem eQU_init_12 {v0 : Option Value} (hΦ : Φ (.returned none) h) : x_K P d mQU_init 12 [v0] [] h Φ := x_Kret hΦ (xj_vret dQU_init_12 rfl)
theorem dQU_size_0 : decode cQU_size 0 = .ok (.aload_n 0, 1) := by decide +kernel
theorem eQU_size_0 {u : Value} (hu : u.isRef = true) (k : x_K P d mQU_size 1 [some u] (u :: st) h Φ) : x_K P d mQU_size 0 [some u] st h Φ := x_K1 k (fun _ _ j => xj_aload_n dQU_size_0 rfl rfl hu j)
theorem dQU_size_1 : decode cQU_size 1 = .ok (.getfield 15, 3) := by decide +kernel
theorem eQU_size_1 {v0 : Option Value} {a : Nat} {fs : List Value} {u : Value} (ha : h.1 a = some (.inr (5, fs))) (hv : fs[2]? = some u) (k : x_K P d mQU_size 4 [v0] (u :: st) h Φ) : x_K P d mQU_size 1 [v0] (.ref a :: st) h Φ := x_K1 k (fun _ _ j => xj_get dQU_size_1 okcQU rfl (j := 2) (by decide) xm_113 ha hv j)
theorem dQU_size_4 : decode cQU_size 4 = .ok (.ireturn, 1) := by decide +kernel
theorem eQU_size_4 {v0 : Option Value} {x : Int32} (hΦ : Φ (.returned (some (.int x))) h) : x_K P d mQU_size 4 [v0] [.int x] h Φ := x_Kret hΦ (xj_iret dQU_size_4 rfl)
theorem dQU_removeFirst_0 : decode cQU_removeFirst 0 = .ok (.aload_n 0, 1) := by decide +kernel
theorem eQU_removeFirst_0 {v1 : Option Value} {u : Value} (hu : u.isRef = true) (k : x_K P d mQU_removeFirst 1 [some u, v1] (u :: st) h Φ) : x_K P d mQU_removeFirst 0 [some u, v1] st h Φ := x_K1 k (fun _ _ j => xj_aload_n dQU_removeFirst_0 rfl rfl hu j)
theorem dQU_removeFirst_1 : decode cQU_removeFirst 1 = .ok (.getfield 15, 3) := by decide +kernel
theorem eQU_removeFirst_1 {v0 v1 : Option Value} {a : Nat} {fs : List Value} {u : Value} (ha : h.1 a = some (.inr (5, fs))) (hv : fs[2]? = some u) (k : x_K P d mQU_removeFirst 4 [v0, v1] (u :: st) h Φ) : x_K P d mQU_removeFirst 1 [v0, v1] (.ref a :: st) h Φ := x_K1 k (fun _ _ j => xj_get dQU_removeFirst_1 okcQU rfl (j := 2) (by decide) xm_113 ha hv j)
theorem dQU_removeFirst_4 : decode cQU_removeFirst 4 = .ok (.ifCond .ne 5, 3) := by decide +kernel
theorem eQU_removeFirst_4 {v0 v1 : Option Value} {x : Int32} (kt : ¬ x = 0 → x_K P d mQU_removeFirst 9 [v0, v1] st h Φ) (kf : x = 0 → x_K P d mQU_removeFirst 7 [v0, v1] st h Φ) : x_K P d mQU_removeFirst 4 [v0, v1] (.int x :: st) h Φ := x_K2 (Classical.em (x = 0)) kf kt (fun a _ _ j => xj_if_ne dQU_removeFirst_4 (tgt := 9) (by decide) (fun b => absurd a b) (fun _ => j)) (fun a _ _ j => xj_if_ne dQU_removeFirst_4 (tgt := 9) (by decide) (fun _ => j) (fun b => absurd b a))
theorem dQU_removeFirst_7 : decode cQU_removeFirst 7 = .ok (.iconst (-1), 1) := by decide +kernel
theorem eQU_removeFirst_7 {v0 v1 : Option Value} (k : x_K P d mQU_removeFirst 8 [v0, v1] (.int (-1) :: st) h Φ) : x_K P d mQU_removeFirst 7 [v0, v1] st h Φ := x_K1 k (fun _ _ j => xj_iconst dQU_removeFirst_7 (v := (-1)) (by decide) j)
theorem dQU_removeFirst_8 : decode cQU_removeFirst 8 = .ok (.ireturn, 1) := by decide +kernel
theorem eQU_removeFirst_8 {v0 v1 : Option Value} {x : Int32} (hΦ : Φ (.returned (some (.int x))) h) : x_K P d mQU_removeFirst 8 [v0, v1] [.int x] h Φ := x_Kret hΦ (xj_iret dQU_removeFirst_8 rfl)
theorem dQU_removeFirst_9 : decode cQU_removeFirst 9 = .ok (.aload_n 0, 1) := by decide +kernel
theorem eQU_removeFirst_9 {v1 : Option Value} {u : Value} (hu : u.isRef = true) (k : x_K P d mQU_removeFirst 10 [some u, v1] (u :: st) h Φ) : x_K P d mQU_removeFirst 9 [some u, v1] st h Φ := x_K1 k (fun _ _ j => xj_aload_n dQU_removeFirst_9 rfl rfl hu j)
theorem dQU_removeFirst_10 : decode cQU_removeFirst 10 = .ok (.getfield 9, 3) := by decide +kernel
theorem eQU_removeFirst_10 {v0 v1 : Option Value} {a : Nat} {fs : List Value} {u : Value} (ha : h.1 a = some (.inr (5, fs))) (hv : fs[0]? = some u) (k : x_K P d mQU_removeFirst 13 [v0, v1] (u :: st) h Φ) : x_K P d mQU_removeFirst 10 [v0, v1] (.ref a :: st) h Φ := x_K1 k (fun _ _ j => xj_get dQU_removeFirst_10 okcQU rfl (j := 0) (by decide) xm_111 ha hv j)
theorem dQU_removeFirst_13 : decode cQU_removeFirst 13 = .ok (.aload_n 0, 1) := by decide +kernel
theorem eQU_removeFirst_13 {v1 : Option Value} {u : Value} (hu : u.isRef = true) (k : x_K P d mQU_removeFirst 14 [some u, v1] (u :: st) h Φ) : x_K P d mQU_removeFirst 13 [some u, v1] st h Φ := x_K1 k (fun _ _ j => xj_aload_n dQU_removeFirst_13 rfl rfl hu j)
theorem dQU_removeFirst_14 : decode cQU_removeFirst 14 = .ok (.getfield 22, 3) := by decide +kernel
theorem eQU_removeFirst_14 {v0 v1 : Option Value} {a : Nat} {fs : List Value} {u : Value} (ha : h.1 a = some (.inr (5, fs))) (hv : fs[1]? = some u) (k : x_K P d mQU_removeFirst 17 [v0, v1] (u :: st) h Φ) : x_K P d mQU_removeFirst 14 [v0, v1] (.ref a :: st) h Φ := x_K1 k (fun _ _ j => xj_get dQU_removeFirst_14 okcQU rfl (j := 1) (by decide) xm_112 ha hv j)
theorem dQU_removeFirst_17 : decode cQU_removeFirst 17 = .ok (.iaload, 1) := by decide +kernel
theorem eQU_removeFirst_17 {v0 v1 : Option Value} {a n : Nat} {f : Nat → Int32} {i : Int32} (ha : h.1 a = some (.inl (0, n, .inl f))) (hi : vp_in i n) (k : x_K P d mQU_removeFirst 18 [v0, v1] (.int (f i.toNatClampNeg) :: st) h Φ) : x_K P d mQU_removeFirst 17 [v0, v1] (.int i :: .ref a :: st) h Φ := x_K1 k (fun _ _ j => xj_iald dQU_removeFirst_17 ha hi j)
theorem dQU_removeFirst_18 : decode cQU_removeFirst 18 = .ok (.istore_n 1, 1) := by decide +kernel
theorem eQU_removeFirst_18 {v0 v1 : Option Value} {x : Int32} (k : x_K P d mQU_removeFirst 19 [v0, some (.int x)] st h Φ) : x_K P d mQU_removeFirst 18 [v0, v1] (.int x :: st) h Φ := x_K1 k (fun _ _ j => xj_istore_n dQU_removeFirst_18 rfl rfl j)
theorem dQU_removeFirst_19 : decode cQU_removeFirst 19 = .ok (.aload_n 0, 1) := by decide +kernel
theorem eQU_removeFirst_19 {v1 : Option Value} {u : Value} (hu : u.isRef = true) (k : x_K P d mQU_removeFirst 20 [some u, v1] (u :: st) h Φ) : x_K P d mQU_removeFirst 19 [some u, v1] st h Φ := x_K1 k (fun _ _ j => xj_aload_n dQU_removeFirst_19 rfl rfl hu j)
theorem dQU_removeFirst_20 : decode cQU_removeFirst 20 = .ok (.aload_n 0, 1) := by decide +kernel
theorem eQU_removeFirst_20 {v1 : Option Value} {u : Value} (hu : u.isRef = true) (k : x_K P d mQU_removeFirst 21 [some u, v1] (u :: st) h Φ) : x_K P d mQU_removeFirst 20 [some u, v1] st h Φ := x_K1 k (fun _ _ j => xj_aload_n dQU_removeFirst_20 rfl rfl hu j)
theorem dQU_removeFirst_21 : decode cQU_removeFirst 21 = .ok (.getfield 22, 3) := by decide +kernel
theorem eQU_removeFirst_21 {v0 v1 : Option Value} {a : Nat} {fs : List Value} {u : Value} (ha : h.1 a = some (.inr (5, fs))) (hv : fs[1]? = some u) (k : x_K P d mQU_removeFirst 24 [v0, v1] (u :: st) h Φ) : x_K P d mQU_removeFirst 21 [v0, v1] (.ref a :: st) h Φ := x_K1 k (fun _ _ j => xj_get dQU_removeFirst_21 okcQU rfl (j := 1) (by decide) xm_112 ha hv j)
theorem dQU_removeFirst_24 : decode cQU_removeFirst 24 = .ok (.iconst 1, 1) := by decide +kernel
theorem eQU_removeFirst_24 {v0 v1 : Option Value} (k : x_K P d mQU_removeFirst 25 [v0, v1] (.int 1 :: st) h Φ) : x_K P d mQU_removeFirst 24 [v0, v1] st h Φ := x_K1 k (fun _ _ j => xj_iconst dQU_removeFirst_24 (v := 1) (by decide) j)
theorem dQU_removeFirst_25 : decode cQU_removeFirst 25 = .ok (.iadd, 1) := by decide +kernel
theorem eQU_removeFirst_25 {v0 v1 : Option Value} {x y : Int32} (k : x_K P d mQU_removeFirst 26 [v0, v1] (.int (x + y) :: st) h Φ) : x_K P d mQU_removeFirst 25 [v0, v1] (.int y :: .int x :: st) h Φ := x_K1 k (fun _ _ j => xj_iadd dQU_removeFirst_25 j)
theorem dQU_removeFirst_26 : decode cQU_removeFirst 26 = .ok (.aload_n 0, 1) := by decide +kernel
theorem eQU_removeFirst_26 {v1 : Option Value} {u : Value} (hu : u.isRef = true) (k : x_K P d mQU_removeFirst 27 [some u, v1] (u :: st) h Φ) : x_K P d mQU_removeFirst 26 [some u, v1] st h Φ := x_K1 k (fun _ _ j => xj_aload_n dQU_removeFirst_26 rfl rfl hu j)
theorem dQU_removeFirst_27 : decode cQU_removeFirst 27 = .ok (.getfield 9, 3) := by decide +kernel
theorem eQU_removeFirst_27 {v0 v1 : Option Value} {a : Nat} {fs : List Value} {u : Value} (ha : h.1 a = some (.inr (5, fs))) (hv : fs[0]? = some u) (k : x_K P d mQU_removeFirst 30 [v0, v1] (u :: st) h Φ) : x_K P d mQU_removeFirst 27 [v0, v1] (.ref a :: st) h Φ := x_K1 k (fun _ _ j => xj_get dQU_removeFirst_27 okcQU rfl (j := 0) (by decide) xm_111 ha hv j)
theorem dQU_removeFirst_30 : decode cQU_removeFirst 30 = .ok (.arraylength, 1) := by decide +kernel
theorem eQU_removeFirst_30 {v0 v1 : Option Value} {a t : Nat} {x : vp_A} {ty : FieldType} (ha : h.1 a = some (.inl (t, x))) (ht : (x_tys P.2.2.1)[t]? = some (P.2.2.1 t, ty)) (k : x_K P d mQU_removeFirst 31 [v0, v1] (.int (Int32.ofNat x.1) :: st) h Φ) : x_K P d mQU_removeFirst 30 [v0, v1] (.ref a :: st) h Φ := x_K1 k (fun _ _ j => xj_alen dQU_removeFirst_30 ha ht rfl j)
theorem dQU_removeFirst_31 : decode cQU_removeFirst 31 = .ok (.iconst 1, 1) := by decide +kernel
theorem eQU_removeFirst_31 {v0 v1 : Option Value} (k : x_K P d mQU_removeFirst 32 [v0, v1] (.int 1 :: st) h Φ) : x_K P d mQU_removeFirst 31 [v0, v1] st h Φ := x_K1 k (fun _ _ j => xj_iconst dQU_removeFirst_31 (v := 1) (by decide) j)
theorem dQU_removeFirst_32 : decode cQU_removeFirst 32 = .ok (.isub, 1) := by decide +kernel
theorem eQU_removeFirst_32 {v0 v1 : Option Value} {x y : Int32} (k : x_K P d mQU_removeFirst 33 [v0, v1] (.int (x - y) :: st) h Φ) : x_K P d mQU_removeFirst 32 [v0, v1] (.int y :: .int x :: st) h Φ := x_K1 k (fun _ _ j => xj_isub dQU_removeFirst_32 j)
theorem dQU_removeFirst_33 : decode cQU_removeFirst 33 = .ok (.iand, 1) := by decide +kernel
theorem eQU_removeFirst_33 {v0 v1 : Option Value} {x y : Int32} (k : x_K P d mQU_removeFirst 34 [v0, v1] (.int (x &&& y) :: st) h Φ) : x_K P d mQU_removeFirst 33 [v0, v1] (.int y :: .int x :: st) h Φ := x_K1 k (fun _ _ j => xj_iand dQU_removeFirst_33 j)
theorem dQU_removeFirst_34 : decode cQU_removeFirst 34 = .ok (.putfield 22, 3) := by decide +kernel
theorem eQU_removeFirst_34 {v0 v1 : Option Value} {a : Nat} {fs : List Value} {z : Int32} (ha : h.1 a = some (.inr (5, fs))) (hl : 1 < fs.length) (k : x_K P d mQU_removeFirst 37 [v0, v1] st (x_put h a (.inr (5, fs.set 1 (.int z)))) Φ) : x_K P d mQU_removeFirst 34 [v0, v1] (.int z :: .ref a :: st) h Φ := x_K1 k (fun _ _ j => xj_put dQU_removeFirst_34 okcQU rfl (j := 1) (by decide) xm_112 rfl ha hl (ty := .int) (by decide +kernel) rfl rfl j)
theorem dQU_removeFirst_37 : decode cQU_removeFirst 37 = .ok (.aload_n 0, 1) := by decide +kernel
theorem eQU_removeFirst_37 {v1 : Option Value} {u : Value} (hu : u.isRef = true) (k : x_K P d mQU_removeFirst 38 [some u, v1] (u :: st) h Φ) : x_K P d mQU_removeFirst 37 [some u, v1] st h Φ := x_K1 k (fun _ _ j => xj_aload_n dQU_removeFirst_37 rfl rfl hu j)
theorem dQU_removeFirst_38 : decode cQU_removeFirst 38 = .ok (.dup, 1) := by decide +kernel
theorem eQU_removeFirst_38 {v0 v1 : Option Value} {u : Value} (hu : u.category = 1) (k : x_K P d mQU_removeFirst 39 [v0, v1] (u :: u :: st) h Φ) : x_K P d mQU_removeFirst 38 [v0, v1] (u :: st) h Φ := x_K1 k (fun _ _ j => xj_dup dQU_removeFirst_38 hu j)
theorem dQU_removeFirst_39 : decode cQU_removeFirst 39 = .ok (.getfield 15, 3) := by decide +kernel
theorem eQU_removeFirst_39 {v0 v1 : Option Value} {a : Nat} {fs : List Value} {u : Value} (ha : h.1 a = some (.inr (5, fs))) (hv : fs[2]? = some u) (k : x_K P d mQU_removeFirst 42 [v0, v1] (u :: st) h Φ) : x_K P d mQU_removeFirst 39 [v0, v1] (.ref a :: st) h Φ := x_K1 k (fun _ _ j => xj_get dQU_removeFirst_39 okcQU rfl (j := 2) (by decide) xm_113 ha hv j)
theorem dQU_removeFirst_42 : decode cQU_removeFirst 42 = .ok (.iconst 1, 1) := by decide +kernel
theorem eQU_removeFirst_42 {v0 v1 : Option Value} (k : x_K P d mQU_removeFirst 43 [v0, v1] (.int 1 :: st) h Φ) : x_K P d mQU_removeFirst 42 [v0, v1] st h Φ := x_K1 k (fun _ _ j => xj_iconst dQU_removeFirst_42 (v := 1) (by decide) j)
theorem dQU_removeFirst_43 : decode cQU_removeFirst 43 = .ok (.isub, 1) := by decide +kernel
theorem eQU_removeFirst_43 {v0 v1 : Option Value} {x y : Int32} (k : x_K P d mQU_removeFirst 44 [v0, v1] (.int (x - y) :: st) h Φ) : x_K P d mQU_removeFirst 43 [v0, v1] (.int y :: .int x :: st) h Φ := x_K1 k (fun _ _ j => xj_isub dQU_removeFirst_43 j)
theorem dQU_removeFirst_44 : decode cQU_removeFirst 44 = .ok (.putfield 15, 3) := by decide +kernel
theorem eQU_removeFirst_44 {v0 v1 : Option Value} {a : Nat} {fs : List Value} {z : Int32} (ha : h.1 a = some (.inr (5, fs))) (hl : 2 < fs.length) (k : x_K P d mQU_removeFirst 47 [v0, v1] st (x_put h a (.inr (5, fs.set 2 (.int z)))) Φ) : x_K P d mQU_removeFirst 44 [v0, v1] (.int z :: .ref a :: st) h Φ := x_K1 k (fun _ _ j => xj_put dQU_removeFirst_44 okcQU rfl (j := 2) (by decide) xm_113 rfl ha hl (ty := .int) (by decide +kernel) rfl rfl j)
theorem dQU_removeFirst_47 : decode cQU_removeFirst 47 = .ok (.iload_n 1, 1) := by decide +kernel
theorem eQU_removeFirst_47 {v0 : Option Value} {x : Int32} (k : x_K P d mQU_removeFirst 48 [v0, some (.int x)] (.int x :: st) h Φ) : x_K P d mQU_removeFirst 47 [v0, some (.int x)] st h Φ := x_K1 k (fun _ _ j => xj_iload_n dQU_removeFirst_47 rfl rfl j)
theorem dQU_removeFirst_48 : decode cQU_removeFirst 48 = .ok (.ireturn, 1) := by decide +kernel
theorem eQU_removeFirst_48 {v0 v1 : Option Value} {x : Int32} (hΦ : Φ (.returned (some (.int x))) h) : x_K P d mQU_removeFirst 48 [v0, v1] [.int x] h Φ := x_Kret hΦ (xj_iret dQU_removeFirst_48 rfl)
theorem dQU_add_0 : decode cQU_add 0 = .ok (.aload_n 0, 1) := by decide +kernel
theorem eQU_add_0 {v1 : Option Value} {u : Value} (hu : u.isRef = true) (k : x_K P d mQU_add 1 [some u, v1] (u :: st) h Φ) : x_K P d mQU_add 0 [some u, v1] st h Φ := x_K1 k (fun _ _ j => xj_aload_n dQU_add_0 rfl rfl hu j)
theorem dQU_add_1 : decode cQU_add 1 = .ok (.getfield 15, 3) := by decide +kernel
theorem eQU_add_1 {v0 v1 : Option Value} {a : Nat} {fs : List Value} {u : Value} (ha : h.1 a = some (.inr (5, fs))) (hv : fs[2]? = some u) (k : x_K P d mQU_add 4 [v0, v1] (u :: st) h Φ) : x_K P d mQU_add 1 [v0, v1] (.ref a :: st) h Φ := x_K1 k (fun _ _ j => xj_get dQU_add_1 okcQU rfl (j := 2) (by decide) xm_113 ha hv j)
theorem dQU_add_4 : decode cQU_add 4 = .ok (.aload_n 0, 1) := by decide +kernel
theorem eQU_add_4 {v1 : Option Value} {u : Value} (hu : u.isRef = true) (k : x_K P d mQU_add 5 [some u, v1] (u :: st) h Φ) : x_K P d mQU_add 4 [some u, v1] st h Φ := x_K1 k (fun _ _ j => xj_aload_n dQU_add_4 rfl rfl hu j)
theorem dQU_add_5 : decode cQU_add 5 = .ok (.getfield 9, 3) := by decide +kernel
theorem eQU_add_5 {v0 v1 : Option Value} {a : Nat} {fs : List Value} {u : Value} (ha : h.1 a = some (.inr (5, fs))) (hv : fs[0]? = some u) (k : x_K P d mQU_add 8 [v0, v1] (u :: st) h Φ) : x_K P d mQU_add 5 [v0, v1] (.ref a :: st) h Φ := x_K1 k (fun _ _ j => xj_get dQU_add_5 okcQU rfl (j := 0) (by decide) xm_111 ha hv j)
theorem dQU_add_8 : decode cQU_add 8 = .ok (.arraylength, 1) := by decide +kernel
theorem eQU_add_8 {v0 v1 : Option Value} {a t : Nat} {x : vp_A} {ty : FieldType} (ha : h.1 a = some (.inl (t, x))) (ht : (x_tys P.2.2.1)[t]? = some (P.2.2.1 t, ty)) (k : x_K P d mQU_add 9 [v0, v1] (.int (Int32.ofNat x.1) :: st) h Φ) : x_K P d mQU_add 8 [v0, v1] (.ref a :: st) h Φ := x_K1 k (fun _ _ j => xj_alen dQU_add_8 ha ht rfl j)
theorem dQU_add_9 : decode cQU_add 9 = .ok (.if_icmp .lt 7, 3) := by decide +kernel
theorem eQU_add_9 {v0 v1 : Option Value} {x y : Int32} (kt : x < y → x_K P d mQU_add 16 [v0, v1] st h Φ) (kf : ¬ x < y → x_K P d mQU_add 12 [v0, v1] st h Φ) : x_K P d mQU_add 9 [v0, v1] (.int y :: .int x :: st) h Φ := x_K2 (Classical.em (x < y)) kt kf (fun a _ _ j => xj_icmp_lt dQU_add_9 (tgt := 16) (by decide) (fun _ => j) (fun b => absurd a b)) (fun a _ _ j => xj_icmp_lt dQU_add_9 (tgt := 16) (by decide) (fun b => absurd b a) (fun _ => j))
theorem dQU_add_12 : decode cQU_add 12 = .ok (.aload_n 0, 1) := by decide +kernel
theorem eQU_add_12 {v1 : Option Value} {u : Value} (hu : u.isRef = true) (k : x_K P d mQU_add 13 [some u, v1] (u :: st) h Φ) : x_K P d mQU_add 12 [some u, v1] st h Φ := x_K1 k (fun _ _ j => xj_aload_n dQU_add_12 rfl rfl hu j)
theorem dQU_add_13 : decode cQU_add 13 = .ok (.invokevirtual 19, 3) := by decide +kernel
set_option maxRecDepth 100000 in
theorem eQU_add_13 {v0 v1 : Option Value} {a : Nat} {fs : List Value} {Ψ : Outcome → x_H → Prop} (ha : h.1 a = some (.inr (5, fs))) (hst : (st.map fun u => u.category).sum ≤ 8) (kc : x_K P d mQU_grow 0 [some (.ref a), none, none] [] h Ψ) (k : ∀ oc h1, Ψ oc h1 → ∃ v, oc = .returned v ∧ x_K P (d + 1) mQU_add 16 [v0, v1] (v.toList ++ st) h1 Φ) : x_K P (d + 1) mQU_add 13 [v0, v1] (.ref a :: st) h Φ := x_Kc kc k (fun _ _ _ _ j1 j2 => xj_callV (M2 := mQU_grow) (As := []) dQU_add_13 xm_264 xm_266 xs_5 ha rfl rfl ok_QU_grow rfl (by simp only [List.forall_mem_cons]; exact ⟨rfl, fun _ h => absurd h List.not_mem_nil⟩) (Nat.le_of_ble_eq_true rfl) hst j1 j2)
theorem dQU_add_16 : decode cQU_add 16 = .ok (.aload_n 0, 1) := by decide +kernel
theorem eQU_add_16 {v1 : Option Value} {u : Value} (hu : u.isRef = true) (k : x_K P d mQU_add 17 [some u, v1] (u :: st) h Φ) : x_K P d mQU_add 16 [some u, v1] st h Φ := x_K1 k (fun _ _ j => xj_aload_n dQU_add_16 rfl rfl hu j)
theorem dQU_add_17 : decode cQU_add 17 = .ok (.getfield 9, 3) := by decide +kernel
theorem eQU_add_17 {v0 v1 : Option Value} {a : Nat} {fs : List Value} {u : Value} (ha : h.1 a = some (.inr (5, fs))) (hv : fs[0]? = some u) (k : x_K P d mQU_add 20 [v0, v1] (u :: st) h Φ) : x_K P d mQU_add 17 [v0, v1] (.ref a :: st) h Φ := x_K1 k (fun _ _ j => xj_get dQU_add_17 okcQU rfl (j := 0) (by decide) xm_111 ha hv j)
theorem dQU_add_20 : decode cQU_add 20 = .ok (.aload_n 0, 1) := by decide +kernel
theorem eQU_add_20 {v1 : Option Value} {u : Value} (hu : u.isRef = true) (k : x_K P d mQU_add 21 [some u, v1] (u :: st) h Φ) : x_K P d mQU_add 20 [some u, v1] st h Φ := x_K1 k (fun _ _ j => xj_aload_n dQU_add_20 rfl rfl hu j)
theorem dQU_add_21 : decode cQU_add 21 = .ok (.getfield 22, 3) := by decide +kernel
theorem eQU_add_21 {v0 v1 : Option Value} {a : Nat} {fs : List Value} {u : Value} (ha : h.1 a = some (.inr (5, fs))) (hv : fs[1]? = some u) (k : x_K P d mQU_add 24 [v0, v1] (u :: st) h Φ) : x_K P d mQU_add 21 [v0, v1] (.ref a :: st) h Φ := x_K1 k (fun _ _ j => xj_get dQU_add_21 okcQU rfl (j := 1) (by decide) xm_112 ha hv j)
theorem dQU_add_24 : decode cQU_add 24 = .ok (.aload_n 0, 1) := by decide +kernel
theorem eQU_add_24 {v1 : Option Value} {u : Value} (hu : u.isRef = true) (k : x_K P d mQU_add 25 [some u, v1] (u :: st) h Φ) : x_K P d mQU_add 24 [some u, v1] st h Φ := x_K1 k (fun _ _ j => xj_aload_n dQU_add_24 rfl rfl hu j)
theorem dQU_add_25 : decode cQU_add 25 = .ok (.getfield 15, 3) := by decide +kernel
theorem eQU_add_25 {v0 v1 : Option Value} {a : Nat} {fs : List Value} {u : Value} (ha : h.1 a = some (.inr (5, fs))) (hv : fs[2]? = some u) (k : x_K P d mQU_add 28 [v0, v1] (u :: st) h Φ) : x_K P d mQU_add 25 [v0, v1] (.ref a :: st) h Φ := x_K1 k (fun _ _ j => xj_get dQU_add_25 okcQU rfl (j := 2) (by decide) xm_113 ha hv j)
theorem dQU_add_28 : decode cQU_add 28 = .ok (.iadd, 1) := by decide +kernel
theorem eQU_add_28 {v0 v1 : Option Value} {x y : Int32} (k : x_K P d mQU_add 29 [v0, v1] (.int (x + y) :: st) h Φ) : x_K P d mQU_add 28 [v0, v1] (.int y :: .int x :: st) h Φ := x_K1 k (fun _ _ j => xj_iadd dQU_add_28 j)
theorem dQU_add_29 : decode cQU_add 29 = .ok (.aload_n 0, 1) := by decide +kernel
theorem eQU_add_29 {v1 : Option Value} {u : Value} (hu : u.isRef = true) (k : x_K P d mQU_add 30 [some u, v1] (u :: st) h Φ) : x_K P d mQU_add 29 [some u, v1] st h Φ := x_K1 k (fun _ _ j => xj_aload_n dQU_add_29 rfl rfl hu j)
theorem dQU_add_30 : decode cQU_add 30 = .ok (.getfield 9, 3) := by decide +kernel
theorem eQU_add_30 {v0 v1 : Option Value} {a : Nat} {fs : List Value} {u : Value} (ha : h.1 a = some (.inr (5, fs))) (hv : fs[0]? = some u) (k : x_K P d mQU_add 33 [v0, v1] (u :: st) h Φ) : x_K P d mQU_add 30 [v0, v1] (.ref a :: st) h Φ := x_K1 k (fun _ _ j => xj_get dQU_add_30 okcQU rfl (j := 0) (by decide) xm_111 ha hv j)
theorem dQU_add_33 : decode cQU_add 33 = .ok (.arraylength, 1) := by decide +kernel
theorem eQU_add_33 {v0 v1 : Option Value} {a t : Nat} {x : vp_A} {ty : FieldType} (ha : h.1 a = some (.inl (t, x))) (ht : (x_tys P.2.2.1)[t]? = some (P.2.2.1 t, ty)) (k : x_K P d mQU_add 34 [v0, v1] (.int (Int32.ofNat x.1) :: st) h Φ) : x_K P d mQU_add 33 [v0, v1] (.ref a :: st) h Φ := x_K1 k (fun _ _ j => xj_alen dQU_add_33 ha ht rfl j)
theorem dQU_add_34 : decode cQU_add 34 = .ok (.iconst 1, 1) := by decide +kernel
theorem eQU_add_34 {v0 v1 : Option Value} (k : x_K P d mQU_add 35 [v0, v1] (.int 1 :: st) h Φ) : x_K P d mQU_add 34 [v0, v1] st h Φ := x_K1 k (fun _ _ j => xj_iconst dQU_add_34 (v := 1) (by decide) j)
theorem dQU_add_35 : decode cQU_add 35 = .ok (.isub, 1) := by decide +kernel
theorem eQU_add_35 {v0 v1 : Option Value} {x y : Int32} (k : x_K P d mQU_add 36 [v0, v1] (.int (x - y) :: st) h Φ) : x_K P d mQU_add 35 [v0, v1] (.int y :: .int x :: st) h Φ := x_K1 k (fun _ _ j => xj_isub dQU_add_35 j)
theorem dQU_add_36 : decode cQU_add 36 = .ok (.iand, 1) := by decide +kernel
theorem eQU_add_36 {v0 v1 : Option Value} {x y : Int32} (k : x_K P d mQU_add 37 [v0, v1] (.int (x &&& y) :: st) h Φ) : x_K P d mQU_add 36 [v0, v1] (.int y :: .int x :: st) h Φ := x_K1 k (fun _ _ j => xj_iand dQU_add_36 j)
theorem dQU_add_37 : decode cQU_add 37 = .ok (.iload_n 1, 1) := by decide +kernel
theorem eQU_add_37 {v0 : Option Value} {x : Int32} (k : x_K P d mQU_add 38 [v0, some (.int x)] (.int x :: st) h Φ) : x_K P d mQU_add 37 [v0, some (.int x)] st h Φ := x_K1 k (fun _ _ j => xj_iload_n dQU_add_37 rfl rfl j)
theorem dQU_add_38 : decode cQU_add 38 = .ok (.iastore, 1) := by decide +kernel
theorem eQU_add_38 {v0 v1 : Option Value} {a n : Nat} {f : Nat → Int32} {i : Int32} {x : Int32} (ha : h.1 a = some (.inl (0, n, .inl f))) (hi : vp_in i n) (k : x_K P d mQU_add 39 [v0, v1] st (x_put h a (.inl (0, n, .inl (upd f i.toNatClampNeg x)))) Φ) : x_K P d mQU_add 38 [v0, v1] (.int x :: .int i :: .ref a :: st) h Φ := x_K1 k (fun _ _ j => xj_iast dQU_add_38 ha hi j)
theorem dQU_add_39 : decode cQU_add 39 = .ok (.aload_n 0, 1) := by decide +kernel
theorem eQU_add_39 {v1 : Option Value} {u : Value} (hu : u.isRef = true) (k : x_K P d mQU_add 40 [some u, v1] (u :: st) h Φ) : x_K P d mQU_add 39 [some u, v1] st h Φ := x_K1 k (fun _ _ j => xj_aload_n dQU_add_39 rfl rfl hu j)
theorem dQU_add_40 : decode cQU_add 40 = .ok (.dup, 1) := by decide +kernel
theorem eQU_add_40 {v0 v1 : Option Value} {u : Value} (hu : u.category = 1) (k : x_K P d mQU_add 41 [v0, v1] (u :: u :: st) h Φ) : x_K P d mQU_add 40 [v0, v1] (u :: st) h Φ := x_K1 k (fun _ _ j => xj_dup dQU_add_40 hu j)
theorem dQU_add_41 : decode cQU_add 41 = .ok (.getfield 15, 3) := by decide +kernel
theorem eQU_add_41 {v0 v1 : Option Value} {a : Nat} {fs : List Value} {u : Value} (ha : h.1 a = some (.inr (5, fs))) (hv : fs[2]? = some u) (k : x_K P d mQU_add 44 [v0, v1] (u :: st) h Φ) : x_K P d mQU_add 41 [v0, v1] (.ref a :: st) h Φ := x_K1 k (fun _ _ j => xj_get dQU_add_41 okcQU rfl (j := 2) (by decide) xm_113 ha hv j)
theorem dQU_add_44 : decode cQU_add 44 = .ok (.iconst 1, 1) := by decide +kernel
theorem eQU_add_44 {v0 v1 : Option Value} (k : x_K P d mQU_add 45 [v0, v1] (.int 1 :: st) h Φ) : x_K P d mQU_add 44 [v0, v1] st h Φ := x_K1 k (fun _ _ j => xj_iconst dQU_add_44 (v := 1) (by decide) j)
theorem dQU_add_45 : decode cQU_add 45 = .ok (.iadd, 1) := by decide +kernel
theorem eQU_add_45 {v0 v1 : Option Value} {x y : Int32} (k : x_K P d mQU_add 46 [v0, v1] (.int (x + y) :: st) h Φ) : x_K P d mQU_add 45 [v0, v1] (.int y :: .int x :: st) h Φ := x_K1 k (fun _ _ j => xj_iadd dQU_add_45 j)
theorem dQU_add_46 : decode cQU_add 46 = .ok (.putfield 15, 3) := by decide +kernel
theorem eQU_add_46 {v0 v1 : Option Value} {a : Nat} {fs : List Value} {z : Int32} (ha : h.1 a = some (.inr (5, fs))) (hl : 2 < fs.length) (k : x_K P d mQU_add 49 [v0, v1] st (x_put h a (.inr (5, fs.set 2 (.int z)))) Φ) : x_K P d mQU_add 46 [v0, v1] (.int z :: .ref a :: st) h Φ := x_K1 k (fun _ _ j => xj_put dQU_add_46 okcQU rfl (j := 2) (by decide) xm_113 rfl ha hl (ty := .int) (by decide +kernel) rfl rfl j)
theorem dQU_add_49 : decode cQU_add 49 = .ok (.return_, 1) := by decide +kernel
theorem eQU_add_49 {v0 v1 : Option Value} (hΦ : Φ (.returned none) h) : x_K P d mQU_add 49 [v0, v1] [] h Φ := x_Kret hΦ (xj_vret dQU_add_49 rfl)
theorem dQU_grow_0 : decode cQU_grow 0 = .ok (.iconst 2, 1) := by decide +kernel
theorem eQU_grow_0 {v0 v1 v2 : Option Value} (k : x_K P d mQU_grow 1 [v0, v1, v2] (.int 2 :: st) h Φ) : x_K P d mQU_grow 0 [v0, v1, v2] st h Φ := x_K1 k (fun _ _ j => xj_iconst dQU_grow_0 (v := 2) (by decide) j)
theorem dQU_grow_1 : decode cQU_grow 1 = .ok (.aload_n 0, 1) := by decide +kernel
theorem eQU_grow_1 {v1 v2 : Option Value} {u : Value} (hu : u.isRef = true) (k : x_K P d mQU_grow 2 [some u, v1, v2] (u :: st) h Φ) : x_K P d mQU_grow 1 [some u, v1, v2] st h Φ := x_K1 k (fun _ _ j => xj_aload_n dQU_grow_1 rfl rfl hu j)
theorem dQU_grow_2 : decode cQU_grow 2 = .ok (.getfield 9, 3) := by decide +kernel
theorem eQU_grow_2 {v0 v1 v2 : Option Value} {a : Nat} {fs : List Value} {u : Value} (ha : h.1 a = some (.inr (5, fs))) (hv : fs[0]? = some u) (k : x_K P d mQU_grow 5 [v0, v1, v2] (u :: st) h Φ) : x_K P d mQU_grow 2 [v0, v1, v2] (.ref a :: st) h Φ := x_K1 k (fun _ _ j => xj_get dQU_grow_2 okcQU rfl (j := 0) (by decide) xm_111 ha hv j)
theorem dQU_grow_5 : decode cQU_grow 5 = .ok (.arraylength, 1) := by decide +kernel
theorem eQU_grow_5 {v0 v1 v2 : Option Value} {a t : Nat} {x : vp_A} {ty : FieldType} (ha : h.1 a = some (.inl (t, x))) (ht : (x_tys P.2.2.1)[t]? = some (P.2.2.1 t, ty)) (k : x_K P d mQU_grow 6 [v0, v1, v2] (.int (Int32.ofNat x.1) :: st) h Φ) : x_K P d mQU_grow 5 [v0, v1, v2] (.ref a :: st) h Φ := x_K1 k (fun _ _ j => xj_alen dQU_grow_5 ha ht rfl j)
theorem dQU_grow_6 : decode cQU_grow 6 = .ok (.imul, 1) := by decide +kernel
theorem eQU_grow_6 {v0 v1 v2 : Option Value} {x y : Int32} (k : x_K P d mQU_grow 7 [v0, v1, v2] (.int (x * y) :: st) h Φ) : x_K P d mQU_grow 6 [v0, v1, v2] (.int y :: .int x :: st) h Φ := x_K1 k (fun _ _ j => xj_imul dQU_grow_6 j)
theorem dQU_grow_7 : decode cQU_grow 7 = .ok (.newarray .int, 2) := by decide +kernel
theorem eQU_grow_7 {v0 v1 v2 : Option Value} {x : Int32} {n : Nat} (hx : ¬ x < 0) (hn : x.toNatClampNeg = n) (hb : n * componentBytes .int ≤ 536870912) (k : x_K P d mQU_grow 9 [v0, v1, v2] (.ref h.2.1 :: st) (x_new h (.inl (0, n, .inl (fun _ => 0))) n) Φ) : x_K P d mQU_grow 7 [v0, v1, v2] (.int x :: st) h Φ := x_K1 k (fun _ _ j => xj_newa (t := 0) (a0 := (n, .inl (fun _ => 0))) dQU_grow_7 xm_78 rfl rfl (fun _ _ h9 => h9) (fun _ => rfl) hx hn hb j)
theorem dQU_grow_9 : decode cQU_grow 9 = .ok (.astore_n 1, 1) := by decide +kernel
theorem eQU_grow_9 {v0 v1 v2 : Option Value} {u : Value} (hu : u.isRef = true) (k : x_K P d mQU_grow 10 [v0, some u, v2] st h Φ) : x_K P d mQU_grow 9 [v0, v1, v2] (u :: st) h Φ := x_K1 k (fun _ _ j => xj_astore_n dQU_grow_9 rfl rfl hu j)
theorem dQU_grow_10 : decode cQU_grow 10 = .ok (.iconst 0, 1) := by decide +kernel
theorem eQU_grow_10 {v0 v1 v2 : Option Value} (k : x_K P d mQU_grow 11 [v0, v1, v2] (.int 0 :: st) h Φ) : x_K P d mQU_grow 10 [v0, v1, v2] st h Φ := x_K1 k (fun _ _ j => xj_iconst dQU_grow_10 (v := 0) (by decide) j)
theorem dQU_grow_11 : decode cQU_grow 11 = .ok (.istore_n 2, 1) := by decide +kernel
theorem eQU_grow_11 {v0 v1 v2 : Option Value} {x : Int32} (k : x_K P d mQU_grow 12 [v0, v1, some (.int x)] st h Φ) : x_K P d mQU_grow 11 [v0, v1, v2] (.int x :: st) h Φ := x_K1 k (fun _ _ j => xj_istore_n dQU_grow_11 rfl rfl j)
theorem dQU_grow_12 : decode cQU_grow 12 = .ok (.iload_n 2, 1) := by decide +kernel
theorem eQU_grow_12 {v0 v1 : Option Value} {x : Int32} (k : x_K P d mQU_grow 13 [v0, v1, some (.int x)] (.int x :: st) h Φ) : x_K P d mQU_grow 12 [v0, v1, some (.int x)] st h Φ := x_K1 k (fun _ _ j => xj_iload_n dQU_grow_12 rfl rfl j)
theorem dQU_grow_13 : decode cQU_grow 13 = .ok (.aload_n 0, 1) := by decide +kernel
theorem eQU_grow_13 {v1 v2 : Option Value} {u : Value} (hu : u.isRef = true) (k : x_K P d mQU_grow 14 [some u, v1, v2] (u :: st) h Φ) : x_K P d mQU_grow 13 [some u, v1, v2] st h Φ := x_K1 k (fun _ _ j => xj_aload_n dQU_grow_13 rfl rfl hu j)
theorem dQU_grow_14 : decode cQU_grow 14 = .ok (.getfield 15, 3) := by decide +kernel
theorem eQU_grow_14 {v0 v1 v2 : Option Value} {a : Nat} {fs : List Value} {u : Value} (ha : h.1 a = some (.inr (5, fs))) (hv : fs[2]? = some u) (k : x_K P d mQU_grow 17 [v0, v1, v2] (u :: st) h Φ) : x_K P d mQU_grow 14 [v0, v1, v2] (.ref a :: st) h Φ := x_K1 k (fun _ _ j => xj_get dQU_grow_14 okcQU rfl (j := 2) (by decide) xm_113 ha hv j)
theorem dQU_grow_17 : decode cQU_grow 17 = .ok (.if_icmp .ge 31, 3) := by decide +kernel
theorem eQU_grow_17 {v0 v1 v2 : Option Value} {x y : Int32} (kt : y ≤ x → x_K P d mQU_grow 48 [v0, v1, v2] st h Φ) (kf : ¬ y ≤ x → x_K P d mQU_grow 20 [v0, v1, v2] st h Φ) : x_K P d mQU_grow 17 [v0, v1, v2] (.int y :: .int x :: st) h Φ := x_K2 (Classical.em (y ≤ x)) kt kf (fun a _ _ j => xj_icmp_ge dQU_grow_17 (tgt := 48) (by decide) (fun _ => j) (fun b => absurd a b)) (fun a _ _ j => xj_icmp_ge dQU_grow_17 (tgt := 48) (by decide) (fun b => absurd b a) (fun _ => j))
theorem dQU_grow_20 : decode cQU_grow 20 = .ok (.aload_n 1, 1) := by decide +kernel
theorem eQU_grow_20 {v0 v2 : Option Value} {u : Value} (hu : u.isRef = true) (k : x_K P d mQU_grow 21 [v0, some u, v2] (u :: st) h Φ) : x_K P d mQU_grow 20 [v0, some u, v2] st h Φ := x_K1 k (fun _ _ j => xj_aload_n dQU_grow_20 rfl rfl hu j)
theorem dQU_grow_21 : decode cQU_grow 21 = .ok (.iload_n 2, 1) := by decide +kernel
theorem eQU_grow_21 {v0 v1 : Option Value} {x : Int32} (k : x_K P d mQU_grow 22 [v0, v1, some (.int x)] (.int x :: st) h Φ) : x_K P d mQU_grow 21 [v0, v1, some (.int x)] st h Φ := x_K1 k (fun _ _ j => xj_iload_n dQU_grow_21 rfl rfl j)
theorem dQU_grow_22 : decode cQU_grow 22 = .ok (.aload_n 0, 1) := by decide +kernel
theorem eQU_grow_22 {v1 v2 : Option Value} {u : Value} (hu : u.isRef = true) (k : x_K P d mQU_grow 23 [some u, v1, v2] (u :: st) h Φ) : x_K P d mQU_grow 22 [some u, v1, v2] st h Φ := x_K1 k (fun _ _ j => xj_aload_n dQU_grow_22 rfl rfl hu j)
theorem dQU_grow_23 : decode cQU_grow 23 = .ok (.getfield 9, 3) := by decide +kernel
theorem eQU_grow_23 {v0 v1 v2 : Option Value} {a : Nat} {fs : List Value} {u : Value} (ha : h.1 a = some (.inr (5, fs))) (hv : fs[0]? = some u) (k : x_K P d mQU_grow 26 [v0, v1, v2] (u :: st) h Φ) : x_K P d mQU_grow 23 [v0, v1, v2] (.ref a :: st) h Φ := x_K1 k (fun _ _ j => xj_get dQU_grow_23 okcQU rfl (j := 0) (by decide) xm_111 ha hv j)
theorem dQU_grow_26 : decode cQU_grow 26 = .ok (.aload_n 0, 1) := by decide +kernel
theorem eQU_grow_26 {v1 v2 : Option Value} {u : Value} (hu : u.isRef = true) (k : x_K P d mQU_grow 27 [some u, v1, v2] (u :: st) h Φ) : x_K P d mQU_grow 26 [some u, v1, v2] st h Φ := x_K1 k (fun _ _ j => xj_aload_n dQU_grow_26 rfl rfl hu j)
theorem dQU_grow_27 : decode cQU_grow 27 = .ok (.getfield 22, 3) := by decide +kernel
theorem eQU_grow_27 {v0 v1 v2 : Option Value} {a : Nat} {fs : List Value} {u : Value} (ha : h.1 a = some (.inr (5, fs))) (hv : fs[1]? = some u) (k : x_K P d mQU_grow 30 [v0, v1, v2] (u :: st) h Φ) : x_K P d mQU_grow 27 [v0, v1, v2] (.ref a :: st) h Φ := x_K1 k (fun _ _ j => xj_get dQU_grow_27 okcQU rfl (j := 1) (by decide) xm_112 ha hv j)
theorem dQU_grow_30 : decode cQU_grow 30 = .ok (.iload_n 2, 1) := by decide +kernel
theorem eQU_grow_30 {v0 v1 : Option Value} {x : Int32} (k : x_K P d mQU_grow 31 [v0, v1, some (.int x)] (.int x :: st) h Φ) : x_K P d mQU_grow 30 [v0, v1, some (.int x)] st h Φ := x_K1 k (fun _ _ j => xj_iload_n dQU_grow_30 rfl rfl j)
theorem dQU_grow_31 : decode cQU_grow 31 = .ok (.iadd, 1) := by decide +kernel
theorem eQU_grow_31 {v0 v1 v2 : Option Value} {x y : Int32} (k : x_K P d mQU_grow 32 [v0, v1, v2] (.int (x + y) :: st) h Φ) : x_K P d mQU_grow 31 [v0, v1, v2] (.int y :: .int x :: st) h Φ := x_K1 k (fun _ _ j => xj_iadd dQU_grow_31 j)
theorem dQU_grow_32 : decode cQU_grow 32 = .ok (.aload_n 0, 1) := by decide +kernel
theorem eQU_grow_32 {v1 v2 : Option Value} {u : Value} (hu : u.isRef = true) (k : x_K P d mQU_grow 33 [some u, v1, v2] (u :: st) h Φ) : x_K P d mQU_grow 32 [some u, v1, v2] st h Φ := x_K1 k (fun _ _ j => xj_aload_n dQU_grow_32 rfl rfl hu j)
theorem dQU_grow_33 : decode cQU_grow 33 = .ok (.getfield 9, 3) := by decide +kernel
theorem eQU_grow_33 {v0 v1 v2 : Option Value} {a : Nat} {fs : List Value} {u : Value} (ha : h.1 a = some (.inr (5, fs))) (hv : fs[0]? = some u) (k : x_K P d mQU_grow 36 [v0, v1, v2] (u :: st) h Φ) : x_K P d mQU_grow 33 [v0, v1, v2] (.ref a :: st) h Φ := x_K1 k (fun _ _ j => xj_get dQU_grow_33 okcQU rfl (j := 0) (by decide) xm_111 ha hv j)
theorem dQU_grow_36 : decode cQU_grow 36 = .ok (.arraylength, 1) := by decide +kernel
theorem eQU_grow_36 {v0 v1 v2 : Option Value} {a t : Nat} {x : vp_A} {ty : FieldType} (ha : h.1 a = some (.inl (t, x))) (ht : (x_tys P.2.2.1)[t]? = some (P.2.2.1 t, ty)) (k : x_K P d mQU_grow 37 [v0, v1, v2] (.int (Int32.ofNat x.1) :: st) h Φ) : x_K P d mQU_grow 36 [v0, v1, v2] (.ref a :: st) h Φ := x_K1 k (fun _ _ j => xj_alen dQU_grow_36 ha ht rfl j)
theorem dQU_grow_37 : decode cQU_grow 37 = .ok (.iconst 1, 1) := by decide +kernel
theorem eQU_grow_37 {v0 v1 v2 : Option Value} (k : x_K P d mQU_grow 38 [v0, v1, v2] (.int 1 :: st) h Φ) : x_K P d mQU_grow 37 [v0, v1, v2] st h Φ := x_K1 k (fun _ _ j => xj_iconst dQU_grow_37 (v := 1) (by decide) j)
theorem dQU_grow_38 : decode cQU_grow 38 = .ok (.isub, 1) := by decide +kernel
theorem eQU_grow_38 {v0 v1 v2 : Option Value} {x y : Int32} (k : x_K P d mQU_grow 39 [v0, v1, v2] (.int (x - y) :: st) h Φ) : x_K P d mQU_grow 38 [v0, v1, v2] (.int y :: .int x :: st) h Φ := x_K1 k (fun _ _ j => xj_isub dQU_grow_38 j)
theorem dQU_grow_39 : decode cQU_grow 39 = .ok (.iand, 1) := by decide +kernel
theorem eQU_grow_39 {v0 v1 v2 : Option Value} {x y : Int32} (k : x_K P d mQU_grow 40 [v0, v1, v2] (.int (x &&& y) :: st) h Φ) : x_K P d mQU_grow 39 [v0, v1, v2] (.int y :: .int x :: st) h Φ := x_K1 k (fun _ _ j => xj_iand dQU_grow_39 j)
theorem dQU_grow_40 : decode cQU_grow 40 = .ok (.iaload, 1) := by decide +kernel
theorem eQU_grow_40 {v0 v1 v2 : Option Value} {a n : Nat} {f : Nat → Int32} {i : Int32} (ha : h.1 a = some (.inl (0, n, .inl f))) (hi : vp_in i n) (k : x_K P d mQU_grow 41 [v0, v1, v2] (.int (f i.toNatClampNeg) :: st) h Φ) : x_K P d mQU_grow 40 [v0, v1, v2] (.int i :: .ref a :: st) h Φ := x_K1 k (fun _ _ j => xj_iald dQU_grow_40 ha hi j)
theorem dQU_grow_41 : decode cQU_grow 41 = .ok (.iastore, 1) := by decide +kernel
theorem eQU_grow_41 {v0 v1 v2 : Option Value} {a n : Nat} {f : Nat → Int32} {i : Int32} {x : Int32} (ha : h.1 a = some (.inl (0, n, .inl f))) (hi : vp_in i n) (k : x_K P d mQU_grow 42 [v0, v1, v2] st (x_put h a (.inl (0, n, .inl (upd f i.toNatClampNeg x)))) Φ) : x_K P d mQU_grow 41 [v0, v1, v2] (.int x :: .int i :: .ref a :: st) h Φ := x_K1 k (fun _ _ j => xj_iast dQU_grow_41 ha hi j)
theorem dQU_grow_42 : decode cQU_grow 42 = .ok (.iinc 2 1, 3) := by decide +kernel
theorem eQU_grow_42 {v0 v1 : Option Value} {x : Int32} (k : x_K P d mQU_grow 45 [v0, v1, some (.int (x + 1))] st h Φ) : x_K P d mQU_grow 42 [v0, v1, some (.int x)] st h Φ := x_K1 k (fun _ _ j => xj_iinc dQU_grow_42 rfl (v := x + 1) (by rfl) j)
theorem dQU_grow_45 : decode cQU_grow 45 = .ok (.goto (-33), 3) := by decide +kernel
theorem eQU_grow_45 {v0 v1 v2 : Option Value} (k : x_K P d mQU_grow 12 [v0, v1, v2] st h Φ) : x_K P d mQU_grow 45 [v0, v1, v2] st h Φ := x_K1 k (fun _ _ j => xj_goto dQU_grow_45 (tgt := 12) (by decide) j)
theorem dQU_grow_48 : decode cQU_grow 48 = .ok (.aload_n 0, 1) := by decide +kernel
theorem eQU_grow_48 {v1 v2 : Option Value} {u : Value} (hu : u.isRef = true) (k : x_K P d mQU_grow 49 [some u, v1, v2] (u :: st) h Φ) : x_K P d mQU_grow 48 [some u, v1, v2] st h Φ := x_K1 k (fun _ _ j => xj_aload_n dQU_grow_48 rfl rfl hu j)
theorem dQU_grow_49 : decode cQU_grow 49 = .ok (.aload_n 1, 1) := by decide +kernel
theorem eQU_grow_49 {v0 v2 : Option Value} {u : Value} (hu : u.isRef = true) (k : x_K P d mQU_grow 50 [v0, some u, v2] (u :: st) h Φ) : x_K P d mQU_grow 49 [v0, some u, v2] st h Φ := x_K1 k (fun _ _ j => xj_aload_n dQU_grow_49 rfl rfl hu j)
theorem dQU_grow_50 : decode cQU_grow 50 = .ok (.putfield 9, 3) := by decide +kernel
theorem eQU_grow_50 {v0 v1 v2 : Option Value} {a : Nat} {fs : List Value} {z : Nat} (ha : h.1 a = some (.inr (5, fs))) (hl : 0 < fs.length) (k : x_K P d mQU_grow 53 [v0, v1, v2] st (x_put h a (.inr (5, fs.set 0 (.ref z)))) Φ) : x_K P d mQU_grow 50 [v0, v1, v2] (.ref z :: .ref a :: st) h Φ := x_K1 k (fun _ _ j => xj_put dQU_grow_50 okcQU rfl (j := 0) (by decide) xm_111 rfl ha hl (ty := .array (.int)) (by decide +kernel) rfl rfl j)
theorem dQU_grow_53 : decode cQU_grow 53 = .ok (.aload_n 0, 1) := by decide +kernel
theorem eQU_grow_53 {v1 v2 : Option Value} {u : Value} (hu : u.isRef = true) (k : x_K P d mQU_grow 54 [some u, v1, v2] (u :: st) h Φ) : x_K P d mQU_grow 53 [some u, v1, v2] st h Φ := x_K1 k (fun _ _ j => xj_aload_n dQU_grow_53 rfl rfl hu j)
theorem dQU_grow_54 : decode cQU_grow 54 = .ok (.iconst 0, 1) := by decide +kernel
theorem eQU_grow_54 {v0 v1 v2 : Option Value} (k : x_K P d mQU_grow 55 [v0, v1, v2] (.int 0 :: st) h Φ) : x_K P d mQU_grow 54 [v0, v1, v2] st h Φ := x_K1 k (fun _ _ j => xj_iconst dQU_grow_54 (v := 0) (by decide) j)
theorem dQU_grow_55 : decode cQU_grow 55 = .ok (.putfield 22, 3) := by decide +kernel
theorem eQU_grow_55 {v0 v1 v2 : Option Value} {a : Nat} {fs : List Value} {z : Int32} (ha : h.1 a = some (.inr (5, fs))) (hl : 1 < fs.length) (k : x_K P d mQU_grow 58 [v0, v1, v2] st (x_put h a (.inr (5, fs.set 1 (.int z)))) Φ) : x_K P d mQU_grow 55 [v0, v1, v2] (.int z :: .ref a :: st) h Φ := x_K1 k (fun _ _ j => xj_put dQU_grow_55 okcQU rfl (j := 1) (by decide) xm_112 rfl ha hl (ty := .int) (by decide +kernel) rfl rfl j)
theorem dQU_grow_58 : decode cQU_grow 58 = .ok (.return_, 1) := by decide +kernel
theorem eQU_grow_58 {v0 v1 v2 : Option Value} (hΦ : Φ (.returned none) h) : x_K P d mQU_grow 58 [v0, v1, v2] [] h Φ := x_Kret hΦ (xj_vret dQU_grow_58 rfl)
end
