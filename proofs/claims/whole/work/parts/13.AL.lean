section
variable {P : x_P} {d : Nat} {st : List Value} {h : x_H} {Φ : Outcome → x_H → Prop}
theorem dAL_init_0 : decode cAL_init 0 = .ok (.aload_n 0, 1) := by decide +kernel
theorem eAL_init_0 {u : Value} (hu : u.isRef = true) (k : x_K P d mAL_init 1 [some u] (u :: st) h Φ) : x_K P d mAL_init 0 [some u] st h Φ := x_K1 k (fun _ _ j => xj_aload_n dAL_init_0 rfl rfl hu j)
theorem dAL_init_1 : decode cAL_init 1 = .ok (.invokespecial 1, 3) := by decide +kernel
theorem dAL_init_4 : decode cAL_init 4 = .ok (.aload_n 0, 1) := by decide +kernel
theorem eAL_init_4 {u : Value} (hu : u.isRef = true) (k : x_K P d mAL_init 5 [some u] (u :: st) h Φ) : x_K P d mAL_init 4 [some u] st h Φ := x_K1 k (fun _ _ j => xj_aload_n dAL_init_4 rfl rfl hu j)
theorem dAL_init_5 : decode cAL_init 5 = .ok (.getstatic 39, 3) := by decide +kernel
theorem dAL_init_8 : decode cAL_init 8 = .ok (.putfield 9, 3) := by decide +kernel
theorem eAL_init_8 {v0 : Option Value} {a : Nat} {fs : List Value} {z : Nat} (ha : h.1 a = some (.inr (9, fs))) (hl : 0 < fs.length) (k : x_K P d mAL_init 11 [v0] st (x_put h a (.inr (9, fs.set 0 (.ref z)))) Φ) : x_K P d mAL_init 8 [v0] (.ref z :: .ref a :: st) h Φ := x_K1 k (fun _ _ j => xj_put dAL_init_8 okcAL rfl (j := 0) (by decide) xm_58 rfl ha hl (ty := .array (.object "java/lang/Object")) (by decide +kernel) rfl rfl j)
theorem dAL_init_11 : decode cAL_init 11 = .ok (.return_, 1) := by decide +kernel
theorem eAL_init_11 {v0 : Option Value} (hΦ : Φ (.returned none) h) : x_K P d mAL_init 11 [v0] [] h Φ := x_Kret hΦ (xj_vret dAL_init_11 rfl)
theorem dAL_size_0 : decode cAL_size 0 = .ok (.aload_n 0, 1) := by decide +kernel
theorem eAL_size_0 {u : Value} (hu : u.isRef = true) (k : x_K P d mAL_size 1 [some u] (u :: st) h Φ) : x_K P d mAL_size 0 [some u] st h Φ := x_K1 k (fun _ _ j => xj_aload_n dAL_size_0 rfl rfl hu j)
theorem dAL_size_1 : decode cAL_size 1 = .ok (.getfield 48, 3) := by decide +kernel
theorem eAL_size_1 {v0 : Option Value} {a : Nat} {fs : List Value} {u : Value} (ha : h.1 a = some (.inr (9, fs))) (hv : fs[1]? = some u) (k : x_K P d mAL_size 4 [v0] (u :: st) h Φ) : x_K P d mAL_size 1 [v0] (.ref a :: st) h Φ := x_K1 k (fun _ _ j => xj_get dAL_size_1 okcAL rfl (j := 1) (by decide) xm_59 ha hv j)
theorem dAL_size_4 : decode cAL_size 4 = .ok (.ireturn, 1) := by decide +kernel
theorem eAL_size_4 {v0 : Option Value} {x : Int32} (hΦ : Φ (.returned (some (.int x))) h) : x_K P d mAL_size 4 [v0] [.int x] h Φ := x_Kret hΦ (xj_iret dAL_size_4 rfl)
theorem dAL_get_0 : decode cAL_get 0 = .ok (.iload_n 1, 1) := by decide +kernel
theorem eAL_get_0 {v0 : Option Value} {x : Int32} (k : x_K P d mAL_get 1 [v0, some (.int x)] (.int x :: st) h Φ) : x_K P d mAL_get 0 [v0, some (.int x)] st h Φ := x_K1 k (fun _ _ j => xj_iload_n dAL_get_0 rfl rfl j)
theorem dAL_get_1 : decode cAL_get 1 = .ok (.aload_n 0, 1) := by decide +kernel
theorem eAL_get_1 {v1 : Option Value} {u : Value} (hu : u.isRef = true) (k : x_K P d mAL_get 2 [some u, v1] (u :: st) h Φ) : x_K P d mAL_get 1 [some u, v1] st h Φ := x_K1 k (fun _ _ j => xj_aload_n dAL_get_1 rfl rfl hu j)
theorem dAL_get_2 : decode cAL_get 2 = .ok (.getfield 48, 3) := by decide +kernel
theorem eAL_get_2 {v0 v1 : Option Value} {a : Nat} {fs : List Value} {u : Value} (ha : h.1 a = some (.inr (9, fs))) (hv : fs[1]? = some u) (k : x_K P d mAL_get 5 [v0, v1] (u :: st) h Φ) : x_K P d mAL_get 2 [v0, v1] (.ref a :: st) h Φ := x_K1 k (fun _ _ j => xj_get dAL_get_2 okcAL rfl (j := 1) (by decide) xm_59 ha hv j)
theorem dAL_get_5 : decode cAL_get 5 = .ok (.invokestatic 118, 3) := by decide +kernel
set_option maxRecDepth 100000 in
theorem eAL_get_5 {v0 v1 : Option Value} {x1 : Int32} {x2 : Int32} {Ψ : Outcome → x_H → Prop} (hst : (st.map fun u => u.category).sum ≤ 8) (kc : x_K P d mOB_checkIndex 0 [some (.int x1), some (.int x2)] [] h Ψ) (k : ∀ oc h1, Ψ oc h1 → ∃ v, oc = .returned v ∧ x_K P (d + 1) mAL_get 8 [v0, v1] (v.toList ++ st) h1 Φ) : x_K P (d + 1) mAL_get 5 [v0, v1] (.int x2 :: .int x1 :: st) h Φ := x_Kc kc k (fun _ _ _ _ j1 j2 => xj_callS (M2 := mOB_checkIndex) (As := [.int x1, .int x2]) dAL_get_5 xm_227 xm_228 ok_OB_checkIndex rfl (by simp only [List.forall_mem_cons]; exact ⟨rfl, rfl, fun _ h => absurd h List.not_mem_nil⟩) (Nat.le_of_ble_eq_true rfl) hst j1 j2)
theorem dAL_get_8 : decode cAL_get 8 = .ok (.pop, 1) := by decide +kernel
theorem eAL_get_8 {v0 v1 : Option Value} {u : Value} (hu : u.category = 1) (k : x_K P d mAL_get 9 [v0, v1] st h Φ) : x_K P d mAL_get 8 [v0, v1] (u :: st) h Φ := x_K1 k (fun _ _ j => xj_pop dAL_get_8 hu j)
theorem dAL_get_9 : decode cAL_get 9 = .ok (.aload_n 0, 1) := by decide +kernel
theorem eAL_get_9 {v1 : Option Value} {u : Value} (hu : u.isRef = true) (k : x_K P d mAL_get 10 [some u, v1] (u :: st) h Φ) : x_K P d mAL_get 9 [some u, v1] st h Φ := x_K1 k (fun _ _ j => xj_aload_n dAL_get_9 rfl rfl hu j)
theorem dAL_get_10 : decode cAL_get 10 = .ok (.iload_n 1, 1) := by decide +kernel
theorem eAL_get_10 {v0 : Option Value} {x : Int32} (k : x_K P d mAL_get 11 [v0, some (.int x)] (.int x :: st) h Φ) : x_K P d mAL_get 10 [v0, some (.int x)] st h Φ := x_K1 k (fun _ _ j => xj_iload_n dAL_get_10 rfl rfl j)
theorem dAL_get_11 : decode cAL_get 11 = .ok (.invokevirtual 123, 3) := by decide +kernel
set_option maxRecDepth 100000 in
theorem eAL_get_11 {v0 v1 : Option Value} {x1 : Int32} {a : Nat} {fs : List Value} {Ψ : Outcome → x_H → Prop} (ha : h.1 a = some (.inr (9, fs))) (hst : (st.map fun u => u.category).sum ≤ 8) (kc : x_K P d mAL_elementData 0 [some (.ref a), some (.int x1)] [] h Ψ) (k : ∀ oc h1, Ψ oc h1 → ∃ v, oc = .returned v ∧ x_K P (d + 1) mAL_get 14 [v0, v1] (v.toList ++ st) h1 Φ) : x_K P (d + 1) mAL_get 11 [v0, v1] (.int x1 :: .ref a :: st) h Φ := x_Kc kc k (fun _ _ _ _ j1 j2 => xj_callV (M2 := mAL_elementData) (As := [.int x1]) dAL_get_11 xm_233 xm_234 xm_235 ha rfl rfl ok_AL_elementData rfl (by simp only [List.forall_mem_cons]; exact ⟨rfl, rfl, fun _ h => absurd h List.not_mem_nil⟩) (Nat.le_of_ble_eq_true rfl) hst j1 j2)
theorem dAL_get_14 : decode cAL_get 14 = .ok (.areturn, 1) := by decide +kernel
theorem eAL_get_14 {v0 v1 : Option Value} {u : Value} (hu : u.isRef = true) (hΦ : Φ (.returned (some u)) h) : x_K P d mAL_get 14 [v0, v1] [u] h Φ := x_Kret hΦ (xj_aret dAL_get_14 rfl (Or.inl ⟨_, rfl⟩) hu)
theorem dAL_elementData_0 : decode cAL_elementData 0 = .ok (.aload_n 0, 1) := by decide +kernel
theorem eAL_elementData_0 {v1 : Option Value} {u : Value} (hu : u.isRef = true) (k : x_K P d mAL_elementData 1 [some u, v1] (u :: st) h Φ) : x_K P d mAL_elementData 0 [some u, v1] st h Φ := x_K1 k (fun _ _ j => xj_aload_n dAL_elementData_0 rfl rfl hu j)
theorem dAL_elementData_1 : decode cAL_elementData 1 = .ok (.getfield 9, 3) := by decide +kernel
theorem eAL_elementData_1 {v0 v1 : Option Value} {a : Nat} {fs : List Value} {u : Value} (ha : h.1 a = some (.inr (9, fs))) (hv : fs[0]? = some u) (k : x_K P d mAL_elementData 4 [v0, v1] (u :: st) h Φ) : x_K P d mAL_elementData 1 [v0, v1] (.ref a :: st) h Φ := x_K1 k (fun _ _ j => xj_get dAL_elementData_1 okcAL rfl (j := 0) (by decide) xm_58 ha hv j)
theorem dAL_elementData_4 : decode cAL_elementData 4 = .ok (.iload_n 1, 1) := by decide +kernel
theorem eAL_elementData_4 {v0 : Option Value} {x : Int32} (k : x_K P d mAL_elementData 5 [v0, some (.int x)] (.int x :: st) h Φ) : x_K P d mAL_elementData 4 [v0, some (.int x)] st h Φ := x_K1 k (fun _ _ j => xj_iload_n dAL_elementData_4 rfl rfl j)
theorem dAL_elementData_5 : decode cAL_elementData 5 = .ok (.aaload, 1) := by decide +kernel
theorem eAL_elementData_5 {v0 v1 : Option Value} {a n t : Nat} {C : String} {f : Nat → Option Nat} {i : Int32} (ha : h.1 a = some (.inl (t, n, .inr (.inr (.inr (.inr f)))))) (ht : (x_tys P.2.2.1)[t]? = some (P.2.2.1 t, .object C)) (hi : vp_in i n) (k : x_K P d mAL_elementData 6 [v0, v1] (va_rf (f i.toNatClampNeg) :: st) h Φ) : x_K P d mAL_elementData 5 [v0, v1] (.int i :: .ref a :: st) h Φ := x_K1 k (fun _ _ j => xj_aald dAL_elementData_5 ha ht hi j)
theorem dAL_elementData_6 : decode cAL_elementData 6 = .ok (.areturn, 1) := by decide +kernel
theorem eAL_elementData_6 {v0 v1 : Option Value} {u : Value} (hu : u.isRef = true) (hΦ : Φ (.returned (some u)) h) : x_K P d mAL_elementData 6 [v0, v1] [u] h Φ := x_Kret hΦ (xj_aret dAL_elementData_6 rfl (Or.inl ⟨_, rfl⟩) hu)
theorem dAL_add_0 : decode cAL_add 0 = .ok (.aload_n 0, 1) := by decide +kernel
theorem eAL_add_0 {v1 : Option Value} {u : Value} (hu : u.isRef = true) (k : x_K P d mAL_add 1 [some u, v1] (u :: st) h Φ) : x_K P d mAL_add 0 [some u, v1] st h Φ := x_K1 k (fun _ _ j => xj_aload_n dAL_add_0 rfl rfl hu j)
theorem dAL_add_1 : decode cAL_add 1 = .ok (.dup, 1) := by decide +kernel
theorem eAL_add_1 {v0 v1 : Option Value} {u : Value} (hu : u.category = 1) (k : x_K P d mAL_add 2 [v0, v1] (u :: u :: st) h Φ) : x_K P d mAL_add 1 [v0, v1] (u :: st) h Φ := x_K1 k (fun _ _ j => xj_dup dAL_add_1 hu j)
theorem dAL_add_2 : decode cAL_add 2 = .ok (.getfield 63, 3) := by decide +kernel
theorem dAL_add_5 : decode cAL_add 5 = .ok (.iconst 1, 1) := by decide +kernel
theorem eAL_add_5 {v0 v1 : Option Value} (k : x_K P d mAL_add 6 [v0, v1] (.int 1 :: st) h Φ) : x_K P d mAL_add 5 [v0, v1] st h Φ := x_K1 k (fun _ _ j => xj_iconst dAL_add_5 (v := 1) (by decide) j)
theorem dAL_add_6 : decode cAL_add 6 = .ok (.iadd, 1) := by decide +kernel
theorem eAL_add_6 {v0 v1 : Option Value} {x y : Int32} (k : x_K P d mAL_add 7 [v0, v1] (.int (x + y) :: st) h Φ) : x_K P d mAL_add 6 [v0, v1] (.int y :: .int x :: st) h Φ := x_K1 k (fun _ _ j => xj_iadd dAL_add_6 j)
theorem dAL_add_7 : decode cAL_add 7 = .ok (.putfield 63, 3) := by decide +kernel
theorem dAL_add_10 : decode cAL_add 10 = .ok (.aload_n 0, 1) := by decide +kernel
theorem eAL_add_10 {v1 : Option Value} {u : Value} (hu : u.isRef = true) (k : x_K P d mAL_add 11 [some u, v1] (u :: st) h Φ) : x_K P d mAL_add 10 [some u, v1] st h Φ := x_K1 k (fun _ _ j => xj_aload_n dAL_add_10 rfl rfl hu j)
theorem dAL_add_11 : decode cAL_add 11 = .ok (.aload_n 1, 1) := by decide +kernel
theorem eAL_add_11 {v0 : Option Value} {u : Value} (hu : u.isRef = true) (k : x_K P d mAL_add 12 [v0, some u] (u :: st) h Φ) : x_K P d mAL_add 11 [v0, some u] st h Φ := x_K1 k (fun _ _ j => xj_aload_n dAL_add_11 rfl rfl hu j)
theorem dAL_add_12 : decode cAL_add 12 = .ok (.aload_n 0, 1) := by decide +kernel
theorem eAL_add_12 {v1 : Option Value} {u : Value} (hu : u.isRef = true) (k : x_K P d mAL_add 13 [some u, v1] (u :: st) h Φ) : x_K P d mAL_add 12 [some u, v1] st h Φ := x_K1 k (fun _ _ j => xj_aload_n dAL_add_12 rfl rfl hu j)
theorem dAL_add_13 : decode cAL_add 13 = .ok (.getfield 9, 3) := by decide +kernel
theorem eAL_add_13 {v0 v1 : Option Value} {a : Nat} {fs : List Value} {u : Value} (ha : h.1 a = some (.inr (9, fs))) (hv : fs[0]? = some u) (k : x_K P d mAL_add 16 [v0, v1] (u :: st) h Φ) : x_K P d mAL_add 13 [v0, v1] (.ref a :: st) h Φ := x_K1 k (fun _ _ j => xj_get dAL_add_13 okcAL rfl (j := 0) (by decide) xm_58 ha hv j)
theorem dAL_add_16 : decode cAL_add 16 = .ok (.aload_n 0, 1) := by decide +kernel
theorem eAL_add_16 {v1 : Option Value} {u : Value} (hu : u.isRef = true) (k : x_K P d mAL_add 17 [some u, v1] (u :: st) h Φ) : x_K P d mAL_add 16 [some u, v1] st h Φ := x_K1 k (fun _ _ j => xj_aload_n dAL_add_16 rfl rfl hu j)
theorem dAL_add_17 : decode cAL_add 17 = .ok (.getfield 48, 3) := by decide +kernel
theorem eAL_add_17 {v0 v1 : Option Value} {a : Nat} {fs : List Value} {u : Value} (ha : h.1 a = some (.inr (9, fs))) (hv : fs[1]? = some u) (k : x_K P d mAL_add 20 [v0, v1] (u :: st) h Φ) : x_K P d mAL_add 17 [v0, v1] (.ref a :: st) h Φ := x_K1 k (fun _ _ j => xj_get dAL_add_17 okcAL rfl (j := 1) (by decide) xm_59 ha hv j)
theorem dAL_add_20 : decode cAL_add 20 = .ok (.invokevirtual 131, 3) := by decide +kernel
set_option maxRecDepth 100000 in
theorem eAL_add_20 {v0 v1 : Option Value} {u1 : Value} {u2 : Value} {x3 : Int32} {a : Nat} {fs : List Value} {Ψ : Outcome → x_H → Prop} (ha : h.1 a = some (.inr (9, fs))) (hu1 : u1.category = 1) (hu2 : u2.category = 1) (hst : (st.map fun u => u.category).sum ≤ 8) (kc : x_K P d mAL_add2 0 [some (.ref a), some (u1), some (u2), some (.int x3)] [] h Ψ) (k : ∀ oc h1, Ψ oc h1 → ∃ v, oc = .returned v ∧ x_K P (d + 1) mAL_add 23 [v0, v1] (v.toList ++ st) h1 Φ) : x_K P (d + 1) mAL_add 20 [v0, v1] (.int x3 :: u2 :: u1 :: .ref a :: st) h Φ := x_Kc kc k (fun _ _ _ _ j1 j2 => xj_callV (M2 := mAL_add2) (As := [u1, u2, .int x3]) dAL_add_20 xm_548 xm_550 xs_16 ha rfl rfl ok_AL_add2 rfl (by simp only [List.forall_mem_cons]; exact ⟨rfl, hu1, hu2, rfl, fun _ h => absurd h List.not_mem_nil⟩) (Nat.le_of_ble_eq_true rfl) hst j1 j2)
theorem dAL_add_23 : decode cAL_add 23 = .ok (.iconst 1, 1) := by decide +kernel
theorem eAL_add_23 {v0 v1 : Option Value} (k : x_K P d mAL_add 24 [v0, v1] (.int 1 :: st) h Φ) : x_K P d mAL_add 23 [v0, v1] st h Φ := x_K1 k (fun _ _ j => xj_iconst dAL_add_23 (v := 1) (by decide) j)
theorem dAL_add_24 : decode cAL_add 24 = .ok (.ireturn, 1) := by decide +kernel
theorem eAL_add_24 {v0 v1 : Option Value} {x : Int32} (hn : narrow (.boolean) (.int x) = .int x) (hΦ : Φ (.returned (some (.int x))) h) : x_K P d mAL_add 24 [v0, v1] [.int x] h Φ := x_Kret hΦ (xj_zret dAL_add_24 rfl hn)
theorem dAL_add2_0 : decode cAL_add2 0 = .ok (.iload_n 3, 1) := by decide +kernel
theorem eAL_add2_0 {v0 v1 v2 : Option Value} {x : Int32} (k : x_K P d mAL_add2 1 [v0, v1, v2, some (.int x)] (.int x :: st) h Φ) : x_K P d mAL_add2 0 [v0, v1, v2, some (.int x)] st h Φ := x_K1 k (fun _ _ j => xj_iload_n dAL_add2_0 rfl rfl j)
theorem dAL_add2_1 : decode cAL_add2 1 = .ok (.aload_n 2, 1) := by decide +kernel
theorem eAL_add2_1 {v0 v1 v3 : Option Value} {u : Value} (hu : u.isRef = true) (k : x_K P d mAL_add2 2 [v0, v1, some u, v3] (u :: st) h Φ) : x_K P d mAL_add2 1 [v0, v1, some u, v3] st h Φ := x_K1 k (fun _ _ j => xj_aload_n dAL_add2_1 rfl rfl hu j)
theorem dAL_add2_2 : decode cAL_add2 2 = .ok (.arraylength, 1) := by decide +kernel
theorem eAL_add2_2 {v0 v1 v2 v3 : Option Value} {a t : Nat} {x : vp_A} {ty : FieldType} (ha : h.1 a = some (.inl (t, x))) (ht : (x_tys P.2.2.1)[t]? = some (P.2.2.1 t, ty)) (k : x_K P d mAL_add2 3 [v0, v1, v2, v3] (.int (Int32.ofNat x.1) :: st) h Φ) : x_K P d mAL_add2 2 [v0, v1, v2, v3] (.ref a :: st) h Φ := x_K1 k (fun _ _ j => xj_alen dAL_add2_2 ha ht rfl j)
theorem dAL_add2_3 : decode cAL_add2 3 = .ok (.if_icmp .ne 8, 3) := by decide +kernel
theorem eAL_add2_3 {v0 v1 v2 v3 : Option Value} {x y : Int32} (kt : ¬ x = y → x_K P d mAL_add2 11 [v0, v1, v2, v3] st h Φ) (kf : x = y → x_K P d mAL_add2 6 [v0, v1, v2, v3] st h Φ) : x_K P d mAL_add2 3 [v0, v1, v2, v3] (.int y :: .int x :: st) h Φ := x_K2 (Classical.em (x = y)) kf kt (fun a _ _ j => xj_icmp_ne dAL_add2_3 (tgt := 11) (by decide) (fun b => absurd a b) (fun _ => j)) (fun a _ _ j => xj_icmp_ne dAL_add2_3 (tgt := 11) (by decide) (fun _ => j) (fun b => absurd b a))
theorem dAL_add2_6 : decode cAL_add2 6 = .ok (.aload_n 0, 1) := by decide +kernel
theorem eAL_add2_6 {v1 v2 v3 : Option Value} {u : Value} (hu : u.isRef = true) (k : x_K P d mAL_add2 7 [some u, v1, v2, v3] (u :: st) h Φ) : x_K P d mAL_add2 6 [some u, v1, v2, v3] st h Φ := x_K1 k (fun _ _ j => xj_aload_n dAL_add2_6 rfl rfl hu j)
theorem dAL_add2_7 : decode cAL_add2 7 = .ok (.invokevirtual 129, 3) := by decide +kernel
set_option maxRecDepth 100000 in
theorem eAL_add2_7 {v0 v1 v2 v3 : Option Value} {a : Nat} {fs : List Value} {Ψ : Outcome → x_H → Prop} (ha : h.1 a = some (.inr (9, fs))) (hst : (st.map fun u => u.category).sum ≤ 8) (kc : x_K P d mAL_grow 0 [some (.ref a)] [] h Ψ) (k : ∀ oc h1, Ψ oc h1 → ∃ v, oc = .returned v ∧ x_K P (d + 1) mAL_add2 10 [v0, v1, v2, v3] (v.toList ++ st) h1 Φ) : x_K P (d + 1) mAL_add2 7 [v0, v1, v2, v3] (.ref a :: st) h Φ := x_Kc kc k (fun _ _ _ _ j1 j2 => xj_callV (M2 := mAL_grow) (As := []) dAL_add2_7 xm_552 xm_554 xs_17 ha rfl rfl ok_AL_grow rfl (by simp only [List.forall_mem_cons]; exact ⟨rfl, fun _ h => absurd h List.not_mem_nil⟩) (Nat.le_of_ble_eq_true rfl) hst j1 j2)
theorem dAL_add2_10 : decode cAL_add2 10 = .ok (.astore_n 2, 1) := by decide +kernel
theorem eAL_add2_10 {v0 v1 v2 v3 : Option Value} {u : Value} (hu : u.isRef = true) (k : x_K P d mAL_add2 11 [v0, v1, some u, v3] st h Φ) : x_K P d mAL_add2 10 [v0, v1, v2, v3] (u :: st) h Φ := x_K1 k (fun _ _ j => xj_astore_n dAL_add2_10 rfl rfl hu j)
theorem dAL_add2_11 : decode cAL_add2 11 = .ok (.aload_n 2, 1) := by decide +kernel
theorem eAL_add2_11 {v0 v1 v3 : Option Value} {u : Value} (hu : u.isRef = true) (k : x_K P d mAL_add2 12 [v0, v1, some u, v3] (u :: st) h Φ) : x_K P d mAL_add2 11 [v0, v1, some u, v3] st h Φ := x_K1 k (fun _ _ j => xj_aload_n dAL_add2_11 rfl rfl hu j)
theorem dAL_add2_12 : decode cAL_add2 12 = .ok (.iload_n 3, 1) := by decide +kernel
theorem eAL_add2_12 {v0 v1 v2 : Option Value} {x : Int32} (k : x_K P d mAL_add2 13 [v0, v1, v2, some (.int x)] (.int x :: st) h Φ) : x_K P d mAL_add2 12 [v0, v1, v2, some (.int x)] st h Φ := x_K1 k (fun _ _ j => xj_iload_n dAL_add2_12 rfl rfl j)
theorem dAL_add2_13 : decode cAL_add2 13 = .ok (.aload_n 1, 1) := by decide +kernel
theorem eAL_add2_13 {v0 v2 v3 : Option Value} {u : Value} (hu : u.isRef = true) (k : x_K P d mAL_add2 14 [v0, some u, v2, v3] (u :: st) h Φ) : x_K P d mAL_add2 13 [v0, some u, v2, v3] st h Φ := x_K1 k (fun _ _ j => xj_aload_n dAL_add2_13 rfl rfl hu j)
theorem dAL_add2_14 : decode cAL_add2 14 = .ok (.aastore, 1) := by decide +kernel
theorem dAL_add2_15 : decode cAL_add2 15 = .ok (.aload_n 0, 1) := by decide +kernel
theorem eAL_add2_15 {v1 v2 v3 : Option Value} {u : Value} (hu : u.isRef = true) (k : x_K P d mAL_add2 16 [some u, v1, v2, v3] (u :: st) h Φ) : x_K P d mAL_add2 15 [some u, v1, v2, v3] st h Φ := x_K1 k (fun _ _ j => xj_aload_n dAL_add2_15 rfl rfl hu j)
theorem dAL_add2_16 : decode cAL_add2 16 = .ok (.iload_n 3, 1) := by decide +kernel
theorem eAL_add2_16 {v0 v1 v2 : Option Value} {x : Int32} (k : x_K P d mAL_add2 17 [v0, v1, v2, some (.int x)] (.int x :: st) h Φ) : x_K P d mAL_add2 16 [v0, v1, v2, some (.int x)] st h Φ := x_K1 k (fun _ _ j => xj_iload_n dAL_add2_16 rfl rfl j)
theorem dAL_add2_17 : decode cAL_add2 17 = .ok (.iconst 1, 1) := by decide +kernel
theorem eAL_add2_17 {v0 v1 v2 v3 : Option Value} (k : x_K P d mAL_add2 18 [v0, v1, v2, v3] (.int 1 :: st) h Φ) : x_K P d mAL_add2 17 [v0, v1, v2, v3] st h Φ := x_K1 k (fun _ _ j => xj_iconst dAL_add2_17 (v := 1) (by decide) j)
theorem dAL_add2_18 : decode cAL_add2 18 = .ok (.iadd, 1) := by decide +kernel
theorem eAL_add2_18 {v0 v1 v2 v3 : Option Value} {x y : Int32} (k : x_K P d mAL_add2 19 [v0, v1, v2, v3] (.int (x + y) :: st) h Φ) : x_K P d mAL_add2 18 [v0, v1, v2, v3] (.int y :: .int x :: st) h Φ := x_K1 k (fun _ _ j => xj_iadd dAL_add2_18 j)
theorem dAL_add2_19 : decode cAL_add2 19 = .ok (.putfield 48, 3) := by decide +kernel
theorem eAL_add2_19 {v0 v1 v2 v3 : Option Value} {a : Nat} {fs : List Value} {z : Int32} (ha : h.1 a = some (.inr (9, fs))) (hl : 1 < fs.length) (k : x_K P d mAL_add2 22 [v0, v1, v2, v3] st (x_put h a (.inr (9, fs.set 1 (.int z)))) Φ) : x_K P d mAL_add2 19 [v0, v1, v2, v3] (.int z :: .ref a :: st) h Φ := x_K1 k (fun _ _ j => xj_put dAL_add2_19 okcAL rfl (j := 1) (by decide) xm_59 rfl ha hl (ty := .int) (by decide +kernel) rfl rfl j)
theorem dAL_add2_22 : decode cAL_add2 22 = .ok (.return_, 1) := by decide +kernel
theorem eAL_add2_22 {v0 v1 v2 v3 : Option Value} (hΦ : Φ (.returned none) h) : x_K P d mAL_add2 22 [v0, v1, v2, v3] [] h Φ := x_Kret hΦ (xj_vret dAL_add2_22 rfl)
theorem dAL_grow_0 : decode cAL_grow 0 = .ok (.aload_n 0, 1) := by decide +kernel
theorem eAL_grow_0 {u : Value} (hu : u.isRef = true) (k : x_K P d mAL_grow 1 [some u] (u :: st) h Φ) : x_K P d mAL_grow 0 [some u] st h Φ := x_K1 k (fun _ _ j => xj_aload_n dAL_grow_0 rfl rfl hu j)
theorem dAL_grow_1 : decode cAL_grow 1 = .ok (.aload_n 0, 1) := by decide +kernel
theorem eAL_grow_1 {u : Value} (hu : u.isRef = true) (k : x_K P d mAL_grow 2 [some u] (u :: st) h Φ) : x_K P d mAL_grow 1 [some u] st h Φ := x_K1 k (fun _ _ j => xj_aload_n dAL_grow_1 rfl rfl hu j)
theorem dAL_grow_2 : decode cAL_grow 2 = .ok (.getfield 48, 3) := by decide +kernel
theorem eAL_grow_2 {v0 : Option Value} {a : Nat} {fs : List Value} {u : Value} (ha : h.1 a = some (.inr (9, fs))) (hv : fs[1]? = some u) (k : x_K P d mAL_grow 5 [v0] (u :: st) h Φ) : x_K P d mAL_grow 2 [v0] (.ref a :: st) h Φ := x_K1 k (fun _ _ j => xj_get dAL_grow_2 okcAL rfl (j := 1) (by decide) xm_59 ha hv j)
theorem dAL_grow_5 : decode cAL_grow 5 = .ok (.iconst 1, 1) := by decide +kernel
theorem eAL_grow_5 {v0 : Option Value} (k : x_K P d mAL_grow 6 [v0] (.int 1 :: st) h Φ) : x_K P d mAL_grow 5 [v0] st h Φ := x_K1 k (fun _ _ j => xj_iconst dAL_grow_5 (v := 1) (by decide) j)
theorem dAL_grow_6 : decode cAL_grow 6 = .ok (.iadd, 1) := by decide +kernel
theorem eAL_grow_6 {v0 : Option Value} {x y : Int32} (k : x_K P d mAL_grow 7 [v0] (.int (x + y) :: st) h Φ) : x_K P d mAL_grow 6 [v0] (.int y :: .int x :: st) h Φ := x_K1 k (fun _ _ j => xj_iadd dAL_grow_6 j)
theorem dAL_grow_7 : decode cAL_grow 7 = .ok (.invokevirtual 69, 3) := by decide +kernel
set_option maxRecDepth 100000 in
theorem eAL_grow_7 {v0 : Option Value} {x1 : Int32} {a : Nat} {fs : List Value} {Ψ : Outcome → x_H → Prop} (ha : h.1 a = some (.inr (9, fs))) (hst : (st.map fun u => u.category).sum ≤ 8) (kc : x_K P d mAL_grow2 0 [some (.ref a), some (.int x1), none, none] [] h Ψ) (k : ∀ oc h1, Ψ oc h1 → ∃ v, oc = .returned v ∧ x_K P (d + 1) mAL_grow 10 [v0] (v.toList ++ st) h1 Φ) : x_K P (d + 1) mAL_grow 7 [v0] (.int x1 :: .ref a :: st) h Φ := x_Kc kc k (fun _ _ _ _ j1 j2 => xj_callV (M2 := mAL_grow2) (As := [.int x1]) dAL_grow_7 xm_556 xm_558 xs_18 ha rfl rfl ok_AL_grow2 rfl (by simp only [List.forall_mem_cons]; exact ⟨rfl, rfl, fun _ h => absurd h List.not_mem_nil⟩) (Nat.le_of_ble_eq_true rfl) hst j1 j2)
theorem dAL_grow_10 : decode cAL_grow 10 = .ok (.areturn, 1) := by decide +kernel
theorem eAL_grow_10 {v0 : Option Value} {u : Value} (hu : u.isRef = true) (hΦ : Φ (.returned (some u)) h) : x_K P d mAL_grow 10 [v0] [u] h Φ := x_Kret hΦ (xj_aret dAL_grow_10 rfl (Or.inr ⟨_, rfl⟩) hu)
theorem dAL_grow2_0 : decode cAL_grow2 0 = .ok (.aload_n 0, 1) := by decide +kernel
theorem eAL_grow2_0 {v1 v2 v3 : Option Value} {u : Value} (hu : u.isRef = true) (k : x_K P d mAL_grow2 1 [some u, v1, v2, v3] (u :: st) h Φ) : x_K P d mAL_grow2 0 [some u, v1, v2, v3] st h Φ := x_K1 k (fun _ _ j => xj_aload_n dAL_grow2_0 rfl rfl hu j)
theorem dAL_grow2_1 : decode cAL_grow2 1 = .ok (.getfield 9, 3) := by decide +kernel
theorem eAL_grow2_1 {v0 v1 v2 v3 : Option Value} {a : Nat} {fs : List Value} {u : Value} (ha : h.1 a = some (.inr (9, fs))) (hv : fs[0]? = some u) (k : x_K P d mAL_grow2 4 [v0, v1, v2, v3] (u :: st) h Φ) : x_K P d mAL_grow2 1 [v0, v1, v2, v3] (.ref a :: st) h Φ := x_K1 k (fun _ _ j => xj_get dAL_grow2_1 okcAL rfl (j := 0) (by decide) xm_58 ha hv j)
theorem dAL_grow2_4 : decode cAL_grow2 4 = .ok (.arraylength, 1) := by decide +kernel
theorem eAL_grow2_4 {v0 v1 v2 v3 : Option Value} {a t : Nat} {x : vp_A} {ty : FieldType} (ha : h.1 a = some (.inl (t, x))) (ht : (x_tys P.2.2.1)[t]? = some (P.2.2.1 t, ty)) (k : x_K P d mAL_grow2 5 [v0, v1, v2, v3] (.int (Int32.ofNat x.1) :: st) h Φ) : x_K P d mAL_grow2 4 [v0, v1, v2, v3] (.ref a :: st) h Φ := x_K1 k (fun _ _ j => xj_alen dAL_grow2_4 ha ht rfl j)
theorem dAL_grow2_5 : decode cAL_grow2 5 = .ok (.istore_n 2, 1) := by decide +kernel
theorem eAL_grow2_5 {v0 v1 v2 v3 : Option Value} {x : Int32} (k : x_K P d mAL_grow2 6 [v0, v1, some (.int x), v3] st h Φ) : x_K P d mAL_grow2 5 [v0, v1, v2, v3] (.int x :: st) h Φ := x_K1 k (fun _ _ j => xj_istore_n dAL_grow2_5 rfl rfl j)
theorem dAL_grow2_6 : decode cAL_grow2 6 = .ok (.iload_n 2, 1) := by decide +kernel
theorem eAL_grow2_6 {v0 v1 v3 : Option Value} {x : Int32} (k : x_K P d mAL_grow2 7 [v0, v1, some (.int x), v3] (.int x :: st) h Φ) : x_K P d mAL_grow2 6 [v0, v1, some (.int x), v3] st h Φ := x_K1 k (fun _ _ j => xj_iload_n dAL_grow2_6 rfl rfl j)
theorem dAL_grow2_7 : decode cAL_grow2 7 = .ok (.ifCond .gt 13, 3) := by decide +kernel
theorem eAL_grow2_7 {v0 v1 v2 v3 : Option Value} {x : Int32} (kt : 0 < x → x_K P d mAL_grow2 20 [v0, v1, v2, v3] st h Φ) (kf : ¬ 0 < x → x_K P d mAL_grow2 10 [v0, v1, v2, v3] st h Φ) : x_K P d mAL_grow2 7 [v0, v1, v2, v3] (.int x :: st) h Φ := x_K2 (Classical.em (0 < x)) kt kf (fun a _ _ j => xj_if_gt dAL_grow2_7 (tgt := 20) (by decide) (fun _ => j) (fun b => absurd a b)) (fun a _ _ j => xj_if_gt dAL_grow2_7 (tgt := 20) (by decide) (fun b => absurd b a) (fun _ => j))
theorem dAL_grow2_10 : decode cAL_grow2 10 = .ok (.aload_n 0, 1) := by decide +kernel
theorem eAL_grow2_10 {v1 v2 v3 : Option Value} {u : Value} (hu : u.isRef = true) (k : x_K P d mAL_grow2 11 [some u, v1, v2, v3] (u :: st) h Φ) : x_K P d mAL_grow2 10 [some u, v1, v2, v3] st h Φ := x_K1 k (fun _ _ j => xj_aload_n dAL_grow2_10 rfl rfl hu j)
theorem dAL_grow2_11 : decode cAL_grow2 11 = .ok (.getfield 9, 3) := by decide +kernel
theorem eAL_grow2_11 {v0 v1 v2 v3 : Option Value} {a : Nat} {fs : List Value} {u : Value} (ha : h.1 a = some (.inr (9, fs))) (hv : fs[0]? = some u) (k : x_K P d mAL_grow2 14 [v0, v1, v2, v3] (u :: st) h Φ) : x_K P d mAL_grow2 11 [v0, v1, v2, v3] (.ref a :: st) h Φ := x_K1 k (fun _ _ j => xj_get dAL_grow2_11 okcAL rfl (j := 0) (by decide) xm_58 ha hv j)
theorem dAL_grow2_14 : decode cAL_grow2 14 = .ok (.getstatic 39, 3) := by decide +kernel
theorem dAL_grow2_17 : decode cAL_grow2 17 = .ok (.if_acmp .eq 28, 3) := by decide +kernel
theorem dAL_grow2_20 : decode cAL_grow2 20 = .ok (.iload_n 2, 1) := by decide +kernel
theorem eAL_grow2_20 {v0 v1 v3 : Option Value} {x : Int32} (k : x_K P d mAL_grow2 21 [v0, v1, some (.int x), v3] (.int x :: st) h Φ) : x_K P d mAL_grow2 20 [v0, v1, some (.int x), v3] st h Φ := x_K1 k (fun _ _ j => xj_iload_n dAL_grow2_20 rfl rfl j)
theorem dAL_grow2_21 : decode cAL_grow2 21 = .ok (.iload_n 1, 1) := by decide +kernel
theorem eAL_grow2_21 {v0 v2 v3 : Option Value} {x : Int32} (k : x_K P d mAL_grow2 22 [v0, some (.int x), v2, v3] (.int x :: st) h Φ) : x_K P d mAL_grow2 21 [v0, some (.int x), v2, v3] st h Φ := x_K1 k (fun _ _ j => xj_iload_n dAL_grow2_21 rfl rfl j)
theorem dAL_grow2_22 : decode cAL_grow2 22 = .ok (.iload_n 2, 1) := by decide +kernel
theorem eAL_grow2_22 {v0 v1 v3 : Option Value} {x : Int32} (k : x_K P d mAL_grow2 23 [v0, v1, some (.int x), v3] (.int x :: st) h Φ) : x_K P d mAL_grow2 22 [v0, v1, some (.int x), v3] st h Φ := x_K1 k (fun _ _ j => xj_iload_n dAL_grow2_22 rfl rfl j)
theorem dAL_grow2_23 : decode cAL_grow2 23 = .ok (.isub, 1) := by decide +kernel
theorem eAL_grow2_23 {v0 v1 v2 v3 : Option Value} {x y : Int32} (k : x_K P d mAL_grow2 24 [v0, v1, v2, v3] (.int (x - y) :: st) h Φ) : x_K P d mAL_grow2 23 [v0, v1, v2, v3] (.int y :: .int x :: st) h Φ := x_K1 k (fun _ _ j => xj_isub dAL_grow2_23 j)
theorem dAL_grow2_24 : decode cAL_grow2 24 = .ok (.iload_n 2, 1) := by decide +kernel
theorem eAL_grow2_24 {v0 v1 v3 : Option Value} {x : Int32} (k : x_K P d mAL_grow2 25 [v0, v1, some (.int x), v3] (.int x :: st) h Φ) : x_K P d mAL_grow2 24 [v0, v1, some (.int x), v3] st h Φ := x_K1 k (fun _ _ j => xj_iload_n dAL_grow2_24 rfl rfl j)
theorem dAL_grow2_25 : decode cAL_grow2 25 = .ok (.iconst 1, 1) := by decide +kernel
theorem eAL_grow2_25 {v0 v1 v2 v3 : Option Value} (k : x_K P d mAL_grow2 26 [v0, v1, v2, v3] (.int 1 :: st) h Φ) : x_K P d mAL_grow2 25 [v0, v1, v2, v3] st h Φ := x_K1 k (fun _ _ j => xj_iconst dAL_grow2_25 (v := 1) (by decide) j)
theorem dAL_grow2_26 : decode cAL_grow2 26 = .ok (.ishr, 1) := by decide +kernel
theorem eAL_grow2_26 {v0 v1 v2 v3 : Option Value} {x y : Int32} (k : x_K P d mAL_grow2 27 [v0, v1, v2, v3] (.int (x >>> (y &&& 31)) :: st) h Φ) : x_K P d mAL_grow2 26 [v0, v1, v2, v3] (.int y :: .int x :: st) h Φ := x_K1 k (fun _ _ j => xj_ishr dAL_grow2_26 j)
theorem dAL_grow2_27 : decode cAL_grow2 27 = .ok (.invokestatic 73, 3) := by decide +kernel
set_option maxRecDepth 100000 in
theorem eAL_grow2_27 {v0 v1 v2 v3 : Option Value} {x1 : Int32} {x2 : Int32} {x3 : Int32} {Ψ : Outcome → x_H → Prop} (hst : (st.map fun u => u.category).sum ≤ 8) (kc : x_K P d mAS_newLength 0 [some (.int x1), some (.int x2), some (.int x3), none] [] h Ψ) (k : ∀ oc h1, Ψ oc h1 → ∃ v, oc = .returned v ∧ x_K P (d + 1) mAL_grow2 30 [v0, v1, v2, v3] (v.toList ++ st) h1 Φ) : x_K P (d + 1) mAL_grow2 27 [v0, v1, v2, v3] (.int x3 :: .int x2 :: .int x1 :: st) h Φ := x_Kc kc k (fun _ _ _ _ j1 j2 => xj_callS (M2 := mAS_newLength) (As := [.int x1, .int x2, .int x3]) dAL_grow2_27 xm_560 xm_561 ok_AS_newLength rfl (by simp only [List.forall_mem_cons]; exact ⟨rfl, rfl, rfl, fun _ h => absurd h List.not_mem_nil⟩) (Nat.le_of_ble_eq_true rfl) hst j1 j2)
theorem dAL_grow2_30 : decode cAL_grow2 30 = .ok (.istore_n 3, 1) := by decide +kernel
theorem eAL_grow2_30 {v0 v1 v2 v3 : Option Value} {x : Int32} (k : x_K P d mAL_grow2 31 [v0, v1, v2, some (.int x)] st h Φ) : x_K P d mAL_grow2 30 [v0, v1, v2, v3] (.int x :: st) h Φ := x_K1 k (fun _ _ j => xj_istore_n dAL_grow2_30 rfl rfl j)
theorem dAL_grow2_31 : decode cAL_grow2 31 = .ok (.aload_n 0, 1) := by decide +kernel
theorem eAL_grow2_31 {v1 v2 v3 : Option Value} {u : Value} (hu : u.isRef = true) (k : x_K P d mAL_grow2 32 [some u, v1, v2, v3] (u :: st) h Φ) : x_K P d mAL_grow2 31 [some u, v1, v2, v3] st h Φ := x_K1 k (fun _ _ j => xj_aload_n dAL_grow2_31 rfl rfl hu j)
theorem dAL_grow2_32 : decode cAL_grow2 32 = .ok (.aload_n 0, 1) := by decide +kernel
theorem eAL_grow2_32 {v1 v2 v3 : Option Value} {u : Value} (hu : u.isRef = true) (k : x_K P d mAL_grow2 33 [some u, v1, v2, v3] (u :: st) h Φ) : x_K P d mAL_grow2 32 [some u, v1, v2, v3] st h Φ := x_K1 k (fun _ _ j => xj_aload_n dAL_grow2_32 rfl rfl hu j)
theorem dAL_grow2_33 : decode cAL_grow2 33 = .ok (.getfield 9, 3) := by decide +kernel
theorem eAL_grow2_33 {v0 v1 v2 v3 : Option Value} {a : Nat} {fs : List Value} {u : Value} (ha : h.1 a = some (.inr (9, fs))) (hv : fs[0]? = some u) (k : x_K P d mAL_grow2 36 [v0, v1, v2, v3] (u :: st) h Φ) : x_K P d mAL_grow2 33 [v0, v1, v2, v3] (.ref a :: st) h Φ := x_K1 k (fun _ _ j => xj_get dAL_grow2_33 okcAL rfl (j := 0) (by decide) xm_58 ha hv j)
theorem dAL_grow2_36 : decode cAL_grow2 36 = .ok (.iload_n 3, 1) := by decide +kernel
theorem eAL_grow2_36 {v0 v1 v2 : Option Value} {x : Int32} (k : x_K P d mAL_grow2 37 [v0, v1, v2, some (.int x)] (.int x :: st) h Φ) : x_K P d mAL_grow2 36 [v0, v1, v2, some (.int x)] st h Φ := x_K1 k (fun _ _ j => xj_iload_n dAL_grow2_36 rfl rfl j)
theorem dAL_grow2_37 : decode cAL_grow2 37 = .ok (.invokestatic 66, 3) := by decide +kernel
set_option maxRecDepth 100000 in
theorem eAL_grow2_37 {v0 v1 v2 v3 : Option Value} {u1 : Value} {x2 : Int32} {Ψ : Outcome → x_H → Prop} (hu1 : u1.category = 1) (hst : (st.map fun u => u.category).sum ≤ 8) (kc : x_K P d mAR_copyOf 0 [some (u1), some (.int x2)] [] h Ψ) (k : ∀ oc h1, Ψ oc h1 → ∃ v, oc = .returned v ∧ x_K P (d + 1) mAL_grow2 40 [v0, v1, v2, v3] (v.toList ++ st) h1 Φ) : x_K P (d + 1) mAL_grow2 37 [v0, v1, v2, v3] (.int x2 :: u1 :: st) h Φ := x_Kc kc k (fun _ _ _ _ j1 j2 => xj_callS (M2 := mAR_copyOf) (As := [u1, .int x2]) dAL_grow2_37 xm_568 xm_569 ok_AR_copyOf rfl (by simp only [List.forall_mem_cons]; exact ⟨hu1, rfl, fun _ h => absurd h List.not_mem_nil⟩) (Nat.le_of_ble_eq_true rfl) hst j1 j2)
theorem dAL_grow2_40 : decode cAL_grow2 40 = .ok (.dup_x1, 1) := by decide +kernel
theorem eAL_grow2_40 {v0 v1 v2 v3 : Option Value} {u w : Value} (hu : u.category = 1) (hw : w.category = 1) (k : x_K P d mAL_grow2 41 [v0, v1, v2, v3] (u :: w :: u :: st) h Φ) : x_K P d mAL_grow2 40 [v0, v1, v2, v3] (u :: w :: st) h Φ := x_K1 k (fun _ _ j => xj_dup_x1 dAL_grow2_40 hu hw j)
theorem dAL_grow2_41 : decode cAL_grow2 41 = .ok (.putfield 9, 3) := by decide +kernel
theorem eAL_grow2_41 {v0 v1 v2 v3 : Option Value} {a : Nat} {fs : List Value} {z : Nat} (ha : h.1 a = some (.inr (9, fs))) (hl : 0 < fs.length) (k : x_K P d mAL_grow2 44 [v0, v1, v2, v3] st (x_put h a (.inr (9, fs.set 0 (.ref z)))) Φ) : x_K P d mAL_grow2 41 [v0, v1, v2, v3] (.ref z :: .ref a :: st) h Φ := x_K1 k (fun _ _ j => xj_put dAL_grow2_41 okcAL rfl (j := 0) (by decide) xm_58 rfl ha hl (ty := .array (.object "java/lang/Object")) (by decide +kernel) rfl rfl j)
theorem dAL_grow2_44 : decode cAL_grow2 44 = .ok (.areturn, 1) := by decide +kernel
theorem eAL_grow2_44 {v0 v1 v2 v3 : Option Value} {u : Value} (hu : u.isRef = true) (hΦ : Φ (.returned (some u)) h) : x_K P d mAL_grow2 44 [v0, v1, v2, v3] [u] h Φ := x_Kret hΦ (xj_aret dAL_grow2_44 rfl (Or.inr ⟨_, rfl⟩) hu)
theorem dAL_grow2_45 : decode cAL_grow2 45 = .ok (.aload_n 0, 1) := by decide +kernel
theorem eAL_grow2_45 {v1 v2 v3 : Option Value} {u : Value} (hu : u.isRef = true) (k : x_K P d mAL_grow2 46 [some u, v1, v2, v3] (u :: st) h Φ) : x_K P d mAL_grow2 45 [some u, v1, v2, v3] st h Φ := x_K1 k (fun _ _ j => xj_aload_n dAL_grow2_45 rfl rfl hu j)
theorem dAL_grow2_46 : decode cAL_grow2 46 = .ok (.bipush 10, 2) := by decide +kernel
theorem eAL_grow2_46 {v0 v1 v2 v3 : Option Value} (k : x_K P d mAL_grow2 48 [v0, v1, v2, v3] (.int 10 :: st) h Φ) : x_K P d mAL_grow2 46 [v0, v1, v2, v3] st h Φ := x_K1 k (fun _ _ j => xj_bipush dAL_grow2_46 (v := 10) (by decide) j)
theorem dAL_grow2_48 : decode cAL_grow2 48 = .ok (.iload_n 1, 1) := by decide +kernel
theorem eAL_grow2_48 {v0 v2 v3 : Option Value} {x : Int32} (k : x_K P d mAL_grow2 49 [v0, some (.int x), v2, v3] (.int x :: st) h Φ) : x_K P d mAL_grow2 48 [v0, some (.int x), v2, v3] st h Φ := x_K1 k (fun _ _ j => xj_iload_n dAL_grow2_48 rfl rfl j)
theorem dAL_grow2_49 : decode cAL_grow2 49 = .ok (.invokestatic 79, 3) := by decide +kernel
set_option maxRecDepth 100000 in
theorem eAL_grow2_49 {v0 v1 v2 v3 : Option Value} {x y : Int32} (hst : (st.map fun u => u.category).sum ≤ 8) (k : x_K P (d + 1) mAL_grow2 52 [v0, v1, v2, v3] (.int (if x < y then y else x) :: st) h Φ) : x_K P (d + 1) mAL_grow2 49 [v0, v1, v2, v3] (.int y :: .int x :: st) h Φ := x_K1 k (fun _ _ j => xj_max dAL_grow2_49 xm_598 xm_416 xm_13 xm_417 hst j)
theorem dAL_grow2_52 : decode cAL_grow2 52 = .ok (.anewarray 7, 3) := by decide +kernel
theorem dAL_grow2_55 : decode cAL_grow2 55 = .ok (.dup_x1, 1) := by decide +kernel
theorem eAL_grow2_55 {v0 v1 v2 v3 : Option Value} {u w : Value} (hu : u.category = 1) (hw : w.category = 1) (k : x_K P d mAL_grow2 56 [v0, v1, v2, v3] (u :: w :: u :: st) h Φ) : x_K P d mAL_grow2 55 [v0, v1, v2, v3] (u :: w :: st) h Φ := x_K1 k (fun _ _ j => xj_dup_x1 dAL_grow2_55 hu hw j)
theorem dAL_grow2_56 : decode cAL_grow2 56 = .ok (.putfield 9, 3) := by decide +kernel
theorem eAL_grow2_56 {v0 v1 v2 v3 : Option Value} {a : Nat} {fs : List Value} {z : Nat} (ha : h.1 a = some (.inr (9, fs))) (hl : 0 < fs.length) (k : x_K P d mAL_grow2 59 [v0, v1, v2, v3] st (x_put h a (.inr (9, fs.set 0 (.ref z)))) Φ) : x_K P d mAL_grow2 56 [v0, v1, v2, v3] (.ref z :: .ref a :: st) h Φ := x_K1 k (fun _ _ j => xj_put dAL_grow2_56 okcAL rfl (j := 0) (by decide) xm_58 rfl ha hl (ty := .array (.object "java/lang/Object")) (by decide +kernel) rfl rfl j)
theorem dAL_grow2_59 : decode cAL_grow2 59 = .ok (.areturn, 1) := by decide +kernel
theorem eAL_grow2_59 {v0 v1 v2 v3 : Option Value} {u : Value} (hu : u.isRef = true) (hΦ : Φ (.returned (some u)) h) : x_K P d mAL_grow2 59 [v0, v1, v2, v3] [u] h Φ := x_Kret hΦ (xj_aret dAL_grow2_59 rfl (Or.inr ⟨_, rfl⟩) hu)
end
