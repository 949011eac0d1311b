section
variable {P : x_P} {d : Nat} {st : List Value} {h : x_H} {Φ : Outcome → x_H → Prop}
theorem dAR_copyOf_0 : decode cAR_copyOf 0 = .ok (.aload_n 0, 1) := by decide +kernel
theorem eAR_copyOf_0 {v1 : Option Value} {u : Value} (hu : u.isRef = true) (k : x_K P d mAR_copyOf 1 [some u, v1] (u :: st) h Φ) : x_K P d mAR_copyOf 0 [some u, v1] st h Φ := x_K1 k (fun _ _ j => xj_aload_n dAR_copyOf_0 rfl rfl hu j)
theorem dAR_copyOf_1 : decode cAR_copyOf 1 = .ok (.iload_n 1, 1) := by decide +kernel
theorem eAR_copyOf_1 {v0 : Option Value} {x : Int32} (k : x_K P d mAR_copyOf 2 [v0, some (.int x)] (.int x :: st) h Φ) : x_K P d mAR_copyOf 1 [v0, some (.int x)] st h Φ := x_K1 k (fun _ _ j => xj_iload_n dAR_copyOf_1 rfl rfl j)
theorem dAR_copyOf_2 : decode cAR_copyOf 2 = .ok (.aload_n 0, 1) := by decide +kernel
theorem eAR_copyOf_2 {v1 : Option Value} {u : Value} (hu : u.isRef = true) (k : x_K P d mAR_copyOf 3 [some u, v1] (u :: st) h Φ) : x_K P d mAR_copyOf 2 [some u, v1] st h Φ := x_K1 k (fun _ _ j => xj_aload_n dAR_copyOf_2 rfl rfl hu j)
theorem dAR_copyOf_3 : decode cAR_copyOf 3 = .ok (.invokevirtual 86, 3) := by decide +kernel
theorem dAR_copyOf_6 : decode cAR_copyOf 6 = .ok (.invokestatic 300, 3) := by decide +kernel
set_option maxRecDepth 100000 in
theorem eAR_copyOf_6 {v0 v1 : Option Value} {u1 : Value} {x2 : Int32} {u3 : Value} {Ψ : Outcome → x_H → Prop} (hu1 : u1.category = 1) (hu3 : u3.category = 1) (hst : (st.map fun u => u.category).sum ≤ 8) (kc : x_K P d mAR_copyOf2 0 [some (u1), some (.int x2), some (u3), none] [] h Ψ) (k : ∀ oc h1, Ψ oc h1 → ∃ v, oc = .returned v ∧ x_K P (d + 1) mAR_copyOf 9 [v0, v1] (v.toList ++ st) h1 Φ) : x_K P (d + 1) mAR_copyOf 6 [v0, v1] (u3 :: .int x2 :: u1 :: st) h Φ := x_Kc kc k (fun _ _ _ _ j1 j2 => xj_callS (M2 := mAR_copyOf2) (As := [u1, .int x2, u3]) dAR_copyOf_6 xm_588 xm_589 ok_AR_copyOf2 rfl (by simp only [List.forall_mem_cons]; exact ⟨hu1, rfl, hu3, fun _ h => absurd h List.not_mem_nil⟩) (Nat.le_of_ble_eq_true rfl) hst j1 j2)
theorem dAR_copyOf_9 : decode cAR_copyOf 9 = .ok (.areturn, 1) := by decide +kernel
theorem eAR_copyOf_9 {v0 v1 : Option Value} {u : Value} (hu : u.isRef = true) (hΦ : Φ (.returned (some u)) h) : x_K P d mAR_copyOf 9 [v0, v1] [u] h Φ := x_Kret hΦ (xj_aret dAR_copyOf_9 rfl (Or.inr ⟨_, rfl⟩) hu)
theorem dAR_copyOf2_0 : decode cAR_copyOf2 0 = .ok (.aload_n 2, 1) := by decide +kernel
theorem eAR_copyOf2_0 {v0 v1 v3 : Option Value} {u : Value} (hu : u.isRef = true) (k : x_K P d mAR_copyOf2 1 [v0, v1, some u, v3] (u :: st) h Φ) : x_K P d mAR_copyOf2 0 [v0, v1, some u, v3] st h Φ := x_K1 k (fun _ _ j => xj_aload_n dAR_copyOf2_0 rfl rfl hu j)
theorem dAR_copyOf2_1 : decode cAR_copyOf2 1 = .ok (.ldc 110, 2) := by decide +kernel
theorem dAR_copyOf2_3 : decode cAR_copyOf2 3 = .ok (.if_acmp .ne 10, 3) := by decide +kernel
theorem dAR_copyOf2_6 : decode cAR_copyOf2 6 = .ok (.iload_n 1, 1) := by decide +kernel
theorem eAR_copyOf2_6 {v0 v2 v3 : Option Value} {x : Int32} (k : x_K P d mAR_copyOf2 7 [v0, some (.int x), v2, v3] (.int x :: st) h Φ) : x_K P d mAR_copyOf2 6 [v0, some (.int x), v2, v3] st h Φ := x_K1 k (fun _ _ j => xj_iload_n dAR_copyOf2_6 rfl rfl j)
theorem dAR_copyOf2_7 : decode cAR_copyOf2 7 = .ok (.anewarray 2, 3) := by decide +kernel
theorem dAR_copyOf2_10 : decode cAR_copyOf2 10 = .ok (.goto 14, 3) := by decide +kernel
theorem eAR_copyOf2_10 {v0 v1 v2 v3 : Option Value} (k : x_K P d mAR_copyOf2 24 [v0, v1, v2, v3] st h Φ) : x_K P d mAR_copyOf2 10 [v0, v1, v2, v3] st h Φ := x_K1 k (fun _ _ j => xj_goto dAR_copyOf2_10 (tgt := 24) (by decide) j)
theorem dAR_copyOf2_13 : decode cAR_copyOf2 13 = .ok (.aload_n 2, 1) := by decide +kernel
theorem eAR_copyOf2_13 {v0 v1 v3 : Option Value} {u : Value} (hu : u.isRef = true) (k : x_K P d mAR_copyOf2 14 [v0, v1, some u, v3] (u :: st) h Φ) : x_K P d mAR_copyOf2 13 [v0, v1, some u, v3] st h Φ := x_K1 k (fun _ _ j => xj_aload_n dAR_copyOf2_13 rfl rfl hu j)
theorem dAR_copyOf2_14 : decode cAR_copyOf2 14 = .ok (.invokevirtual 90, 3) := by decide +kernel
theorem dAR_copyOf2_17 : decode cAR_copyOf2 17 = .ok (.iload_n 1, 1) := by decide +kernel
theorem eAR_copyOf2_17 {v0 v2 v3 : Option Value} {x : Int32} (k : x_K P d mAR_copyOf2 18 [v0, some (.int x), v2, v3] (.int x :: st) h Φ) : x_K P d mAR_copyOf2 17 [v0, some (.int x), v2, v3] st h Φ := x_K1 k (fun _ _ j => xj_iload_n dAR_copyOf2_17 rfl rfl j)
theorem dAR_copyOf2_18 : decode cAR_copyOf2 18 = .ok (.invokestatic 95, 3) := by decide +kernel
theorem dAR_copyOf2_21 : decode cAR_copyOf2 21 = .ok (.checkcast 110, 3) := by decide +kernel
theorem dAR_copyOf2_24 : decode cAR_copyOf2 24 = .ok (.astore_n 3, 1) := by decide +kernel
theorem eAR_copyOf2_24 {v0 v1 v2 v3 : Option Value} {u : Value} (hu : u.isRef = true) (k : x_K P d mAR_copyOf2 25 [v0, v1, v2, some u] st h Φ) : x_K P d mAR_copyOf2 24 [v0, v1, v2, v3] (u :: st) h Φ := x_K1 k (fun _ _ j => xj_astore_n dAR_copyOf2_24 rfl rfl hu j)
theorem dAR_copyOf2_25 : decode cAR_copyOf2 25 = .ok (.aload_n 0, 1) := by decide +kernel
theorem eAR_copyOf2_25 {v1 v2 v3 : Option Value} {u : Value} (hu : u.isRef = true) (k : x_K P d mAR_copyOf2 26 [some u, v1, v2, v3] (u :: st) h Φ) : x_K P d mAR_copyOf2 25 [some u, v1, v2, v3] st h Φ := x_K1 k (fun _ _ j => xj_aload_n dAR_copyOf2_25 rfl rfl hu j)
theorem dAR_copyOf2_26 : decode cAR_copyOf2 26 = .ok (.iconst 0, 1) := by decide +kernel
theorem eAR_copyOf2_26 {v0 v1 v2 v3 : Option Value} (k : x_K P d mAR_copyOf2 27 [v0, v1, v2, v3] (.int 0 :: st) h Φ) : x_K P d mAR_copyOf2 26 [v0, v1, v2, v3] st h Φ := x_K1 k (fun _ _ j => xj_iconst dAR_copyOf2_26 (v := 0) (by decide) j)
theorem dAR_copyOf2_27 : decode cAR_copyOf2 27 = .ok (.aload_n 3, 1) := by decide +kernel
theorem eAR_copyOf2_27 {v0 v1 v2 : Option Value} {u : Value} (hu : u.isRef = true) (k : x_K P d mAR_copyOf2 28 [v0, v1, v2, some u] (u :: st) h Φ) : x_K P d mAR_copyOf2 27 [v0, v1, v2, some u] st h Φ := x_K1 k (fun _ _ j => xj_aload_n dAR_copyOf2_27 rfl rfl hu j)
theorem dAR_copyOf2_28 : decode cAR_copyOf2 28 = .ok (.iconst 0, 1) := by decide +kernel
theorem eAR_copyOf2_28 {v0 v1 v2 v3 : Option Value} (k : x_K P d mAR_copyOf2 29 [v0, v1, v2, v3] (.int 0 :: st) h Φ) : x_K P d mAR_copyOf2 28 [v0, v1, v2, v3] st h Φ := x_K1 k (fun _ _ j => xj_iconst dAR_copyOf2_28 (v := 0) (by decide) j)
theorem dAR_copyOf2_29 : decode cAR_copyOf2 29 = .ok (.aload_n 0, 1) := by decide +kernel
theorem eAR_copyOf2_29 {v1 v2 v3 : Option Value} {u : Value} (hu : u.isRef = true) (k : x_K P d mAR_copyOf2 30 [some u, v1, v2, v3] (u :: st) h Φ) : x_K P d mAR_copyOf2 29 [some u, v1, v2, v3] st h Φ := x_K1 k (fun _ _ j => xj_aload_n dAR_copyOf2_29 rfl rfl hu j)
theorem dAR_copyOf2_30 : decode cAR_copyOf2 30 = .ok (.arraylength, 1) := by decide +kernel
theorem eAR_copyOf2_30 {v0 v1 v2 v3 : Option Value} {a t : Nat} {x : vp_A} {ty : FieldType} (ha : h.1 a = some (.inl (t, x))) (ht : (x_tys P.2.2.1)[t]? = some (P.2.2.1 t, ty)) (k : x_K P d mAR_copyOf2 31 [v0, v1, v2, v3] (.int (Int32.ofNat x.1) :: st) h Φ) : x_K P d mAR_copyOf2 30 [v0, v1, v2, v3] (.ref a :: st) h Φ := x_K1 k (fun _ _ j => xj_alen dAR_copyOf2_30 ha ht rfl j)
theorem dAR_copyOf2_31 : decode cAR_copyOf2 31 = .ok (.iload_n 1, 1) := by decide +kernel
theorem eAR_copyOf2_31 {v0 v2 v3 : Option Value} {x : Int32} (k : x_K P d mAR_copyOf2 32 [v0, some (.int x), v2, v3] (.int x :: st) h Φ) : x_K P d mAR_copyOf2 31 [v0, some (.int x), v2, v3] st h Φ := x_K1 k (fun _ _ j => xj_iload_n dAR_copyOf2_31 rfl rfl j)
theorem dAR_copyOf2_32 : decode cAR_copyOf2 32 = .ok (.invokestatic 304, 3) := by decide +kernel
set_option maxRecDepth 100000 in
theorem eAR_copyOf2_32 {v0 v1 v2 v3 : Option Value} {x y : Int32} (hst : (st.map fun u => u.category).sum ≤ 8) (k : x_K P (d + 1) mAR_copyOf2 35 [v0, v1, v2, v3] (.int (if y < x then y else x) :: st) h Φ) : x_K P (d + 1) mAR_copyOf2 32 [v0, v1, v2, v3] (.int y :: .int x :: st) h Φ := x_K1 k (fun _ _ j => xj_min dAR_copyOf2_32 xm_594 xm_419 xm_13 xm_420 hst j)
theorem dAR_copyOf2_35 : decode cAR_copyOf2 35 = .ok (.invokestatic 150, 3) := by decide +kernel
theorem dAR_copyOf2_38 : decode cAR_copyOf2 38 = .ok (.aload_n 3, 1) := by decide +kernel
theorem eAR_copyOf2_38 {v0 v1 v2 : Option Value} {u : Value} (hu : u.isRef = true) (k : x_K P d mAR_copyOf2 39 [v0, v1, v2, some u] (u :: st) h Φ) : x_K P d mAR_copyOf2 38 [v0, v1, v2, some u] st h Φ := x_K1 k (fun _ _ j => xj_aload_n dAR_copyOf2_38 rfl rfl hu j)
theorem dAR_copyOf2_39 : decode cAR_copyOf2 39 = .ok (.areturn, 1) := by decide +kernel
theorem eAR_copyOf2_39 {v0 v1 v2 v3 : Option Value} {u : Value} (hu : u.isRef = true) (hΦ : Φ (.returned (some u)) h) : x_K P d mAR_copyOf2 39 [v0, v1, v2, v3] [u] h Φ := x_Kret hΦ (xj_aret dAR_copyOf2_39 rfl (Or.inr ⟨_, rfl⟩) hu)
end
