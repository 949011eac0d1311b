section
variable {P : x_P} {d : Nat} {st : List Value} {h : x_H} {Φ : Outcome → x_H → Prop}
theorem dAS_newLength_0 : decode cAS_newLength 0 = .ok (.iload_n 0, 1) := by decide +kernel
theorem eAS_newLength_0 {v1 v2 v3 : Option Value} {x : Int32} (k : x_K P d mAS_newLength 1 [some (.int x), v1, v2, v3] (.int x :: st) h Φ) : x_K P d mAS_newLength 0 [some (.int x), v1, v2, v3] st h Φ := x_K1 k (fun _ _ j => xj_iload_n dAS_newLength_0 rfl rfl j)
theorem dAS_newLength_1 : decode cAS_newLength 1 = .ok (.iload_n 1, 1) := by decide +kernel
theorem eAS_newLength_1 {v0 v2 v3 : Option Value} {x : Int32} (k : x_K P d mAS_newLength 2 [v0, some (.int x), v2, v3] (.int x :: st) h Φ) : x_K P d mAS_newLength 1 [v0, some (.int x), v2, v3] st h Φ := x_K1 k (fun _ _ j => xj_iload_n dAS_newLength_1 rfl rfl j)
theorem dAS_newLength_2 : decode cAS_newLength 2 = .ok (.iload_n 2, 1) := by decide +kernel
theorem eAS_newLength_2 {v0 v1 v3 : Option Value} {x : Int32} (k : x_K P d mAS_newLength 3 [v0, v1, some (.int x), v3] (.int x :: st) h Φ) : x_K P d mAS_newLength 2 [v0, v1, some (.int x), v3] st h Φ := x_K1 k (fun _ _ j => xj_iload_n dAS_newLength_2 rfl rfl j)
theorem dAS_newLength_3 : decode cAS_newLength 3 = .ok (.invokestatic 194, 3) := by decide +kernel
set_option maxRecDepth 100000 in
theorem eAS_newLength_3 {v0 v1 v2 v3 : Option Value} {x y : Int32} (hst : (st.map fun u => u.category).sum ≤ 8) (k : x_K P (d + 1) mAS_newLength 6 [v0, v1, v2, v3] (.int (if x < y then y else x) :: st) h Φ) : x_K P (d + 1) mAS_newLength 3 [v0, v1, v2, v3] (.int y :: .int x :: st) h Φ := x_K1 k (fun _ _ j => xj_max dAS_newLength_3 xm_563 xm_416 xm_13 xm_417 hst j)
theorem dAS_newLength_6 : decode cAS_newLength 6 = .ok (.iadd, 1) := by decide +kernel
theorem eAS_newLength_6 {v0 v1 v2 v3 : Option Value} {x y : Int32} (k : x_K P d mAS_newLength 7 [v0, v1, v2, v3] (.int (x + y) :: st) h Φ) : x_K P d mAS_newLength 6 [v0, v1, v2, v3] (.int y :: .int x :: st) h Φ := x_K1 k (fun _ _ j => xj_iadd dAS_newLength_6 j)
theorem dAS_newLength_7 : decode cAS_newLength 7 = .ok (.istore_n 3, 1) := by decide +kernel
theorem eAS_newLength_7 {v0 v1 v2 v3 : Option Value} {x : Int32} (k : x_K P d mAS_newLength 8 [v0, v1, v2, some (.int x)] st h Φ) : x_K P d mAS_newLength 7 [v0, v1, v2, v3] (.int x :: st) h Φ := x_K1 k (fun _ _ j => xj_istore_n dAS_newLength_7 rfl rfl j)
theorem dAS_newLength_8 : decode cAS_newLength 8 = .ok (.iconst 0, 1) := by decide +kernel
theorem eAS_newLength_8 {v0 v1 v2 v3 : Option Value} (k : x_K P d mAS_newLength 9 [v0, v1, v2, v3] (.int 0 :: st) h Φ) : x_K P d mAS_newLength 8 [v0, v1, v2, v3] st h Φ := x_K1 k (fun _ _ j => xj_iconst dAS_newLength_8 (v := 0) (by decide) j)
theorem dAS_newLength_9 : decode cAS_newLength 9 = .ok (.iload_n 3, 1) := by decide +kernel
theorem eAS_newLength_9 {v0 v1 v2 : Option Value} {x : Int32} (k : x_K P d mAS_newLength 10 [v0, v1, v2, some (.int x)] (.int x :: st) h Φ) : x_K P d mAS_newLength 9 [v0, v1, v2, some (.int x)] st h Φ := x_K1 k (fun _ _ j => xj_iload_n dAS_newLength_9 rfl rfl j)
theorem dAS_newLength_10 : decode cAS_newLength 10 = .ok (.if_icmp .ge 11, 3) := by decide +kernel
theorem eAS_newLength_10 {v0 v1 v2 v3 : Option Value} {x y : Int32} (kt : y ≤ x → x_K P d mAS_newLength 21 [v0, v1, v2, v3] st h Φ) (kf : ¬ y ≤ x → x_K P d mAS_newLength 13 [v0, v1, v2, v3] st h Φ) : x_K P d mAS_newLength 10 [v0, v1, v2, v3] (.int y :: .int x :: st) h Φ := x_K2 (Classical.em (y ≤ x)) kt kf (fun a _ _ j => xj_icmp_ge dAS_newLength_10 (tgt := 21) (by decide) (fun _ => j) (fun b => absurd a b)) (fun a _ _ j => xj_icmp_ge dAS_newLength_10 (tgt := 21) (by decide) (fun b => absurd b a) (fun _ => j))
theorem dAS_newLength_13 : decode cAS_newLength 13 = .ok (.iload_n 3, 1) := by decide +kernel
theorem eAS_newLength_13 {v0 v1 v2 : Option Value} {x : Int32} (k : x_K P d mAS_newLength 14 [v0, v1, v2, some (.int x)] (.int x :: st) h Φ) : x_K P d mAS_newLength 13 [v0, v1, v2, some (.int x)] st h Φ := x_K1 k (fun _ _ j => xj_iload_n dAS_newLength_13 rfl rfl j)
theorem dAS_newLength_14 : decode cAS_newLength 14 = .ok (.ldc 200, 2) := by decide +kernel
theorem eAS_newLength_14 {v0 v1 v2 v3 : Option Value} (k : x_K P d mAS_newLength 16 [v0, v1, v2, v3] (.int 2147483639 :: st) h Φ) : x_K P d mAS_newLength 14 [v0, v1, v2, v3] st h Φ := x_K1 k (fun _ _ j => xj_ldc dAS_newLength_14 xm_564 j)
theorem dAS_newLength_16 : decode cAS_newLength 16 = .ok (.if_icmp .gt 5, 3) := by decide +kernel
theorem eAS_newLength_16 {v0 v1 v2 v3 : Option Value} {x y : Int32} (kt : y < x → x_K P d mAS_newLength 21 [v0, v1, v2, v3] st h Φ) (kf : ¬ y < x → x_K P d mAS_newLength 19 [v0, v1, v2, v3] st h Φ) : x_K P d mAS_newLength 16 [v0, v1, v2, v3] (.int y :: .int x :: st) h Φ := x_K2 (Classical.em (y < x)) kt kf (fun a _ _ j => xj_icmp_gt dAS_newLength_16 (tgt := 21) (by decide) (fun _ => j) (fun b => absurd a b)) (fun a _ _ j => xj_icmp_gt dAS_newLength_16 (tgt := 21) (by decide) (fun b => absurd b a) (fun _ => j))
theorem dAS_newLength_19 : decode cAS_newLength 19 = .ok (.iload_n 3, 1) := by decide +kernel
theorem eAS_newLength_19 {v0 v1 v2 : Option Value} {x : Int32} (k : x_K P d mAS_newLength 20 [v0, v1, v2, some (.int x)] (.int x :: st) h Φ) : x_K P d mAS_newLength 19 [v0, v1, v2, some (.int x)] st h Φ := x_K1 k (fun _ _ j => xj_iload_n dAS_newLength_19 rfl rfl j)
theorem dAS_newLength_20 : decode cAS_newLength 20 = .ok (.ireturn, 1) := by decide +kernel
theorem eAS_newLength_20 {v0 v1 v2 v3 : Option Value} {x : Int32} (hΦ : Φ (.returned (some (.int x))) h) : x_K P d mAS_newLength 20 [v0, v1, v2, v3] [.int x] h Φ := x_Kret hΦ (xj_iret dAS_newLength_20 rfl)
theorem dAS_newLength_21 : decode cAS_newLength 21 = .ok (.iload_n 0, 1) := by decide +kernel
theorem eAS_newLength_21 {v1 v2 v3 : Option Value} {x : Int32} (k : x_K P d mAS_newLength 22 [some (.int x), v1, v2, v3] (.int x :: st) h Φ) : x_K P d mAS_newLength 21 [some (.int x), v1, v2, v3] st h Φ := x_K1 k (fun _ _ j => xj_iload_n dAS_newLength_21 rfl rfl j)
theorem dAS_newLength_22 : decode cAS_newLength 22 = .ok (.iload_n 1, 1) := by decide +kernel
theorem eAS_newLength_22 {v0 v2 v3 : Option Value} {x : Int32} (k : x_K P d mAS_newLength 23 [v0, some (.int x), v2, v3] (.int x :: st) h Φ) : x_K P d mAS_newLength 22 [v0, some (.int x), v2, v3] st h Φ := x_K1 k (fun _ _ j => xj_iload_n dAS_newLength_22 rfl rfl j)
theorem dAS_newLength_23 : decode cAS_newLength 23 = .ok (.invokestatic 201, 3) := by decide +kernel
set_option maxRecDepth 100000 in
theorem eAS_newLength_23 {v0 v1 v2 v3 : Option Value} {x1 : Int32} {x2 : Int32} {Ψ : Outcome → x_H → Prop} (hst : (st.map fun u => u.category).sum ≤ 8) (kc : x_K P d mAS_hugeLength 0 [some (.int x1), some (.int x2), none] [] h Ψ) (k : ∀ oc h1, Ψ oc h1 → ∃ v, oc = .returned v ∧ x_K P (d + 1) mAS_newLength 26 [v0, v1, v2, v3] (v.toList ++ st) h1 Φ) : x_K P (d + 1) mAS_newLength 23 [v0, v1, v2, v3] (.int x2 :: .int x1 :: st) h Φ := x_Kc kc k (fun _ _ _ _ j1 j2 => xj_callS (M2 := mAS_hugeLength) (As := [.int x1, .int x2]) dAS_newLength_23 xm_565 xm_566 ok_AS_hugeLength rfl (by simp only [List.forall_mem_cons]; exact ⟨rfl, rfl, fun _ h => absurd h List.not_mem_nil⟩) (Nat.le_of_ble_eq_true rfl) hst j1 j2)
theorem dAS_newLength_26 : decode cAS_newLength 26 = .ok (.ireturn, 1) := by decide +kernel
theorem eAS_newLength_26 {v0 v1 v2 v3 : Option Value} {x : Int32} (hΦ : Φ (.returned (some (.int x))) h) : x_K P d mAS_newLength 26 [v0, v1, v2, v3] [.int x] h Φ := x_Kret hΦ (xj_iret dAS_newLength_26 rfl)
theorem dAS_hugeLength_0 : decode cAS_hugeLength 0 = .ok (.iload_n 0, 1) := by decide +kernel
theorem eAS_hugeLength_0 {v1 v2 : Option Value} {x : Int32} (k : x_K P d mAS_hugeLength 1 [some (.int x), v1, v2] (.int x :: st) h Φ) : x_K P d mAS_hugeLength 0 [some (.int x), v1, v2] st h Φ := x_K1 k (fun _ _ j => xj_iload_n dAS_hugeLength_0 rfl rfl j)
theorem dAS_hugeLength_1 : decode cAS_hugeLength 1 = .ok (.iload_n 1, 1) := by decide +kernel
theorem eAS_hugeLength_1 {v0 v2 : Option Value} {x : Int32} (k : x_K P d mAS_hugeLength 2 [v0, some (.int x), v2] (.int x :: st) h Φ) : x_K P d mAS_hugeLength 1 [v0, some (.int x), v2] st h Φ := x_K1 k (fun _ _ j => xj_iload_n dAS_hugeLength_1 rfl rfl j)
theorem dAS_hugeLength_2 : decode cAS_hugeLength 2 = .ok (.iadd, 1) := by decide +kernel
theorem eAS_hugeLength_2 {v0 v1 v2 : Option Value} {x y : Int32} (k : x_K P d mAS_hugeLength 3 [v0, v1, v2] (.int (x + y) :: st) h Φ) : x_K P d mAS_hugeLength 2 [v0, v1, v2] (.int y :: .int x :: st) h Φ := x_K1 k (fun _ _ j => xj_iadd dAS_hugeLength_2 j)
theorem dAS_hugeLength_3 : decode cAS_hugeLength 3 = .ok (.istore_n 2, 1) := by decide +kernel
theorem eAS_hugeLength_3 {v0 v1 v2 : Option Value} {x : Int32} (k : x_K P d mAS_hugeLength 4 [v0, v1, some (.int x)] st h Φ) : x_K P d mAS_hugeLength 3 [v0, v1, v2] (.int x :: st) h Φ := x_K1 k (fun _ _ j => xj_istore_n dAS_hugeLength_3 rfl rfl j)
theorem dAS_hugeLength_4 : decode cAS_hugeLength 4 = .ok (.iload_n 2, 1) := by decide +kernel
theorem eAS_hugeLength_4 {v0 v1 : Option Value} {x : Int32} (k : x_K P d mAS_hugeLength 5 [v0, v1, some (.int x)] (.int x :: st) h Φ) : x_K P d mAS_hugeLength 4 [v0, v1, some (.int x)] st h Φ := x_K1 k (fun _ _ j => xj_iload_n dAS_hugeLength_4 rfl rfl j)
theorem dAS_hugeLength_5 : decode cAS_hugeLength 5 = .ok (.ifCond .ge 44, 3) := by decide +kernel
theorem eAS_hugeLength_5 {v0 v1 v2 : Option Value} {x : Int32} (kt : 0 ≤ x → x_K P d mAS_hugeLength 49 [v0, v1, v2] st h Φ) (kf : ¬ 0 ≤ x → x_K P d mAS_hugeLength 8 [v0, v1, v2] st h Φ) : x_K P d mAS_hugeLength 5 [v0, v1, v2] (.int x :: st) h Φ := x_K2 (Classical.em (0 ≤ x)) kt kf (fun a _ _ j => xj_if_ge dAS_hugeLength_5 (tgt := 49) (by decide) (fun _ => j) (fun b => absurd a b)) (fun a _ _ j => xj_if_ge dAS_hugeLength_5 (tgt := 49) (by decide) (fun b => absurd b a) (fun _ => j))
theorem dAS_hugeLength_8 : decode cAS_hugeLength 8 = .ok (.new 204, 3) := by decide +kernel
theorem dAS_hugeLength_11 : decode cAS_hugeLength 11 = .ok (.dup, 1) := by decide +kernel
theorem eAS_hugeLength_11 {v0 v1 v2 : Option Value} {u : Value} (hu : u.category = 1) (k : x_K P d mAS_hugeLength 12 [v0, v1, v2] (u :: u :: st) h Φ) : x_K P d mAS_hugeLength 11 [v0, v1, v2] (u :: st) h Φ := x_K1 k (fun _ _ j => xj_dup dAS_hugeLength_11 hu j)
theorem dAS_hugeLength_12 : decode cAS_hugeLength 12 = .ok (.new 89, 3) := by decide +kernel
theorem dAS_hugeLength_15 : decode cAS_hugeLength 15 = .ok (.dup, 1) := by decide +kernel
theorem eAS_hugeLength_15 {v0 v1 v2 : Option Value} {u : Value} (hu : u.category = 1) (k : x_K P d mAS_hugeLength 16 [v0, v1, v2] (u :: u :: st) h Φ) : x_K P d mAS_hugeLength 15 [v0, v1, v2] (u :: st) h Φ := x_K1 k (fun _ _ j => xj_dup dAS_hugeLength_15 hu j)
theorem dAS_hugeLength_16 : decode cAS_hugeLength 16 = .ok (.invokespecial 91, 3) := by decide +kernel
theorem dAS_hugeLength_19 : decode cAS_hugeLength 19 = .ok (.ldc 206, 2) := by decide +kernel
theorem dAS_hugeLength_21 : decode cAS_hugeLength 21 = .ok (.invokevirtual 94, 3) := by decide +kernel
theorem dAS_hugeLength_24 : decode cAS_hugeLength 24 = .ok (.iload_n 0, 1) := by decide +kernel
theorem eAS_hugeLength_24 {v1 v2 : Option Value} {x : Int32} (k : x_K P d mAS_hugeLength 25 [some (.int x), v1, v2] (.int x :: st) h Φ) : x_K P d mAS_hugeLength 24 [some (.int x), v1, v2] st h Φ := x_K1 k (fun _ _ j => xj_iload_n dAS_hugeLength_24 rfl rfl j)
theorem dAS_hugeLength_25 : decode cAS_hugeLength 25 = .ok (.invokevirtual 98, 3) := by decide +kernel
theorem dAS_hugeLength_28 : decode cAS_hugeLength 28 = .ok (.ldc 208, 2) := by decide +kernel
theorem dAS_hugeLength_30 : decode cAS_hugeLength 30 = .ok (.invokevirtual 94, 3) := by decide +kernel
theorem dAS_hugeLength_33 : decode cAS_hugeLength 33 = .ok (.iload_n 1, 1) := by decide +kernel
theorem eAS_hugeLength_33 {v0 v2 : Option Value} {x : Int32} (k : x_K P d mAS_hugeLength 34 [v0, some (.int x), v2] (.int x :: st) h Φ) : x_K P d mAS_hugeLength 33 [v0, some (.int x), v2] st h Φ := x_K1 k (fun _ _ j => xj_iload_n dAS_hugeLength_33 rfl rfl j)
theorem dAS_hugeLength_34 : decode cAS_hugeLength 34 = .ok (.invokevirtual 98, 3) := by decide +kernel
theorem dAS_hugeLength_37 : decode cAS_hugeLength 37 = .ok (.ldc 210, 2) := by decide +kernel
theorem dAS_hugeLength_39 : decode cAS_hugeLength 39 = .ok (.invokevirtual 94, 3) := by decide +kernel
theorem dAS_hugeLength_42 : decode cAS_hugeLength 42 = .ok (.invokevirtual 101, 3) := by decide +kernel
theorem dAS_hugeLength_45 : decode cAS_hugeLength 45 = .ok (.invokespecial 212, 3) := by decide +kernel
theorem dAS_hugeLength_48 : decode cAS_hugeLength 48 = .ok (.athrow, 1) := by decide +kernel
theorem dAS_hugeLength_49 : decode cAS_hugeLength 49 = .ok (.iload_n 2, 1) := by decide +kernel
theorem eAS_hugeLength_49 {v0 v1 : Option Value} {x : Int32} (k : x_K P d mAS_hugeLength 50 [v0, v1, some (.int x)] (.int x :: st) h Φ) : x_K P d mAS_hugeLength 49 [v0, v1, some (.int x)] st h Φ := x_K1 k (fun _ _ j => xj_iload_n dAS_hugeLength_49 rfl rfl j)
theorem dAS_hugeLength_50 : decode cAS_hugeLength 50 = .ok (.ldc 200, 2) := by decide +kernel
theorem eAS_hugeLength_50 {v0 v1 v2 : Option Value} (k : x_K P d mAS_hugeLength 52 [v0, v1, v2] (.int 2147483639 :: st) h Φ) : x_K P d mAS_hugeLength 50 [v0, v1, v2] st h Φ := x_K1 k (fun _ _ j => xj_ldc dAS_hugeLength_50 xm_564 j)
theorem dAS_hugeLength_52 : decode cAS_hugeLength 52 = .ok (.if_icmp .gt 6, 3) := by decide +kernel
theorem eAS_hugeLength_52 {v0 v1 v2 : Option Value} {x y : Int32} (kt : y < x → x_K P d mAS_hugeLength 58 [v0, v1, v2] st h Φ) (kf : ¬ y < x → x_K P d mAS_hugeLength 55 [v0, v1, v2] st h Φ) : x_K P d mAS_hugeLength 52 [v0, v1, v2] (.int y :: .int x :: st) h Φ := x_K2 (Classical.em (y < x)) kt kf (fun a _ _ j => xj_icmp_gt dAS_hugeLength_52 (tgt := 58) (by decide) (fun _ => j) (fun b => absurd a b)) (fun a _ _ j => xj_icmp_gt dAS_hugeLength_52 (tgt := 58) (by decide) (fun b => absurd b a) (fun _ => j))
theorem dAS_hugeLength_55 : decode cAS_hugeLength 55 = .ok (.ldc 200, 2) := by decide +kernel
theorem eAS_hugeLength_55 {v0 v1 v2 : Option Value} (k : x_K P d mAS_hugeLength 57 [v0, v1, v2] (.int 2147483639 :: st) h Φ) : x_K P d mAS_hugeLength 55 [v0, v1, v2] st h Φ := x_K1 k (fun _ _ j => xj_ldc dAS_hugeLength_55 xm_564 j)
theorem dAS_hugeLength_57 : decode cAS_hugeLength 57 = .ok (.ireturn, 1) := by decide +kernel
theorem eAS_hugeLength_57 {v0 v1 v2 : Option Value} {x : Int32} (hΦ : Φ (.returned (some (.int x))) h) : x_K P d mAS_hugeLength 57 [v0, v1, v2] [.int x] h Φ := x_Kret hΦ (xj_iret dAS_hugeLength_57 rfl)
theorem dAS_hugeLength_58 : decode cAS_hugeLength 58 = .ok (.iload_n 2, 1) := by decide +kernel
theorem eAS_hugeLength_58 {v0 v1 : Option Value} {x : Int32} (k : x_K P d mAS_hugeLength 59 [v0, v1, some (.int x)] (.int x :: st) h Φ) : x_K P d mAS_hugeLength 58 [v0, v1, some (.int x)] st h Φ := x_K1 k (fun _ _ j => xj_iload_n dAS_hugeLength_58 rfl rfl j)
theorem dAS_hugeLength_59 : decode cAS_hugeLength 59 = .ok (.ireturn, 1) := by decide +kernel
theorem eAS_hugeLength_59 {v0 v1 v2 : Option Value} {x : Int32} (hΦ : Φ (.returned (some (.int x))) h) : x_K P d mAS_hugeLength 59 [v0, v1, v2] [.int x] h Φ := x_Kret hΦ (xj_iret dAS_hugeLength_59 rfl)
end
