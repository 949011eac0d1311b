section
variable {P : x_P} {d : Nat} {st : List Value} {h : x_H} {Φ : Outcome → x_H → Prop}
theorem dPC_checkIndex_0 : decode cPC_checkIndex 0 = .ok (.iload_n 0, 1) := by decide +kernel
theorem ePC_checkIndex_0 {v1 v2 : Option Value} {x : Int32} (k : x_K P d mPC_checkIndex 1 [some (.int x), v1, v2] (.int x :: st) h Φ) : x_K P d mPC_checkIndex 0 [some (.int x), v1, v2] st h Φ := x_K1 k (fun _ _ j => xj_iload_n dPC_checkIndex_0 rfl rfl j)
theorem dPC_checkIndex_1 : decode cPC_checkIndex 1 = .ok (.ifCond .lt 8, 3) := by decide +kernel
theorem ePC_checkIndex_1 {v0 v1 v2 : Option Value} {x : Int32} (kt : x < 0 → x_K P d mPC_checkIndex 9 [v0, v1, v2] st h Φ) (kf : ¬ x < 0 → x_K P d mPC_checkIndex 4 [v0, v1, v2] st h Φ) : x_K P d mPC_checkIndex 1 [v0, v1, v2] (.int x :: st) h Φ := x_K2 (Classical.em (x < 0)) kt kf (fun a _ _ j => xj_if_lt dPC_checkIndex_1 (tgt := 9) (by decide) (fun _ => j) (fun b => absurd a b)) (fun a _ _ j => xj_if_lt dPC_checkIndex_1 (tgt := 9) (by decide) (fun b => absurd b a) (fun _ => j))
theorem dPC_checkIndex_4 : decode cPC_checkIndex 4 = .ok (.iload_n 0, 1) := by decide +kernel
theorem ePC_checkIndex_4 {v1 v2 : Option Value} {x : Int32} (k : x_K P d mPC_checkIndex 5 [some (.int x), v1, v2] (.int x :: st) h Φ) : x_K P d mPC_checkIndex 4 [some (.int x), v1, v2] st h Φ := x_K1 k (fun _ _ j => xj_iload_n dPC_checkIndex_4 rfl rfl j)
theorem dPC_checkIndex_5 : decode cPC_checkIndex 5 = .ok (.iload_n 1, 1) := by decide +kernel
theorem ePC_checkIndex_5 {v0 v2 : Option Value} {x : Int32} (k : x_K P d mPC_checkIndex 6 [v0, some (.int x), v2] (.int x :: st) h Φ) : x_K P d mPC_checkIndex 5 [v0, some (.int x), v2] st h Φ := x_K1 k (fun _ _ j => xj_iload_n dPC_checkIndex_5 rfl rfl j)
theorem dPC_checkIndex_6 : decode cPC_checkIndex 6 = .ok (.if_icmp .lt 10, 3) := by decide +kernel
theorem ePC_checkIndex_6 {v0 v1 v2 : Option Value} {x y : Int32} (kt : x < y → x_K P d mPC_checkIndex 16 [v0, v1, v2] st h Φ) (kf : ¬ x < y → x_K P d mPC_checkIndex 9 [v0, v1, v2] st h Φ) : x_K P d mPC_checkIndex 6 [v0, v1, v2] (.int y :: .int x :: st) h Φ := x_K2 (Classical.em (x < y)) kt kf (fun a _ _ j => xj_icmp_lt dPC_checkIndex_6 (tgt := 16) (by decide) (fun _ => j) (fun b => absurd a b)) (fun a _ _ j => xj_icmp_lt dPC_checkIndex_6 (tgt := 16) (by decide) (fun b => absurd b a) (fun _ => j))
theorem dPC_checkIndex_9 : decode cPC_checkIndex 9 = .ok (.aload_n 2, 1) := by decide +kernel
theorem ePC_checkIndex_9 {v0 v1 : Option Value} {u : Value} (hu : u.isRef = true) (k : x_K P d mPC_checkIndex 10 [v0, v1, some u] (u :: st) h Φ) : x_K P d mPC_checkIndex 9 [v0, v1, some u] st h Φ := x_K1 k (fun _ _ j => xj_aload_n dPC_checkIndex_9 rfl rfl hu j)
theorem dPC_checkIndex_10 : decode cPC_checkIndex 10 = .ok (.iload_n 0, 1) := by decide +kernel
theorem ePC_checkIndex_10 {v1 v2 : Option Value} {x : Int32} (k : x_K P d mPC_checkIndex 11 [some (.int x), v1, v2] (.int x :: st) h Φ) : x_K P d mPC_checkIndex 10 [some (.int x), v1, v2] st h Φ := x_K1 k (fun _ _ j => xj_iload_n dPC_checkIndex_10 rfl rfl j)
theorem dPC_checkIndex_11 : decode cPC_checkIndex 11 = .ok (.iload_n 1, 1) := by decide +kernel
theorem ePC_checkIndex_11 {v0 v2 : Option Value} {x : Int32} (k : x_K P d mPC_checkIndex 12 [v0, some (.int x), v2] (.int x :: st) h Φ) : x_K P d mPC_checkIndex 11 [v0, some (.int x), v2] st h Φ := x_K1 k (fun _ _ j => xj_iload_n dPC_checkIndex_11 rfl rfl j)
theorem dPC_checkIndex_12 : decode cPC_checkIndex 12 = .ok (.invokestatic 95, 3) := by decide +kernel
theorem dPC_checkIndex_15 : decode cPC_checkIndex 15 = .ok (.athrow, 1) := by decide +kernel
theorem dPC_checkIndex_16 : decode cPC_checkIndex 16 = .ok (.iload_n 0, 1) := by decide +kernel
theorem ePC_checkIndex_16 {v1 v2 : Option Value} {x : Int32} (k : x_K P d mPC_checkIndex 17 [some (.int x), v1, v2] (.int x :: st) h Φ) : x_K P d mPC_checkIndex 16 [some (.int x), v1, v2] st h Φ := x_K1 k (fun _ _ j => xj_iload_n dPC_checkIndex_16 rfl rfl j)
theorem dPC_checkIndex_17 : decode cPC_checkIndex 17 = .ok (.ireturn, 1) := by decide +kernel
theorem ePC_checkIndex_17 {v0 v1 v2 : Option Value} {x : Int32} (hΦ : Φ (.returned (some (.int x))) h) : x_K P d mPC_checkIndex 17 [v0, v1, v2] [.int x] h Φ := x_Kret hΦ (xj_iret dPC_checkIndex_17 rfl)
end
