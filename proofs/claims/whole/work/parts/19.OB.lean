section
variable {P : x_P} {d : Nat} {st : List Value} {h : x_H} {Φ : Outcome → x_H → Prop}
theorem dOB_checkIndex_0 : decode cOB_checkIndex 0 = .ok (.iload_n 0, 1) := by decide +kernel
theorem eOB_checkIndex_0 {v1 : Option Value} {x : Int32} (k : x_K P d mOB_checkIndex 1 [some (.int x), v1] (.int x :: st) h Φ) : x_K P d mOB_checkIndex 0 [some (.int x), v1] st h Φ := x_K1 k (fun _ _ j => xj_iload_n dOB_checkIndex_0 rfl rfl j)
theorem dOB_checkIndex_1 : decode cOB_checkIndex 1 = .ok (.iload_n 1, 1) := by decide +kernel
theorem eOB_checkIndex_1 {v0 : Option Value} {x : Int32} (k : x_K P d mOB_checkIndex 2 [v0, some (.int x)] (.int x :: st) h Φ) : x_K P d mOB_checkIndex 1 [v0, some (.int x)] st h Φ := x_K1 k (fun _ _ j => xj_iload_n dOB_checkIndex_1 rfl rfl j)
theorem dOB_checkIndex_2 : decode cOB_checkIndex 2 = .ok (.aconst_null, 1) := by decide +kernel
theorem eOB_checkIndex_2 {v0 v1 : Option Value} (k : x_K P d mOB_checkIndex 3 [v0, v1] (.null :: st) h Φ) : x_K P d mOB_checkIndex 2 [v0, v1] st h Φ := x_K1 k (fun _ _ j => xj_null dOB_checkIndex_2 j)
theorem dOB_checkIndex_3 : decode cOB_checkIndex 3 = .ok (.invokestatic 105, 3) := by decide +kernel
set_option maxRecDepth 100000 in
theorem eOB_checkIndex_3 {v0 v1 : Option Value} {x1 : Int32} {x2 : Int32} {u3 : Value} {Ψ : Outcome → x_H → Prop} (hu3 : u3.category = 1) (hst : (st.map fun u => u.category).sum ≤ 8) (kc : x_K P d mPC_checkIndex 0 [some (.int x1), some (.int x2), some (u3)] [] h Ψ) (k : ∀ oc h1, Ψ oc h1 → ∃ v, oc = .returned v ∧ x_K P (d + 1) mOB_checkIndex 6 [v0, v1] (v.toList ++ st) h1 Φ) : x_K P (d + 1) mOB_checkIndex 3 [v0, v1] (u3 :: .int x2 :: .int x1 :: st) h Φ := x_Kc kc k (fun _ _ _ _ j1 j2 => xj_callS (M2 := mPC_checkIndex) (As := [.int x1, .int x2, u3]) dOB_checkIndex_3 xm_230 xm_231 ok_PC_checkIndex rfl (by simp only [List.forall_mem_cons]; exact ⟨rfl, rfl, hu3, fun _ h => absurd h List.not_mem_nil⟩) (Nat.le_of_ble_eq_true rfl) hst j1 j2)
theorem dOB_checkIndex_6 : decode cOB_checkIndex 6 = .ok (.ireturn, 1) := by decide +kernel
theorem eOB_checkIndex_6 {v0 v1 : Option Value} {x : Int32} (hΦ : Φ (.returned (some (.int x))) h) : x_K P d mOB_checkIndex 6 [v0, v1] [.int x] h Φ := x_Kret hΦ (xj_iret dOB_checkIndex_6 rfl)
end
