section
variable {P : x_P} {d : Nat} {st : List Value} {h : x_H} {Φ : Outcome → x_H → Prop}
theorem dLI_init_0 : decode cLI_init 0 = .ok (.aload_n 0, 1) := by decide +kernel
theorem eLI_init_0 {v1 v2 : Option Value} {u : Value} (hu : u.isRef = true) (k : x_K P d mLI_init 1 [some u, v1, v2] (u :: st) h Φ) : x_K P d mLI_init 0 [some u, v1, v2] st h Φ := x_K1 k (fun _ _ j => xj_aload_n dLI_init_0 rfl rfl hu j)
theorem dLI_init_1 : decode cLI_init 1 = .ok (.invokespecial 1, 3) := by decide +kernel
set_option maxRecDepth 100000 in
theorem eLI_init_1 {v0 v1 v2 : Option Value} {a : Nat} (hst : (st.map fun u => u.category).sum ≤ 8) (k : x_K P (d + 1) mLI_init 4 [v0, v1, v2] st h Φ) : x_K P (d + 1) mLI_init 1 [v0, v1, v2] (.ref a :: st) h Φ := x_K1 k (fun _ _ j => xj_objInit dLI_init_1 xm_102 xm_32 xm_33 hst (Nat.le_add_left 1 _) j)
theorem dLI_init_4 : decode cLI_init 4 = .ok (.aload_n 0, 1) := by decide +kernel
theorem eLI_init_4 {v1 v2 : Option Value} {u : Value} (hu : u.isRef = true) (k : x_K P d mLI_init 5 [some u, v1, v2] (u :: st) h Φ) : x_K P d mLI_init 4 [some u, v1, v2] st h Φ := x_K1 k (fun _ _ j => xj_aload_n dLI_init_4 rfl rfl hu j)
theorem dLI_init_5 : decode cLI_init 5 = .ok (.new 7, 3) := by decide +kernel
theorem eLI_init_5 {v0 v1 v2 : Option Value} (k : x_K P d mLI_init 8 [v0, v1, v2] (.ref h.2.1 :: st) (x_new h (.inr (6, [.null, .int 0, .int 0])) 3) Φ) : x_K P d mLI_init 5 [v0, v1, v2] st h Φ := x_K1 k (fun _ _ j => xj_new (fs := [.null, .int 0, .int 0]) dLI_init_5 okcRO rfl xm_103 xm_82 xm_6 dfcRO j)
theorem dLI_init_8 : decode cLI_init 8 = .ok (.dup, 1) := by decide +kernel
theorem eLI_init_8 {v0 v1 v2 : Option Value} {u : Value} (hu : u.category = 1) (k : x_K P d mLI_init 9 [v0, v1, v2] (u :: u :: st) h Φ) : x_K P d mLI_init 8 [v0, v1, v2] (u :: st) h Φ := x_K1 k (fun _ _ j => xj_dup dLI_init_8 hu j)
theorem dLI_init_9 : decode cLI_init 9 = .ok (.invokespecial 9, 3) := by decide +kernel
set_option maxRecDepth 100000 in
theorem eLI_init_9 {v0 v1 v2 : Option Value} {a : Nat} {Ψ : Outcome → x_H → Prop} (hst : (st.map fun u => u.category).sum ≤ 8) (kc : x_K P d mRO_init 0 [some (.ref a)] [] h Ψ) (k : ∀ oc h1, Ψ oc h1 → ∃ v, oc = .returned v ∧ x_K P (d + 1) mLI_init 12 [v0, v1, v2] (v.toList ++ st) h1 Φ) : x_K P (d + 1) mLI_init 9 [v0, v1, v2] (.ref a :: st) h Φ := x_Kc kc k (fun _ _ _ _ j1 j2 => xj_callIN (M2 := mRO_init) (As := []) dLI_init_9 (List.mem_of_getElem? (i := 4) rfl) rfl rfl xm_84 ok_RO_init rfl (by simp only [List.forall_mem_cons]; exact ⟨rfl, fun _ h => absurd h List.not_mem_nil⟩) (Nat.le_of_ble_eq_true rfl) hst j1 j2)
theorem dLI_init_12 : decode cLI_init 12 = .ok (.putfield 10, 3) := by decide +kernel
theorem eLI_init_12 {v0 v1 v2 : Option Value} {a : Nat} {fs : List Value} {z : Nat} (ha : h.1 a = some (.inr (3, fs))) (hl : 2 < fs.length) (k : x_K P d mLI_init 15 [v0, v1, v2] st (x_put h a (.inr (3, fs.set 2 (.ref z)))) Φ) : x_K P d mLI_init 12 [v0, v1, v2] (.ref z :: .ref a :: st) h Φ := x_K1 k (fun _ _ j => xj_putF dLI_init_12 okcLI rfl (j := 2) (by decide) xm_125 rfl rfl rfl ha hl (ty := .object "BrokerTree$Row") (by decide +kernel) rfl rfl j)
theorem dLI_init_15 : decode cLI_init 15 = .ok (.aload_n 0, 1) := by decide +kernel
theorem eLI_init_15 {v1 v2 : Option Value} {u : Value} (hu : u.isRef = true) (k : x_K P d mLI_init 16 [some u, v1, v2] (u :: st) h Φ) : x_K P d mLI_init 15 [some u, v1, v2] st h Φ := x_K1 k (fun _ _ j => xj_aload_n dLI_init_15 rfl rfl hu j)
theorem dLI_init_16 : decode cLI_init 16 = .ok (.new 7, 3) := by decide +kernel
theorem eLI_init_16 {v0 v1 v2 : Option Value} (k : x_K P d mLI_init 19 [v0, v1, v2] (.ref h.2.1 :: st) (x_new h (.inr (6, [.null, .int 0, .int 0])) 3) Φ) : x_K P d mLI_init 16 [v0, v1, v2] st h Φ := x_K1 k (fun _ _ j => xj_new (fs := [.null, .int 0, .int 0]) dLI_init_16 okcRO rfl xm_103 xm_82 xm_6 dfcRO j)
theorem dLI_init_19 : decode cLI_init 19 = .ok (.dup, 1) := by decide +kernel
theorem eLI_init_19 {v0 v1 v2 : Option Value} {u : Value} (hu : u.category = 1) (k : x_K P d mLI_init 20 [v0, v1, v2] (u :: u :: st) h Φ) : x_K P d mLI_init 19 [v0, v1, v2] (u :: st) h Φ := x_K1 k (fun _ _ j => xj_dup dLI_init_19 hu j)
theorem dLI_init_20 : decode cLI_init 20 = .ok (.invokespecial 9, 3) := by decide +kernel
set_option maxRecDepth 100000 in
theorem eLI_init_20 {v0 v1 v2 : Option Value} {a : Nat} {Ψ : Outcome → x_H → Prop} (hst : (st.map fun u => u.category).sum ≤ 8) (kc : x_K P d mRO_init 0 [some (.ref a)] [] h Ψ) (k : ∀ oc h1, Ψ oc h1 → ∃ v, oc = .returned v ∧ x_K P (d + 1) mLI_init 23 [v0, v1, v2] (v.toList ++ st) h1 Φ) : x_K P (d + 1) mLI_init 20 [v0, v1, v2] (.ref a :: st) h Φ := x_Kc kc k (fun _ _ _ _ j1 j2 => xj_callIN (M2 := mRO_init) (As := []) dLI_init_20 (List.mem_of_getElem? (i := 4) rfl) rfl rfl xm_84 ok_RO_init rfl (by simp only [List.forall_mem_cons]; exact ⟨rfl, fun _ h => absurd h List.not_mem_nil⟩) (Nat.le_of_ble_eq_true rfl) hst j1 j2)
theorem dLI_init_23 : decode cLI_init 23 = .ok (.putfield 16, 3) := by decide +kernel
theorem eLI_init_23 {v0 v1 v2 : Option Value} {a : Nat} {fs : List Value} {z : Nat} (ha : h.1 a = some (.inr (3, fs))) (hl : 3 < fs.length) (k : x_K P d mLI_init 26 [v0, v1, v2] st (x_put h a (.inr (3, fs.set 3 (.ref z)))) Φ) : x_K P d mLI_init 23 [v0, v1, v2] (.ref z :: .ref a :: st) h Φ := x_K1 k (fun _ _ j => xj_putF dLI_init_23 okcLI rfl (j := 3) (by decide) xm_127 rfl rfl rfl ha hl (ty := .object "BrokerTree$Row") (by decide +kernel) rfl rfl j)
theorem dLI_init_26 : decode cLI_init 26 = .ok (.aload_n 0, 1) := by decide +kernel
theorem eLI_init_26 {v1 v2 : Option Value} {u : Value} (hu : u.isRef = true) (k : x_K P d mLI_init 27 [some u, v1, v2] (u :: st) h Φ) : x_K P d mLI_init 26 [some u, v1, v2] st h Φ := x_K1 k (fun _ _ j => xj_aload_n dLI_init_26 rfl rfl hu j)
theorem dLI_init_27 : decode cLI_init 27 = .ok (.new 19, 3) := by decide +kernel
theorem eLI_init_27 {v0 v1 v2 : Option Value} (k : x_K P d mLI_init 30 [v0, v1, v2] (.ref h.2.1 :: st) (x_new h (.inr (5, [.null, .int 0, .int 0])) 3) Φ) : x_K P d mLI_init 27 [v0, v1, v2] st h Φ := x_K1 k (fun _ _ j => xj_new (fs := [.null, .int 0, .int 0]) dLI_init_27 okcQU rfl xm_105 xm_106 xm_8 dfcQU j)
theorem dLI_init_30 : decode cLI_init 30 = .ok (.dup, 1) := by decide +kernel
theorem eLI_init_30 {v0 v1 v2 : Option Value} {u : Value} (hu : u.category = 1) (k : x_K P d mLI_init 31 [v0, v1, v2] (u :: u :: st) h Φ) : x_K P d mLI_init 30 [v0, v1, v2] (u :: st) h Φ := x_K1 k (fun _ _ j => xj_dup dLI_init_30 hu j)
theorem dLI_init_31 : decode cLI_init 31 = .ok (.invokespecial 21, 3) := by decide +kernel
set_option maxRecDepth 100000 in
theorem eLI_init_31 {v0 v1 v2 : Option Value} {a : Nat} {Ψ : Outcome → x_H → Prop} (hst : (st.map fun u => u.category).sum ≤ 8) (kc : x_K P d mQU_init 0 [some (.ref a)] [] h Ψ) (k : ∀ oc h1, Ψ oc h1 → ∃ v, oc = .returned v ∧ x_K P (d + 1) mLI_init 34 [v0, v1, v2] (v.toList ++ st) h1 Φ) : x_K P (d + 1) mLI_init 31 [v0, v1, v2] (.ref a :: st) h Φ := x_Kc kc k (fun _ _ _ _ j1 j2 => xj_callIN (M2 := mQU_init) (As := []) dLI_init_31 (List.mem_of_getElem? (i := 5) rfl) rfl rfl xm_108 ok_QU_init rfl (by simp only [List.forall_mem_cons]; exact ⟨rfl, fun _ h => absurd h List.not_mem_nil⟩) (Nat.le_of_ble_eq_true rfl) hst j1 j2)
theorem dLI_init_34 : decode cLI_init 34 = .ok (.putfield 22, 3) := by decide +kernel
theorem eLI_init_34 {v0 v1 v2 : Option Value} {a : Nat} {fs : List Value} {z : Nat} (ha : h.1 a = some (.inr (3, fs))) (hl : 4 < fs.length) (k : x_K P d mLI_init 37 [v0, v1, v2] st (x_put h a (.inr (3, fs.set 4 (.ref z)))) Φ) : x_K P d mLI_init 34 [v0, v1, v2] (.ref z :: .ref a :: st) h Φ := x_K1 k (fun _ _ j => xj_putF dLI_init_34 okcLI rfl (j := 4) (by decide) xm_129 rfl rfl rfl ha hl (ty := .object "BrokerTree$Queue") (by decide +kernel) rfl rfl j)
theorem dLI_init_37 : decode cLI_init 37 = .ok (.aload_n 0, 1) := by decide +kernel
theorem eLI_init_37 {v1 v2 : Option Value} {u : Value} (hu : u.isRef = true) (k : x_K P d mLI_init 38 [some u, v1, v2] (u :: st) h Φ) : x_K P d mLI_init 37 [some u, v1, v2] st h Φ := x_K1 k (fun _ _ j => xj_aload_n dLI_init_37 rfl rfl hu j)
theorem dLI_init_38 : decode cLI_init 38 = .ok (.iload_n 1, 1) := by decide +kernel
theorem eLI_init_38 {v0 v2 : Option Value} {x : Int32} (k : x_K P d mLI_init 39 [v0, some (.int x), v2] (.int x :: st) h Φ) : x_K P d mLI_init 38 [v0, some (.int x), v2] st h Φ := x_K1 k (fun _ _ j => xj_iload_n dLI_init_38 rfl rfl j)
theorem dLI_init_39 : decode cLI_init 39 = .ok (.putfield 26, 3) := by decide +kernel
theorem eLI_init_39 {v0 v1 v2 : Option Value} {a : Nat} {fs : List Value} {z : Int32} (ha : h.1 a = some (.inr (3, fs))) (hl : 0 < fs.length) (k : x_K P d mLI_init 42 [v0, v1, v2] st (x_put h a (.inr (3, fs.set 0 (.int z)))) Φ) : x_K P d mLI_init 39 [v0, v1, v2] (.int z :: .ref a :: st) h Φ := x_K1 k (fun _ _ j => xj_putF dLI_init_39 okcLI rfl (j := 0) (by decide) xm_121 rfl rfl rfl ha hl (ty := .int) (by decide +kernel) rfl rfl j)
theorem dLI_init_42 : decode cLI_init 42 = .ok (.aload_n 0, 1) := by decide +kernel
theorem eLI_init_42 {v1 v2 : Option Value} {u : Value} (hu : u.isRef = true) (k : x_K P d mLI_init 43 [some u, v1, v2] (u :: st) h Φ) : x_K P d mLI_init 42 [some u, v1, v2] st h Φ := x_K1 k (fun _ _ j => xj_aload_n dLI_init_42 rfl rfl hu j)
theorem dLI_init_43 : decode cLI_init 43 = .ok (.iload_n 2, 1) := by decide +kernel
theorem eLI_init_43 {v0 v1 : Option Value} {x : Int32} (k : x_K P d mLI_init 44 [v0, v1, some (.int x)] (.int x :: st) h Φ) : x_K P d mLI_init 43 [v0, v1, some (.int x)] st h Φ := x_K1 k (fun _ _ j => xj_iload_n dLI_init_43 rfl rfl j)
theorem dLI_init_44 : decode cLI_init 44 = .ok (.putfield 30, 3) := by decide +kernel
theorem eLI_init_44 {v0 v1 v2 : Option Value} {a : Nat} {fs : List Value} {z : Int32} (ha : h.1 a = some (.inr (3, fs))) (hl : 1 < fs.length) (k : x_K P d mLI_init 47 [v0, v1, v2] st (x_put h a (.inr (3, fs.set 1 (.int z)))) Φ) : x_K P d mLI_init 44 [v0, v1, v2] (.int z :: .ref a :: st) h Φ := x_K1 k (fun _ _ j => xj_putF dLI_init_44 okcLI rfl (j := 1) (by decide) xm_123 rfl rfl rfl ha hl (ty := .int) (by decide +kernel) rfl rfl j)
theorem dLI_init_47 : decode cLI_init 47 = .ok (.return_, 1) := by decide +kernel
theorem eLI_init_47 {v0 v1 v2 : Option Value} (hΦ : Φ (.returned none) h) : x_K P d mLI_init 47 [v0, v1, v2] [] h Φ := x_Kret hΦ (xj_vret dLI_init_47 rfl)
end
