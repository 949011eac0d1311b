section
variable {P : x_P} {d : Nat} {st : List Value} {h : x_H} {Φ : Outcome → x_H → Prop}
theorem dNO_init_0 : decode cNO_init 0 = .ok (.aload_n 0, 1) := by decide +kernel
theorem eNO_init_0 {v1 v2 v3 : Option Value} {u : Value} (hu : u.isRef = true) (k : x_K P d mNO_init 1 [some u, v1, v2, v3] (u :: st) h Φ) : x_K P d mNO_init 0 [some u, v1, v2, v3] st h Φ := x_K1 k (fun _ _ j => xj_aload_n dNO_init_0 rfl rfl hu j)
theorem dNO_init_1 : decode cNO_init 1 = .ok (.invokespecial 1, 3) := by decide +kernel
set_option maxRecDepth 100000 in
theorem eNO_init_1 {v0 v1 v2 v3 : Option Value} {a : Nat} (hst : (st.map fun u => u.category).sum ≤ 8) (k : x_K P (d + 1) mNO_init 4 [v0, v1, v2, v3] st h Φ) : x_K P (d + 1) mNO_init 1 [v0, v1, v2, v3] (.ref a :: st) h Φ := x_K1 k (fun _ _ j => xj_objInit dNO_init_1 xm_639 xm_32 xm_33 hst (Nat.le_add_left 1 _) j)
theorem dNO_init_4 : decode cNO_init 4 = .ok (.aload_n 0, 1) := by decide +kernel
theorem eNO_init_4 {v1 v2 v3 : Option Value} {u : Value} (hu : u.isRef = true) (k : x_K P d mNO_init 5 [some u, v1, v2, v3] (u :: st) h Φ) : x_K P d mNO_init 4 [some u, v1, v2, v3] st h Φ := x_K1 k (fun _ _ j => xj_aload_n dNO_init_4 rfl rfl hu j)
theorem dNO_init_5 : decode cNO_init 5 = .ok (.iload_n 1, 1) := by decide +kernel
theorem eNO_init_5 {v0 v2 v3 : Option Value} {x : Int32} (k : x_K P d mNO_init 6 [v0, some (.int x), v2, v3] (.int x :: st) h Φ) : x_K P d mNO_init 5 [v0, some (.int x), v2, v3] st h Φ := x_K1 k (fun _ _ j => xj_iload_n dNO_init_5 rfl rfl j)
theorem dNO_init_6 : decode cNO_init 6 = .ok (.putfield 7, 3) := by decide +kernel
theorem eNO_init_6 {v0 v1 v2 v3 : Option Value} {a : Nat} {fs : List Value} {z : Int32} (ha : h.1 a = some (.inr (4, fs))) (hl : 0 < fs.length) (k : x_K P d mNO_init 9 [v0, v1, v2, v3] st (x_put h a (.inr (4, fs.set 0 (.int z)))) Φ) : x_K P d mNO_init 6 [v0, v1, v2, v3] (.int z :: .ref a :: st) h Φ := x_K1 k (fun _ _ j => xj_putF dNO_init_6 okcNO rfl (j := 0) (by decide) xm_640 rfl rfl rfl ha hl (ty := .int) (by decide +kernel) rfl rfl j)
theorem dNO_init_9 : decode cNO_init 9 = .ok (.aload_n 0, 1) := by decide +kernel
theorem eNO_init_9 {v1 v2 v3 : Option Value} {u : Value} (hu : u.isRef = true) (k : x_K P d mNO_init 10 [some u, v1, v2, v3] (u :: st) h Φ) : x_K P d mNO_init 9 [some u, v1, v2, v3] st h Φ := x_K1 k (fun _ _ j => xj_aload_n dNO_init_9 rfl rfl hu j)
theorem dNO_init_10 : decode cNO_init 10 = .ok (.iload_n 2, 1) := by decide +kernel
theorem eNO_init_10 {v0 v1 v3 : Option Value} {x : Int32} (k : x_K P d mNO_init 11 [v0, v1, some (.int x), v3] (.int x :: st) h Φ) : x_K P d mNO_init 10 [v0, v1, some (.int x), v3] st h Φ := x_K1 k (fun _ _ j => xj_iload_n dNO_init_10 rfl rfl j)
theorem dNO_init_11 : decode cNO_init 11 = .ok (.putfield 13, 3) := by decide +kernel
theorem eNO_init_11 {v0 v1 v2 v3 : Option Value} {a : Nat} {fs : List Value} {z : Int32} (ha : h.1 a = some (.inr (4, fs))) (hl : 1 < fs.length) (k : x_K P d mNO_init 14 [v0, v1, v2, v3] st (x_put h a (.inr (4, fs.set 1 (.int z)))) Φ) : x_K P d mNO_init 11 [v0, v1, v2, v3] (.int z :: .ref a :: st) h Φ := x_K1 k (fun _ _ j => xj_putF dNO_init_11 okcNO rfl (j := 1) (by decide) xm_642 rfl rfl rfl ha hl (ty := .int) (by decide +kernel) rfl rfl j)
theorem dNO_init_14 : decode cNO_init 14 = .ok (.aload_n 0, 1) := by decide +kernel
theorem eNO_init_14 {v1 v2 v3 : Option Value} {u : Value} (hu : u.isRef = true) (k : x_K P d mNO_init 15 [some u, v1, v2, v3] (u :: st) h Φ) : x_K P d mNO_init 14 [some u, v1, v2, v3] st h Φ := x_K1 k (fun _ _ j => xj_aload_n dNO_init_14 rfl rfl hu j)
theorem dNO_init_15 : decode cNO_init 15 = .ok (.iload_n 3, 1) := by decide +kernel
theorem eNO_init_15 {v0 v1 v2 : Option Value} {x : Int32} (k : x_K P d mNO_init 16 [v0, v1, v2, some (.int x)] (.int x :: st) h Φ) : x_K P d mNO_init 15 [v0, v1, v2, some (.int x)] st h Φ := x_K1 k (fun _ _ j => xj_iload_n dNO_init_15 rfl rfl j)
theorem dNO_init_16 : decode cNO_init 16 = .ok (.putfield 16, 3) := by decide +kernel
theorem eNO_init_16 {v0 v1 v2 v3 : Option Value} {a : Nat} {fs : List Value} {z : Int32} (ha : h.1 a = some (.inr (4, fs))) (hl : 2 < fs.length) (k : x_K P d mNO_init 19 [v0, v1, v2, v3] st (x_put h a (.inr (4, fs.set 2 (.int z)))) Φ) : x_K P d mNO_init 16 [v0, v1, v2, v3] (.int z :: .ref a :: st) h Φ := x_K1 k (fun _ _ j => xj_putF dNO_init_16 okcNO rfl (j := 2) (by decide) xm_644 rfl rfl rfl ha hl (ty := .int) (by decide +kernel) rfl rfl j)
theorem dNO_init_19 : decode cNO_init 19 = .ok (.return_, 1) := by decide +kernel
theorem eNO_init_19 {v0 v1 v2 v3 : Option Value} (hΦ : Φ (.returned none) h) : x_K P d mNO_init 19 [v0, v1, v2, v3] [] h Φ := x_Kret hΦ (xj_vret dNO_init_19 rfl)
end
