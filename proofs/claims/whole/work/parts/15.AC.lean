section
variable {P : x_P} {d : Nat} {st : List Value} {h : x_H} {Φ : Outcome → x_H → Prop}
theorem dAC_init_0 : decode cAC_init 0 = .ok (.aload_n 0, 1) := by decide +kernel
theorem eAC_init_0 {u : Value} (hu : u.isRef = true) (k : x_K P d mAC_init 1 [some u] (u :: st) h Φ) : x_K P d mAC_init 0 [some u] st h Φ := x_K1 k (fun _ _ j => xj_aload_n dAC_init_0 rfl rfl hu j)
theorem dAC_init_1 : decode cAC_init 1 = .ok (.invokespecial 1, 3) := by decide +kernel
set_option maxRecDepth 100000 in
theorem eAC_init_1 {v0 : Option Value} {a : Nat} (hst : (st.map fun u => u.category).sum ≤ 8) (k : x_K P (d + 1) mAC_init 4 [v0] st h Φ) : x_K P (d + 1) mAC_init 1 [v0] (.ref a :: st) h Φ := x_K1 k (fun _ _ j => xj_objInit dAC_init_1 xm_55 xm_32 xm_33 hst (Nat.le_add_left 1 _) j)
theorem dAC_init_4 : decode cAC_init 4 = .ok (.return_, 1) := by decide +kernel
theorem eAC_init_4 {v0 : Option Value} (hΦ : Φ (.returned none) h) : x_K P d mAC_init 4 [v0] [] h Φ := x_Kret hΦ (xj_vret dAC_init_4 rfl)
end
