section
variable {P : x_P} {d : Nat} {st : List Value} {h : x_H} {Φ : Outcome → x_H → Prop}
theorem dAB_init_0 : decode cAB_init 0 = .ok (.aload_n 0, 1) := by decide +kernel
theorem eAB_init_0 {u : Value} (hu : u.isRef = true) (k : x_K P d mAB_init 1 [some u] (u :: st) h Φ) : x_K P d mAB_init 0 [some u] st h Φ := x_K1 k (fun _ _ j => xj_aload_n dAB_init_0 rfl rfl hu j)
theorem dAB_init_1 : decode cAB_init 1 = .ok (.invokespecial 1, 3) := by decide +kernel
theorem dAB_init_4 : decode cAB_init 4 = .ok (.aload_n 0, 1) := by decide +kernel
theorem eAB_init_4 {u : Value} (hu : u.isRef = true) (k : x_K P d mAB_init 5 [some u] (u :: st) h Φ) : x_K P d mAB_init 4 [some u] st h Φ := x_K1 k (fun _ _ j => xj_aload_n dAB_init_4 rfl rfl hu j)
theorem dAB_init_5 : decode cAB_init 5 = .ok (.iconst 0, 1) := by decide +kernel
theorem eAB_init_5 {v0 : Option Value} (k : x_K P d mAB_init 6 [v0] (.int 0 :: st) h Φ) : x_K P d mAB_init 5 [v0] st h Φ := x_K1 k (fun _ _ j => xj_iconst dAB_init_5 (v := 0) (by decide) j)
theorem dAB_init_6 : decode cAB_init 6 = .ok (.putfield 7, 3) := by decide +kernel
theorem dAB_init_9 : decode cAB_init 9 = .ok (.return_, 1) := by decide +kernel
theorem eAB_init_9 {v0 : Option Value} (hΦ : Φ (.returned none) h) : x_K P d mAB_init 9 [v0] [] h Φ := x_Kret hΦ (xj_vret dAB_init_9 rfl)
end
