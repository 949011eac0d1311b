section
variable {P : x_P} {d : Nat} {st : List Value} {h : x_H} {Φ : Outcome → x_H → Prop}
theorem dMO_count_10 : decode cMO_count 10 = .ok (.getfield 199, 3) := by decide +kernel
theorem eMO_count_10 {v0 v1 : Option Value} {a : Nat} {fs : List Value} {u : Value} (ha : h.1 a = some (.inr (8, fs))) (hv : fs[32]? = some u) (k : x_K P d mMO_count 13 [v0, v1] (u :: st) h Φ) : x_K P d mMO_count 10 [v0, v1] (.ref a :: st) h Φ := x_K1 k (fun _ _ j => xj_get dMO_count_10 okcMO rfl (j := 32) (by decide) xm_715 ha hv j)
theorem dMO_count_13 : decode cMO_count 13 = .ok (.goto 40, 3) := by decide +kernel
theorem eMO_count_13 {v0 v1 : Option Value} (k : x_K P d mMO_count 53 [v0, v1] st h Φ) : x_K P d mMO_count 13 [v0, v1] st h Φ := x_K1 k (fun _ _ j => xj_goto dMO_count_13 (tgt := 53) (by decide) j)
theorem dMO_count_16 : decode cMO_count 16 = .ok (.iload_n 1, 1) := by decide +kernel
theorem eMO_count_16 {v0 : Option Value} {x : Int32} (k : x_K P d mMO_count 17 [v0, some (.int x)] (.int x :: st) h Φ) : x_K P d mMO_count 16 [v0, some (.int x)] st h Φ := x_K1 k (fun _ _ j => xj_iload_n dMO_count_16 rfl rfl j)
theorem dMO_count_17 : decode cMO_count 17 = .ok (.iconst 1, 1) := by decide +kernel
theorem eMO_count_17 {v0 v1 : Option Value} (k : x_K P d mMO_count 18 [v0, v1] (.int 1 :: st) h Φ) : x_K P d mMO_count 17 [v0, v1] st h Φ := x_K1 k (fun _ _ j => xj_iconst dMO_count_17 (v := 1) (by decide) j)
theorem dMO_count_18 : decode cMO_count 18 = .ok (.if_icmp .ne 10, 3) := by decide +kernel
theorem eMO_count_18 {v0 v1 : Option Value} {x y : Int32} (kt : ¬ x = y → x_K P d mMO_count 28 [v0, v1] st h Φ) (kf : x = y → x_K P d mMO_count 21 [v0, v1] st h Φ) : x_K P d mMO_count 18 [v0, v1] (.int y :: .int x :: st) h Φ := x_K2 (Classical.em (x = y)) kf kt (fun a _ _ j => xj_icmp_ne dMO_count_18 (tgt := 28) (by decide) (fun b => absurd a b) (fun _ => j)) (fun a _ _ j => xj_icmp_ne dMO_count_18 (tgt := 28) (by decide) (fun _ => j) (fun b => absurd b a))
theorem dMO_count_21 : decode cMO_count 21 = .ok (.aload_n 0, 1) := by decide +kernel
theorem eMO_count_21 {v1 : Option Value} {u : Value} (hu : u.isRef = true) (k : x_K P d mMO_count 22 [some u, v1] (u :: st) h Φ) : x_K P d mMO_count 21 [some u, v1] st h Φ := x_K1 k (fun _ _ j => xj_aload_n dMO_count_21 rfl rfl hu j)
theorem dMO_count_22 : decode cMO_count 22 = .ok (.getfield 242, 3) := by decide +kernel
theorem eMO_count_22 {v0 v1 : Option Value} {a : Nat} {fs : List Value} {u : Value} (ha : h.1 a = some (.inr (8, fs))) (hv : fs[33]? = some u) (k : x_K P d mMO_count 25 [v0, v1] (u :: st) h Φ) : x_K P d mMO_count 22 [v0, v1] (.ref a :: st) h Φ := x_K1 k (fun _ _ j => xj_get dMO_count_22 okcMO rfl (j := 33) (by decide) xm_716 ha hv j)
theorem dMO_count_25 : decode cMO_count 25 = .ok (.goto 28, 3) := by decide +kernel
theorem eMO_count_25 {v0 v1 : Option Value} (k : x_K P d mMO_count 53 [v0, v1] st h Φ) : x_K P d mMO_count 25 [v0, v1] st h Φ := x_K1 k (fun _ _ j => xj_goto dMO_count_25 (tgt := 53) (by decide) j)
theorem dMO_count_28 : decode cMO_count 28 = .ok (.iload_n 1, 1) := by decide +kernel
theorem eMO_count_28 {v0 : Option Value} {x : Int32} (k : x_K P d mMO_count 29 [v0, some (.int x)] (.int x :: st) h Φ) : x_K P d mMO_count 28 [v0, some (.int x)] st h Φ := x_K1 k (fun _ _ j => xj_iload_n dMO_count_28 rfl rfl j)
theorem dMO_count_29 : decode cMO_count 29 = .ok (.iconst 2, 1) := by decide +kernel
theorem eMO_count_29 {v0 v1 : Option Value} (k : x_K P d mMO_count 30 [v0, v1] (.int 2 :: st) h Φ) : x_K P d mMO_count 29 [v0, v1] st h Φ := x_K1 k (fun _ _ j => xj_iconst dMO_count_29 (v := 2) (by decide) j)
theorem dMO_count_30 : decode cMO_count 30 = .ok (.if_icmp .ne 10, 3) := by decide +kernel
theorem eMO_count_30 {v0 v1 : Option Value} {x y : Int32} (kt : ¬ x = y → x_K P d mMO_count 40 [v0, v1] st h Φ) (kf : x = y → x_K P d mMO_count 33 [v0, v1] st h Φ) : x_K P d mMO_count 30 [v0, v1] (.int y :: .int x :: st) h Φ := x_K2 (Classical.em (x = y)) kf kt (fun a _ _ j => xj_icmp_ne dMO_count_30 (tgt := 40) (by decide) (fun b => absurd a b) (fun _ => j)) (fun a _ _ j => xj_icmp_ne dMO_count_30 (tgt := 40) (by decide) (fun _ => j) (fun b => absurd b a))
theorem dMO_count_33 : decode cMO_count 33 = .ok (.aload_n 0, 1) := by decide +kernel
theorem eMO_count_33 {v1 : Option Value} {u : Value} (hu : u.isRef = true) (k : x_K P d mMO_count 34 [some u, v1] (u :: st) h Φ) : x_K P d mMO_count 33 [some u, v1] st h Φ := x_K1 k (fun _ _ j => xj_aload_n dMO_count_33 rfl rfl hu j)
theorem dMO_count_34 : decode cMO_count 34 = .ok (.getfield 193, 3) := by decide +kernel
theorem eMO_count_34 {v0 v1 : Option Value} {a : Nat} {fs : List Value} {u : Value} (ha : h.1 a = some (.inr (8, fs))) (hv : fs[34]? = some u) (k : x_K P d mMO_count 37 [v0, v1] (u :: st) h Φ) : x_K P d mMO_count 34 [v0, v1] (.ref a :: st) h Φ := x_K1 k (fun _ _ j => xj_get dMO_count_34 okcMO rfl (j := 34) (by decide) xm_717 ha hv j)
theorem dMO_count_37 : decode cMO_count 37 = .ok (.goto 16, 3) := by decide +kernel
theorem eMO_count_37 {v0 v1 : Option Value} (k : x_K P d mMO_count 53 [v0, v1] st h Φ) : x_K P d mMO_count 37 [v0, v1] st h Φ := x_K1 k (fun _ _ j => xj_goto dMO_count_37 (tgt := 53) (by decide) j)
theorem dMO_count_40 : decode cMO_count 40 = .ok (.iload_n 1, 1) := by decide +kernel
theorem eMO_count_40 {v0 : Option Value} {x : Int32} (k : x_K P d mMO_count 41 [v0, some (.int x)] (.int x :: st) h Φ) : x_K P d mMO_count 40 [v0, some (.int x)] st h Φ := x_K1 k (fun _ _ j => xj_iload_n dMO_count_40 rfl rfl j)
theorem dMO_count_41 : decode cMO_count 41 = .ok (.iconst 3, 1) := by decide +kernel
theorem eMO_count_41 {v0 v1 : Option Value} (k : x_K P d mMO_count 42 [v0, v1] (.int 3 :: st) h Φ) : x_K P d mMO_count 41 [v0, v1] st h Φ := x_K1 k (fun _ _ j => xj_iconst dMO_count_41 (v := 3) (by decide) j)
theorem dMO_count_42 : decode cMO_count 42 = .ok (.if_icmp .ne 10, 3) := by decide +kernel
theorem eMO_count_42 {v0 v1 : Option Value} {x y : Int32} (kt : ¬ x = y → x_K P d mMO_count 52 [v0, v1] st h Φ) (kf : x = y → x_K P d mMO_count 45 [v0, v1] st h Φ) : x_K P d mMO_count 42 [v0, v1] (.int y :: .int x :: st) h Φ := x_K2 (Classical.em (x = y)) kf kt (fun a _ _ j => xj_icmp_ne dMO_count_42 (tgt := 52) (by decide) (fun b => absurd a b) (fun _ => j)) (fun a _ _ j => xj_icmp_ne dMO_count_42 (tgt := 52) (by decide) (fun _ => j) (fun b => absurd b a))
theorem dMO_count_45 : decode cMO_count 45 = .ok (.aload_n 0, 1) := by decide +kernel
theorem eMO_count_45 {v1 : Option Value} {u : Value} (hu : u.isRef = true) (k : x_K P d mMO_count 46 [some u, v1] (u :: st) h Φ) : x_K P d mMO_count 45 [some u, v1] st h Φ := x_K1 k (fun _ _ j => xj_aload_n dMO_count_45 rfl rfl hu j)
theorem dMO_count_46 : decode cMO_count 46 = .ok (.getfield 196, 3) := by decide +kernel
theorem eMO_count_46 {v0 v1 : Option Value} {a : Nat} {fs : List Value} {u : Value} (ha : h.1 a = some (.inr (8, fs))) (hv : fs[35]? = some u) (k : x_K P d mMO_count 49 [v0, v1] (u :: st) h Φ) : x_K P d mMO_count 46 [v0, v1] (.ref a :: st) h Φ := x_K1 k (fun _ _ j => xj_get dMO_count_46 okcMO rfl (j := 35) (by decide) xm_718 ha hv j)
theorem dMO_count_49 : decode cMO_count 49 = .ok (.goto 4, 3) := by decide +kernel
theorem eMO_count_49 {v0 v1 : Option Value} (k : x_K P d mMO_count 53 [v0, v1] st h Φ) : x_K P d mMO_count 49 [v0, v1] st h Φ := x_K1 k (fun _ _ j => xj_goto dMO_count_49 (tgt := 53) (by decide) j)
theorem dMO_count_52 : decode cMO_count 52 = .ok (.iconst (-1), 1) := by decide +kernel
theorem eMO_count_52 {v0 v1 : Option Value} (k : x_K P d mMO_count 53 [v0, v1] (.int (-1) :: st) h Φ) : x_K P d mMO_count 52 [v0, v1] st h Φ := x_K1 k (fun _ _ j => xj_iconst dMO_count_52 (v := (-1)) (by decide) j)
theorem dMO_count_53 : decode cMO_count 53 = .ok (.ireturn, 1) := by decide +kernel
theorem eMO_count_53 {v0 v1 : Option Value} {x : Int32} (hΦ : Φ (.returned (some (.int x))) h) : x_K P d mMO_count 53 [v0, v1] [.int x] h Φ := x_Kret hΦ (xj_iret dMO_count_53 rfl)
end
