section
variable {P : x_P} {d : Nat} {st : List Value} {h : x_H} {Φ : Outcome → x_H → Prop}
theorem dTX_find_0 : decode cTX_find 0 = .ok (.iload_n 2, 1) := by decide +kernel
theorem eTX_find_0 {v0 v1 v3 v4 : Option Value} {x : Int32} (k : x_K P d mTX_find 1 [v0, v1, some (.int x), v3, v4] (.int x :: st) h Φ) : x_K P d mTX_find 0 [v0, v1, some (.int x), v3, v4] st h Φ := x_K1 k (fun _ _ j => xj_iload_n dTX_find_0 rfl rfl j)
theorem dTX_find_1 : decode cTX_find 1 = .ok (.istore 4, 2) := by decide +kernel
theorem eTX_find_1 {v0 v1 v2 v3 v4 : Option Value} {x : Int32} (k : x_K P d mTX_find 3 [v0, v1, v2, v3, some (.int x)] st h Φ) : x_K P d mTX_find 1 [v0, v1, v2, v3, v4] (.int x :: st) h Φ := x_K1 k (fun _ _ j => xj_istore dTX_find_1 rfl j)
theorem dTX_find_3 : decode cTX_find 3 = .ok (.iload 4, 2) := by decide +kernel
theorem eTX_find_3 {v0 v1 v2 v3 : Option Value} {x : Int32} (k : x_K P d mTX_find 5 [v0, v1, v2, v3, some (.int x)] (.int x :: st) h Φ) : x_K P d mTX_find 3 [v0, v1, v2, v3, some (.int x)] st h Φ := x_K1 k (fun _ _ j => xj_iload dTX_find_3 rfl j)
theorem dTX_find_5 : decode cTX_find 5 = .ok (.iload_n 3, 1) := by decide +kernel
theorem eTX_find_5 {v0 v1 v2 v4 : Option Value} {x : Int32} (k : x_K P d mTX_find 6 [v0, v1, v2, some (.int x), v4] (.int x :: st) h Φ) : x_K P d mTX_find 5 [v0, v1, v2, some (.int x), v4] st h Φ := x_K1 k (fun _ _ j => xj_iload_n dTX_find_5 rfl rfl j)
theorem dTX_find_6 : decode cTX_find 6 = .ok (.if_icmp .ge 20, 3) := by decide +kernel
theorem eTX_find_6 {v0 v1 v2 v3 v4 : Option Value} {x y : Int32} (kt : y ≤ x → x_K P d mTX_find 26 [v0, v1, v2, v3, v4] st h Φ) (kf : ¬ y ≤ x → x_K P d mTX_find 9 [v0, v1, v2, v3, v4] st h Φ) : x_K P d mTX_find 6 [v0, v1, v2, v3, v4] (.int y :: .int x :: st) h Φ := x_K2 (Classical.em (y ≤ x)) kt kf (fun a _ _ j => xj_icmp_ge dTX_find_6 (tgt := 26) (by decide) (fun _ => j) (fun b => absurd a b)) (fun a _ _ j => xj_icmp_ge dTX_find_6 (tgt := 26) (by decide) (fun b => absurd b a) (fun _ => j))
theorem dTX_find_9 : decode cTX_find 9 = .ok (.aload_n 1, 1) := by decide +kernel
theorem eTX_find_9 {v0 v2 v3 v4 : Option Value} {u : Value} (hu : u.isRef = true) (k : x_K P d mTX_find 10 [v0, some u, v2, v3, v4] (u :: st) h Φ) : x_K P d mTX_find 9 [v0, some u, v2, v3, v4] st h Φ := x_K1 k (fun _ _ j => xj_aload_n dTX_find_9 rfl rfl hu j)
theorem dTX_find_10 : decode cTX_find 10 = .ok (.iload 4, 2) := by decide +kernel
theorem eTX_find_10 {v0 v1 v2 v3 : Option Value} {x : Int32} (k : x_K P d mTX_find 12 [v0, v1, v2, v3, some (.int x)] (.int x :: st) h Φ) : x_K P d mTX_find 10 [v0, v1, v2, v3, some (.int x)] st h Φ := x_K1 k (fun _ _ j => xj_iload dTX_find_10 rfl j)
theorem dTX_find_12 : decode cTX_find 12 = .ok (.caload, 1) := by decide +kernel
theorem eTX_find_12 {v0 v1 v2 v3 v4 : Option Value} {a n : Nat} {f : Nat → Int32} {i : Int32} (ha : h.1 a = some (.inl (2, n, .inl f))) (hi : vp_in i n) (k : x_K P d mTX_find 13 [v0, v1, v2, v3, v4] (.int (f i.toNatClampNeg) :: st) h Φ) : x_K P d mTX_find 12 [v0, v1, v2, v3, v4] (.int i :: .ref a :: st) h Φ := x_K1 k (fun _ _ j => xj_cald dTX_find_12 ha hi j)
theorem dTX_find_13 : decode cTX_find 13 = .ok (.iload_n 0, 1) := by decide +kernel
theorem eTX_find_13 {v1 v2 v3 v4 : Option Value} {x : Int32} (k : x_K P d mTX_find 14 [some (.int x), v1, v2, v3, v4] (.int x :: st) h Φ) : x_K P d mTX_find 13 [some (.int x), v1, v2, v3, v4] st h Φ := x_K1 k (fun _ _ j => xj_iload_n dTX_find_13 rfl rfl j)
theorem dTX_find_14 : decode cTX_find 14 = .ok (.if_icmp .ne 6, 3) := by decide +kernel
theorem eTX_find_14 {v0 v1 v2 v3 v4 : Option Value} {x y : Int32} (kt : ¬ x = y → x_K P d mTX_find 20 [v0, v1, v2, v3, v4] st h Φ) (kf : x = y → x_K P d mTX_find 17 [v0, v1, v2, v3, v4] st h Φ) : x_K P d mTX_find 14 [v0, v1, v2, v3, v4] (.int y :: .int x :: st) h Φ := x_K2 (Classical.em (x = y)) kf kt (fun a _ _ j => xj_icmp_ne dTX_find_14 (tgt := 20) (by decide) (fun b => absurd a b) (fun _ => j)) (fun a _ _ j => xj_icmp_ne dTX_find_14 (tgt := 20) (by decide) (fun _ => j) (fun b => absurd b a))
theorem dTX_find_17 : decode cTX_find 17 = .ok (.iload 4, 2) := by decide +kernel
theorem eTX_find_17 {v0 v1 v2 v3 : Option Value} {x : Int32} (k : x_K P d mTX_find 19 [v0, v1, v2, v3, some (.int x)] (.int x :: st) h Φ) : x_K P d mTX_find 17 [v0, v1, v2, v3, some (.int x)] st h Φ := x_K1 k (fun _ _ j => xj_iload dTX_find_17 rfl j)
theorem dTX_find_19 : decode cTX_find 19 = .ok (.ireturn, 1) := by decide +kernel
theorem eTX_find_19 {v0 v1 v2 v3 v4 : Option Value} {x : Int32} (hΦ : Φ (.returned (some (.int x))) h) : x_K P d mTX_find 19 [v0, v1, v2, v3, v4] [.int x] h Φ := x_Kret hΦ (xj_iret dTX_find_19 rfl)
theorem dTX_find_20 : decode cTX_find 20 = .ok (.iinc 4 1, 3) := by decide +kernel
theorem eTX_find_20 {v0 v1 v2 v3 : Option Value} {x : Int32} (k : x_K P d mTX_find 23 [v0, v1, v2, v3, some (.int (x + 1))] st h Φ) : x_K P d mTX_find 20 [v0, v1, v2, v3, some (.int x)] st h Φ := x_K1 k (fun _ _ j => xj_iinc dTX_find_20 rfl (v := x + 1) (by rfl) j)
theorem dTX_find_23 : decode cTX_find 23 = .ok (.goto (-20), 3) := by decide +kernel
theorem eTX_find_23 {v0 v1 v2 v3 v4 : Option Value} (k : x_K P d mTX_find 3 [v0, v1, v2, v3, v4] st h Φ) : x_K P d mTX_find 23 [v0, v1, v2, v3, v4] st h Φ := x_K1 k (fun _ _ j => xj_goto dTX_find_23 (tgt := 3) (by decide) j)
theorem dTX_find_26 : decode cTX_find 26 = .ok (.iload_n 3, 1) := by decide +kernel
theorem eTX_find_26 {v0 v1 v2 v4 : Option Value} {x : Int32} (k : x_K P d mTX_find 27 [v0, v1, v2, some (.int x), v4] (.int x :: st) h Φ) : x_K P d mTX_find 26 [v0, v1, v2, some (.int x), v4] st h Φ := x_K1 k (fun _ _ j => xj_iload_n dTX_find_26 rfl rfl j)
theorem dTX_find_27 : decode cTX_find 27 = .ok (.ireturn, 1) := by decide +kernel
theorem eTX_find_27 {v0 v1 v2 v3 v4 : Option Value} {x : Int32} (hΦ : Φ (.returned (some (.int x))) h) : x_K P d mTX_find 27 [v0, v1, v2, v3, v4] [.int x] h Φ := x_Kret hΦ (xj_iret dTX_find_27 rfl)
theorem dTX_word_0 : decode cTX_word 0 = .ok (.iload_n 2, 1) := by decide +kernel
theorem eTX_word_0 {v0 v1 v3 v4 v5 : Option Value} {x : Int32} (k : x_K P d mTX_word 1 [v0, v1, some (.int x), v3, v4, v5] (.int x :: st) h Φ) : x_K P d mTX_word 0 [v0, v1, some (.int x), v3, v4, v5] st h Φ := x_K1 k (fun _ _ j => xj_iload_n dTX_word_0 rfl rfl j)
theorem dTX_word_1 : decode cTX_word 1 = .ok (.iload_n 1, 1) := by decide +kernel
theorem eTX_word_1 {v0 v2 v3 v4 v5 : Option Value} {x : Int32} (k : x_K P d mTX_word 2 [v0, some (.int x), v2, v3, v4, v5] (.int x :: st) h Φ) : x_K P d mTX_word 1 [v0, some (.int x), v2, v3, v4, v5] st h Φ := x_K1 k (fun _ _ j => xj_iload_n dTX_word_1 rfl rfl j)
theorem dTX_word_2 : decode cTX_word 2 = .ok (.isub, 1) := by decide +kernel
theorem eTX_word_2 {v0 v1 v2 v3 v4 v5 : Option Value} {x y : Int32} (k : x_K P d mTX_word 3 [v0, v1, v2, v3, v4, v5] (.int (x - y) :: st) h Φ) : x_K P d mTX_word 2 [v0, v1, v2, v3, v4, v5] (.int y :: .int x :: st) h Φ := x_K1 k (fun _ _ j => xj_isub dTX_word_2 j)
theorem dTX_word_3 : decode cTX_word 3 = .ok (.iconst 1, 1) := by decide +kernel
theorem eTX_word_3 {v0 v1 v2 v3 v4 v5 : Option Value} (k : x_K P d mTX_word 4 [v0, v1, v2, v3, v4, v5] (.int 1 :: st) h Φ) : x_K P d mTX_word 3 [v0, v1, v2, v3, v4, v5] st h Φ := x_K1 k (fun _ _ j => xj_iconst dTX_word_3 (v := 1) (by decide) j)
theorem dTX_word_4 : decode cTX_word 4 = .ok (.if_icmp .lt 10, 3) := by decide +kernel
theorem eTX_word_4 {v0 v1 v2 v3 v4 v5 : Option Value} {x y : Int32} (kt : x < y → x_K P d mTX_word 14 [v0, v1, v2, v3, v4, v5] st h Φ) (kf : ¬ x < y → x_K P d mTX_word 7 [v0, v1, v2, v3, v4, v5] st h Φ) : x_K P d mTX_word 4 [v0, v1, v2, v3, v4, v5] (.int y :: .int x :: st) h Φ := x_K2 (Classical.em (x < y)) kt kf (fun a _ _ j => xj_icmp_lt dTX_word_4 (tgt := 14) (by decide) (fun _ => j) (fun b => absurd a b)) (fun a _ _ j => xj_icmp_lt dTX_word_4 (tgt := 14) (by decide) (fun b => absurd b a) (fun _ => j))
theorem dTX_word_7 : decode cTX_word 7 = .ok (.iload_n 2, 1) := by decide +kernel
theorem eTX_word_7 {v0 v1 v3 v4 v5 : Option Value} {x : Int32} (k : x_K P d mTX_word 8 [v0, v1, some (.int x), v3, v4, v5] (.int x :: st) h Φ) : x_K P d mTX_word 7 [v0, v1, some (.int x), v3, v4, v5] st h Φ := x_K1 k (fun _ _ j => xj_iload_n dTX_word_7 rfl rfl j)
theorem dTX_word_8 : decode cTX_word 8 = .ok (.iload_n 1, 1) := by decide +kernel
theorem eTX_word_8 {v0 v2 v3 v4 v5 : Option Value} {x : Int32} (k : x_K P d mTX_word 9 [v0, some (.int x), v2, v3, v4, v5] (.int x :: st) h Φ) : x_K P d mTX_word 8 [v0, some (.int x), v2, v3, v4, v5] st h Φ := x_K1 k (fun _ _ j => xj_iload_n dTX_word_8 rfl rfl j)
theorem dTX_word_9 : decode cTX_word 9 = .ok (.isub, 1) := by decide +kernel
theorem eTX_word_9 {v0 v1 v2 v3 v4 v5 : Option Value} {x y : Int32} (k : x_K P d mTX_word 10 [v0, v1, v2, v3, v4, v5] (.int (x - y) :: st) h Φ) : x_K P d mTX_word 9 [v0, v1, v2, v3, v4, v5] (.int y :: .int x :: st) h Φ := x_K1 k (fun _ _ j => xj_isub dTX_word_9 j)
theorem dTX_word_10 : decode cTX_word 10 = .ok (.iconst 4, 1) := by decide +kernel
theorem eTX_word_10 {v0 v1 v2 v3 v4 v5 : Option Value} (k : x_K P d mTX_word 11 [v0, v1, v2, v3, v4, v5] (.int 4 :: st) h Φ) : x_K P d mTX_word 10 [v0, v1, v2, v3, v4, v5] st h Φ := x_K1 k (fun _ _ j => xj_iconst dTX_word_10 (v := 4) (by decide) j)
theorem dTX_word_11 : decode cTX_word 11 = .ok (.if_icmp .le 6, 3) := by decide +kernel
theorem eTX_word_11 {v0 v1 v2 v3 v4 v5 : Option Value} {x y : Int32} (kt : x ≤ y → x_K P d mTX_word 17 [v0, v1, v2, v3, v4, v5] st h Φ) (kf : ¬ x ≤ y → x_K P d mTX_word 14 [v0, v1, v2, v3, v4, v5] st h Φ) : x_K P d mTX_word 11 [v0, v1, v2, v3, v4, v5] (.int y :: .int x :: st) h Φ := x_K2 (Classical.em (x ≤ y)) kt kf (fun a _ _ j => xj_icmp_le dTX_word_11 (tgt := 17) (by decide) (fun _ => j) (fun b => absurd a b)) (fun a _ _ j => xj_icmp_le dTX_word_11 (tgt := 17) (by decide) (fun b => absurd b a) (fun _ => j))
theorem dTX_word_14 : decode cTX_word 14 = .ok (.ldc 9, 2) := by decide +kernel
theorem eTX_word_14 {v0 v1 v2 v3 v4 v5 : Option Value} (k : x_K P d mTX_word 16 [v0, v1, v2, v3, v4, v5] (.int (-2147483648) :: st) h Φ) : x_K P d mTX_word 14 [v0, v1, v2, v3, v4, v5] st h Φ := x_K1 k (fun _ _ j => xj_ldc dTX_word_14 xm_405 j)
theorem dTX_word_16 : decode cTX_word 16 = .ok (.ireturn, 1) := by decide +kernel
theorem eTX_word_16 {v0 v1 v2 v3 v4 v5 : Option Value} {x : Int32} (hΦ : Φ (.returned (some (.int x))) h) : x_K P d mTX_word 16 [v0, v1, v2, v3, v4, v5] [.int x] h Φ := x_Kret hΦ (xj_iret dTX_word_16 rfl)
theorem dTX_word_17 : decode cTX_word 17 = .ok (.iconst 0, 1) := by decide +kernel
theorem eTX_word_17 {v0 v1 v2 v3 v4 v5 : Option Value} (k : x_K P d mTX_word 18 [v0, v1, v2, v3, v4, v5] (.int 0 :: st) h Φ) : x_K P d mTX_word 17 [v0, v1, v2, v3, v4, v5] st h Φ := x_K1 k (fun _ _ j => xj_iconst dTX_word_17 (v := 0) (by decide) j)
theorem dTX_word_18 : decode cTX_word 18 = .ok (.istore_n 3, 1) := by decide +kernel
theorem eTX_word_18 {v0 v1 v2 v3 v4 v5 : Option Value} {x : Int32} (k : x_K P d mTX_word 19 [v0, v1, v2, some (.int x), v4, v5] st h Φ) : x_K P d mTX_word 18 [v0, v1, v2, v3, v4, v5] (.int x :: st) h Φ := x_K1 k (fun _ _ j => xj_istore_n dTX_word_18 rfl rfl j)
theorem dTX_word_19 : decode cTX_word 19 = .ok (.iload_n 1, 1) := by decide +kernel
theorem eTX_word_19 {v0 v2 v3 v4 v5 : Option Value} {x : Int32} (k : x_K P d mTX_word 20 [v0, some (.int x), v2, v3, v4, v5] (.int x :: st) h Φ) : x_K P d mTX_word 19 [v0, some (.int x), v2, v3, v4, v5] st h Φ := x_K1 k (fun _ _ j => xj_iload_n dTX_word_19 rfl rfl j)
theorem dTX_word_20 : decode cTX_word 20 = .ok (.istore 4, 2) := by decide +kernel
theorem eTX_word_20 {v0 v1 v2 v3 v4 v5 : Option Value} {x : Int32} (k : x_K P d mTX_word 22 [v0, v1, v2, v3, some (.int x), v5] st h Φ) : x_K P d mTX_word 20 [v0, v1, v2, v3, v4, v5] (.int x :: st) h Φ := x_K1 k (fun _ _ j => xj_istore dTX_word_20 rfl j)
theorem dTX_word_22 : decode cTX_word 22 = .ok (.iload 4, 2) := by decide +kernel
theorem eTX_word_22 {v0 v1 v2 v3 v5 : Option Value} {x : Int32} (k : x_K P d mTX_word 24 [v0, v1, v2, v3, some (.int x), v5] (.int x :: st) h Φ) : x_K P d mTX_word 22 [v0, v1, v2, v3, some (.int x), v5] st h Φ := x_K1 k (fun _ _ j => xj_iload dTX_word_22 rfl j)
theorem dTX_word_24 : decode cTX_word 24 = .ok (.iload_n 2, 1) := by decide +kernel
theorem eTX_word_24 {v0 v1 v3 v4 v5 : Option Value} {x : Int32} (k : x_K P d mTX_word 25 [v0, v1, some (.int x), v3, v4, v5] (.int x :: st) h Φ) : x_K P d mTX_word 24 [v0, v1, some (.int x), v3, v4, v5] st h Φ := x_K1 k (fun _ _ j => xj_iload_n dTX_word_24 rfl rfl j)
theorem dTX_word_25 : decode cTX_word 25 = .ok (.if_icmp .ge 44, 3) := by decide +kernel
theorem eTX_word_25 {v0 v1 v2 v3 v4 v5 : Option Value} {x y : Int32} (kt : y ≤ x → x_K P d mTX_word 69 [v0, v1, v2, v3, v4, v5] st h Φ) (kf : ¬ y ≤ x → x_K P d mTX_word 28 [v0, v1, v2, v3, v4, v5] st h Φ) : x_K P d mTX_word 25 [v0, v1, v2, v3, v4, v5] (.int y :: .int x :: st) h Φ := x_K2 (Classical.em (y ≤ x)) kt kf (fun a _ _ j => xj_icmp_ge dTX_word_25 (tgt := 69) (by decide) (fun _ => j) (fun b => absurd a b)) (fun a _ _ j => xj_icmp_ge dTX_word_25 (tgt := 69) (by decide) (fun b => absurd b a) (fun _ => j))
theorem dTX_word_28 : decode cTX_word 28 = .ok (.aload_n 0, 1) := by decide +kernel
theorem eTX_word_28 {v1 v2 v3 v4 v5 : Option Value} {u : Value} (hu : u.isRef = true) (k : x_K P d mTX_word 29 [some u, v1, v2, v3, v4, v5] (u :: st) h Φ) : x_K P d mTX_word 28 [some u, v1, v2, v3, v4, v5] st h Φ := x_K1 k (fun _ _ j => xj_aload_n dTX_word_28 rfl rfl hu j)
theorem dTX_word_29 : decode cTX_word 29 = .ok (.iload 4, 2) := by decide +kernel
theorem eTX_word_29 {v0 v1 v2 v3 v5 : Option Value} {x : Int32} (k : x_K P d mTX_word 31 [v0, v1, v2, v3, some (.int x), v5] (.int x :: st) h Φ) : x_K P d mTX_word 29 [v0, v1, v2, v3, some (.int x), v5] st h Φ := x_K1 k (fun _ _ j => xj_iload dTX_word_29 rfl j)
theorem dTX_word_31 : decode cTX_word 31 = .ok (.caload, 1) := by decide +kernel
theorem eTX_word_31 {v0 v1 v2 v3 v4 v5 : Option Value} {a n : Nat} {f : Nat → Int32} {i : Int32} (ha : h.1 a = some (.inl (2, n, .inl f))) (hi : vp_in i n) (k : x_K P d mTX_word 32 [v0, v1, v2, v3, v4, v5] (.int (f i.toNatClampNeg) :: st) h Φ) : x_K P d mTX_word 31 [v0, v1, v2, v3, v4, v5] (.int i :: .ref a :: st) h Φ := x_K1 k (fun _ _ j => xj_cald dTX_word_31 ha hi j)
theorem dTX_word_32 : decode cTX_word 32 = .ok (.istore 5, 2) := by decide +kernel
theorem eTX_word_32 {v0 v1 v2 v3 v4 v5 : Option Value} {x : Int32} (k : x_K P d mTX_word 34 [v0, v1, v2, v3, v4, some (.int x)] st h Φ) : x_K P d mTX_word 32 [v0, v1, v2, v3, v4, v5] (.int x :: st) h Φ := x_K1 k (fun _ _ j => xj_istore dTX_word_32 rfl j)
theorem dTX_word_34 : decode cTX_word 34 = .ok (.iload 5, 2) := by decide +kernel
theorem eTX_word_34 {v0 v1 v2 v3 v4 : Option Value} {x : Int32} (k : x_K P d mTX_word 36 [v0, v1, v2, v3, v4, some (.int x)] (.int x :: st) h Φ) : x_K P d mTX_word 34 [v0, v1, v2, v3, v4, some (.int x)] st h Φ := x_K1 k (fun _ _ j => xj_iload dTX_word_34 rfl j)
theorem dTX_word_36 : decode cTX_word 36 = .ok (.bipush 97, 2) := by decide +kernel
theorem eTX_word_36 {v0 v1 v2 v3 v4 v5 : Option Value} (k : x_K P d mTX_word 38 [v0, v1, v2, v3, v4, v5] (.int 97 :: st) h Φ) : x_K P d mTX_word 36 [v0, v1, v2, v3, v4, v5] st h Φ := x_K1 k (fun _ _ j => xj_bipush dTX_word_36 (v := 97) (by decide) j)
theorem dTX_word_38 : decode cTX_word 38 = .ok (.if_icmp .lt 10, 3) := by decide +kernel
theorem eTX_word_38 {v0 v1 v2 v3 v4 v5 : Option Value} {x y : Int32} (kt : x < y → x_K P d mTX_word 48 [v0, v1, v2, v3, v4, v5] st h Φ) (kf : ¬ x < y → x_K P d mTX_word 41 [v0, v1, v2, v3, v4, v5] st h Φ) : x_K P d mTX_word 38 [v0, v1, v2, v3, v4, v5] (.int y :: .int x :: st) h Φ := x_K2 (Classical.em (x < y)) kt kf (fun a _ _ j => xj_icmp_lt dTX_word_38 (tgt := 48) (by decide) (fun _ => j) (fun b => absurd a b)) (fun a _ _ j => xj_icmp_lt dTX_word_38 (tgt := 48) (by decide) (fun b => absurd b a) (fun _ => j))
theorem dTX_word_41 : decode cTX_word 41 = .ok (.iload 5, 2) := by decide +kernel
theorem eTX_word_41 {v0 v1 v2 v3 v4 : Option Value} {x : Int32} (k : x_K P d mTX_word 43 [v0, v1, v2, v3, v4, some (.int x)] (.int x :: st) h Φ) : x_K P d mTX_word 41 [v0, v1, v2, v3, v4, some (.int x)] st h Φ := x_K1 k (fun _ _ j => xj_iload dTX_word_41 rfl j)
theorem dTX_word_43 : decode cTX_word 43 = .ok (.bipush 122, 2) := by decide +kernel
theorem eTX_word_43 {v0 v1 v2 v3 v4 v5 : Option Value} (k : x_K P d mTX_word 45 [v0, v1, v2, v3, v4, v5] (.int 122 :: st) h Φ) : x_K P d mTX_word 43 [v0, v1, v2, v3, v4, v5] st h Φ := x_K1 k (fun _ _ j => xj_bipush dTX_word_43 (v := 122) (by decide) j)
theorem dTX_word_45 : decode cTX_word 45 = .ok (.if_icmp .le 6, 3) := by decide +kernel
theorem eTX_word_45 {v0 v1 v2 v3 v4 v5 : Option Value} {x y : Int32} (kt : x ≤ y → x_K P d mTX_word 51 [v0, v1, v2, v3, v4, v5] st h Φ) (kf : ¬ x ≤ y → x_K P d mTX_word 48 [v0, v1, v2, v3, v4, v5] st h Φ) : x_K P d mTX_word 45 [v0, v1, v2, v3, v4, v5] (.int y :: .int x :: st) h Φ := x_K2 (Classical.em (x ≤ y)) kt kf (fun a _ _ j => xj_icmp_le dTX_word_45 (tgt := 51) (by decide) (fun _ => j) (fun b => absurd a b)) (fun a _ _ j => xj_icmp_le dTX_word_45 (tgt := 51) (by decide) (fun b => absurd b a) (fun _ => j))
theorem dTX_word_48 : decode cTX_word 48 = .ok (.ldc 9, 2) := by decide +kernel
theorem eTX_word_48 {v0 v1 v2 v3 v4 v5 : Option Value} (k : x_K P d mTX_word 50 [v0, v1, v2, v3, v4, v5] (.int (-2147483648) :: st) h Φ) : x_K P d mTX_word 48 [v0, v1, v2, v3, v4, v5] st h Φ := x_K1 k (fun _ _ j => xj_ldc dTX_word_48 xm_405 j)
theorem dTX_word_50 : decode cTX_word 50 = .ok (.ireturn, 1) := by decide +kernel
theorem eTX_word_50 {v0 v1 v2 v3 v4 v5 : Option Value} {x : Int32} (hΦ : Φ (.returned (some (.int x))) h) : x_K P d mTX_word 50 [v0, v1, v2, v3, v4, v5] [.int x] h Φ := x_Kret hΦ (xj_iret dTX_word_50 rfl)
theorem dTX_word_51 : decode cTX_word 51 = .ok (.iload_n 3, 1) := by decide +kernel
theorem eTX_word_51 {v0 v1 v2 v4 v5 : Option Value} {x : Int32} (k : x_K P d mTX_word 52 [v0, v1, v2, some (.int x), v4, v5] (.int x :: st) h Φ) : x_K P d mTX_word 51 [v0, v1, v2, some (.int x), v4, v5] st h Φ := x_K1 k (fun _ _ j => xj_iload_n dTX_word_51 rfl rfl j)
theorem dTX_word_52 : decode cTX_word 52 = .ok (.iconst 5, 1) := by decide +kernel
theorem eTX_word_52 {v0 v1 v2 v3 v4 v5 : Option Value} (k : x_K P d mTX_word 53 [v0, v1, v2, v3, v4, v5] (.int 5 :: st) h Φ) : x_K P d mTX_word 52 [v0, v1, v2, v3, v4, v5] st h Φ := x_K1 k (fun _ _ j => xj_iconst dTX_word_52 (v := 5) (by decide) j)
theorem dTX_word_53 : decode cTX_word 53 = .ok (.ishl, 1) := by decide +kernel
theorem eTX_word_53 {v0 v1 v2 v3 v4 v5 : Option Value} {x y : Int32} (k : x_K P d mTX_word 54 [v0, v1, v2, v3, v4, v5] (.int (x <<< (y &&& 31)) :: st) h Φ) : x_K P d mTX_word 53 [v0, v1, v2, v3, v4, v5] (.int y :: .int x :: st) h Φ := x_K1 k (fun _ _ j => xj_ishl dTX_word_53 j)
theorem dTX_word_54 : decode cTX_word 54 = .ok (.iload 5, 2) := by decide +kernel
theorem eTX_word_54 {v0 v1 v2 v3 v4 : Option Value} {x : Int32} (k : x_K P d mTX_word 56 [v0, v1, v2, v3, v4, some (.int x)] (.int x :: st) h Φ) : x_K P d mTX_word 54 [v0, v1, v2, v3, v4, some (.int x)] st h Φ := x_K1 k (fun _ _ j => xj_iload dTX_word_54 rfl j)
theorem dTX_word_56 : decode cTX_word 56 = .ok (.bipush 97, 2) := by decide +kernel
theorem eTX_word_56 {v0 v1 v2 v3 v4 v5 : Option Value} (k : x_K P d mTX_word 58 [v0, v1, v2, v3, v4, v5] (.int 97 :: st) h Φ) : x_K P d mTX_word 56 [v0, v1, v2, v3, v4, v5] st h Φ := x_K1 k (fun _ _ j => xj_bipush dTX_word_56 (v := 97) (by decide) j)
theorem dTX_word_58 : decode cTX_word 58 = .ok (.isub, 1) := by decide +kernel
theorem eTX_word_58 {v0 v1 v2 v3 v4 v5 : Option Value} {x y : Int32} (k : x_K P d mTX_word 59 [v0, v1, v2, v3, v4, v5] (.int (x - y) :: st) h Φ) : x_K P d mTX_word 58 [v0, v1, v2, v3, v4, v5] (.int y :: .int x :: st) h Φ := x_K1 k (fun _ _ j => xj_isub dTX_word_58 j)
theorem dTX_word_59 : decode cTX_word 59 = .ok (.iconst 1, 1) := by decide +kernel
theorem eTX_word_59 {v0 v1 v2 v3 v4 v5 : Option Value} (k : x_K P d mTX_word 60 [v0, v1, v2, v3, v4, v5] (.int 1 :: st) h Φ) : x_K P d mTX_word 59 [v0, v1, v2, v3, v4, v5] st h Φ := x_K1 k (fun _ _ j => xj_iconst dTX_word_59 (v := 1) (by decide) j)
theorem dTX_word_60 : decode cTX_word 60 = .ok (.iadd, 1) := by decide +kernel
theorem eTX_word_60 {v0 v1 v2 v3 v4 v5 : Option Value} {x y : Int32} (k : x_K P d mTX_word 61 [v0, v1, v2, v3, v4, v5] (.int (x + y) :: st) h Φ) : x_K P d mTX_word 60 [v0, v1, v2, v3, v4, v5] (.int y :: .int x :: st) h Φ := x_K1 k (fun _ _ j => xj_iadd dTX_word_60 j)
theorem dTX_word_61 : decode cTX_word 61 = .ok (.ior, 1) := by decide +kernel
theorem eTX_word_61 {v0 v1 v2 v3 v4 v5 : Option Value} {x y : Int32} (k : x_K P d mTX_word 62 [v0, v1, v2, v3, v4, v5] (.int (x ||| y) :: st) h Φ) : x_K P d mTX_word 61 [v0, v1, v2, v3, v4, v5] (.int y :: .int x :: st) h Φ := x_K1 k (fun _ _ j => xj_ior dTX_word_61 j)
theorem dTX_word_62 : decode cTX_word 62 = .ok (.istore_n 3, 1) := by decide +kernel
theorem eTX_word_62 {v0 v1 v2 v3 v4 v5 : Option Value} {x : Int32} (k : x_K P d mTX_word 63 [v0, v1, v2, some (.int x), v4, v5] st h Φ) : x_K P d mTX_word 62 [v0, v1, v2, v3, v4, v5] (.int x :: st) h Φ := x_K1 k (fun _ _ j => xj_istore_n dTX_word_62 rfl rfl j)
theorem dTX_word_63 : decode cTX_word 63 = .ok (.iinc 4 1, 3) := by decide +kernel
theorem eTX_word_63 {v0 v1 v2 v3 v5 : Option Value} {x : Int32} (k : x_K P d mTX_word 66 [v0, v1, v2, v3, some (.int (x + 1)), v5] st h Φ) : x_K P d mTX_word 63 [v0, v1, v2, v3, some (.int x), v5] st h Φ := x_K1 k (fun _ _ j => xj_iinc dTX_word_63 rfl (v := x + 1) (by rfl) j)
theorem dTX_word_66 : decode cTX_word 66 = .ok (.goto (-44), 3) := by decide +kernel
theorem eTX_word_66 {v0 v1 v2 v3 v4 v5 : Option Value} (k : x_K P d mTX_word 22 [v0, v1, v2, v3, v4, v5] st h Φ) : x_K P d mTX_word 66 [v0, v1, v2, v3, v4, v5] st h Φ := x_K1 k (fun _ _ j => xj_goto dTX_word_66 (tgt := 22) (by decide) j)
theorem dTX_word_69 : decode cTX_word 69 = .ok (.iload_n 3, 1) := by decide +kernel
theorem eTX_word_69 {v0 v1 v2 v4 v5 : Option Value} {x : Int32} (k : x_K P d mTX_word 70 [v0, v1, v2, some (.int x), v4, v5] (.int x :: st) h Φ) : x_K P d mTX_word 69 [v0, v1, v2, some (.int x), v4, v5] st h Φ := x_K1 k (fun _ _ j => xj_iload_n dTX_word_69 rfl rfl j)
theorem dTX_word_70 : decode cTX_word 70 = .ok (.iconst 5, 1) := by decide +kernel
theorem eTX_word_70 {v0 v1 v2 v3 v4 v5 : Option Value} (k : x_K P d mTX_word 71 [v0, v1, v2, v3, v4, v5] (.int 5 :: st) h Φ) : x_K P d mTX_word 70 [v0, v1, v2, v3, v4, v5] st h Φ := x_K1 k (fun _ _ j => xj_iconst dTX_word_70 (v := 5) (by decide) j)
theorem dTX_word_71 : decode cTX_word 71 = .ok (.iconst 4, 1) := by decide +kernel
theorem eTX_word_71 {v0 v1 v2 v3 v4 v5 : Option Value} (k : x_K P d mTX_word 72 [v0, v1, v2, v3, v4, v5] (.int 4 :: st) h Φ) : x_K P d mTX_word 71 [v0, v1, v2, v3, v4, v5] st h Φ := x_K1 k (fun _ _ j => xj_iconst dTX_word_71 (v := 4) (by decide) j)
theorem dTX_word_72 : decode cTX_word 72 = .ok (.iload_n 2, 1) := by decide +kernel
theorem eTX_word_72 {v0 v1 v3 v4 v5 : Option Value} {x : Int32} (k : x_K P d mTX_word 73 [v0, v1, some (.int x), v3, v4, v5] (.int x :: st) h Φ) : x_K P d mTX_word 72 [v0, v1, some (.int x), v3, v4, v5] st h Φ := x_K1 k (fun _ _ j => xj_iload_n dTX_word_72 rfl rfl j)
theorem dTX_word_73 : decode cTX_word 73 = .ok (.iload_n 1, 1) := by decide +kernel
theorem eTX_word_73 {v0 v2 v3 v4 v5 : Option Value} {x : Int32} (k : x_K P d mTX_word 74 [v0, some (.int x), v2, v3, v4, v5] (.int x :: st) h Φ) : x_K P d mTX_word 73 [v0, some (.int x), v2, v3, v4, v5] st h Φ := x_K1 k (fun _ _ j => xj_iload_n dTX_word_73 rfl rfl j)
theorem dTX_word_74 : decode cTX_word 74 = .ok (.isub, 1) := by decide +kernel
theorem eTX_word_74 {v0 v1 v2 v3 v4 v5 : Option Value} {x y : Int32} (k : x_K P d mTX_word 75 [v0, v1, v2, v3, v4, v5] (.int (x - y) :: st) h Φ) : x_K P d mTX_word 74 [v0, v1, v2, v3, v4, v5] (.int y :: .int x :: st) h Φ := x_K1 k (fun _ _ j => xj_isub dTX_word_74 j)
theorem dTX_word_75 : decode cTX_word 75 = .ok (.isub, 1) := by decide +kernel
theorem eTX_word_75 {v0 v1 v2 v3 v4 v5 : Option Value} {x y : Int32} (k : x_K P d mTX_word 76 [v0, v1, v2, v3, v4, v5] (.int (x - y) :: st) h Φ) : x_K P d mTX_word 75 [v0, v1, v2, v3, v4, v5] (.int y :: .int x :: st) h Φ := x_K1 k (fun _ _ j => xj_isub dTX_word_75 j)
theorem dTX_word_76 : decode cTX_word 76 = .ok (.imul, 1) := by decide +kernel
theorem eTX_word_76 {v0 v1 v2 v3 v4 v5 : Option Value} {x y : Int32} (k : x_K P d mTX_word 77 [v0, v1, v2, v3, v4, v5] (.int (x * y) :: st) h Φ) : x_K P d mTX_word 76 [v0, v1, v2, v3, v4, v5] (.int y :: .int x :: st) h Φ := x_K1 k (fun _ _ j => xj_imul dTX_word_76 j)
theorem dTX_word_77 : decode cTX_word 77 = .ok (.ishl, 1) := by decide +kernel
theorem eTX_word_77 {v0 v1 v2 v3 v4 v5 : Option Value} {x y : Int32} (k : x_K P d mTX_word 78 [v0, v1, v2, v3, v4, v5] (.int (x <<< (y &&& 31)) :: st) h Φ) : x_K P d mTX_word 77 [v0, v1, v2, v3, v4, v5] (.int y :: .int x :: st) h Φ := x_K1 k (fun _ _ j => xj_ishl dTX_word_77 j)
theorem dTX_word_78 : decode cTX_word 78 = .ok (.ireturn, 1) := by decide +kernel
theorem eTX_word_78 {v0 v1 v2 v3 v4 v5 : Option Value} {x : Int32} (hΦ : Φ (.returned (some (.int x))) h) : x_K P d mTX_word 78 [v0, v1, v2, v3, v4, v5] [.int x] h Φ := x_Kret hΦ (xj_iret dTX_word_78 rfl)
theorem dTX_endings_0 : decode cTX_endings 0 = .ok (.iconst 1, 1) := by decide +kernel
theorem eTX_endings_0 {v0 : Option Value} (k : x_K P d mTX_endings 1 [v0] (.int 1 :: st) h Φ) : x_K P d mTX_endings 0 [v0] st h Φ := x_K1 k (fun _ _ j => xj_iconst dTX_endings_0 (v := 1) (by decide) j)
theorem dTX_endings_1 : decode cTX_endings 1 = .ok (.iconst 5, 1) := by decide +kernel
theorem eTX_endings_1 {v0 : Option Value} (k : x_K P d mTX_endings 2 [v0] (.int 5 :: st) h Φ) : x_K P d mTX_endings 1 [v0] st h Φ := x_K1 k (fun _ _ j => xj_iconst dTX_endings_1 (v := 5) (by decide) j)
theorem dTX_endings_2 : decode cTX_endings 2 = .ok (.iconst 4, 1) := by decide +kernel
theorem eTX_endings_2 {v0 : Option Value} (k : x_K P d mTX_endings 3 [v0] (.int 4 :: st) h Φ) : x_K P d mTX_endings 2 [v0] st h Φ := x_K1 k (fun _ _ j => xj_iconst dTX_endings_2 (v := 4) (by decide) j)
theorem dTX_endings_3 : decode cTX_endings 3 = .ok (.iload_n 0, 1) := by decide +kernel
theorem eTX_endings_3 {x : Int32} (k : x_K P d mTX_endings 4 [some (.int x)] (.int x :: st) h Φ) : x_K P d mTX_endings 3 [some (.int x)] st h Φ := x_K1 k (fun _ _ j => xj_iload_n dTX_endings_3 rfl rfl j)
theorem dTX_endings_4 : decode cTX_endings 4 = .ok (.isub, 1) := by decide +kernel
theorem eTX_endings_4 {v0 : Option Value} {x y : Int32} (k : x_K P d mTX_endings 5 [v0] (.int (x - y) :: st) h Φ) : x_K P d mTX_endings 4 [v0] (.int y :: .int x :: st) h Φ := x_K1 k (fun _ _ j => xj_isub dTX_endings_4 j)
theorem dTX_endings_5 : decode cTX_endings 5 = .ok (.imul, 1) := by decide +kernel
theorem eTX_endings_5 {v0 : Option Value} {x y : Int32} (k : x_K P d mTX_endings 6 [v0] (.int (x * y) :: st) h Φ) : x_K P d mTX_endings 5 [v0] (.int y :: .int x :: st) h Φ := x_K1 k (fun _ _ j => xj_imul dTX_endings_5 j)
theorem dTX_endings_6 : decode cTX_endings 6 = .ok (.ishl, 1) := by decide +kernel
theorem eTX_endings_6 {v0 : Option Value} {x y : Int32} (k : x_K P d mTX_endings 7 [v0] (.int (x <<< (y &&& 31)) :: st) h Φ) : x_K P d mTX_endings 6 [v0] (.int y :: .int x :: st) h Φ := x_K1 k (fun _ _ j => xj_ishl dTX_endings_6 j)
theorem dTX_endings_7 : decode cTX_endings 7 = .ok (.iconst 1, 1) := by decide +kernel
theorem eTX_endings_7 {v0 : Option Value} (k : x_K P d mTX_endings 8 [v0] (.int 1 :: st) h Φ) : x_K P d mTX_endings 7 [v0] st h Φ := x_K1 k (fun _ _ j => xj_iconst dTX_endings_7 (v := 1) (by decide) j)
theorem dTX_endings_8 : decode cTX_endings 8 = .ok (.isub, 1) := by decide +kernel
theorem eTX_endings_8 {v0 : Option Value} {x y : Int32} (k : x_K P d mTX_endings 9 [v0] (.int (x - y) :: st) h Φ) : x_K P d mTX_endings 8 [v0] (.int y :: .int x :: st) h Φ := x_K1 k (fun _ _ j => xj_isub dTX_endings_8 j)
theorem dTX_endings_9 : decode cTX_endings 9 = .ok (.ireturn, 1) := by decide +kernel
theorem eTX_endings_9 {v0 : Option Value} {x : Int32} (hΦ : Φ (.returned (some (.int x))) h) : x_K P d mTX_endings 9 [v0] [.int x] h Φ := x_Kret hΦ (xj_iret dTX_endings_9 rfl)
theorem dTX_number_0 : decode cTX_number 0 = .ok (.iload_n 1, 1) := by decide +kernel
theorem eTX_number_0 {v0 v2 v3 v4 v5 v6 v7 : Option Value} {x : Int32} (k : x_K P d mTX_number 1 [v0, some (.int x), v2, v3, v4, v5, v6, v7] (.int x :: st) h Φ) : x_K P d mTX_number 0 [v0, some (.int x), v2, v3, v4, v5, v6, v7] st h Φ := x_K1 k (fun _ _ j => xj_iload_n dTX_number_0 rfl rfl j)
theorem dTX_number_1 : decode cTX_number 1 = .ok (.iload_n 2, 1) := by decide +kernel
theorem eTX_number_1 {v0 v1 v3 v4 v5 v6 v7 : Option Value} {x : Int32} (k : x_K P d mTX_number 2 [v0, v1, some (.int x), v3, v4, v5, v6, v7] (.int x :: st) h Φ) : x_K P d mTX_number 1 [v0, v1, some (.int x), v3, v4, v5, v6, v7] st h Φ := x_K1 k (fun _ _ j => xj_iload_n dTX_number_1 rfl rfl j)
theorem dTX_number_2 : decode cTX_number 2 = .ok (.if_icmp .ge 15, 3) := by decide +kernel
theorem eTX_number_2 {v0 v1 v2 v3 v4 v5 v6 v7 : Option Value} {x y : Int32} (kt : y ≤ x → x_K P d mTX_number 17 [v0, v1, v2, v3, v4, v5, v6, v7] st h Φ) (kf : ¬ y ≤ x → x_K P d mTX_number 5 [v0, v1, v2, v3, v4, v5, v6, v7] st h Φ) : x_K P d mTX_number 2 [v0, v1, v2, v3, v4, v5, v6, v7] (.int y :: .int x :: st) h Φ := x_K2 (Classical.em (y ≤ x)) kt kf (fun a _ _ j => xj_icmp_ge dTX_number_2 (tgt := 17) (by decide) (fun _ => j) (fun b => absurd a b)) (fun a _ _ j => xj_icmp_ge dTX_number_2 (tgt := 17) (by decide) (fun b => absurd b a) (fun _ => j))
theorem dTX_number_5 : decode cTX_number 5 = .ok (.aload_n 0, 1) := by decide +kernel
theorem eTX_number_5 {v1 v2 v3 v4 v5 v6 v7 : Option Value} {u : Value} (hu : u.isRef = true) (k : x_K P d mTX_number 6 [some u, v1, v2, v3, v4, v5, v6, v7] (u :: st) h Φ) : x_K P d mTX_number 5 [some u, v1, v2, v3, v4, v5, v6, v7] st h Φ := x_K1 k (fun _ _ j => xj_aload_n dTX_number_5 rfl rfl hu j)
theorem dTX_number_6 : decode cTX_number 6 = .ok (.iload_n 1, 1) := by decide +kernel
theorem eTX_number_6 {v0 v2 v3 v4 v5 v6 v7 : Option Value} {x : Int32} (k : x_K P d mTX_number 7 [v0, some (.int x), v2, v3, v4, v5, v6, v7] (.int x :: st) h Φ) : x_K P d mTX_number 6 [v0, some (.int x), v2, v3, v4, v5, v6, v7] st h Φ := x_K1 k (fun _ _ j => xj_iload_n dTX_number_6 rfl rfl j)
theorem dTX_number_7 : decode cTX_number 7 = .ok (.caload, 1) := by decide +kernel
theorem eTX_number_7 {v0 v1 v2 v3 v4 v5 v6 v7 : Option Value} {a n : Nat} {f : Nat → Int32} {i : Int32} (ha : h.1 a = some (.inl (2, n, .inl f))) (hi : vp_in i n) (k : x_K P d mTX_number 8 [v0, v1, v2, v3, v4, v5, v6, v7] (.int (f i.toNatClampNeg) :: st) h Φ) : x_K P d mTX_number 7 [v0, v1, v2, v3, v4, v5, v6, v7] (.int i :: .ref a :: st) h Φ := x_K1 k (fun _ _ j => xj_cald dTX_number_7 ha hi j)
theorem dTX_number_8 : decode cTX_number 8 = .ok (.bipush 45, 2) := by decide +kernel
theorem eTX_number_8 {v0 v1 v2 v3 v4 v5 v6 v7 : Option Value} (k : x_K P d mTX_number 10 [v0, v1, v2, v3, v4, v5, v6, v7] (.int 45 :: st) h Φ) : x_K P d mTX_number 8 [v0, v1, v2, v3, v4, v5, v6, v7] st h Φ := x_K1 k (fun _ _ j => xj_bipush dTX_number_8 (v := 45) (by decide) j)
theorem dTX_number_10 : decode cTX_number 10 = .ok (.if_icmp .ne 7, 3) := by decide +kernel
theorem eTX_number_10 {v0 v1 v2 v3 v4 v5 v6 v7 : Option Value} {x y : Int32} (kt : ¬ x = y → x_K P d mTX_number 17 [v0, v1, v2, v3, v4, v5, v6, v7] st h Φ) (kf : x = y → x_K P d mTX_number 13 [v0, v1, v2, v3, v4, v5, v6, v7] st h Φ) : x_K P d mTX_number 10 [v0, v1, v2, v3, v4, v5, v6, v7] (.int y :: .int x :: st) h Φ := x_K2 (Classical.em (x = y)) kf kt (fun a _ _ j => xj_icmp_ne dTX_number_10 (tgt := 17) (by decide) (fun b => absurd a b) (fun _ => j)) (fun a _ _ j => xj_icmp_ne dTX_number_10 (tgt := 17) (by decide) (fun _ => j) (fun b => absurd b a))
theorem dTX_number_13 : decode cTX_number 13 = .ok (.iconst 1, 1) := by decide +kernel
theorem eTX_number_13 {v0 v1 v2 v3 v4 v5 v6 v7 : Option Value} (k : x_K P d mTX_number 14 [v0, v1, v2, v3, v4, v5, v6, v7] (.int 1 :: st) h Φ) : x_K P d mTX_number 13 [v0, v1, v2, v3, v4, v5, v6, v7] st h Φ := x_K1 k (fun _ _ j => xj_iconst dTX_number_13 (v := 1) (by decide) j)
theorem dTX_number_14 : decode cTX_number 14 = .ok (.goto 4, 3) := by decide +kernel
theorem eTX_number_14 {v0 v1 v2 v3 v4 v5 v6 v7 : Option Value} (k : x_K P d mTX_number 18 [v0, v1, v2, v3, v4, v5, v6, v7] st h Φ) : x_K P d mTX_number 14 [v0, v1, v2, v3, v4, v5, v6, v7] st h Φ := x_K1 k (fun _ _ j => xj_goto dTX_number_14 (tgt := 18) (by decide) j)
theorem dTX_number_17 : decode cTX_number 17 = .ok (.iconst 0, 1) := by decide +kernel
theorem eTX_number_17 {v0 v1 v2 v3 v4 v5 v6 v7 : Option Value} (k : x_K P d mTX_number 18 [v0, v1, v2, v3, v4, v5, v6, v7] (.int 0 :: st) h Φ) : x_K P d mTX_number 17 [v0, v1, v2, v3, v4, v5, v6, v7] st h Φ := x_K1 k (fun _ _ j => xj_iconst dTX_number_17 (v := 0) (by decide) j)
theorem dTX_number_18 : decode cTX_number 18 = .ok (.istore_n 3, 1) := by decide +kernel
theorem eTX_number_18 {v0 v1 v2 v3 v4 v5 v6 v7 : Option Value} {x : Int32} (k : x_K P d mTX_number 19 [v0, v1, v2, some (.int x), v4, v5, v6, v7] st h Φ) : x_K P d mTX_number 18 [v0, v1, v2, v3, v4, v5, v6, v7] (.int x :: st) h Φ := x_K1 k (fun _ _ j => xj_istore_n dTX_number_18 rfl rfl j)
theorem dTX_number_19 : decode cTX_number 19 = .ok (.iload_n 3, 1) := by decide +kernel
theorem eTX_number_19 {v0 v1 v2 v4 v5 v6 v7 : Option Value} {x : Int32} (k : x_K P d mTX_number 20 [v0, v1, v2, some (.int x), v4, v5, v6, v7] (.int x :: st) h Φ) : x_K P d mTX_number 19 [v0, v1, v2, some (.int x), v4, v5, v6, v7] st h Φ := x_K1 k (fun _ _ j => xj_iload_n dTX_number_19 rfl rfl j)
theorem dTX_number_20 : decode cTX_number 20 = .ok (.ifCond .eq 9, 3) := by decide +kernel
theorem eTX_number_20 {v0 v1 v2 v3 v4 v5 v6 v7 : Option Value} {x : Int32} (kt : x = 0 → x_K P d mTX_number 29 [v0, v1, v2, v3, v4, v5, v6, v7] st h Φ) (kf : ¬ x = 0 → x_K P d mTX_number 23 [v0, v1, v2, v3, v4, v5, v6, v7] st h Φ) : x_K P d mTX_number 20 [v0, v1, v2, v3, v4, v5, v6, v7] (.int x :: st) h Φ := x_K2 (Classical.em (x = 0)) kt kf (fun a _ _ j => xj_if_eq dTX_number_20 (tgt := 29) (by decide) (fun _ => j) (fun b => absurd a b)) (fun a _ _ j => xj_if_eq dTX_number_20 (tgt := 29) (by decide) (fun b => absurd b a) (fun _ => j))
theorem dTX_number_23 : decode cTX_number 23 = .ok (.iload_n 1, 1) := by decide +kernel
theorem eTX_number_23 {v0 v2 v3 v4 v5 v6 v7 : Option Value} {x : Int32} (k : x_K P d mTX_number 24 [v0, some (.int x), v2, v3, v4, v5, v6, v7] (.int x :: st) h Φ) : x_K P d mTX_number 23 [v0, some (.int x), v2, v3, v4, v5, v6, v7] st h Φ := x_K1 k (fun _ _ j => xj_iload_n dTX_number_23 rfl rfl j)
theorem dTX_number_24 : decode cTX_number 24 = .ok (.iconst 1, 1) := by decide +kernel
theorem eTX_number_24 {v0 v1 v2 v3 v4 v5 v6 v7 : Option Value} (k : x_K P d mTX_number 25 [v0, v1, v2, v3, v4, v5, v6, v7] (.int 1 :: st) h Φ) : x_K P d mTX_number 24 [v0, v1, v2, v3, v4, v5, v6, v7] st h Φ := x_K1 k (fun _ _ j => xj_iconst dTX_number_24 (v := 1) (by decide) j)
theorem dTX_number_25 : decode cTX_number 25 = .ok (.iadd, 1) := by decide +kernel
theorem eTX_number_25 {v0 v1 v2 v3 v4 v5 v6 v7 : Option Value} {x y : Int32} (k : x_K P d mTX_number 26 [v0, v1, v2, v3, v4, v5, v6, v7] (.int (x + y) :: st) h Φ) : x_K P d mTX_number 25 [v0, v1, v2, v3, v4, v5, v6, v7] (.int y :: .int x :: st) h Φ := x_K1 k (fun _ _ j => xj_iadd dTX_number_25 j)
theorem dTX_number_26 : decode cTX_number 26 = .ok (.goto 4, 3) := by decide +kernel
theorem eTX_number_26 {v0 v1 v2 v3 v4 v5 v6 v7 : Option Value} (k : x_K P d mTX_number 30 [v0, v1, v2, v3, v4, v5, v6, v7] st h Φ) : x_K P d mTX_number 26 [v0, v1, v2, v3, v4, v5, v6, v7] st h Φ := x_K1 k (fun _ _ j => xj_goto dTX_number_26 (tgt := 30) (by decide) j)
theorem dTX_number_29 : decode cTX_number 29 = .ok (.iload_n 1, 1) := by decide +kernel
theorem eTX_number_29 {v0 v2 v3 v4 v5 v6 v7 : Option Value} {x : Int32} (k : x_K P d mTX_number 30 [v0, some (.int x), v2, v3, v4, v5, v6, v7] (.int x :: st) h Φ) : x_K P d mTX_number 29 [v0, some (.int x), v2, v3, v4, v5, v6, v7] st h Φ := x_K1 k (fun _ _ j => xj_iload_n dTX_number_29 rfl rfl j)
theorem dTX_number_30 : decode cTX_number 30 = .ok (.istore 4, 2) := by decide +kernel
theorem eTX_number_30 {v0 v1 v2 v3 v4 v5 v6 v7 : Option Value} {x : Int32} (k : x_K P d mTX_number 32 [v0, v1, v2, v3, some (.int x), v5, v6, v7] st h Φ) : x_K P d mTX_number 30 [v0, v1, v2, v3, v4, v5, v6, v7] (.int x :: st) h Φ := x_K1 k (fun _ _ j => xj_istore dTX_number_30 rfl j)
theorem dTX_number_32 : decode cTX_number 32 = .ok (.iload_n 2, 1) := by decide +kernel
theorem eTX_number_32 {v0 v1 v3 v4 v5 v6 v7 : Option Value} {x : Int32} (k : x_K P d mTX_number 33 [v0, v1, some (.int x), v3, v4, v5, v6, v7] (.int x :: st) h Φ) : x_K P d mTX_number 32 [v0, v1, some (.int x), v3, v4, v5, v6, v7] st h Φ := x_K1 k (fun _ _ j => xj_iload_n dTX_number_32 rfl rfl j)
theorem dTX_number_33 : decode cTX_number 33 = .ok (.iload 4, 2) := by decide +kernel
theorem eTX_number_33 {v0 v1 v2 v3 v5 v6 v7 : Option Value} {x : Int32} (k : x_K P d mTX_number 35 [v0, v1, v2, v3, some (.int x), v5, v6, v7] (.int x :: st) h Φ) : x_K P d mTX_number 33 [v0, v1, v2, v3, some (.int x), v5, v6, v7] st h Φ := x_K1 k (fun _ _ j => xj_iload dTX_number_33 rfl j)
theorem dTX_number_35 : decode cTX_number 35 = .ok (.isub, 1) := by decide +kernel
theorem eTX_number_35 {v0 v1 v2 v3 v4 v5 v6 v7 : Option Value} {x y : Int32} (k : x_K P d mTX_number 36 [v0, v1, v2, v3, v4, v5, v6, v7] (.int (x - y) :: st) h Φ) : x_K P d mTX_number 35 [v0, v1, v2, v3, v4, v5, v6, v7] (.int y :: .int x :: st) h Φ := x_K1 k (fun _ _ j => xj_isub dTX_number_35 j)
theorem dTX_number_36 : decode cTX_number 36 = .ok (.iconst 1, 1) := by decide +kernel
theorem eTX_number_36 {v0 v1 v2 v3 v4 v5 v6 v7 : Option Value} (k : x_K P d mTX_number 37 [v0, v1, v2, v3, v4, v5, v6, v7] (.int 1 :: st) h Φ) : x_K P d mTX_number 36 [v0, v1, v2, v3, v4, v5, v6, v7] st h Φ := x_K1 k (fun _ _ j => xj_iconst dTX_number_36 (v := 1) (by decide) j)
theorem dTX_number_37 : decode cTX_number 37 = .ok (.if_icmp .lt 11, 3) := by decide +kernel
theorem eTX_number_37 {v0 v1 v2 v3 v4 v5 v6 v7 : Option Value} {x y : Int32} (kt : x < y → x_K P d mTX_number 48 [v0, v1, v2, v3, v4, v5, v6, v7] st h Φ) (kf : ¬ x < y → x_K P d mTX_number 40 [v0, v1, v2, v3, v4, v5, v6, v7] st h Φ) : x_K P d mTX_number 37 [v0, v1, v2, v3, v4, v5, v6, v7] (.int y :: .int x :: st) h Φ := x_K2 (Classical.em (x < y)) kt kf (fun a _ _ j => xj_icmp_lt dTX_number_37 (tgt := 48) (by decide) (fun _ => j) (fun b => absurd a b)) (fun a _ _ j => xj_icmp_lt dTX_number_37 (tgt := 48) (by decide) (fun b => absurd b a) (fun _ => j))
theorem dTX_number_40 : decode cTX_number 40 = .ok (.iload_n 2, 1) := by decide +kernel
theorem eTX_number_40 {v0 v1 v3 v4 v5 v6 v7 : Option Value} {x : Int32} (k : x_K P d mTX_number 41 [v0, v1, some (.int x), v3, v4, v5, v6, v7] (.int x :: st) h Φ) : x_K P d mTX_number 40 [v0, v1, some (.int x), v3, v4, v5, v6, v7] st h Φ := x_K1 k (fun _ _ j => xj_iload_n dTX_number_40 rfl rfl j)
theorem dTX_number_41 : decode cTX_number 41 = .ok (.iload 4, 2) := by decide +kernel
theorem eTX_number_41 {v0 v1 v2 v3 v5 v6 v7 : Option Value} {x : Int32} (k : x_K P d mTX_number 43 [v0, v1, v2, v3, some (.int x), v5, v6, v7] (.int x :: st) h Φ) : x_K P d mTX_number 41 [v0, v1, v2, v3, some (.int x), v5, v6, v7] st h Φ := x_K1 k (fun _ _ j => xj_iload dTX_number_41 rfl j)
theorem dTX_number_43 : decode cTX_number 43 = .ok (.isub, 1) := by decide +kernel
theorem eTX_number_43 {v0 v1 v2 v3 v4 v5 v6 v7 : Option Value} {x y : Int32} (k : x_K P d mTX_number 44 [v0, v1, v2, v3, v4, v5, v6, v7] (.int (x - y) :: st) h Φ) : x_K P d mTX_number 43 [v0, v1, v2, v3, v4, v5, v6, v7] (.int y :: .int x :: st) h Φ := x_K1 k (fun _ _ j => xj_isub dTX_number_43 j)
theorem dTX_number_44 : decode cTX_number 44 = .ok (.iconst 3, 1) := by decide +kernel
theorem eTX_number_44 {v0 v1 v2 v3 v4 v5 v6 v7 : Option Value} (k : x_K P d mTX_number 45 [v0, v1, v2, v3, v4, v5, v6, v7] (.int 3 :: st) h Φ) : x_K P d mTX_number 44 [v0, v1, v2, v3, v4, v5, v6, v7] st h Φ := x_K1 k (fun _ _ j => xj_iconst dTX_number_44 (v := 3) (by decide) j)
theorem dTX_number_45 : decode cTX_number 45 = .ok (.if_icmp .le 6, 3) := by decide +kernel
theorem eTX_number_45 {v0 v1 v2 v3 v4 v5 v6 v7 : Option Value} {x y : Int32} (kt : x ≤ y → x_K P d mTX_number 51 [v0, v1, v2, v3, v4, v5, v6, v7] st h Φ) (kf : ¬ x ≤ y → x_K P d mTX_number 48 [v0, v1, v2, v3, v4, v5, v6, v7] st h Φ) : x_K P d mTX_number 45 [v0, v1, v2, v3, v4, v5, v6, v7] (.int y :: .int x :: st) h Φ := x_K2 (Classical.em (x ≤ y)) kt kf (fun a _ _ j => xj_icmp_le dTX_number_45 (tgt := 51) (by decide) (fun _ => j) (fun b => absurd a b)) (fun a _ _ j => xj_icmp_le dTX_number_45 (tgt := 51) (by decide) (fun b => absurd b a) (fun _ => j))
theorem dTX_number_48 : decode cTX_number 48 = .ok (.ldc 9, 2) := by decide +kernel
theorem eTX_number_48 {v0 v1 v2 v3 v4 v5 v6 v7 : Option Value} (k : x_K P d mTX_number 50 [v0, v1, v2, v3, v4, v5, v6, v7] (.int (-2147483648) :: st) h Φ) : x_K P d mTX_number 48 [v0, v1, v2, v3, v4, v5, v6, v7] st h Φ := x_K1 k (fun _ _ j => xj_ldc dTX_number_48 xm_405 j)
theorem dTX_number_50 : decode cTX_number 50 = .ok (.ireturn, 1) := by decide +kernel
theorem eTX_number_50 {v0 v1 v2 v3 v4 v5 v6 v7 : Option Value} {x : Int32} (hΦ : Φ (.returned (some (.int x))) h) : x_K P d mTX_number 50 [v0, v1, v2, v3, v4, v5, v6, v7] [.int x] h Φ := x_Kret hΦ (xj_iret dTX_number_50 rfl)
theorem dTX_number_51 : decode cTX_number 51 = .ok (.iconst 0, 1) := by decide +kernel
theorem eTX_number_51 {v0 v1 v2 v3 v4 v5 v6 v7 : Option Value} (k : x_K P d mTX_number 52 [v0, v1, v2, v3, v4, v5, v6, v7] (.int 0 :: st) h Φ) : x_K P d mTX_number 51 [v0, v1, v2, v3, v4, v5, v6, v7] st h Φ := x_K1 k (fun _ _ j => xj_iconst dTX_number_51 (v := 0) (by decide) j)
theorem dTX_number_52 : decode cTX_number 52 = .ok (.istore 5, 2) := by decide +kernel
theorem eTX_number_52 {v0 v1 v2 v3 v4 v5 v6 v7 : Option Value} {x : Int32} (k : x_K P d mTX_number 54 [v0, v1, v2, v3, v4, some (.int x), v6, v7] st h Φ) : x_K P d mTX_number 52 [v0, v1, v2, v3, v4, v5, v6, v7] (.int x :: st) h Φ := x_K1 k (fun _ _ j => xj_istore dTX_number_52 rfl j)
theorem dTX_number_54 : decode cTX_number 54 = .ok (.iload 4, 2) := by decide +kernel
theorem eTX_number_54 {v0 v1 v2 v3 v5 v6 v7 : Option Value} {x : Int32} (k : x_K P d mTX_number 56 [v0, v1, v2, v3, some (.int x), v5, v6, v7] (.int x :: st) h Φ) : x_K P d mTX_number 54 [v0, v1, v2, v3, some (.int x), v5, v6, v7] st h Φ := x_K1 k (fun _ _ j => xj_iload dTX_number_54 rfl j)
theorem dTX_number_56 : decode cTX_number 56 = .ok (.istore 6, 2) := by decide +kernel
theorem eTX_number_56 {v0 v1 v2 v3 v4 v5 v6 v7 : Option Value} {x : Int32} (k : x_K P d mTX_number 58 [v0, v1, v2, v3, v4, v5, some (.int x), v7] st h Φ) : x_K P d mTX_number 56 [v0, v1, v2, v3, v4, v5, v6, v7] (.int x :: st) h Φ := x_K1 k (fun _ _ j => xj_istore dTX_number_56 rfl j)
theorem dTX_number_58 : decode cTX_number 58 = .ok (.iload 6, 2) := by decide +kernel
theorem eTX_number_58 {v0 v1 v2 v3 v4 v5 v7 : Option Value} {x : Int32} (k : x_K P d mTX_number 60 [v0, v1, v2, v3, v4, v5, some (.int x), v7] (.int x :: st) h Φ) : x_K P d mTX_number 58 [v0, v1, v2, v3, v4, v5, some (.int x), v7] st h Φ := x_K1 k (fun _ _ j => xj_iload dTX_number_58 rfl j)
theorem dTX_number_60 : decode cTX_number 60 = .ok (.iload_n 2, 1) := by decide +kernel
theorem eTX_number_60 {v0 v1 v3 v4 v5 v6 v7 : Option Value} {x : Int32} (k : x_K P d mTX_number 61 [v0, v1, some (.int x), v3, v4, v5, v6, v7] (.int x :: st) h Φ) : x_K P d mTX_number 60 [v0, v1, some (.int x), v3, v4, v5, v6, v7] st h Φ := x_K1 k (fun _ _ j => xj_iload_n dTX_number_60 rfl rfl j)
theorem dTX_number_61 : decode cTX_number 61 = .ok (.if_icmp .ge 45, 3) := by decide +kernel
theorem eTX_number_61 {v0 v1 v2 v3 v4 v5 v6 v7 : Option Value} {x y : Int32} (kt : y ≤ x → x_K P d mTX_number 106 [v0, v1, v2, v3, v4, v5, v6, v7] st h Φ) (kf : ¬ y ≤ x → x_K P d mTX_number 64 [v0, v1, v2, v3, v4, v5, v6, v7] st h Φ) : x_K P d mTX_number 61 [v0, v1, v2, v3, v4, v5, v6, v7] (.int y :: .int x :: st) h Φ := x_K2 (Classical.em (y ≤ x)) kt kf (fun a _ _ j => xj_icmp_ge dTX_number_61 (tgt := 106) (by decide) (fun _ => j) (fun b => absurd a b)) (fun a _ _ j => xj_icmp_ge dTX_number_61 (tgt := 106) (by decide) (fun b => absurd b a) (fun _ => j))
theorem dTX_number_64 : decode cTX_number 64 = .ok (.aload_n 0, 1) := by decide +kernel
theorem eTX_number_64 {v1 v2 v3 v4 v5 v6 v7 : Option Value} {u : Value} (hu : u.isRef = true) (k : x_K P d mTX_number 65 [some u, v1, v2, v3, v4, v5, v6, v7] (u :: st) h Φ) : x_K P d mTX_number 64 [some u, v1, v2, v3, v4, v5, v6, v7] st h Φ := x_K1 k (fun _ _ j => xj_aload_n dTX_number_64 rfl rfl hu j)
theorem dTX_number_65 : decode cTX_number 65 = .ok (.iload 6, 2) := by decide +kernel
theorem eTX_number_65 {v0 v1 v2 v3 v4 v5 v7 : Option Value} {x : Int32} (k : x_K P d mTX_number 67 [v0, v1, v2, v3, v4, v5, some (.int x), v7] (.int x :: st) h Φ) : x_K P d mTX_number 65 [v0, v1, v2, v3, v4, v5, some (.int x), v7] st h Φ := x_K1 k (fun _ _ j => xj_iload dTX_number_65 rfl j)
theorem dTX_number_67 : decode cTX_number 67 = .ok (.caload, 1) := by decide +kernel
theorem eTX_number_67 {v0 v1 v2 v3 v4 v5 v6 v7 : Option Value} {a n : Nat} {f : Nat → Int32} {i : Int32} (ha : h.1 a = some (.inl (2, n, .inl f))) (hi : vp_in i n) (k : x_K P d mTX_number 68 [v0, v1, v2, v3, v4, v5, v6, v7] (.int (f i.toNatClampNeg) :: st) h Φ) : x_K P d mTX_number 67 [v0, v1, v2, v3, v4, v5, v6, v7] (.int i :: .ref a :: st) h Φ := x_K1 k (fun _ _ j => xj_cald dTX_number_67 ha hi j)
theorem dTX_number_68 : decode cTX_number 68 = .ok (.istore 7, 2) := by decide +kernel
theorem eTX_number_68 {v0 v1 v2 v3 v4 v5 v6 v7 : Option Value} {x : Int32} (k : x_K P d mTX_number 70 [v0, v1, v2, v3, v4, v5, v6, some (.int x)] st h Φ) : x_K P d mTX_number 68 [v0, v1, v2, v3, v4, v5, v6, v7] (.int x :: st) h Φ := x_K1 k (fun _ _ j => xj_istore dTX_number_68 rfl j)
theorem dTX_number_70 : decode cTX_number 70 = .ok (.iload 7, 2) := by decide +kernel
theorem eTX_number_70 {v0 v1 v2 v3 v4 v5 v6 : Option Value} {x : Int32} (k : x_K P d mTX_number 72 [v0, v1, v2, v3, v4, v5, v6, some (.int x)] (.int x :: st) h Φ) : x_K P d mTX_number 70 [v0, v1, v2, v3, v4, v5, v6, some (.int x)] st h Φ := x_K1 k (fun _ _ j => xj_iload dTX_number_70 rfl j)
theorem dTX_number_72 : decode cTX_number 72 = .ok (.bipush 48, 2) := by decide +kernel
theorem eTX_number_72 {v0 v1 v2 v3 v4 v5 v6 v7 : Option Value} (k : x_K P d mTX_number 74 [v0, v1, v2, v3, v4, v5, v6, v7] (.int 48 :: st) h Φ) : x_K P d mTX_number 72 [v0, v1, v2, v3, v4, v5, v6, v7] st h Φ := x_K1 k (fun _ _ j => xj_bipush dTX_number_72 (v := 48) (by decide) j)
theorem dTX_number_74 : decode cTX_number 74 = .ok (.if_icmp .lt 10, 3) := by decide +kernel
theorem eTX_number_74 {v0 v1 v2 v3 v4 v5 v6 v7 : Option Value} {x y : Int32} (kt : x < y → x_K P d mTX_number 84 [v0, v1, v2, v3, v4, v5, v6, v7] st h Φ) (kf : ¬ x < y → x_K P d mTX_number 77 [v0, v1, v2, v3, v4, v5, v6, v7] st h Φ) : x_K P d mTX_number 74 [v0, v1, v2, v3, v4, v5, v6, v7] (.int y :: .int x :: st) h Φ := x_K2 (Classical.em (x < y)) kt kf (fun a _ _ j => xj_icmp_lt dTX_number_74 (tgt := 84) (by decide) (fun _ => j) (fun b => absurd a b)) (fun a _ _ j => xj_icmp_lt dTX_number_74 (tgt := 84) (by decide) (fun b => absurd b a) (fun _ => j))
theorem dTX_number_77 : decode cTX_number 77 = .ok (.iload 7, 2) := by decide +kernel
theorem eTX_number_77 {v0 v1 v2 v3 v4 v5 v6 : Option Value} {x : Int32} (k : x_K P d mTX_number 79 [v0, v1, v2, v3, v4, v5, v6, some (.int x)] (.int x :: st) h Φ) : x_K P d mTX_number 77 [v0, v1, v2, v3, v4, v5, v6, some (.int x)] st h Φ := x_K1 k (fun _ _ j => xj_iload dTX_number_77 rfl j)
theorem dTX_number_79 : decode cTX_number 79 = .ok (.bipush 57, 2) := by decide +kernel
theorem eTX_number_79 {v0 v1 v2 v3 v4 v5 v6 v7 : Option Value} (k : x_K P d mTX_number 81 [v0, v1, v2, v3, v4, v5, v6, v7] (.int 57 :: st) h Φ) : x_K P d mTX_number 79 [v0, v1, v2, v3, v4, v5, v6, v7] st h Φ := x_K1 k (fun _ _ j => xj_bipush dTX_number_79 (v := 57) (by decide) j)
theorem dTX_number_81 : decode cTX_number 81 = .ok (.if_icmp .le 6, 3) := by decide +kernel
theorem eTX_number_81 {v0 v1 v2 v3 v4 v5 v6 v7 : Option Value} {x y : Int32} (kt : x ≤ y → x_K P d mTX_number 87 [v0, v1, v2, v3, v4, v5, v6, v7] st h Φ) (kf : ¬ x ≤ y → x_K P d mTX_number 84 [v0, v1, v2, v3, v4, v5, v6, v7] st h Φ) : x_K P d mTX_number 81 [v0, v1, v2, v3, v4, v5, v6, v7] (.int y :: .int x :: st) h Φ := x_K2 (Classical.em (x ≤ y)) kt kf (fun a _ _ j => xj_icmp_le dTX_number_81 (tgt := 87) (by decide) (fun _ => j) (fun b => absurd a b)) (fun a _ _ j => xj_icmp_le dTX_number_81 (tgt := 87) (by decide) (fun b => absurd b a) (fun _ => j))
theorem dTX_number_84 : decode cTX_number 84 = .ok (.ldc 9, 2) := by decide +kernel
theorem eTX_number_84 {v0 v1 v2 v3 v4 v5 v6 v7 : Option Value} (k : x_K P d mTX_number 86 [v0, v1, v2, v3, v4, v5, v6, v7] (.int (-2147483648) :: st) h Φ) : x_K P d mTX_number 84 [v0, v1, v2, v3, v4, v5, v6, v7] st h Φ := x_K1 k (fun _ _ j => xj_ldc dTX_number_84 xm_405 j)
theorem dTX_number_86 : decode cTX_number 86 = .ok (.ireturn, 1) := by decide +kernel
theorem eTX_number_86 {v0 v1 v2 v3 v4 v5 v6 v7 : Option Value} {x : Int32} (hΦ : Φ (.returned (some (.int x))) h) : x_K P d mTX_number 86 [v0, v1, v2, v3, v4, v5, v6, v7] [.int x] h Φ := x_Kret hΦ (xj_iret dTX_number_86 rfl)
theorem dTX_number_87 : decode cTX_number 87 = .ok (.bipush 10, 2) := by decide +kernel
theorem eTX_number_87 {v0 v1 v2 v3 v4 v5 v6 v7 : Option Value} (k : x_K P d mTX_number 89 [v0, v1, v2, v3, v4, v5, v6, v7] (.int 10 :: st) h Φ) : x_K P d mTX_number 87 [v0, v1, v2, v3, v4, v5, v6, v7] st h Φ := x_K1 k (fun _ _ j => xj_bipush dTX_number_87 (v := 10) (by decide) j)
theorem dTX_number_89 : decode cTX_number 89 = .ok (.iload 5, 2) := by decide +kernel
theorem eTX_number_89 {v0 v1 v2 v3 v4 v6 v7 : Option Value} {x : Int32} (k : x_K P d mTX_number 91 [v0, v1, v2, v3, v4, some (.int x), v6, v7] (.int x :: st) h Φ) : x_K P d mTX_number 89 [v0, v1, v2, v3, v4, some (.int x), v6, v7] st h Φ := x_K1 k (fun _ _ j => xj_iload dTX_number_89 rfl j)
theorem dTX_number_91 : decode cTX_number 91 = .ok (.imul, 1) := by decide +kernel
theorem eTX_number_91 {v0 v1 v2 v3 v4 v5 v6 v7 : Option Value} {x y : Int32} (k : x_K P d mTX_number 92 [v0, v1, v2, v3, v4, v5, v6, v7] (.int (x * y) :: st) h Φ) : x_K P d mTX_number 91 [v0, v1, v2, v3, v4, v5, v6, v7] (.int y :: .int x :: st) h Φ := x_K1 k (fun _ _ j => xj_imul dTX_number_91 j)
theorem dTX_number_92 : decode cTX_number 92 = .ok (.iload 7, 2) := by decide +kernel
theorem eTX_number_92 {v0 v1 v2 v3 v4 v5 v6 : Option Value} {x : Int32} (k : x_K P d mTX_number 94 [v0, v1, v2, v3, v4, v5, v6, some (.int x)] (.int x :: st) h Φ) : x_K P d mTX_number 92 [v0, v1, v2, v3, v4, v5, v6, some (.int x)] st h Φ := x_K1 k (fun _ _ j => xj_iload dTX_number_92 rfl j)
theorem dTX_number_94 : decode cTX_number 94 = .ok (.bipush 48, 2) := by decide +kernel
theorem eTX_number_94 {v0 v1 v2 v3 v4 v5 v6 v7 : Option Value} (k : x_K P d mTX_number 96 [v0, v1, v2, v3, v4, v5, v6, v7] (.int 48 :: st) h Φ) : x_K P d mTX_number 94 [v0, v1, v2, v3, v4, v5, v6, v7] st h Φ := x_K1 k (fun _ _ j => xj_bipush dTX_number_94 (v := 48) (by decide) j)
theorem dTX_number_96 : decode cTX_number 96 = .ok (.isub, 1) := by decide +kernel
theorem eTX_number_96 {v0 v1 v2 v3 v4 v5 v6 v7 : Option Value} {x y : Int32} (k : x_K P d mTX_number 97 [v0, v1, v2, v3, v4, v5, v6, v7] (.int (x - y) :: st) h Φ) : x_K P d mTX_number 96 [v0, v1, v2, v3, v4, v5, v6, v7] (.int y :: .int x :: st) h Φ := x_K1 k (fun _ _ j => xj_isub dTX_number_96 j)
theorem dTX_number_97 : decode cTX_number 97 = .ok (.iadd, 1) := by decide +kernel
theorem eTX_number_97 {v0 v1 v2 v3 v4 v5 v6 v7 : Option Value} {x y : Int32} (k : x_K P d mTX_number 98 [v0, v1, v2, v3, v4, v5, v6, v7] (.int (x + y) :: st) h Φ) : x_K P d mTX_number 97 [v0, v1, v2, v3, v4, v5, v6, v7] (.int y :: .int x :: st) h Φ := x_K1 k (fun _ _ j => xj_iadd dTX_number_97 j)
theorem dTX_number_98 : decode cTX_number 98 = .ok (.istore 5, 2) := by decide +kernel
theorem eTX_number_98 {v0 v1 v2 v3 v4 v5 v6 v7 : Option Value} {x : Int32} (k : x_K P d mTX_number 100 [v0, v1, v2, v3, v4, some (.int x), v6, v7] st h Φ) : x_K P d mTX_number 98 [v0, v1, v2, v3, v4, v5, v6, v7] (.int x :: st) h Φ := x_K1 k (fun _ _ j => xj_istore dTX_number_98 rfl j)
theorem dTX_number_100 : decode cTX_number 100 = .ok (.iinc 6 1, 3) := by decide +kernel
theorem eTX_number_100 {v0 v1 v2 v3 v4 v5 v7 : Option Value} {x : Int32} (k : x_K P d mTX_number 103 [v0, v1, v2, v3, v4, v5, some (.int (x + 1)), v7] st h Φ) : x_K P d mTX_number 100 [v0, v1, v2, v3, v4, v5, some (.int x), v7] st h Φ := x_K1 k (fun _ _ j => xj_iinc dTX_number_100 rfl (v := x + 1) (by rfl) j)
theorem dTX_number_103 : decode cTX_number 103 = .ok (.goto (-45), 3) := by decide +kernel
theorem eTX_number_103 {v0 v1 v2 v3 v4 v5 v6 v7 : Option Value} (k : x_K P d mTX_number 58 [v0, v1, v2, v3, v4, v5, v6, v7] st h Φ) : x_K P d mTX_number 103 [v0, v1, v2, v3, v4, v5, v6, v7] st h Φ := x_K1 k (fun _ _ j => xj_goto dTX_number_103 (tgt := 58) (by decide) j)
theorem dTX_number_106 : decode cTX_number 106 = .ok (.iload_n 3, 1) := by decide +kernel
theorem eTX_number_106 {v0 v1 v2 v4 v5 v6 v7 : Option Value} {x : Int32} (k : x_K P d mTX_number 107 [v0, v1, v2, some (.int x), v4, v5, v6, v7] (.int x :: st) h Φ) : x_K P d mTX_number 106 [v0, v1, v2, some (.int x), v4, v5, v6, v7] st h Φ := x_K1 k (fun _ _ j => xj_iload_n dTX_number_106 rfl rfl j)
theorem dTX_number_107 : decode cTX_number 107 = .ok (.ifCond .eq 9, 3) := by decide +kernel
theorem eTX_number_107 {v0 v1 v2 v3 v4 v5 v6 v7 : Option Value} {x : Int32} (kt : x = 0 → x_K P d mTX_number 116 [v0, v1, v2, v3, v4, v5, v6, v7] st h Φ) (kf : ¬ x = 0 → x_K P d mTX_number 110 [v0, v1, v2, v3, v4, v5, v6, v7] st h Φ) : x_K P d mTX_number 107 [v0, v1, v2, v3, v4, v5, v6, v7] (.int x :: st) h Φ := x_K2 (Classical.em (x = 0)) kt kf (fun a _ _ j => xj_if_eq dTX_number_107 (tgt := 116) (by decide) (fun _ => j) (fun b => absurd a b)) (fun a _ _ j => xj_if_eq dTX_number_107 (tgt := 116) (by decide) (fun b => absurd b a) (fun _ => j))
theorem dTX_number_110 : decode cTX_number 110 = .ok (.iload 5, 2) := by decide +kernel
theorem eTX_number_110 {v0 v1 v2 v3 v4 v6 v7 : Option Value} {x : Int32} (k : x_K P d mTX_number 112 [v0, v1, v2, v3, v4, some (.int x), v6, v7] (.int x :: st) h Φ) : x_K P d mTX_number 110 [v0, v1, v2, v3, v4, some (.int x), v6, v7] st h Φ := x_K1 k (fun _ _ j => xj_iload dTX_number_110 rfl j)
theorem dTX_number_112 : decode cTX_number 112 = .ok (.ineg, 1) := by decide +kernel
theorem eTX_number_112 {v0 v1 v2 v3 v4 v5 v6 v7 : Option Value} {x : Int32} (k : x_K P d mTX_number 113 [v0, v1, v2, v3, v4, v5, v6, v7] (.int (-x) :: st) h Φ) : x_K P d mTX_number 112 [v0, v1, v2, v3, v4, v5, v6, v7] (.int x :: st) h Φ := x_K1 k (fun _ _ j => xj_ineg dTX_number_112 j)
theorem dTX_number_113 : decode cTX_number 113 = .ok (.goto 5, 3) := by decide +kernel
theorem eTX_number_113 {v0 v1 v2 v3 v4 v5 v6 v7 : Option Value} (k : x_K P d mTX_number 118 [v0, v1, v2, v3, v4, v5, v6, v7] st h Φ) : x_K P d mTX_number 113 [v0, v1, v2, v3, v4, v5, v6, v7] st h Φ := x_K1 k (fun _ _ j => xj_goto dTX_number_113 (tgt := 118) (by decide) j)
theorem dTX_number_116 : decode cTX_number 116 = .ok (.iload 5, 2) := by decide +kernel
theorem eTX_number_116 {v0 v1 v2 v3 v4 v6 v7 : Option Value} {x : Int32} (k : x_K P d mTX_number 118 [v0, v1, v2, v3, v4, some (.int x), v6, v7] (.int x :: st) h Φ) : x_K P d mTX_number 116 [v0, v1, v2, v3, v4, some (.int x), v6, v7] st h Φ := x_K1 k (fun _ _ j => xj_iload dTX_number_116 rfl j)
theorem dTX_number_118 : decode cTX_number 118 = .ok (.ireturn, 1) := by decide +kernel
theorem eTX_number_118 {v0 v1 v2 v3 v4 v5 v6 v7 : Option Value} {x : Int32} (hΦ : Φ (.returned (some (.int x))) h) : x_K P d mTX_number 118 [v0, v1, v2, v3, v4, v5, v6, v7] [.int x] h Φ := x_Kret hΦ (xj_iret dTX_number_118 rfl)
end
