section
variable {P : x_P} {d : Nat} {st : List Value} {h : x_H} {Φ : Outcome → x_H → Prop}
theorem dSP_has_0 : decode cSP_has 0 = .ok (.iload_n 1, 1) := by decide +kernel
theorem eSP_has_0 {v0 v2 : Option Value} {x : Int32} (k : x_K P d mSP_has 1 [v0, some (.int x), v2] (.int x :: st) h Φ) : x_K P d mSP_has 0 [v0, some (.int x), v2] st h Φ := x_K1 k (fun _ _ j => xj_iload_n dSP_has_0 rfl rfl j)
theorem dSP_has_1 : decode cSP_has 1 = .ok (.aload_n 0, 1) := by decide +kernel
theorem eSP_has_1 {v1 v2 : Option Value} {u : Value} (hu : u.isRef = true) (k : x_K P d mSP_has 2 [some u, v1, v2] (u :: st) h Φ) : x_K P d mSP_has 1 [some u, v1, v2] st h Φ := x_K1 k (fun _ _ j => xj_aload_n dSP_has_1 rfl rfl hu j)
theorem dSP_has_2 : decode cSP_has 2 = .ok (.getfield 15, 3) := by decide +kernel
theorem eSP_has_2 {v0 v1 v2 : Option Value} {a : Nat} {fs : List Value} {u : Value} (ha : h.1 a = some (.inr (7, fs))) (hv : fs[0]? = some u) (k : x_K P d mSP_has 5 [v0, v1, v2] (u :: st) h Φ) : x_K P d mSP_has 2 [v0, v1, v2] (.ref a :: st) h Φ := x_K1 k (fun _ _ j => xj_get dSP_has_2 okcSP rfl (j := 0) (by decide) xm_371 ha hv j)
theorem dSP_has_5 : decode cSP_has 5 = .ok (.if_icmp .lt 11, 3) := by decide +kernel
theorem eSP_has_5 {v0 v1 v2 : Option Value} {x y : Int32} (kt : x < y → x_K P d mSP_has 16 [v0, v1, v2] st h Φ) (kf : ¬ x < y → x_K P d mSP_has 8 [v0, v1, v2] st h Φ) : x_K P d mSP_has 5 [v0, v1, v2] (.int y :: .int x :: st) h Φ := x_K2 (Classical.em (x < y)) kt kf (fun a _ _ j => xj_icmp_lt dSP_has_5 (tgt := 16) (by decide) (fun _ => j) (fun b => absurd a b)) (fun a _ _ j => xj_icmp_lt dSP_has_5 (tgt := 16) (by decide) (fun b => absurd b a) (fun _ => j))
theorem dSP_has_8 : decode cSP_has 8 = .ok (.iload_n 1, 1) := by decide +kernel
theorem eSP_has_8 {v0 v2 : Option Value} {x : Int32} (k : x_K P d mSP_has 9 [v0, some (.int x), v2] (.int x :: st) h Φ) : x_K P d mSP_has 8 [v0, some (.int x), v2] st h Φ := x_K1 k (fun _ _ j => xj_iload_n dSP_has_8 rfl rfl j)
theorem dSP_has_9 : decode cSP_has 9 = .ok (.aload_n 0, 1) := by decide +kernel
theorem eSP_has_9 {v1 v2 : Option Value} {u : Value} (hu : u.isRef = true) (k : x_K P d mSP_has 10 [some u, v1, v2] (u :: st) h Φ) : x_K P d mSP_has 9 [some u, v1, v2] st h Φ := x_K1 k (fun _ _ j => xj_aload_n dSP_has_9 rfl rfl hu j)
theorem dSP_has_10 : decode cSP_has 10 = .ok (.getfield 19, 3) := by decide +kernel
theorem eSP_has_10 {v0 v1 v2 : Option Value} {a : Nat} {fs : List Value} {u : Value} (ha : h.1 a = some (.inr (7, fs))) (hv : fs[1]? = some u) (k : x_K P d mSP_has 13 [v0, v1, v2] (u :: st) h Φ) : x_K P d mSP_has 10 [v0, v1, v2] (.ref a :: st) h Φ := x_K1 k (fun _ _ j => xj_get dSP_has_10 okcSP rfl (j := 1) (by decide) xm_372 ha hv j)
theorem dSP_has_13 : decode cSP_has 13 = .ok (.if_icmp .le 5, 3) := by decide +kernel
theorem eSP_has_13 {v0 v1 v2 : Option Value} {x y : Int32} (kt : x ≤ y → x_K P d mSP_has 18 [v0, v1, v2] st h Φ) (kf : ¬ x ≤ y → x_K P d mSP_has 16 [v0, v1, v2] st h Φ) : x_K P d mSP_has 13 [v0, v1, v2] (.int y :: .int x :: st) h Φ := x_K2 (Classical.em (x ≤ y)) kt kf (fun a _ _ j => xj_icmp_le dSP_has_13 (tgt := 18) (by decide) (fun _ => j) (fun b => absurd a b)) (fun a _ _ j => xj_icmp_le dSP_has_13 (tgt := 18) (by decide) (fun b => absurd b a) (fun _ => j))
theorem dSP_has_16 : decode cSP_has 16 = .ok (.iconst 0, 1) := by decide +kernel
theorem eSP_has_16 {v0 v1 v2 : Option Value} (k : x_K P d mSP_has 17 [v0, v1, v2] (.int 0 :: st) h Φ) : x_K P d mSP_has 16 [v0, v1, v2] st h Φ := x_K1 k (fun _ _ j => xj_iconst dSP_has_16 (v := 0) (by decide) j)
theorem dSP_has_17 : decode cSP_has 17 = .ok (.ireturn, 1) := by decide +kernel
theorem eSP_has_17 {v0 v1 v2 : Option Value} {x : Int32} (hn : narrow (.boolean) (.int x) = .int x) (hΦ : Φ (.returned (some (.int x))) h) : x_K P d mSP_has 17 [v0, v1, v2] [.int x] h Φ := x_Kret hΦ (xj_zret dSP_has_17 rfl hn)
theorem dSP_has_18 : decode cSP_has 18 = .ok (.iconst 0, 1) := by decide +kernel
theorem eSP_has_18 {v0 v1 v2 : Option Value} (k : x_K P d mSP_has 19 [v0, v1, v2] (.int 0 :: st) h Φ) : x_K P d mSP_has 18 [v0, v1, v2] st h Φ := x_K1 k (fun _ _ j => xj_iconst dSP_has_18 (v := 0) (by decide) j)
theorem dSP_has_19 : decode cSP_has 19 = .ok (.istore_n 2, 1) := by decide +kernel
theorem eSP_has_19 {v0 v1 v2 : Option Value} {x : Int32} (k : x_K P d mSP_has 20 [v0, v1, some (.int x)] st h Φ) : x_K P d mSP_has 19 [v0, v1, v2] (.int x :: st) h Φ := x_K1 k (fun _ _ j => xj_istore_n dSP_has_19 rfl rfl j)
theorem dSP_has_20 : decode cSP_has 20 = .ok (.iload_n 2, 1) := by decide +kernel
theorem eSP_has_20 {v0 v1 : Option Value} {x : Int32} (k : x_K P d mSP_has 21 [v0, v1, some (.int x)] (.int x :: st) h Φ) : x_K P d mSP_has 20 [v0, v1, some (.int x)] st h Φ := x_K1 k (fun _ _ j => xj_iload_n dSP_has_20 rfl rfl j)
theorem dSP_has_21 : decode cSP_has 21 = .ok (.aload_n 0, 1) := by decide +kernel
theorem eSP_has_21 {v1 v2 : Option Value} {u : Value} (hu : u.isRef = true) (k : x_K P d mSP_has 22 [some u, v1, v2] (u :: st) h Φ) : x_K P d mSP_has 21 [some u, v1, v2] st h Φ := x_K1 k (fun _ _ j => xj_aload_n dSP_has_21 rfl rfl hu j)
theorem dSP_has_22 : decode cSP_has 22 = .ok (.getfield 31, 3) := by decide +kernel
theorem eSP_has_22 {v0 v1 v2 : Option Value} {a : Nat} {fs : List Value} {u : Value} (ha : h.1 a = some (.inr (7, fs))) (hv : fs[3]? = some u) (k : x_K P d mSP_has 25 [v0, v1, v2] (u :: st) h Φ) : x_K P d mSP_has 22 [v0, v1, v2] (.ref a :: st) h Φ := x_K1 k (fun _ _ j => xj_get dSP_has_22 okcSP rfl (j := 3) (by decide) xm_374 ha hv j)
theorem dSP_has_25 : decode cSP_has 25 = .ok (.if_icmp .ge 21, 3) := by decide +kernel
theorem eSP_has_25 {v0 v1 v2 : Option Value} {x y : Int32} (kt : y ≤ x → x_K P d mSP_has 46 [v0, v1, v2] st h Φ) (kf : ¬ y ≤ x → x_K P d mSP_has 28 [v0, v1, v2] st h Φ) : x_K P d mSP_has 25 [v0, v1, v2] (.int y :: .int x :: st) h Φ := x_K2 (Classical.em (y ≤ x)) kt kf (fun a _ _ j => xj_icmp_ge dSP_has_25 (tgt := 46) (by decide) (fun _ => j) (fun b => absurd a b)) (fun a _ _ j => xj_icmp_ge dSP_has_25 (tgt := 46) (by decide) (fun b => absurd b a) (fun _ => j))
theorem dSP_has_28 : decode cSP_has 28 = .ok (.aload_n 0, 1) := by decide +kernel
theorem eSP_has_28 {v1 v2 : Option Value} {u : Value} (hu : u.isRef = true) (k : x_K P d mSP_has 29 [some u, v1, v2] (u :: st) h Φ) : x_K P d mSP_has 28 [some u, v1, v2] st h Φ := x_K1 k (fun _ _ j => xj_aload_n dSP_has_28 rfl rfl hu j)
theorem dSP_has_29 : decode cSP_has 29 = .ok (.getfield 9, 3) := by decide +kernel
theorem eSP_has_29 {v0 v1 v2 : Option Value} {a : Nat} {fs : List Value} {u : Value} (ha : h.1 a = some (.inr (7, fs))) (hv : fs[2]? = some u) (k : x_K P d mSP_has 32 [v0, v1, v2] (u :: st) h Φ) : x_K P d mSP_has 29 [v0, v1, v2] (.ref a :: st) h Φ := x_K1 k (fun _ _ j => xj_get dSP_has_29 okcSP rfl (j := 2) (by decide) xm_373 ha hv j)
theorem dSP_has_32 : decode cSP_has 32 = .ok (.iload_n 2, 1) := by decide +kernel
theorem eSP_has_32 {v0 v1 : Option Value} {x : Int32} (k : x_K P d mSP_has 33 [v0, v1, some (.int x)] (.int x :: st) h Φ) : x_K P d mSP_has 32 [v0, v1, some (.int x)] st h Φ := x_K1 k (fun _ _ j => xj_iload_n dSP_has_32 rfl rfl j)
theorem dSP_has_33 : decode cSP_has 33 = .ok (.iaload, 1) := by decide +kernel
theorem eSP_has_33 {v0 v1 v2 : Option Value} {a n : Nat} {f : Nat → Int32} {i : Int32} (ha : h.1 a = some (.inl (0, n, .inl f))) (hi : vp_in i n) (k : x_K P d mSP_has 34 [v0, v1, v2] (.int (f i.toNatClampNeg) :: st) h Φ) : x_K P d mSP_has 33 [v0, v1, v2] (.int i :: .ref a :: st) h Φ := x_K1 k (fun _ _ j => xj_iald dSP_has_33 ha hi j)
theorem dSP_has_34 : decode cSP_has 34 = .ok (.iload_n 1, 1) := by decide +kernel
theorem eSP_has_34 {v0 v2 : Option Value} {x : Int32} (k : x_K P d mSP_has 35 [v0, some (.int x), v2] (.int x :: st) h Φ) : x_K P d mSP_has 34 [v0, some (.int x), v2] st h Φ := x_K1 k (fun _ _ j => xj_iload_n dSP_has_34 rfl rfl j)
theorem dSP_has_35 : decode cSP_has 35 = .ok (.if_icmp .ne 5, 3) := by decide +kernel
theorem eSP_has_35 {v0 v1 v2 : Option Value} {x y : Int32} (kt : ¬ x = y → x_K P d mSP_has 40 [v0, v1, v2] st h Φ) (kf : x = y → x_K P d mSP_has 38 [v0, v1, v2] st h Φ) : x_K P d mSP_has 35 [v0, v1, v2] (.int y :: .int x :: st) h Φ := x_K2 (Classical.em (x = y)) kf kt (fun a _ _ j => xj_icmp_ne dSP_has_35 (tgt := 40) (by decide) (fun b => absurd a b) (fun _ => j)) (fun a _ _ j => xj_icmp_ne dSP_has_35 (tgt := 40) (by decide) (fun _ => j) (fun b => absurd b a))
theorem dSP_has_38 : decode cSP_has 38 = .ok (.iconst 0, 1) := by decide +kernel
theorem eSP_has_38 {v0 v1 v2 : Option Value} (k : x_K P d mSP_has 39 [v0, v1, v2] (.int 0 :: st) h Φ) : x_K P d mSP_has 38 [v0, v1, v2] st h Φ := x_K1 k (fun _ _ j => xj_iconst dSP_has_38 (v := 0) (by decide) j)
theorem dSP_has_39 : decode cSP_has 39 = .ok (.ireturn, 1) := by decide +kernel
theorem eSP_has_39 {v0 v1 v2 : Option Value} {x : Int32} (hn : narrow (.boolean) (.int x) = .int x) (hΦ : Φ (.returned (some (.int x))) h) : x_K P d mSP_has 39 [v0, v1, v2] [.int x] h Φ := x_Kret hΦ (xj_zret dSP_has_39 rfl hn)
theorem dSP_has_40 : decode cSP_has 40 = .ok (.iinc 2 1, 3) := by decide +kernel
theorem eSP_has_40 {v0 v1 : Option Value} {x : Int32} (k : x_K P d mSP_has 43 [v0, v1, some (.int (x + 1))] st h Φ) : x_K P d mSP_has 40 [v0, v1, some (.int x)] st h Φ := x_K1 k (fun _ _ j => xj_iinc dSP_has_40 rfl (v := x + 1) (by rfl) j)
theorem dSP_has_43 : decode cSP_has 43 = .ok (.goto (-23), 3) := by decide +kernel
theorem eSP_has_43 {v0 v1 v2 : Option Value} (k : x_K P d mSP_has 20 [v0, v1, v2] st h Φ) : x_K P d mSP_has 43 [v0, v1, v2] st h Φ := x_K1 k (fun _ _ j => xj_goto dSP_has_43 (tgt := 20) (by decide) j)
theorem dSP_has_46 : decode cSP_has 46 = .ok (.iconst 1, 1) := by decide +kernel
theorem eSP_has_46 {v0 v1 v2 : Option Value} (k : x_K P d mSP_has 47 [v0, v1, v2] (.int 1 :: st) h Φ) : x_K P d mSP_has 46 [v0, v1, v2] st h Φ := x_K1 k (fun _ _ j => xj_iconst dSP_has_46 (v := 1) (by decide) j)
theorem dSP_has_47 : decode cSP_has 47 = .ok (.ireturn, 1) := by decide +kernel
theorem eSP_has_47 {v0 v1 v2 : Option Value} {x : Int32} (hn : narrow (.boolean) (.int x) = .int x) (hΦ : Φ (.returned (some (.int x))) h) : x_K P d mSP_has 47 [v0, v1, v2] [.int x] h Φ := x_Kret hΦ (xj_zret dSP_has_47 rfl hn)
theorem dSP_init_0 : decode cSP_init 0 = .ok (.aload_n 0, 1) := by decide +kernel
theorem eSP_init_0 {v1 v2 : Option Value} {u : Value} (hu : u.isRef = true) (k : x_K P d mSP_init 1 [some u, v1, v2] (u :: st) h Φ) : x_K P d mSP_init 0 [some u, v1, v2] st h Φ := x_K1 k (fun _ _ j => xj_aload_n dSP_init_0 rfl rfl hu j)
theorem dSP_init_1 : decode cSP_init 1 = .ok (.invokespecial 3, 3) := by decide +kernel
set_option maxRecDepth 100000 in
theorem eSP_init_1 {v0 v1 v2 : Option Value} {a : Nat} (hst : (st.map fun u => u.category).sum ≤ 8) (k : x_K P (d + 1) mSP_init 4 [v0, v1, v2] st h Φ) : x_K P (d + 1) mSP_init 1 [v0, v1, v2] (.ref a :: st) h Φ := x_K1 k (fun _ _ j => xj_objInit dSP_init_1 xm_370 xm_32 xm_33 hst (Nat.le_add_left 1 _) j)
theorem dSP_init_4 : decode cSP_init 4 = .ok (.aload_n 0, 1) := by decide +kernel
theorem eSP_init_4 {v1 v2 : Option Value} {u : Value} (hu : u.isRef = true) (k : x_K P d mSP_init 5 [some u, v1, v2] (u :: st) h Φ) : x_K P d mSP_init 4 [some u, v1, v2] st h Φ := x_K1 k (fun _ _ j => xj_aload_n dSP_init_4 rfl rfl hu j)
theorem dSP_init_5 : decode cSP_init 5 = .ok (.iconst 3, 1) := by decide +kernel
theorem eSP_init_5 {v0 v1 v2 : Option Value} (k : x_K P d mSP_init 6 [v0, v1, v2] (.int 3 :: st) h Φ) : x_K P d mSP_init 5 [v0, v1, v2] st h Φ := x_K1 k (fun _ _ j => xj_iconst dSP_init_5 (v := 3) (by decide) j)
theorem dSP_init_6 : decode cSP_init 6 = .ok (.newarray .int, 2) := by decide +kernel
theorem eSP_init_6 {v0 v1 v2 : Option Value} {x : Int32} {n : Nat} (hx : ¬ x < 0) (hn : x.toNatClampNeg = n) (hb : n * componentBytes .int ≤ 536870912) (k : x_K P d mSP_init 8 [v0, v1, v2] (.ref h.2.1 :: st) (x_new h (.inl (0, n, .inl (fun _ => 0))) n) Φ) : x_K P d mSP_init 6 [v0, v1, v2] (.int x :: st) h Φ := x_K1 k (fun _ _ j => xj_newa (t := 0) (a0 := (n, .inl (fun _ => 0))) dSP_init_6 xm_78 rfl rfl (fun _ _ h9 => h9) (fun _ => rfl) hx hn hb j)
theorem dSP_init_8 : decode cSP_init 8 = .ok (.putfield 9, 3) := by decide +kernel
theorem eSP_init_8 {v0 v1 v2 : Option Value} {a : Nat} {fs : List Value} {z : Nat} (ha : h.1 a = some (.inr (7, fs))) (hl : 2 < fs.length) (k : x_K P d mSP_init 11 [v0, v1, v2] st (x_put h a (.inr (7, fs.set 2 (.ref z)))) Φ) : x_K P d mSP_init 8 [v0, v1, v2] (.ref z :: .ref a :: st) h Φ := x_K1 k (fun _ _ j => xj_putF dSP_init_8 okcSP rfl (j := 2) (by decide) xm_373 rfl rfl rfl ha hl (ty := .array (.int)) (by decide +kernel) rfl rfl j)
theorem dSP_init_11 : decode cSP_init 11 = .ok (.aload_n 0, 1) := by decide +kernel
theorem eSP_init_11 {v1 v2 : Option Value} {u : Value} (hu : u.isRef = true) (k : x_K P d mSP_init 12 [some u, v1, v2] (u :: st) h Φ) : x_K P d mSP_init 11 [some u, v1, v2] st h Φ := x_K1 k (fun _ _ j => xj_aload_n dSP_init_11 rfl rfl hu j)
theorem dSP_init_12 : decode cSP_init 12 = .ok (.iload_n 1, 1) := by decide +kernel
theorem eSP_init_12 {v0 v2 : Option Value} {x : Int32} (k : x_K P d mSP_init 13 [v0, some (.int x), v2] (.int x :: st) h Φ) : x_K P d mSP_init 12 [v0, some (.int x), v2] st h Φ := x_K1 k (fun _ _ j => xj_iload_n dSP_init_12 rfl rfl j)
theorem dSP_init_13 : decode cSP_init 13 = .ok (.putfield 15, 3) := by decide +kernel
theorem eSP_init_13 {v0 v1 v2 : Option Value} {a : Nat} {fs : List Value} {z : Int32} (ha : h.1 a = some (.inr (7, fs))) (hl : 0 < fs.length) (k : x_K P d mSP_init 16 [v0, v1, v2] st (x_put h a (.inr (7, fs.set 0 (.int z)))) Φ) : x_K P d mSP_init 13 [v0, v1, v2] (.int z :: .ref a :: st) h Φ := x_K1 k (fun _ _ j => xj_put dSP_init_13 okcSP rfl (j := 0) (by decide) xm_371 rfl ha hl (ty := .int) (by decide +kernel) rfl rfl j)
theorem dSP_init_16 : decode cSP_init 16 = .ok (.aload_n 0, 1) := by decide +kernel
theorem eSP_init_16 {v1 v2 : Option Value} {u : Value} (hu : u.isRef = true) (k : x_K P d mSP_init 17 [some u, v1, v2] (u :: st) h Φ) : x_K P d mSP_init 16 [some u, v1, v2] st h Φ := x_K1 k (fun _ _ j => xj_aload_n dSP_init_16 rfl rfl hu j)
theorem dSP_init_17 : decode cSP_init 17 = .ok (.iload_n 2, 1) := by decide +kernel
theorem eSP_init_17 {v0 v1 : Option Value} {x : Int32} (k : x_K P d mSP_init 18 [v0, v1, some (.int x)] (.int x :: st) h Φ) : x_K P d mSP_init 17 [v0, v1, some (.int x)] st h Φ := x_K1 k (fun _ _ j => xj_iload_n dSP_init_17 rfl rfl j)
theorem dSP_init_18 : decode cSP_init 18 = .ok (.putfield 19, 3) := by decide +kernel
theorem eSP_init_18 {v0 v1 v2 : Option Value} {a : Nat} {fs : List Value} {z : Int32} (ha : h.1 a = some (.inr (7, fs))) (hl : 1 < fs.length) (k : x_K P d mSP_init 21 [v0, v1, v2] st (x_put h a (.inr (7, fs.set 1 (.int z)))) Φ) : x_K P d mSP_init 18 [v0, v1, v2] (.int z :: .ref a :: st) h Φ := x_K1 k (fun _ _ j => xj_put dSP_init_18 okcSP rfl (j := 1) (by decide) xm_372 rfl ha hl (ty := .int) (by decide +kernel) rfl rfl j)
theorem dSP_init_21 : decode cSP_init 21 = .ok (.return_, 1) := by decide +kernel
theorem eSP_init_21 {v0 v1 v2 : Option Value} (hΦ : Φ (.returned none) h) : x_K P d mSP_init 21 [v0, v1, v2] [] h Φ := x_Kret hΦ (xj_vret dSP_init_21 rfl)
theorem dSP_keep_0 : decode cSP_keep 0 = .ok (.aload_n 0, 1) := by decide +kernel
theorem eSP_keep_0 {v1 v2 : Option Value} {u : Value} (hu : u.isRef = true) (k : x_K P d mSP_keep 1 [some u, v1, v2] (u :: st) h Φ) : x_K P d mSP_keep 0 [some u, v1, v2] st h Φ := x_K1 k (fun _ _ j => xj_aload_n dSP_keep_0 rfl rfl hu j)
theorem dSP_keep_1 : decode cSP_keep 1 = .ok (.aload_n 0, 1) := by decide +kernel
theorem eSP_keep_1 {v1 v2 : Option Value} {u : Value} (hu : u.isRef = true) (k : x_K P d mSP_keep 2 [some u, v1, v2] (u :: st) h Φ) : x_K P d mSP_keep 1 [some u, v1, v2] st h Φ := x_K1 k (fun _ _ j => xj_aload_n dSP_keep_1 rfl rfl hu j)
theorem dSP_keep_2 : decode cSP_keep 2 = .ok (.getfield 15, 3) := by decide +kernel
theorem eSP_keep_2 {v0 v1 v2 : Option Value} {a : Nat} {fs : List Value} {u : Value} (ha : h.1 a = some (.inr (7, fs))) (hv : fs[0]? = some u) (k : x_K P d mSP_keep 5 [v0, v1, v2] (u :: st) h Φ) : x_K P d mSP_keep 2 [v0, v1, v2] (.ref a :: st) h Φ := x_K1 k (fun _ _ j => xj_get dSP_keep_2 okcSP rfl (j := 0) (by decide) xm_371 ha hv j)
theorem dSP_keep_5 : decode cSP_keep 5 = .ok (.iload_n 1, 1) := by decide +kernel
theorem eSP_keep_5 {v0 v2 : Option Value} {x : Int32} (k : x_K P d mSP_keep 6 [v0, some (.int x), v2] (.int x :: st) h Φ) : x_K P d mSP_keep 5 [v0, some (.int x), v2] st h Φ := x_K1 k (fun _ _ j => xj_iload_n dSP_keep_5 rfl rfl j)
theorem dSP_keep_6 : decode cSP_keep 6 = .ok (.invokestatic 22, 3) := by decide +kernel
set_option maxRecDepth 100000 in
theorem eSP_keep_6 {v0 v1 v2 : Option Value} {x y : Int32} (hst : (st.map fun u => u.category).sum ≤ 8) (k : x_K P (d + 1) mSP_keep 9 [v0, v1, v2] (.int (if x < y then y else x) :: st) h Φ) : x_K P (d + 1) mSP_keep 6 [v0, v1, v2] (.int y :: .int x :: st) h Φ := x_K1 k (fun _ _ j => xj_max dSP_keep_6 xm_415 xm_416 xm_13 xm_417 hst j)
theorem dSP_keep_9 : decode cSP_keep 9 = .ok (.putfield 15, 3) := by decide +kernel
theorem eSP_keep_9 {v0 v1 v2 : Option Value} {a : Nat} {fs : List Value} {z : Int32} (ha : h.1 a = some (.inr (7, fs))) (hl : 0 < fs.length) (k : x_K P d mSP_keep 12 [v0, v1, v2] st (x_put h a (.inr (7, fs.set 0 (.int z)))) Φ) : x_K P d mSP_keep 9 [v0, v1, v2] (.int z :: .ref a :: st) h Φ := x_K1 k (fun _ _ j => xj_put dSP_keep_9 okcSP rfl (j := 0) (by decide) xm_371 rfl ha hl (ty := .int) (by decide +kernel) rfl rfl j)
theorem dSP_keep_12 : decode cSP_keep 12 = .ok (.aload_n 0, 1) := by decide +kernel
theorem eSP_keep_12 {v1 v2 : Option Value} {u : Value} (hu : u.isRef = true) (k : x_K P d mSP_keep 13 [some u, v1, v2] (u :: st) h Φ) : x_K P d mSP_keep 12 [some u, v1, v2] st h Φ := x_K1 k (fun _ _ j => xj_aload_n dSP_keep_12 rfl rfl hu j)
theorem dSP_keep_13 : decode cSP_keep 13 = .ok (.aload_n 0, 1) := by decide +kernel
theorem eSP_keep_13 {v1 v2 : Option Value} {u : Value} (hu : u.isRef = true) (k : x_K P d mSP_keep 14 [some u, v1, v2] (u :: st) h Φ) : x_K P d mSP_keep 13 [some u, v1, v2] st h Φ := x_K1 k (fun _ _ j => xj_aload_n dSP_keep_13 rfl rfl hu j)
theorem dSP_keep_14 : decode cSP_keep 14 = .ok (.getfield 19, 3) := by decide +kernel
theorem eSP_keep_14 {v0 v1 v2 : Option Value} {a : Nat} {fs : List Value} {u : Value} (ha : h.1 a = some (.inr (7, fs))) (hv : fs[1]? = some u) (k : x_K P d mSP_keep 17 [v0, v1, v2] (u :: st) h Φ) : x_K P d mSP_keep 14 [v0, v1, v2] (.ref a :: st) h Φ := x_K1 k (fun _ _ j => xj_get dSP_keep_14 okcSP rfl (j := 1) (by decide) xm_372 ha hv j)
theorem dSP_keep_17 : decode cSP_keep 17 = .ok (.iload_n 2, 1) := by decide +kernel
theorem eSP_keep_17 {v0 v1 : Option Value} {x : Int32} (k : x_K P d mSP_keep 18 [v0, v1, some (.int x)] (.int x :: st) h Φ) : x_K P d mSP_keep 17 [v0, v1, some (.int x)] st h Φ := x_K1 k (fun _ _ j => xj_iload_n dSP_keep_17 rfl rfl j)
theorem dSP_keep_18 : decode cSP_keep 18 = .ok (.invokestatic 28, 3) := by decide +kernel
set_option maxRecDepth 100000 in
theorem eSP_keep_18 {v0 v1 v2 : Option Value} {x y : Int32} (hst : (st.map fun u => u.category).sum ≤ 8) (k : x_K P (d + 1) mSP_keep 21 [v0, v1, v2] (.int (if y < x then y else x) :: st) h Φ) : x_K P (d + 1) mSP_keep 18 [v0, v1, v2] (.int y :: .int x :: st) h Φ := x_K1 k (fun _ _ j => xj_min dSP_keep_18 xm_418 xm_419 xm_13 xm_420 hst j)
theorem dSP_keep_21 : decode cSP_keep 21 = .ok (.putfield 19, 3) := by decide +kernel
theorem eSP_keep_21 {v0 v1 v2 : Option Value} {a : Nat} {fs : List Value} {z : Int32} (ha : h.1 a = some (.inr (7, fs))) (hl : 1 < fs.length) (k : x_K P d mSP_keep 24 [v0, v1, v2] st (x_put h a (.inr (7, fs.set 1 (.int z)))) Φ) : x_K P d mSP_keep 21 [v0, v1, v2] (.int z :: .ref a :: st) h Φ := x_K1 k (fun _ _ j => xj_put dSP_keep_21 okcSP rfl (j := 1) (by decide) xm_372 rfl ha hl (ty := .int) (by decide +kernel) rfl rfl j)
theorem dSP_keep_24 : decode cSP_keep 24 = .ok (.return_, 1) := by decide +kernel
theorem eSP_keep_24 {v0 v1 v2 : Option Value} (hΦ : Φ (.returned none) h) : x_K P d mSP_keep 24 [v0, v1, v2] [] h Φ := x_Kret hΦ (xj_vret dSP_keep_24 rfl)
theorem dSP_exclude_0 : decode cSP_exclude 0 = .ok (.aload_n 0, 1) := by decide +kernel
theorem eSP_exclude_0 {v1 : Option Value} {u : Value} (hu : u.isRef = true) (k : x_K P d mSP_exclude 1 [some u, v1] (u :: st) h Φ) : x_K P d mSP_exclude 0 [some u, v1] st h Φ := x_K1 k (fun _ _ j => xj_aload_n dSP_exclude_0 rfl rfl hu j)
theorem dSP_exclude_1 : decode cSP_exclude 1 = .ok (.getfield 31, 3) := by decide +kernel
theorem eSP_exclude_1 {v0 v1 : Option Value} {a : Nat} {fs : List Value} {u : Value} (ha : h.1 a = some (.inr (7, fs))) (hv : fs[3]? = some u) (k : x_K P d mSP_exclude 4 [v0, v1] (u :: st) h Φ) : x_K P d mSP_exclude 1 [v0, v1] (.ref a :: st) h Φ := x_K1 k (fun _ _ j => xj_get dSP_exclude_1 okcSP rfl (j := 3) (by decide) xm_374 ha hv j)
theorem dSP_exclude_4 : decode cSP_exclude 4 = .ok (.aload_n 0, 1) := by decide +kernel
theorem eSP_exclude_4 {v1 : Option Value} {u : Value} (hu : u.isRef = true) (k : x_K P d mSP_exclude 5 [some u, v1] (u :: st) h Φ) : x_K P d mSP_exclude 4 [some u, v1] st h Φ := x_K1 k (fun _ _ j => xj_aload_n dSP_exclude_4 rfl rfl hu j)
theorem dSP_exclude_5 : decode cSP_exclude 5 = .ok (.getfield 9, 3) := by decide +kernel
theorem eSP_exclude_5 {v0 v1 : Option Value} {a : Nat} {fs : List Value} {u : Value} (ha : h.1 a = some (.inr (7, fs))) (hv : fs[2]? = some u) (k : x_K P d mSP_exclude 8 [v0, v1] (u :: st) h Φ) : x_K P d mSP_exclude 5 [v0, v1] (.ref a :: st) h Φ := x_K1 k (fun _ _ j => xj_get dSP_exclude_5 okcSP rfl (j := 2) (by decide) xm_373 ha hv j)
theorem dSP_exclude_8 : decode cSP_exclude 8 = .ok (.arraylength, 1) := by decide +kernel
theorem eSP_exclude_8 {v0 v1 : Option Value} {a t : Nat} {x : vp_A} {ty : FieldType} (ha : h.1 a = some (.inl (t, x))) (ht : (x_tys P.2.2.1)[t]? = some (P.2.2.1 t, ty)) (k : x_K P d mSP_exclude 9 [v0, v1] (.int (Int32.ofNat x.1) :: st) h Φ) : x_K P d mSP_exclude 8 [v0, v1] (.ref a :: st) h Φ := x_K1 k (fun _ _ j => xj_alen dSP_exclude_8 ha ht rfl j)
theorem dSP_exclude_9 : decode cSP_exclude 9 = .ok (.if_icmp .ge 23, 3) := by decide +kernel
theorem eSP_exclude_9 {v0 v1 : Option Value} {x y : Int32} (kt : y ≤ x → x_K P d mSP_exclude 32 [v0, v1] st h Φ) (kf : ¬ y ≤ x → x_K P d mSP_exclude 12 [v0, v1] st h Φ) : x_K P d mSP_exclude 9 [v0, v1] (.int y :: .int x :: st) h Φ := x_K2 (Classical.em (y ≤ x)) kt kf (fun a _ _ j => xj_icmp_ge dSP_exclude_9 (tgt := 32) (by decide) (fun _ => j) (fun b => absurd a b)) (fun a _ _ j => xj_icmp_ge dSP_exclude_9 (tgt := 32) (by decide) (fun b => absurd b a) (fun _ => j))
theorem dSP_exclude_12 : decode cSP_exclude 12 = .ok (.aload_n 0, 1) := by decide +kernel
theorem eSP_exclude_12 {v1 : Option Value} {u : Value} (hu : u.isRef = true) (k : x_K P d mSP_exclude 13 [some u, v1] (u :: st) h Φ) : x_K P d mSP_exclude 12 [some u, v1] st h Φ := x_K1 k (fun _ _ j => xj_aload_n dSP_exclude_12 rfl rfl hu j)
theorem dSP_exclude_13 : decode cSP_exclude 13 = .ok (.getfield 9, 3) := by decide +kernel
theorem eSP_exclude_13 {v0 v1 : Option Value} {a : Nat} {fs : List Value} {u : Value} (ha : h.1 a = some (.inr (7, fs))) (hv : fs[2]? = some u) (k : x_K P d mSP_exclude 16 [v0, v1] (u :: st) h Φ) : x_K P d mSP_exclude 13 [v0, v1] (.ref a :: st) h Φ := x_K1 k (fun _ _ j => xj_get dSP_exclude_13 okcSP rfl (j := 2) (by decide) xm_373 ha hv j)
theorem dSP_exclude_16 : decode cSP_exclude 16 = .ok (.aload_n 0, 1) := by decide +kernel
theorem eSP_exclude_16 {v1 : Option Value} {u : Value} (hu : u.isRef = true) (k : x_K P d mSP_exclude 17 [some u, v1] (u :: st) h Φ) : x_K P d mSP_exclude 16 [some u, v1] st h Φ := x_K1 k (fun _ _ j => xj_aload_n dSP_exclude_16 rfl rfl hu j)
theorem dSP_exclude_17 : decode cSP_exclude 17 = .ok (.getfield 31, 3) := by decide +kernel
theorem eSP_exclude_17 {v0 v1 : Option Value} {a : Nat} {fs : List Value} {u : Value} (ha : h.1 a = some (.inr (7, fs))) (hv : fs[3]? = some u) (k : x_K P d mSP_exclude 20 [v0, v1] (u :: st) h Φ) : x_K P d mSP_exclude 17 [v0, v1] (.ref a :: st) h Φ := x_K1 k (fun _ _ j => xj_get dSP_exclude_17 okcSP rfl (j := 3) (by decide) xm_374 ha hv j)
theorem dSP_exclude_20 : decode cSP_exclude 20 = .ok (.iload_n 1, 1) := by decide +kernel
theorem eSP_exclude_20 {v0 : Option Value} {x : Int32} (k : x_K P d mSP_exclude 21 [v0, some (.int x)] (.int x :: st) h Φ) : x_K P d mSP_exclude 20 [v0, some (.int x)] st h Φ := x_K1 k (fun _ _ j => xj_iload_n dSP_exclude_20 rfl rfl j)
theorem dSP_exclude_21 : decode cSP_exclude 21 = .ok (.iastore, 1) := by decide +kernel
theorem eSP_exclude_21 {v0 v1 : Option Value} {a n : Nat} {f : Nat → Int32} {i : Int32} {x : Int32} (ha : h.1 a = some (.inl (0, n, .inl f))) (hi : vp_in i n) (k : x_K P d mSP_exclude 22 [v0, v1] st (x_put h a (.inl (0, n, .inl (upd f i.toNatClampNeg x)))) Φ) : x_K P d mSP_exclude 21 [v0, v1] (.int x :: .int i :: .ref a :: st) h Φ := x_K1 k (fun _ _ j => xj_iast dSP_exclude_21 ha hi j)
theorem dSP_exclude_22 : decode cSP_exclude 22 = .ok (.aload_n 0, 1) := by decide +kernel
theorem eSP_exclude_22 {v1 : Option Value} {u : Value} (hu : u.isRef = true) (k : x_K P d mSP_exclude 23 [some u, v1] (u :: st) h Φ) : x_K P d mSP_exclude 22 [some u, v1] st h Φ := x_K1 k (fun _ _ j => xj_aload_n dSP_exclude_22 rfl rfl hu j)
theorem dSP_exclude_23 : decode cSP_exclude 23 = .ok (.dup, 1) := by decide +kernel
theorem eSP_exclude_23 {v0 v1 : Option Value} {u : Value} (hu : u.category = 1) (k : x_K P d mSP_exclude 24 [v0, v1] (u :: u :: st) h Φ) : x_K P d mSP_exclude 23 [v0, v1] (u :: st) h Φ := x_K1 k (fun _ _ j => xj_dup dSP_exclude_23 hu j)
theorem dSP_exclude_24 : decode cSP_exclude 24 = .ok (.getfield 31, 3) := by decide +kernel
theorem eSP_exclude_24 {v0 v1 : Option Value} {a : Nat} {fs : List Value} {u : Value} (ha : h.1 a = some (.inr (7, fs))) (hv : fs[3]? = some u) (k : x_K P d mSP_exclude 27 [v0, v1] (u :: st) h Φ) : x_K P d mSP_exclude 24 [v0, v1] (.ref a :: st) h Φ := x_K1 k (fun _ _ j => xj_get dSP_exclude_24 okcSP rfl (j := 3) (by decide) xm_374 ha hv j)
theorem dSP_exclude_27 : decode cSP_exclude 27 = .ok (.iconst 1, 1) := by decide +kernel
theorem eSP_exclude_27 {v0 v1 : Option Value} (k : x_K P d mSP_exclude 28 [v0, v1] (.int 1 :: st) h Φ) : x_K P d mSP_exclude 27 [v0, v1] st h Φ := x_K1 k (fun _ _ j => xj_iconst dSP_exclude_27 (v := 1) (by decide) j)
theorem dSP_exclude_28 : decode cSP_exclude 28 = .ok (.iadd, 1) := by decide +kernel
theorem eSP_exclude_28 {v0 v1 : Option Value} {x y : Int32} (k : x_K P d mSP_exclude 29 [v0, v1] (.int (x + y) :: st) h Φ) : x_K P d mSP_exclude 28 [v0, v1] (.int y :: .int x :: st) h Φ := x_K1 k (fun _ _ j => xj_iadd dSP_exclude_28 j)
theorem dSP_exclude_29 : decode cSP_exclude 29 = .ok (.putfield 31, 3) := by decide +kernel
theorem eSP_exclude_29 {v0 v1 : Option Value} {a : Nat} {fs : List Value} {z : Int32} (ha : h.1 a = some (.inr (7, fs))) (hl : 3 < fs.length) (k : x_K P d mSP_exclude 32 [v0, v1] st (x_put h a (.inr (7, fs.set 3 (.int z)))) Φ) : x_K P d mSP_exclude 29 [v0, v1] (.int z :: .ref a :: st) h Φ := x_K1 k (fun _ _ j => xj_put dSP_exclude_29 okcSP rfl (j := 3) (by decide) xm_374 rfl ha hl (ty := .int) (by decide +kernel) rfl rfl j)
theorem dSP_exclude_32 : decode cSP_exclude 32 = .ok (.return_, 1) := by decide +kernel
theorem eSP_exclude_32 {v0 v1 : Option Value} (hΦ : Φ (.returned none) h) : x_K P d mSP_exclude 32 [v0, v1] [] h Φ := x_Kret hΦ (xj_vret dSP_exclude_32 rfl)
theorem dSP_tighten_0 : decode cSP_tighten 0 = .ok (.iconst 0, 1) := by decide +kernel
theorem eSP_tighten_0 {v0 v1 : Option Value} (k : x_K P d mSP_tighten 1 [v0, v1] (.int 0 :: st) h Φ) : x_K P d mSP_tighten 0 [v0, v1] st h Φ := x_K1 k (fun _ _ j => xj_iconst dSP_tighten_0 (v := 0) (by decide) j)
theorem dSP_tighten_1 : decode cSP_tighten 1 = .ok (.istore_n 1, 1) := by decide +kernel
theorem eSP_tighten_1 {v0 v1 : Option Value} {x : Int32} (k : x_K P d mSP_tighten 2 [v0, some (.int x)] st h Φ) : x_K P d mSP_tighten 1 [v0, v1] (.int x :: st) h Φ := x_K1 k (fun _ _ j => xj_istore_n dSP_tighten_1 rfl rfl j)
theorem dSP_tighten_2 : decode cSP_tighten 2 = .ok (.iload_n 1, 1) := by decide +kernel
theorem eSP_tighten_2 {v0 : Option Value} {x : Int32} (k : x_K P d mSP_tighten 3 [v0, some (.int x)] (.int x :: st) h Φ) : x_K P d mSP_tighten 2 [v0, some (.int x)] st h Φ := x_K1 k (fun _ _ j => xj_iload_n dSP_tighten_2 rfl rfl j)
theorem dSP_tighten_3 : decode cSP_tighten 3 = .ok (.aload_n 0, 1) := by decide +kernel
theorem eSP_tighten_3 {v1 : Option Value} {u : Value} (hu : u.isRef = true) (k : x_K P d mSP_tighten 4 [some u, v1] (u :: st) h Φ) : x_K P d mSP_tighten 3 [some u, v1] st h Φ := x_K1 k (fun _ _ j => xj_aload_n dSP_tighten_3 rfl rfl hu j)
theorem dSP_tighten_4 : decode cSP_tighten 4 = .ok (.getfield 31, 3) := by decide +kernel
theorem eSP_tighten_4 {v0 v1 : Option Value} {a : Nat} {fs : List Value} {u : Value} (ha : h.1 a = some (.inr (7, fs))) (hv : fs[3]? = some u) (k : x_K P d mSP_tighten 7 [v0, v1] (u :: st) h Φ) : x_K P d mSP_tighten 4 [v0, v1] (.ref a :: st) h Φ := x_K1 k (fun _ _ j => xj_get dSP_tighten_4 okcSP rfl (j := 3) (by decide) xm_374 ha hv j)
theorem dSP_tighten_7 : decode cSP_tighten 7 = .ok (.if_icmp .ge 51, 3) := by decide +kernel
theorem eSP_tighten_7 {v0 v1 : Option Value} {x y : Int32} (kt : y ≤ x → x_K P d mSP_tighten 58 [v0, v1] st h Φ) (kf : ¬ y ≤ x → x_K P d mSP_tighten 10 [v0, v1] st h Φ) : x_K P d mSP_tighten 7 [v0, v1] (.int y :: .int x :: st) h Φ := x_K2 (Classical.em (y ≤ x)) kt kf (fun a _ _ j => xj_icmp_ge dSP_tighten_7 (tgt := 58) (by decide) (fun _ => j) (fun b => absurd a b)) (fun a _ _ j => xj_icmp_ge dSP_tighten_7 (tgt := 58) (by decide) (fun b => absurd b a) (fun _ => j))
theorem dSP_tighten_10 : decode cSP_tighten 10 = .ok (.aload_n 0, 1) := by decide +kernel
theorem eSP_tighten_10 {v1 : Option Value} {u : Value} (hu : u.isRef = true) (k : x_K P d mSP_tighten 11 [some u, v1] (u :: st) h Φ) : x_K P d mSP_tighten 10 [some u, v1] st h Φ := x_K1 k (fun _ _ j => xj_aload_n dSP_tighten_10 rfl rfl hu j)
theorem dSP_tighten_11 : decode cSP_tighten 11 = .ok (.aload_n 0, 1) := by decide +kernel
theorem eSP_tighten_11 {v1 : Option Value} {u : Value} (hu : u.isRef = true) (k : x_K P d mSP_tighten 12 [some u, v1] (u :: st) h Φ) : x_K P d mSP_tighten 11 [some u, v1] st h Φ := x_K1 k (fun _ _ j => xj_aload_n dSP_tighten_11 rfl rfl hu j)
theorem dSP_tighten_12 : decode cSP_tighten 12 = .ok (.getfield 15, 3) := by decide +kernel
theorem eSP_tighten_12 {v0 v1 : Option Value} {a : Nat} {fs : List Value} {u : Value} (ha : h.1 a = some (.inr (7, fs))) (hv : fs[0]? = some u) (k : x_K P d mSP_tighten 15 [v0, v1] (u :: st) h Φ) : x_K P d mSP_tighten 12 [v0, v1] (.ref a :: st) h Φ := x_K1 k (fun _ _ j => xj_get dSP_tighten_12 okcSP rfl (j := 0) (by decide) xm_371 ha hv j)
theorem dSP_tighten_15 : decode cSP_tighten 15 = .ok (.invokevirtual 34, 3) := by decide +kernel
set_option maxRecDepth 100000 in
theorem eSP_tighten_15 {v0 v1 : Option Value} {x1 : Int32} {a : Nat} {fs : List Value} {Ψ : Outcome → x_H → Prop} (ha : h.1 a = some (.inr (7, fs))) (hst : (st.map fun u => u.category).sum ≤ 8) (kc : x_K P d mSP_has 0 [some (.ref a), some (.int x1), none] [] h Ψ) (k : ∀ oc h1, Ψ oc h1 → ∃ v, oc = .returned v ∧ x_K P (d + 1) mSP_tighten 18 [v0, v1] (v.toList ++ st) h1 Φ) : x_K P (d + 1) mSP_tighten 15 [v0, v1] (.int x1 :: .ref a :: st) h Φ := x_Kc kc k (fun _ _ _ _ j1 j2 => xj_callV (M2 := mSP_has) (As := [.int x1]) dSP_tighten_15 xm_442 xm_257 xm_258 ha rfl rfl ok_SP_has rfl (by simp only [List.forall_mem_cons]; exact ⟨rfl, rfl, fun _ h => absurd h List.not_mem_nil⟩) (Nat.le_of_ble_eq_true rfl) hst j1 j2)
theorem dSP_tighten_18 : decode cSP_tighten 18 = .ok (.ifCond .ne 13, 3) := by decide +kernel
theorem eSP_tighten_18 {v0 v1 : Option Value} {x : Int32} (kt : ¬ x = 0 → x_K P d mSP_tighten 31 [v0, v1] st h Φ) (kf : x = 0 → x_K P d mSP_tighten 21 [v0, v1] st h Φ) : x_K P d mSP_tighten 18 [v0, v1] (.int x :: st) h Φ := x_K2 (Classical.em (x = 0)) kf kt (fun a _ _ j => xj_if_ne dSP_tighten_18 (tgt := 31) (by decide) (fun b => absurd a b) (fun _ => j)) (fun a _ _ j => xj_if_ne dSP_tighten_18 (tgt := 31) (by decide) (fun _ => j) (fun b => absurd b a))
theorem dSP_tighten_21 : decode cSP_tighten 21 = .ok (.aload_n 0, 1) := by decide +kernel
theorem eSP_tighten_21 {v1 : Option Value} {u : Value} (hu : u.isRef = true) (k : x_K P d mSP_tighten 22 [some u, v1] (u :: st) h Φ) : x_K P d mSP_tighten 21 [some u, v1] st h Φ := x_K1 k (fun _ _ j => xj_aload_n dSP_tighten_21 rfl rfl hu j)
theorem dSP_tighten_22 : decode cSP_tighten 22 = .ok (.dup, 1) := by decide +kernel
theorem eSP_tighten_22 {v0 v1 : Option Value} {u : Value} (hu : u.category = 1) (k : x_K P d mSP_tighten 23 [v0, v1] (u :: u :: st) h Φ) : x_K P d mSP_tighten 22 [v0, v1] (u :: st) h Φ := x_K1 k (fun _ _ j => xj_dup dSP_tighten_22 hu j)
theorem dSP_tighten_23 : decode cSP_tighten 23 = .ok (.getfield 15, 3) := by decide +kernel
theorem eSP_tighten_23 {v0 v1 : Option Value} {a : Nat} {fs : List Value} {u : Value} (ha : h.1 a = some (.inr (7, fs))) (hv : fs[0]? = some u) (k : x_K P d mSP_tighten 26 [v0, v1] (u :: st) h Φ) : x_K P d mSP_tighten 23 [v0, v1] (.ref a :: st) h Φ := x_K1 k (fun _ _ j => xj_get dSP_tighten_23 okcSP rfl (j := 0) (by decide) xm_371 ha hv j)
theorem dSP_tighten_26 : decode cSP_tighten 26 = .ok (.iconst 1, 1) := by decide +kernel
theorem eSP_tighten_26 {v0 v1 : Option Value} (k : x_K P d mSP_tighten 27 [v0, v1] (.int 1 :: st) h Φ) : x_K P d mSP_tighten 26 [v0, v1] st h Φ := x_K1 k (fun _ _ j => xj_iconst dSP_tighten_26 (v := 1) (by decide) j)
theorem dSP_tighten_27 : decode cSP_tighten 27 = .ok (.iadd, 1) := by decide +kernel
theorem eSP_tighten_27 {v0 v1 : Option Value} {x y : Int32} (k : x_K P d mSP_tighten 28 [v0, v1] (.int (x + y) :: st) h Φ) : x_K P d mSP_tighten 27 [v0, v1] (.int y :: .int x :: st) h Φ := x_K1 k (fun _ _ j => xj_iadd dSP_tighten_27 j)
theorem dSP_tighten_28 : decode cSP_tighten 28 = .ok (.putfield 15, 3) := by decide +kernel
theorem eSP_tighten_28 {v0 v1 : Option Value} {a : Nat} {fs : List Value} {z : Int32} (ha : h.1 a = some (.inr (7, fs))) (hl : 0 < fs.length) (k : x_K P d mSP_tighten 31 [v0, v1] st (x_put h a (.inr (7, fs.set 0 (.int z)))) Φ) : x_K P d mSP_tighten 28 [v0, v1] (.int z :: .ref a :: st) h Φ := x_K1 k (fun _ _ j => xj_put dSP_tighten_28 okcSP rfl (j := 0) (by decide) xm_371 rfl ha hl (ty := .int) (by decide +kernel) rfl rfl j)
theorem dSP_tighten_31 : decode cSP_tighten 31 = .ok (.aload_n 0, 1) := by decide +kernel
theorem eSP_tighten_31 {v1 : Option Value} {u : Value} (hu : u.isRef = true) (k : x_K P d mSP_tighten 32 [some u, v1] (u :: st) h Φ) : x_K P d mSP_tighten 31 [some u, v1] st h Φ := x_K1 k (fun _ _ j => xj_aload_n dSP_tighten_31 rfl rfl hu j)
theorem dSP_tighten_32 : decode cSP_tighten 32 = .ok (.aload_n 0, 1) := by decide +kernel
theorem eSP_tighten_32 {v1 : Option Value} {u : Value} (hu : u.isRef = true) (k : x_K P d mSP_tighten 33 [some u, v1] (u :: st) h Φ) : x_K P d mSP_tighten 32 [some u, v1] st h Φ := x_K1 k (fun _ _ j => xj_aload_n dSP_tighten_32 rfl rfl hu j)
theorem dSP_tighten_33 : decode cSP_tighten 33 = .ok (.getfield 19, 3) := by decide +kernel
theorem eSP_tighten_33 {v0 v1 : Option Value} {a : Nat} {fs : List Value} {u : Value} (ha : h.1 a = some (.inr (7, fs))) (hv : fs[1]? = some u) (k : x_K P d mSP_tighten 36 [v0, v1] (u :: st) h Φ) : x_K P d mSP_tighten 33 [v0, v1] (.ref a :: st) h Φ := x_K1 k (fun _ _ j => xj_get dSP_tighten_33 okcSP rfl (j := 1) (by decide) xm_372 ha hv j)
theorem dSP_tighten_36 : decode cSP_tighten 36 = .ok (.invokevirtual 34, 3) := by decide +kernel
set_option maxRecDepth 100000 in
theorem eSP_tighten_36 {v0 v1 : Option Value} {x1 : Int32} {a : Nat} {fs : List Value} {Ψ : Outcome → x_H → Prop} (ha : h.1 a = some (.inr (7, fs))) (hst : (st.map fun u => u.category).sum ≤ 8) (kc : x_K P d mSP_has 0 [some (.ref a), some (.int x1), none] [] h Ψ) (k : ∀ oc h1, Ψ oc h1 → ∃ v, oc = .returned v ∧ x_K P (d + 1) mSP_tighten 39 [v0, v1] (v.toList ++ st) h1 Φ) : x_K P (d + 1) mSP_tighten 36 [v0, v1] (.int x1 :: .ref a :: st) h Φ := x_Kc kc k (fun _ _ _ _ j1 j2 => xj_callV (M2 := mSP_has) (As := [.int x1]) dSP_tighten_36 xm_442 xm_257 xm_258 ha rfl rfl ok_SP_has rfl (by simp only [List.forall_mem_cons]; exact ⟨rfl, rfl, fun _ h => absurd h List.not_mem_nil⟩) (Nat.le_of_ble_eq_true rfl) hst j1 j2)
theorem dSP_tighten_39 : decode cSP_tighten 39 = .ok (.ifCond .ne 13, 3) := by decide +kernel
theorem eSP_tighten_39 {v0 v1 : Option Value} {x : Int32} (kt : ¬ x = 0 → x_K P d mSP_tighten 52 [v0, v1] st h Φ) (kf : x = 0 → x_K P d mSP_tighten 42 [v0, v1] st h Φ) : x_K P d mSP_tighten 39 [v0, v1] (.int x :: st) h Φ := x_K2 (Classical.em (x = 0)) kf kt (fun a _ _ j => xj_if_ne dSP_tighten_39 (tgt := 52) (by decide) (fun b => absurd a b) (fun _ => j)) (fun a _ _ j => xj_if_ne dSP_tighten_39 (tgt := 52) (by decide) (fun _ => j) (fun b => absurd b a))
theorem dSP_tighten_42 : decode cSP_tighten 42 = .ok (.aload_n 0, 1) := by decide +kernel
theorem eSP_tighten_42 {v1 : Option Value} {u : Value} (hu : u.isRef = true) (k : x_K P d mSP_tighten 43 [some u, v1] (u :: st) h Φ) : x_K P d mSP_tighten 42 [some u, v1] st h Φ := x_K1 k (fun _ _ j => xj_aload_n dSP_tighten_42 rfl rfl hu j)
theorem dSP_tighten_43 : decode cSP_tighten 43 = .ok (.dup, 1) := by decide +kernel
theorem eSP_tighten_43 {v0 v1 : Option Value} {u : Value} (hu : u.category = 1) (k : x_K P d mSP_tighten 44 [v0, v1] (u :: u :: st) h Φ) : x_K P d mSP_tighten 43 [v0, v1] (u :: st) h Φ := x_K1 k (fun _ _ j => xj_dup dSP_tighten_43 hu j)
theorem dSP_tighten_44 : decode cSP_tighten 44 = .ok (.getfield 19, 3) := by decide +kernel
theorem eSP_tighten_44 {v0 v1 : Option Value} {a : Nat} {fs : List Value} {u : Value} (ha : h.1 a = some (.inr (7, fs))) (hv : fs[1]? = some u) (k : x_K P d mSP_tighten 47 [v0, v1] (u :: st) h Φ) : x_K P d mSP_tighten 44 [v0, v1] (.ref a :: st) h Φ := x_K1 k (fun _ _ j => xj_get dSP_tighten_44 okcSP rfl (j := 1) (by decide) xm_372 ha hv j)
theorem dSP_tighten_47 : decode cSP_tighten 47 = .ok (.iconst 1, 1) := by decide +kernel
theorem eSP_tighten_47 {v0 v1 : Option Value} (k : x_K P d mSP_tighten 48 [v0, v1] (.int 1 :: st) h Φ) : x_K P d mSP_tighten 47 [v0, v1] st h Φ := x_K1 k (fun _ _ j => xj_iconst dSP_tighten_47 (v := 1) (by decide) j)
theorem dSP_tighten_48 : decode cSP_tighten 48 = .ok (.isub, 1) := by decide +kernel
theorem eSP_tighten_48 {v0 v1 : Option Value} {x y : Int32} (k : x_K P d mSP_tighten 49 [v0, v1] (.int (x - y) :: st) h Φ) : x_K P d mSP_tighten 48 [v0, v1] (.int y :: .int x :: st) h Φ := x_K1 k (fun _ _ j => xj_isub dSP_tighten_48 j)
theorem dSP_tighten_49 : decode cSP_tighten 49 = .ok (.putfield 19, 3) := by decide +kernel
theorem eSP_tighten_49 {v0 v1 : Option Value} {a : Nat} {fs : List Value} {z : Int32} (ha : h.1 a = some (.inr (7, fs))) (hl : 1 < fs.length) (k : x_K P d mSP_tighten 52 [v0, v1] st (x_put h a (.inr (7, fs.set 1 (.int z)))) Φ) : x_K P d mSP_tighten 49 [v0, v1] (.int z :: .ref a :: st) h Φ := x_K1 k (fun _ _ j => xj_put dSP_tighten_49 okcSP rfl (j := 1) (by decide) xm_372 rfl ha hl (ty := .int) (by decide +kernel) rfl rfl j)
theorem dSP_tighten_52 : decode cSP_tighten 52 = .ok (.iinc 1 1, 3) := by decide +kernel
theorem eSP_tighten_52 {v0 : Option Value} {x : Int32} (k : x_K P d mSP_tighten 55 [v0, some (.int (x + 1))] st h Φ) : x_K P d mSP_tighten 52 [v0, some (.int x)] st h Φ := x_K1 k (fun _ _ j => xj_iinc dSP_tighten_52 rfl (v := x + 1) (by rfl) j)
theorem dSP_tighten_55 : decode cSP_tighten 55 = .ok (.goto (-53), 3) := by decide +kernel
theorem eSP_tighten_55 {v0 v1 : Option Value} (k : x_K P d mSP_tighten 2 [v0, v1] st h Φ) : x_K P d mSP_tighten 55 [v0, v1] st h Φ := x_K1 k (fun _ _ j => xj_goto dSP_tighten_55 (tgt := 2) (by decide) j)
theorem dSP_tighten_58 : decode cSP_tighten 58 = .ok (.return_, 1) := by decide +kernel
theorem eSP_tighten_58 {v0 v1 : Option Value} (hΦ : Φ (.returned none) h) : x_K P d mSP_tighten 58 [v0, v1] [] h Φ := x_Kret hΦ (xj_vret dSP_tighten_58 rfl)
theorem dSP_isEmpty_0 : decode cSP_isEmpty 0 = .ok (.aload_n 0, 1) := by decide +kernel
theorem eSP_isEmpty_0 {u : Value} (hu : u.isRef = true) (k : x_K P d mSP_isEmpty 1 [some u] (u :: st) h Φ) : x_K P d mSP_isEmpty 0 [some u] st h Φ := x_K1 k (fun _ _ j => xj_aload_n dSP_isEmpty_0 rfl rfl hu j)
theorem dSP_isEmpty_1 : decode cSP_isEmpty 1 = .ok (.getfield 15, 3) := by decide +kernel
theorem eSP_isEmpty_1 {v0 : Option Value} {a : Nat} {fs : List Value} {u : Value} (ha : h.1 a = some (.inr (7, fs))) (hv : fs[0]? = some u) (k : x_K P d mSP_isEmpty 4 [v0] (u :: st) h Φ) : x_K P d mSP_isEmpty 1 [v0] (.ref a :: st) h Φ := x_K1 k (fun _ _ j => xj_get dSP_isEmpty_1 okcSP rfl (j := 0) (by decide) xm_371 ha hv j)
theorem dSP_isEmpty_4 : decode cSP_isEmpty 4 = .ok (.aload_n 0, 1) := by decide +kernel
theorem eSP_isEmpty_4 {u : Value} (hu : u.isRef = true) (k : x_K P d mSP_isEmpty 5 [some u] (u :: st) h Φ) : x_K P d mSP_isEmpty 4 [some u] st h Φ := x_K1 k (fun _ _ j => xj_aload_n dSP_isEmpty_4 rfl rfl hu j)
theorem dSP_isEmpty_5 : decode cSP_isEmpty 5 = .ok (.getfield 19, 3) := by decide +kernel
theorem eSP_isEmpty_5 {v0 : Option Value} {a : Nat} {fs : List Value} {u : Value} (ha : h.1 a = some (.inr (7, fs))) (hv : fs[1]? = some u) (k : x_K P d mSP_isEmpty 8 [v0] (u :: st) h Φ) : x_K P d mSP_isEmpty 5 [v0] (.ref a :: st) h Φ := x_K1 k (fun _ _ j => xj_get dSP_isEmpty_5 okcSP rfl (j := 1) (by decide) xm_372 ha hv j)
theorem dSP_isEmpty_8 : decode cSP_isEmpty 8 = .ok (.if_icmp .le 7, 3) := by decide +kernel
theorem eSP_isEmpty_8 {v0 : Option Value} {x y : Int32} (kt : x ≤ y → x_K P d mSP_isEmpty 15 [v0] st h Φ) (kf : ¬ x ≤ y → x_K P d mSP_isEmpty 11 [v0] st h Φ) : x_K P d mSP_isEmpty 8 [v0] (.int y :: .int x :: st) h Φ := x_K2 (Classical.em (x ≤ y)) kt kf (fun a _ _ j => xj_icmp_le dSP_isEmpty_8 (tgt := 15) (by decide) (fun _ => j) (fun b => absurd a b)) (fun a _ _ j => xj_icmp_le dSP_isEmpty_8 (tgt := 15) (by decide) (fun b => absurd b a) (fun _ => j))
theorem dSP_isEmpty_11 : decode cSP_isEmpty 11 = .ok (.iconst 1, 1) := by decide +kernel
theorem eSP_isEmpty_11 {v0 : Option Value} (k : x_K P d mSP_isEmpty 12 [v0] (.int 1 :: st) h Φ) : x_K P d mSP_isEmpty 11 [v0] st h Φ := x_K1 k (fun _ _ j => xj_iconst dSP_isEmpty_11 (v := 1) (by decide) j)
theorem dSP_isEmpty_12 : decode cSP_isEmpty 12 = .ok (.goto 4, 3) := by decide +kernel
theorem eSP_isEmpty_12 {v0 : Option Value} (k : x_K P d mSP_isEmpty 16 [v0] st h Φ) : x_K P d mSP_isEmpty 12 [v0] st h Φ := x_K1 k (fun _ _ j => xj_goto dSP_isEmpty_12 (tgt := 16) (by decide) j)
theorem dSP_isEmpty_15 : decode cSP_isEmpty 15 = .ok (.iconst 0, 1) := by decide +kernel
theorem eSP_isEmpty_15 {v0 : Option Value} (k : x_K P d mSP_isEmpty 16 [v0] (.int 0 :: st) h Φ) : x_K P d mSP_isEmpty 15 [v0] st h Φ := x_K1 k (fun _ _ j => xj_iconst dSP_isEmpty_15 (v := 0) (by decide) j)
theorem dSP_isEmpty_16 : decode cSP_isEmpty 16 = .ok (.ireturn, 1) := by decide +kernel
theorem eSP_isEmpty_16 {v0 : Option Value} {x : Int32} (hn : narrow (.boolean) (.int x) = .int x) (hΦ : Φ (.returned (some (.int x))) h) : x_K P d mSP_isEmpty 16 [v0] [.int x] h Φ := x_Kret hΦ (xj_zret dSP_isEmpty_16 rfl hn)
theorem dSP_includes_0 : decode cSP_includes 0 = .ok (.aload_n 1, 1) := by decide +kernel
theorem eSP_includes_0 {v0 v2 : Option Value} {u : Value} (hu : u.isRef = true) (k : x_K P d mSP_includes 1 [v0, some u, v2] (u :: st) h Φ) : x_K P d mSP_includes 0 [v0, some u, v2] st h Φ := x_K1 k (fun _ _ j => xj_aload_n dSP_includes_0 rfl rfl hu j)
theorem dSP_includes_1 : decode cSP_includes 1 = .ok (.getfield 15, 3) := by decide +kernel
theorem eSP_includes_1 {v0 v1 v2 : Option Value} {a : Nat} {fs : List Value} {u : Value} (ha : h.1 a = some (.inr (7, fs))) (hv : fs[0]? = some u) (k : x_K P d mSP_includes 4 [v0, v1, v2] (u :: st) h Φ) : x_K P d mSP_includes 1 [v0, v1, v2] (.ref a :: st) h Φ := x_K1 k (fun _ _ j => xj_get dSP_includes_1 okcSP rfl (j := 0) (by decide) xm_371 ha hv j)
theorem dSP_includes_4 : decode cSP_includes 4 = .ok (.aload_n 0, 1) := by decide +kernel
theorem eSP_includes_4 {v1 v2 : Option Value} {u : Value} (hu : u.isRef = true) (k : x_K P d mSP_includes 5 [some u, v1, v2] (u :: st) h Φ) : x_K P d mSP_includes 4 [some u, v1, v2] st h Φ := x_K1 k (fun _ _ j => xj_aload_n dSP_includes_4 rfl rfl hu j)
theorem dSP_includes_5 : decode cSP_includes 5 = .ok (.getfield 15, 3) := by decide +kernel
theorem eSP_includes_5 {v0 v1 v2 : Option Value} {a : Nat} {fs : List Value} {u : Value} (ha : h.1 a = some (.inr (7, fs))) (hv : fs[0]? = some u) (k : x_K P d mSP_includes 8 [v0, v1, v2] (u :: st) h Φ) : x_K P d mSP_includes 5 [v0, v1, v2] (.ref a :: st) h Φ := x_K1 k (fun _ _ j => xj_get dSP_includes_5 okcSP rfl (j := 0) (by decide) xm_371 ha hv j)
theorem dSP_includes_8 : decode cSP_includes 8 = .ok (.if_icmp .lt 14, 3) := by decide +kernel
theorem eSP_includes_8 {v0 v1 v2 : Option Value} {x y : Int32} (kt : x < y → x_K P d mSP_includes 22 [v0, v1, v2] st h Φ) (kf : ¬ x < y → x_K P d mSP_includes 11 [v0, v1, v2] st h Φ) : x_K P d mSP_includes 8 [v0, v1, v2] (.int y :: .int x :: st) h Φ := x_K2 (Classical.em (x < y)) kt kf (fun a _ _ j => xj_icmp_lt dSP_includes_8 (tgt := 22) (by decide) (fun _ => j) (fun b => absurd a b)) (fun a _ _ j => xj_icmp_lt dSP_includes_8 (tgt := 22) (by decide) (fun b => absurd b a) (fun _ => j))
theorem dSP_includes_11 : decode cSP_includes 11 = .ok (.aload_n 1, 1) := by decide +kernel
theorem eSP_includes_11 {v0 v2 : Option Value} {u : Value} (hu : u.isRef = true) (k : x_K P d mSP_includes 12 [v0, some u, v2] (u :: st) h Φ) : x_K P d mSP_includes 11 [v0, some u, v2] st h Φ := x_K1 k (fun _ _ j => xj_aload_n dSP_includes_11 rfl rfl hu j)
theorem dSP_includes_12 : decode cSP_includes 12 = .ok (.getfield 19, 3) := by decide +kernel
theorem eSP_includes_12 {v0 v1 v2 : Option Value} {a : Nat} {fs : List Value} {u : Value} (ha : h.1 a = some (.inr (7, fs))) (hv : fs[1]? = some u) (k : x_K P d mSP_includes 15 [v0, v1, v2] (u :: st) h Φ) : x_K P d mSP_includes 12 [v0, v1, v2] (.ref a :: st) h Φ := x_K1 k (fun _ _ j => xj_get dSP_includes_12 okcSP rfl (j := 1) (by decide) xm_372 ha hv j)
theorem dSP_includes_15 : decode cSP_includes 15 = .ok (.aload_n 0, 1) := by decide +kernel
theorem eSP_includes_15 {v1 v2 : Option Value} {u : Value} (hu : u.isRef = true) (k : x_K P d mSP_includes 16 [some u, v1, v2] (u :: st) h Φ) : x_K P d mSP_includes 15 [some u, v1, v2] st h Φ := x_K1 k (fun _ _ j => xj_aload_n dSP_includes_15 rfl rfl hu j)
theorem dSP_includes_16 : decode cSP_includes 16 = .ok (.getfield 19, 3) := by decide +kernel
theorem eSP_includes_16 {v0 v1 v2 : Option Value} {a : Nat} {fs : List Value} {u : Value} (ha : h.1 a = some (.inr (7, fs))) (hv : fs[1]? = some u) (k : x_K P d mSP_includes 19 [v0, v1, v2] (u :: st) h Φ) : x_K P d mSP_includes 16 [v0, v1, v2] (.ref a :: st) h Φ := x_K1 k (fun _ _ j => xj_get dSP_includes_16 okcSP rfl (j := 1) (by decide) xm_372 ha hv j)
theorem dSP_includes_19 : decode cSP_includes 19 = .ok (.if_icmp .le 5, 3) := by decide +kernel
theorem eSP_includes_19 {v0 v1 v2 : Option Value} {x y : Int32} (kt : x ≤ y → x_K P d mSP_includes 24 [v0, v1, v2] st h Φ) (kf : ¬ x ≤ y → x_K P d mSP_includes 22 [v0, v1, v2] st h Φ) : x_K P d mSP_includes 19 [v0, v1, v2] (.int y :: .int x :: st) h Φ := x_K2 (Classical.em (x ≤ y)) kt kf (fun a _ _ j => xj_icmp_le dSP_includes_19 (tgt := 24) (by decide) (fun _ => j) (fun b => absurd a b)) (fun a _ _ j => xj_icmp_le dSP_includes_19 (tgt := 24) (by decide) (fun b => absurd b a) (fun _ => j))
theorem dSP_includes_22 : decode cSP_includes 22 = .ok (.iconst 0, 1) := by decide +kernel
theorem eSP_includes_22 {v0 v1 v2 : Option Value} (k : x_K P d mSP_includes 23 [v0, v1, v2] (.int 0 :: st) h Φ) : x_K P d mSP_includes 22 [v0, v1, v2] st h Φ := x_K1 k (fun _ _ j => xj_iconst dSP_includes_22 (v := 0) (by decide) j)
theorem dSP_includes_23 : decode cSP_includes 23 = .ok (.ireturn, 1) := by decide +kernel
theorem eSP_includes_23 {v0 v1 v2 : Option Value} {x : Int32} (hn : narrow (.boolean) (.int x) = .int x) (hΦ : Φ (.returned (some (.int x))) h) : x_K P d mSP_includes 23 [v0, v1, v2] [.int x] h Φ := x_Kret hΦ (xj_zret dSP_includes_23 rfl hn)
theorem dSP_includes_24 : decode cSP_includes 24 = .ok (.iconst 0, 1) := by decide +kernel
theorem eSP_includes_24 {v0 v1 v2 : Option Value} (k : x_K P d mSP_includes 25 [v0, v1, v2] (.int 0 :: st) h Φ) : x_K P d mSP_includes 24 [v0, v1, v2] st h Φ := x_K1 k (fun _ _ j => xj_iconst dSP_includes_24 (v := 0) (by decide) j)
theorem dSP_includes_25 : decode cSP_includes 25 = .ok (.istore_n 2, 1) := by decide +kernel
theorem eSP_includes_25 {v0 v1 v2 : Option Value} {x : Int32} (k : x_K P d mSP_includes 26 [v0, v1, some (.int x)] st h Φ) : x_K P d mSP_includes 25 [v0, v1, v2] (.int x :: st) h Φ := x_K1 k (fun _ _ j => xj_istore_n dSP_includes_25 rfl rfl j)
theorem dSP_includes_26 : decode cSP_includes 26 = .ok (.iload_n 2, 1) := by decide +kernel
theorem eSP_includes_26 {v0 v1 : Option Value} {x : Int32} (k : x_K P d mSP_includes 27 [v0, v1, some (.int x)] (.int x :: st) h Φ) : x_K P d mSP_includes 26 [v0, v1, some (.int x)] st h Φ := x_K1 k (fun _ _ j => xj_iload_n dSP_includes_26 rfl rfl j)
theorem dSP_includes_27 : decode cSP_includes 27 = .ok (.aload_n 0, 1) := by decide +kernel
theorem eSP_includes_27 {v1 v2 : Option Value} {u : Value} (hu : u.isRef = true) (k : x_K P d mSP_includes 28 [some u, v1, v2] (u :: st) h Φ) : x_K P d mSP_includes 27 [some u, v1, v2] st h Φ := x_K1 k (fun _ _ j => xj_aload_n dSP_includes_27 rfl rfl hu j)
theorem dSP_includes_28 : decode cSP_includes 28 = .ok (.getfield 31, 3) := by decide +kernel
theorem eSP_includes_28 {v0 v1 v2 : Option Value} {a : Nat} {fs : List Value} {u : Value} (ha : h.1 a = some (.inr (7, fs))) (hv : fs[3]? = some u) (k : x_K P d mSP_includes 31 [v0, v1, v2] (u :: st) h Φ) : x_K P d mSP_includes 28 [v0, v1, v2] (.ref a :: st) h Φ := x_K1 k (fun _ _ j => xj_get dSP_includes_28 okcSP rfl (j := 3) (by decide) xm_374 ha hv j)
theorem dSP_includes_31 : decode cSP_includes 31 = .ok (.if_icmp .ge 24, 3) := by decide +kernel
theorem eSP_includes_31 {v0 v1 v2 : Option Value} {x y : Int32} (kt : y ≤ x → x_K P d mSP_includes 55 [v0, v1, v2] st h Φ) (kf : ¬ y ≤ x → x_K P d mSP_includes 34 [v0, v1, v2] st h Φ) : x_K P d mSP_includes 31 [v0, v1, v2] (.int y :: .int x :: st) h Φ := x_K2 (Classical.em (y ≤ x)) kt kf (fun a _ _ j => xj_icmp_ge dSP_includes_31 (tgt := 55) (by decide) (fun _ => j) (fun b => absurd a b)) (fun a _ _ j => xj_icmp_ge dSP_includes_31 (tgt := 55) (by decide) (fun b => absurd b a) (fun _ => j))
theorem dSP_includes_34 : decode cSP_includes 34 = .ok (.aload_n 1, 1) := by decide +kernel
theorem eSP_includes_34 {v0 v2 : Option Value} {u : Value} (hu : u.isRef = true) (k : x_K P d mSP_includes 35 [v0, some u, v2] (u :: st) h Φ) : x_K P d mSP_includes 34 [v0, some u, v2] st h Φ := x_K1 k (fun _ _ j => xj_aload_n dSP_includes_34 rfl rfl hu j)
theorem dSP_includes_35 : decode cSP_includes 35 = .ok (.aload_n 0, 1) := by decide +kernel
theorem eSP_includes_35 {v1 v2 : Option Value} {u : Value} (hu : u.isRef = true) (k : x_K P d mSP_includes 36 [some u, v1, v2] (u :: st) h Φ) : x_K P d mSP_includes 35 [some u, v1, v2] st h Φ := x_K1 k (fun _ _ j => xj_aload_n dSP_includes_35 rfl rfl hu j)
theorem dSP_includes_36 : decode cSP_includes 36 = .ok (.getfield 9, 3) := by decide +kernel
theorem eSP_includes_36 {v0 v1 v2 : Option Value} {a : Nat} {fs : List Value} {u : Value} (ha : h.1 a = some (.inr (7, fs))) (hv : fs[2]? = some u) (k : x_K P d mSP_includes 39 [v0, v1, v2] (u :: st) h Φ) : x_K P d mSP_includes 36 [v0, v1, v2] (.ref a :: st) h Φ := x_K1 k (fun _ _ j => xj_get dSP_includes_36 okcSP rfl (j := 2) (by decide) xm_373 ha hv j)
theorem dSP_includes_39 : decode cSP_includes 39 = .ok (.iload_n 2, 1) := by decide +kernel
theorem eSP_includes_39 {v0 v1 : Option Value} {x : Int32} (k : x_K P d mSP_includes 40 [v0, v1, some (.int x)] (.int x :: st) h Φ) : x_K P d mSP_includes 39 [v0, v1, some (.int x)] st h Φ := x_K1 k (fun _ _ j => xj_iload_n dSP_includes_39 rfl rfl j)
theorem dSP_includes_40 : decode cSP_includes 40 = .ok (.iaload, 1) := by decide +kernel
theorem eSP_includes_40 {v0 v1 v2 : Option Value} {a n : Nat} {f : Nat → Int32} {i : Int32} (ha : h.1 a = some (.inl (0, n, .inl f))) (hi : vp_in i n) (k : x_K P d mSP_includes 41 [v0, v1, v2] (.int (f i.toNatClampNeg) :: st) h Φ) : x_K P d mSP_includes 40 [v0, v1, v2] (.int i :: .ref a :: st) h Φ := x_K1 k (fun _ _ j => xj_iald dSP_includes_40 ha hi j)
theorem dSP_includes_41 : decode cSP_includes 41 = .ok (.invokevirtual 34, 3) := by decide +kernel
set_option maxRecDepth 100000 in
theorem eSP_includes_41 {v0 v1 v2 : Option Value} {x1 : Int32} {a : Nat} {fs : List Value} {Ψ : Outcome → x_H → Prop} (ha : h.1 a = some (.inr (7, fs))) (hst : (st.map fun u => u.category).sum ≤ 8) (kc : x_K P d mSP_has 0 [some (.ref a), some (.int x1), none] [] h Ψ) (k : ∀ oc h1, Ψ oc h1 → ∃ v, oc = .returned v ∧ x_K P (d + 1) mSP_includes 44 [v0, v1, v2] (v.toList ++ st) h1 Φ) : x_K P (d + 1) mSP_includes 41 [v0, v1, v2] (.int x1 :: .ref a :: st) h Φ := x_Kc kc k (fun _ _ _ _ j1 j2 => xj_callV (M2 := mSP_has) (As := [.int x1]) dSP_includes_41 xm_442 xm_257 xm_258 ha rfl rfl ok_SP_has rfl (by simp only [List.forall_mem_cons]; exact ⟨rfl, rfl, fun _ h => absurd h List.not_mem_nil⟩) (Nat.le_of_ble_eq_true rfl) hst j1 j2)
theorem dSP_includes_44 : decode cSP_includes 44 = .ok (.ifCond .eq 5, 3) := by decide +kernel
theorem eSP_includes_44 {v0 v1 v2 : Option Value} {x : Int32} (kt : x = 0 → x_K P d mSP_includes 49 [v0, v1, v2] st h Φ) (kf : ¬ x = 0 → x_K P d mSP_includes 47 [v0, v1, v2] st h Φ) : x_K P d mSP_includes 44 [v0, v1, v2] (.int x :: st) h Φ := x_K2 (Classical.em (x = 0)) kt kf (fun a _ _ j => xj_if_eq dSP_includes_44 (tgt := 49) (by decide) (fun _ => j) (fun b => absurd a b)) (fun a _ _ j => xj_if_eq dSP_includes_44 (tgt := 49) (by decide) (fun b => absurd b a) (fun _ => j))
theorem dSP_includes_47 : decode cSP_includes 47 = .ok (.iconst 0, 1) := by decide +kernel
theorem eSP_includes_47 {v0 v1 v2 : Option Value} (k : x_K P d mSP_includes 48 [v0, v1, v2] (.int 0 :: st) h Φ) : x_K P d mSP_includes 47 [v0, v1, v2] st h Φ := x_K1 k (fun _ _ j => xj_iconst dSP_includes_47 (v := 0) (by decide) j)
theorem dSP_includes_48 : decode cSP_includes 48 = .ok (.ireturn, 1) := by decide +kernel
theorem eSP_includes_48 {v0 v1 v2 : Option Value} {x : Int32} (hn : narrow (.boolean) (.int x) = .int x) (hΦ : Φ (.returned (some (.int x))) h) : x_K P d mSP_includes 48 [v0, v1, v2] [.int x] h Φ := x_Kret hΦ (xj_zret dSP_includes_48 rfl hn)
theorem dSP_includes_49 : decode cSP_includes 49 = .ok (.iinc 2 1, 3) := by decide +kernel
theorem eSP_includes_49 {v0 v1 : Option Value} {x : Int32} (k : x_K P d mSP_includes 52 [v0, v1, some (.int (x + 1))] st h Φ) : x_K P d mSP_includes 49 [v0, v1, some (.int x)] st h Φ := x_K1 k (fun _ _ j => xj_iinc dSP_includes_49 rfl (v := x + 1) (by rfl) j)
theorem dSP_includes_52 : decode cSP_includes 52 = .ok (.goto (-26), 3) := by decide +kernel
theorem eSP_includes_52 {v0 v1 v2 : Option Value} (k : x_K P d mSP_includes 26 [v0, v1, v2] st h Φ) : x_K P d mSP_includes 52 [v0, v1, v2] st h Φ := x_K1 k (fun _ _ j => xj_goto dSP_includes_52 (tgt := 26) (by decide) j)
theorem dSP_includes_55 : decode cSP_includes 55 = .ok (.iconst 1, 1) := by decide +kernel
theorem eSP_includes_55 {v0 v1 v2 : Option Value} (k : x_K P d mSP_includes 56 [v0, v1, v2] (.int 1 :: st) h Φ) : x_K P d mSP_includes 55 [v0, v1, v2] st h Φ := x_K1 k (fun _ _ j => xj_iconst dSP_includes_55 (v := 1) (by decide) j)
theorem dSP_includes_56 : decode cSP_includes 56 = .ok (.ireturn, 1) := by decide +kernel
theorem eSP_includes_56 {v0 v1 v2 : Option Value} {x : Int32} (hn : narrow (.boolean) (.int x) = .int x) (hΦ : Φ (.returned (some (.int x))) h) : x_K P d mSP_includes 56 [v0, v1, v2] [.int x] h Φ := x_Kret hΦ (xj_zret dSP_includes_56 rfl hn)
end
