section
variable {P : x_P} {d : Nat} {st : List Value} {h : x_H} {Φ : Outcome → x_H → Prop}
theorem dRO_init_0 : decode cRO_init 0 = .ok (.aload_n 0, 1) := by decide +kernel
theorem eRO_init_0 {u : Value} (hu : u.isRef = true) (k : x_K P d mRO_init 1 [some u] (u :: st) h Φ) : x_K P d mRO_init 0 [some u] st h Φ := x_K1 k (fun _ _ j => xj_aload_n dRO_init_0 rfl rfl hu j)
theorem dRO_init_1 : decode cRO_init 1 = .ok (.invokespecial 3, 3) := by decide +kernel
set_option maxRecDepth 100000 in
theorem eRO_init_1 {v0 : Option Value} {a : Nat} (hst : (st.map fun u => u.category).sum ≤ 8) (k : x_K P (d + 1) mRO_init 4 [v0] st h Φ) : x_K P (d + 1) mRO_init 1 [v0] (.ref a :: st) h Φ := x_K1 k (fun _ _ j => xj_objInit dRO_init_1 xm_86 xm_32 xm_33 hst (Nat.le_add_left 1 _) j)
theorem dRO_init_4 : decode cRO_init 4 = .ok (.aload_n 0, 1) := by decide +kernel
theorem eRO_init_4 {u : Value} (hu : u.isRef = true) (k : x_K P d mRO_init 5 [some u] (u :: st) h Φ) : x_K P d mRO_init 4 [some u] st h Φ := x_K1 k (fun _ _ j => xj_aload_n dRO_init_4 rfl rfl hu j)
theorem dRO_init_5 : decode cRO_init 5 = .ok (.bipush 16, 2) := by decide +kernel
theorem eRO_init_5 {v0 : Option Value} (k : x_K P d mRO_init 7 [v0] (.int 16 :: st) h Φ) : x_K P d mRO_init 5 [v0] st h Φ := x_K1 k (fun _ _ j => xj_bipush dRO_init_5 (v := 16) (by decide) j)
theorem dRO_init_7 : decode cRO_init 7 = .ok (.newarray .int, 2) := by decide +kernel
theorem eRO_init_7 {v0 : Option Value} {x : Int32} {n : Nat} (hx : ¬ x < 0) (hn : x.toNatClampNeg = n) (hb : n * componentBytes .int ≤ 536870912) (k : x_K P d mRO_init 9 [v0] (.ref h.2.1 :: st) (x_new h (.inl (0, n, .inl (fun _ => 0))) n) Φ) : x_K P d mRO_init 7 [v0] (.int x :: st) h Φ := x_K1 k (fun _ _ j => xj_newa (t := 0) (a0 := (n, .inl (fun _ => 0))) dRO_init_7 xm_78 rfl rfl (fun _ _ h9 => h9) (fun _ => rfl) hx hn hb j)
theorem dRO_init_9 : decode cRO_init 9 = .ok (.putfield 9, 3) := by decide +kernel
theorem eRO_init_9 {v0 : Option Value} {a : Nat} {fs : List Value} {z : Nat} (ha : h.1 a = some (.inr (6, fs))) (hl : 0 < fs.length) (k : x_K P d mRO_init 12 [v0] st (x_put h a (.inr (6, fs.set 0 (.ref z)))) Φ) : x_K P d mRO_init 9 [v0] (.ref z :: .ref a :: st) h Φ := x_K1 k (fun _ _ j => xj_putF dRO_init_9 okcRO rfl (j := 0) (by decide) xm_87 rfl rfl rfl ha hl (ty := .array (.int)) (by decide +kernel) rfl rfl j)
theorem dRO_init_12 : decode cRO_init 12 = .ok (.return_, 1) := by decide +kernel
theorem eRO_init_12 {v0 : Option Value} (hΦ : Φ (.returned none) h) : x_K P d mRO_init 12 [v0] [] h Φ := x_Kret hΦ (xj_vret dRO_init_12 rfl)
theorem dRO_size_0 : decode cRO_size 0 = .ok (.aload_n 0, 1) := by decide +kernel
theorem eRO_size_0 {u : Value} (hu : u.isRef = true) (k : x_K P d mRO_size 1 [some u] (u :: st) h Φ) : x_K P d mRO_size 0 [some u] st h Φ := x_K1 k (fun _ _ j => xj_aload_n dRO_size_0 rfl rfl hu j)
theorem dRO_size_1 : decode cRO_size 1 = .ok (.getfield 15, 3) := by decide +kernel
theorem eRO_size_1 {v0 : Option Value} {a : Nat} {fs : List Value} {u : Value} (ha : h.1 a = some (.inr (6, fs))) (hv : fs[1]? = some u) (k : x_K P d mRO_size 4 [v0] (u :: st) h Φ) : x_K P d mRO_size 1 [v0] (.ref a :: st) h Φ := x_K1 k (fun _ _ j => xj_get dRO_size_1 okcRO rfl (j := 1) (by decide) xm_88 ha hv j)
theorem dRO_size_4 : decode cRO_size 4 = .ok (.ireturn, 1) := by decide +kernel
theorem eRO_size_4 {v0 : Option Value} {x : Int32} (hΦ : Φ (.returned (some (.int x))) h) : x_K P d mRO_size 4 [v0] [.int x] h Φ := x_Kret hΦ (xj_iret dRO_size_4 rfl)
theorem dRO_get_0 : decode cRO_get 0 = .ok (.iload_n 1, 1) := by decide +kernel
theorem eRO_get_0 {v0 : Option Value} {x : Int32} (k : x_K P d mRO_get 1 [v0, some (.int x)] (.int x :: st) h Φ) : x_K P d mRO_get 0 [v0, some (.int x)] st h Φ := x_K1 k (fun _ _ j => xj_iload_n dRO_get_0 rfl rfl j)
theorem dRO_get_1 : decode cRO_get 1 = .ok (.ifCond .lt 11, 3) := by decide +kernel
theorem eRO_get_1 {v0 v1 : Option Value} {x : Int32} (kt : x < 0 → x_K P d mRO_get 12 [v0, v1] st h Φ) (kf : ¬ x < 0 → x_K P d mRO_get 4 [v0, v1] st h Φ) : x_K P d mRO_get 1 [v0, v1] (.int x :: st) h Φ := x_K2 (Classical.em (x < 0)) kt kf (fun a _ _ j => xj_if_lt dRO_get_1 (tgt := 12) (by decide) (fun _ => j) (fun b => absurd a b)) (fun a _ _ j => xj_if_lt dRO_get_1 (tgt := 12) (by decide) (fun b => absurd b a) (fun _ => j))
theorem dRO_get_4 : decode cRO_get 4 = .ok (.iload_n 1, 1) := by decide +kernel
theorem eRO_get_4 {v0 : Option Value} {x : Int32} (k : x_K P d mRO_get 5 [v0, some (.int x)] (.int x :: st) h Φ) : x_K P d mRO_get 4 [v0, some (.int x)] st h Φ := x_K1 k (fun _ _ j => xj_iload_n dRO_get_4 rfl rfl j)
theorem dRO_get_5 : decode cRO_get 5 = .ok (.aload_n 0, 1) := by decide +kernel
theorem eRO_get_5 {v1 : Option Value} {u : Value} (hu : u.isRef = true) (k : x_K P d mRO_get 6 [some u, v1] (u :: st) h Φ) : x_K P d mRO_get 5 [some u, v1] st h Φ := x_K1 k (fun _ _ j => xj_aload_n dRO_get_5 rfl rfl hu j)
theorem dRO_get_6 : decode cRO_get 6 = .ok (.getfield 15, 3) := by decide +kernel
theorem eRO_get_6 {v0 v1 : Option Value} {a : Nat} {fs : List Value} {u : Value} (ha : h.1 a = some (.inr (6, fs))) (hv : fs[1]? = some u) (k : x_K P d mRO_get 9 [v0, v1] (u :: st) h Φ) : x_K P d mRO_get 6 [v0, v1] (.ref a :: st) h Φ := x_K1 k (fun _ _ j => xj_get dRO_get_6 okcRO rfl (j := 1) (by decide) xm_88 ha hv j)
theorem dRO_get_9 : decode cRO_get 9 = .ok (.if_icmp .lt 7, 3) := by decide +kernel
theorem eRO_get_9 {v0 v1 : Option Value} {x y : Int32} (kt : x < y → x_K P d mRO_get 16 [v0, v1] st h Φ) (kf : ¬ x < y → x_K P d mRO_get 12 [v0, v1] st h Φ) : x_K P d mRO_get 9 [v0, v1] (.int y :: .int x :: st) h Φ := x_K2 (Classical.em (x < y)) kt kf (fun a _ _ j => xj_icmp_lt dRO_get_9 (tgt := 16) (by decide) (fun _ => j) (fun b => absurd a b)) (fun a _ _ j => xj_icmp_lt dRO_get_9 (tgt := 16) (by decide) (fun b => absurd b a) (fun _ => j))
theorem dRO_get_12 : decode cRO_get 12 = .ok (.iconst (-1), 1) := by decide +kernel
theorem eRO_get_12 {v0 v1 : Option Value} (k : x_K P d mRO_get 13 [v0, v1] (.int (-1) :: st) h Φ) : x_K P d mRO_get 12 [v0, v1] st h Φ := x_K1 k (fun _ _ j => xj_iconst dRO_get_12 (v := (-1)) (by decide) j)
theorem dRO_get_13 : decode cRO_get 13 = .ok (.goto 9, 3) := by decide +kernel
theorem eRO_get_13 {v0 v1 : Option Value} (k : x_K P d mRO_get 22 [v0, v1] st h Φ) : x_K P d mRO_get 13 [v0, v1] st h Φ := x_K1 k (fun _ _ j => xj_goto dRO_get_13 (tgt := 22) (by decide) j)
theorem dRO_get_16 : decode cRO_get 16 = .ok (.aload_n 0, 1) := by decide +kernel
theorem eRO_get_16 {v1 : Option Value} {u : Value} (hu : u.isRef = true) (k : x_K P d mRO_get 17 [some u, v1] (u :: st) h Φ) : x_K P d mRO_get 16 [some u, v1] st h Φ := x_K1 k (fun _ _ j => xj_aload_n dRO_get_16 rfl rfl hu j)
theorem dRO_get_17 : decode cRO_get 17 = .ok (.getfield 9, 3) := by decide +kernel
theorem eRO_get_17 {v0 v1 : Option Value} {a : Nat} {fs : List Value} {u : Value} (ha : h.1 a = some (.inr (6, fs))) (hv : fs[0]? = some u) (k : x_K P d mRO_get 20 [v0, v1] (u :: st) h Φ) : x_K P d mRO_get 17 [v0, v1] (.ref a :: st) h Φ := x_K1 k (fun _ _ j => xj_get dRO_get_17 okcRO rfl (j := 0) (by decide) xm_87 ha hv j)
theorem dRO_get_20 : decode cRO_get 20 = .ok (.iload_n 1, 1) := by decide +kernel
theorem eRO_get_20 {v0 : Option Value} {x : Int32} (k : x_K P d mRO_get 21 [v0, some (.int x)] (.int x :: st) h Φ) : x_K P d mRO_get 20 [v0, some (.int x)] st h Φ := x_K1 k (fun _ _ j => xj_iload_n dRO_get_20 rfl rfl j)
theorem dRO_get_21 : decode cRO_get 21 = .ok (.iaload, 1) := by decide +kernel
theorem eRO_get_21 {v0 v1 : Option Value} {a n : Nat} {f : Nat → Int32} {i : Int32} (ha : h.1 a = some (.inl (0, n, .inl f))) (hi : vp_in i n) (k : x_K P d mRO_get 22 [v0, v1] (.int (f i.toNatClampNeg) :: st) h Φ) : x_K P d mRO_get 21 [v0, v1] (.int i :: .ref a :: st) h Φ := x_K1 k (fun _ _ j => xj_iald dRO_get_21 ha hi j)
theorem dRO_get_22 : decode cRO_get 22 = .ok (.ireturn, 1) := by decide +kernel
theorem eRO_get_22 {v0 v1 : Option Value} {x : Int32} (hΦ : Φ (.returned (some (.int x))) h) : x_K P d mRO_get 22 [v0, v1] [.int x] h Φ := x_Kret hΦ (xj_iret dRO_get_22 rfl)
theorem dRO_add_0 : decode cRO_add 0 = .ok (.iload_n 1, 1) := by decide +kernel
theorem eRO_add_0 {v0 : Option Value} {x : Int32} (k : x_K P d mRO_add 1 [v0, some (.int x)] (.int x :: st) h Φ) : x_K P d mRO_add 0 [v0, some (.int x)] st h Φ := x_K1 k (fun _ _ j => xj_iload_n dRO_add_0 rfl rfl j)
theorem dRO_add_1 : decode cRO_add 1 = .ok (.ifCond .lt 29, 3) := by decide +kernel
theorem eRO_add_1 {v0 v1 : Option Value} {x : Int32} (kt : x < 0 → x_K P d mRO_add 30 [v0, v1] st h Φ) (kf : ¬ x < 0 → x_K P d mRO_add 4 [v0, v1] st h Φ) : x_K P d mRO_add 1 [v0, v1] (.int x :: st) h Φ := x_K2 (Classical.em (x < 0)) kt kf (fun a _ _ j => xj_if_lt dRO_add_1 (tgt := 30) (by decide) (fun _ => j) (fun b => absurd a b)) (fun a _ _ j => xj_if_lt dRO_add_1 (tgt := 30) (by decide) (fun b => absurd b a) (fun _ => j))
theorem dRO_add_4 : decode cRO_add 4 = .ok (.iload_n 1, 1) := by decide +kernel
theorem eRO_add_4 {v0 : Option Value} {x : Int32} (k : x_K P d mRO_add 5 [v0, some (.int x)] (.int x :: st) h Φ) : x_K P d mRO_add 4 [v0, some (.int x)] st h Φ := x_K1 k (fun _ _ j => xj_iload_n dRO_add_4 rfl rfl j)
theorem dRO_add_5 : decode cRO_add 5 = .ok (.bipush 16, 2) := by decide +kernel
theorem eRO_add_5 {v0 v1 : Option Value} (k : x_K P d mRO_add 7 [v0, v1] (.int 16 :: st) h Φ) : x_K P d mRO_add 5 [v0, v1] st h Φ := x_K1 k (fun _ _ j => xj_bipush dRO_add_5 (v := 16) (by decide) j)
theorem dRO_add_7 : decode cRO_add 7 = .ok (.if_icmp .ge 23, 3) := by decide +kernel
theorem eRO_add_7 {v0 v1 : Option Value} {x y : Int32} (kt : y ≤ x → x_K P d mRO_add 30 [v0, v1] st h Φ) (kf : ¬ y ≤ x → x_K P d mRO_add 10 [v0, v1] st h Φ) : x_K P d mRO_add 7 [v0, v1] (.int y :: .int x :: st) h Φ := x_K2 (Classical.em (y ≤ x)) kt kf (fun a _ _ j => xj_icmp_ge dRO_add_7 (tgt := 30) (by decide) (fun _ => j) (fun b => absurd a b)) (fun a _ _ j => xj_icmp_ge dRO_add_7 (tgt := 30) (by decide) (fun b => absurd b a) (fun _ => j))
theorem dRO_add_10 : decode cRO_add 10 = .ok (.aload_n 0, 1) := by decide +kernel
theorem eRO_add_10 {v1 : Option Value} {u : Value} (hu : u.isRef = true) (k : x_K P d mRO_add 11 [some u, v1] (u :: st) h Φ) : x_K P d mRO_add 10 [some u, v1] st h Φ := x_K1 k (fun _ _ j => xj_aload_n dRO_add_10 rfl rfl hu j)
theorem dRO_add_11 : decode cRO_add 11 = .ok (.getfield 15, 3) := by decide +kernel
theorem eRO_add_11 {v0 v1 : Option Value} {a : Nat} {fs : List Value} {u : Value} (ha : h.1 a = some (.inr (6, fs))) (hv : fs[1]? = some u) (k : x_K P d mRO_add 14 [v0, v1] (u :: st) h Φ) : x_K P d mRO_add 11 [v0, v1] (.ref a :: st) h Φ := x_K1 k (fun _ _ j => xj_get dRO_add_11 okcRO rfl (j := 1) (by decide) xm_88 ha hv j)
theorem dRO_add_14 : decode cRO_add 14 = .ok (.aload_n 0, 1) := by decide +kernel
theorem eRO_add_14 {v1 : Option Value} {u : Value} (hu : u.isRef = true) (k : x_K P d mRO_add 15 [some u, v1] (u :: st) h Φ) : x_K P d mRO_add 14 [some u, v1] st h Φ := x_K1 k (fun _ _ j => xj_aload_n dRO_add_14 rfl rfl hu j)
theorem dRO_add_15 : decode cRO_add 15 = .ok (.getfield 9, 3) := by decide +kernel
theorem eRO_add_15 {v0 v1 : Option Value} {a : Nat} {fs : List Value} {u : Value} (ha : h.1 a = some (.inr (6, fs))) (hv : fs[0]? = some u) (k : x_K P d mRO_add 18 [v0, v1] (u :: st) h Φ) : x_K P d mRO_add 15 [v0, v1] (.ref a :: st) h Φ := x_K1 k (fun _ _ j => xj_get dRO_add_15 okcRO rfl (j := 0) (by decide) xm_87 ha hv j)
theorem dRO_add_18 : decode cRO_add 18 = .ok (.arraylength, 1) := by decide +kernel
theorem eRO_add_18 {v0 v1 : Option Value} {a t : Nat} {x : vp_A} {ty : FieldType} (ha : h.1 a = some (.inl (t, x))) (ht : (x_tys P.2.2.1)[t]? = some (P.2.2.1 t, ty)) (k : x_K P d mRO_add 19 [v0, v1] (.int (Int32.ofNat x.1) :: st) h Φ) : x_K P d mRO_add 18 [v0, v1] (.ref a :: st) h Φ := x_K1 k (fun _ _ j => xj_alen dRO_add_18 ha ht rfl j)
theorem dRO_add_19 : decode cRO_add 19 = .ok (.if_icmp .ge 11, 3) := by decide +kernel
theorem eRO_add_19 {v0 v1 : Option Value} {x y : Int32} (kt : y ≤ x → x_K P d mRO_add 30 [v0, v1] st h Φ) (kf : ¬ y ≤ x → x_K P d mRO_add 22 [v0, v1] st h Φ) : x_K P d mRO_add 19 [v0, v1] (.int y :: .int x :: st) h Φ := x_K2 (Classical.em (y ≤ x)) kt kf (fun a _ _ j => xj_icmp_ge dRO_add_19 (tgt := 30) (by decide) (fun _ => j) (fun b => absurd a b)) (fun a _ _ j => xj_icmp_ge dRO_add_19 (tgt := 30) (by decide) (fun b => absurd b a) (fun _ => j))
theorem dRO_add_22 : decode cRO_add 22 = .ok (.aload_n 0, 1) := by decide +kernel
theorem eRO_add_22 {v1 : Option Value} {u : Value} (hu : u.isRef = true) (k : x_K P d mRO_add 23 [some u, v1] (u :: st) h Φ) : x_K P d mRO_add 22 [some u, v1] st h Φ := x_K1 k (fun _ _ j => xj_aload_n dRO_add_22 rfl rfl hu j)
theorem dRO_add_23 : decode cRO_add 23 = .ok (.iload_n 1, 1) := by decide +kernel
theorem eRO_add_23 {v0 : Option Value} {x : Int32} (k : x_K P d mRO_add 24 [v0, some (.int x)] (.int x :: st) h Φ) : x_K P d mRO_add 23 [v0, some (.int x)] st h Φ := x_K1 k (fun _ _ j => xj_iload_n dRO_add_23 rfl rfl j)
theorem dRO_add_24 : decode cRO_add 24 = .ok (.invokevirtual 22, 3) := by decide +kernel
set_option maxRecDepth 100000 in
theorem eRO_add_24 {v0 v1 : Option Value} {x1 : Int32} {a : Nat} {fs : List Value} {Ψ : Outcome → x_H → Prop} (ha : h.1 a = some (.inr (6, fs))) (hst : (st.map fun u => u.category).sum ≤ 8) (kc : x_K P d mRO_has 0 [some (.ref a), some (.int x1)] [] h Ψ) (k : ∀ oc h1, Ψ oc h1 → ∃ v, oc = .returned v ∧ x_K P (d + 1) mRO_add 27 [v0, v1] (v.toList ++ st) h1 Φ) : x_K P (d + 1) mRO_add 24 [v0, v1] (.int x1 :: .ref a :: st) h Φ := x_Kc kc k (fun _ _ _ _ j1 j2 => xj_callV (M2 := mRO_has) (As := [.int x1]) dRO_add_24 xm_288 xm_289 xm_290 ha rfl rfl ok_RO_has rfl (by simp only [List.forall_mem_cons]; exact ⟨rfl, rfl, fun _ h => absurd h List.not_mem_nil⟩) (Nat.le_of_ble_eq_true rfl) hst j1 j2)
theorem dRO_add_27 : decode cRO_add 27 = .ok (.ifCond .eq 4, 3) := by decide +kernel
theorem eRO_add_27 {v0 v1 : Option Value} {x : Int32} (kt : x = 0 → x_K P d mRO_add 31 [v0, v1] st h Φ) (kf : ¬ x = 0 → x_K P d mRO_add 30 [v0, v1] st h Φ) : x_K P d mRO_add 27 [v0, v1] (.int x :: st) h Φ := x_K2 (Classical.em (x = 0)) kt kf (fun a _ _ j => xj_if_eq dRO_add_27 (tgt := 31) (by decide) (fun _ => j) (fun b => absurd a b)) (fun a _ _ j => xj_if_eq dRO_add_27 (tgt := 31) (by decide) (fun b => absurd b a) (fun _ => j))
theorem dRO_add_30 : decode cRO_add 30 = .ok (.return_, 1) := by decide +kernel
theorem eRO_add_30 {v0 v1 : Option Value} (hΦ : Φ (.returned none) h) : x_K P d mRO_add 30 [v0, v1] [] h Φ := x_Kret hΦ (xj_vret dRO_add_30 rfl)
theorem dRO_add_31 : decode cRO_add 31 = .ok (.aload_n 0, 1) := by decide +kernel
theorem eRO_add_31 {v1 : Option Value} {u : Value} (hu : u.isRef = true) (k : x_K P d mRO_add 32 [some u, v1] (u :: st) h Φ) : x_K P d mRO_add 31 [some u, v1] st h Φ := x_K1 k (fun _ _ j => xj_aload_n dRO_add_31 rfl rfl hu j)
theorem dRO_add_32 : decode cRO_add 32 = .ok (.getfield 9, 3) := by decide +kernel
theorem eRO_add_32 {v0 v1 : Option Value} {a : Nat} {fs : List Value} {u : Value} (ha : h.1 a = some (.inr (6, fs))) (hv : fs[0]? = some u) (k : x_K P d mRO_add 35 [v0, v1] (u :: st) h Φ) : x_K P d mRO_add 32 [v0, v1] (.ref a :: st) h Φ := x_K1 k (fun _ _ j => xj_get dRO_add_32 okcRO rfl (j := 0) (by decide) xm_87 ha hv j)
theorem dRO_add_35 : decode cRO_add 35 = .ok (.aload_n 0, 1) := by decide +kernel
theorem eRO_add_35 {v1 : Option Value} {u : Value} (hu : u.isRef = true) (k : x_K P d mRO_add 36 [some u, v1] (u :: st) h Φ) : x_K P d mRO_add 35 [some u, v1] st h Φ := x_K1 k (fun _ _ j => xj_aload_n dRO_add_35 rfl rfl hu j)
theorem dRO_add_36 : decode cRO_add 36 = .ok (.getfield 15, 3) := by decide +kernel
theorem eRO_add_36 {v0 v1 : Option Value} {a : Nat} {fs : List Value} {u : Value} (ha : h.1 a = some (.inr (6, fs))) (hv : fs[1]? = some u) (k : x_K P d mRO_add 39 [v0, v1] (u :: st) h Φ) : x_K P d mRO_add 36 [v0, v1] (.ref a :: st) h Φ := x_K1 k (fun _ _ j => xj_get dRO_add_36 okcRO rfl (j := 1) (by decide) xm_88 ha hv j)
theorem dRO_add_39 : decode cRO_add 39 = .ok (.iload_n 1, 1) := by decide +kernel
theorem eRO_add_39 {v0 : Option Value} {x : Int32} (k : x_K P d mRO_add 40 [v0, some (.int x)] (.int x :: st) h Φ) : x_K P d mRO_add 39 [v0, some (.int x)] st h Φ := x_K1 k (fun _ _ j => xj_iload_n dRO_add_39 rfl rfl j)
theorem dRO_add_40 : decode cRO_add 40 = .ok (.iastore, 1) := by decide +kernel
theorem eRO_add_40 {v0 v1 : Option Value} {a n : Nat} {f : Nat → Int32} {i : Int32} {x : Int32} (ha : h.1 a = some (.inl (0, n, .inl f))) (hi : vp_in i n) (k : x_K P d mRO_add 41 [v0, v1] st (x_put h a (.inl (0, n, .inl (upd f i.toNatClampNeg x)))) Φ) : x_K P d mRO_add 40 [v0, v1] (.int x :: .int i :: .ref a :: st) h Φ := x_K1 k (fun _ _ j => xj_iast dRO_add_40 ha hi j)
theorem dRO_add_41 : decode cRO_add 41 = .ok (.aload_n 0, 1) := by decide +kernel
theorem eRO_add_41 {v1 : Option Value} {u : Value} (hu : u.isRef = true) (k : x_K P d mRO_add 42 [some u, v1] (u :: st) h Φ) : x_K P d mRO_add 41 [some u, v1] st h Φ := x_K1 k (fun _ _ j => xj_aload_n dRO_add_41 rfl rfl hu j)
theorem dRO_add_42 : decode cRO_add 42 = .ok (.dup, 1) := by decide +kernel
theorem eRO_add_42 {v0 v1 : Option Value} {u : Value} (hu : u.category = 1) (k : x_K P d mRO_add 43 [v0, v1] (u :: u :: st) h Φ) : x_K P d mRO_add 42 [v0, v1] (u :: st) h Φ := x_K1 k (fun _ _ j => xj_dup dRO_add_42 hu j)
theorem dRO_add_43 : decode cRO_add 43 = .ok (.getfield 15, 3) := by decide +kernel
theorem eRO_add_43 {v0 v1 : Option Value} {a : Nat} {fs : List Value} {u : Value} (ha : h.1 a = some (.inr (6, fs))) (hv : fs[1]? = some u) (k : x_K P d mRO_add 46 [v0, v1] (u :: st) h Φ) : x_K P d mRO_add 43 [v0, v1] (.ref a :: st) h Φ := x_K1 k (fun _ _ j => xj_get dRO_add_43 okcRO rfl (j := 1) (by decide) xm_88 ha hv j)
theorem dRO_add_46 : decode cRO_add 46 = .ok (.iconst 1, 1) := by decide +kernel
theorem eRO_add_46 {v0 v1 : Option Value} (k : x_K P d mRO_add 47 [v0, v1] (.int 1 :: st) h Φ) : x_K P d mRO_add 46 [v0, v1] st h Φ := x_K1 k (fun _ _ j => xj_iconst dRO_add_46 (v := 1) (by decide) j)
theorem dRO_add_47 : decode cRO_add 47 = .ok (.iadd, 1) := by decide +kernel
theorem eRO_add_47 {v0 v1 : Option Value} {x y : Int32} (k : x_K P d mRO_add 48 [v0, v1] (.int (x + y) :: st) h Φ) : x_K P d mRO_add 47 [v0, v1] (.int y :: .int x :: st) h Φ := x_K1 k (fun _ _ j => xj_iadd dRO_add_47 j)
theorem dRO_add_48 : decode cRO_add 48 = .ok (.putfield 15, 3) := by decide +kernel
theorem eRO_add_48 {v0 v1 : Option Value} {a : Nat} {fs : List Value} {z : Int32} (ha : h.1 a = some (.inr (6, fs))) (hl : 1 < fs.length) (k : x_K P d mRO_add 51 [v0, v1] st (x_put h a (.inr (6, fs.set 1 (.int z)))) Φ) : x_K P d mRO_add 48 [v0, v1] (.int z :: .ref a :: st) h Φ := x_K1 k (fun _ _ j => xj_put dRO_add_48 okcRO rfl (j := 1) (by decide) xm_88 rfl ha hl (ty := .int) (by decide +kernel) rfl rfl j)
theorem dRO_add_51 : decode cRO_add 51 = .ok (.aload_n 0, 1) := by decide +kernel
theorem eRO_add_51 {v1 : Option Value} {u : Value} (hu : u.isRef = true) (k : x_K P d mRO_add 52 [some u, v1] (u :: st) h Φ) : x_K P d mRO_add 51 [some u, v1] st h Φ := x_K1 k (fun _ _ j => xj_aload_n dRO_add_51 rfl rfl hu j)
theorem dRO_add_52 : decode cRO_add 52 = .ok (.dup, 1) := by decide +kernel
theorem eRO_add_52 {v0 v1 : Option Value} {u : Value} (hu : u.category = 1) (k : x_K P d mRO_add 53 [v0, v1] (u :: u :: st) h Φ) : x_K P d mRO_add 52 [v0, v1] (u :: st) h Φ := x_K1 k (fun _ _ j => xj_dup dRO_add_52 hu j)
theorem dRO_add_53 : decode cRO_add 53 = .ok (.getfield 19, 3) := by decide +kernel
theorem eRO_add_53 {v0 v1 : Option Value} {a : Nat} {fs : List Value} {u : Value} (ha : h.1 a = some (.inr (6, fs))) (hv : fs[2]? = some u) (k : x_K P d mRO_add 56 [v0, v1] (u :: st) h Φ) : x_K P d mRO_add 53 [v0, v1] (.ref a :: st) h Φ := x_K1 k (fun _ _ j => xj_get dRO_add_53 okcRO rfl (j := 2) (by decide) xm_89 ha hv j)
theorem dRO_add_56 : decode cRO_add 56 = .ok (.iconst 1, 1) := by decide +kernel
theorem eRO_add_56 {v0 v1 : Option Value} (k : x_K P d mRO_add 57 [v0, v1] (.int 1 :: st) h Φ) : x_K P d mRO_add 56 [v0, v1] st h Φ := x_K1 k (fun _ _ j => xj_iconst dRO_add_56 (v := 1) (by decide) j)
theorem dRO_add_57 : decode cRO_add 57 = .ok (.iload_n 1, 1) := by decide +kernel
theorem eRO_add_57 {v0 : Option Value} {x : Int32} (k : x_K P d mRO_add 58 [v0, some (.int x)] (.int x :: st) h Φ) : x_K P d mRO_add 57 [v0, some (.int x)] st h Φ := x_K1 k (fun _ _ j => xj_iload_n dRO_add_57 rfl rfl j)
theorem dRO_add_58 : decode cRO_add 58 = .ok (.ishl, 1) := by decide +kernel
theorem eRO_add_58 {v0 v1 : Option Value} {x y : Int32} (k : x_K P d mRO_add 59 [v0, v1] (.int (x <<< (y &&& 31)) :: st) h Φ) : x_K P d mRO_add 58 [v0, v1] (.int y :: .int x :: st) h Φ := x_K1 k (fun _ _ j => xj_ishl dRO_add_58 j)
theorem dRO_add_59 : decode cRO_add 59 = .ok (.ior, 1) := by decide +kernel
theorem eRO_add_59 {v0 v1 : Option Value} {x y : Int32} (k : x_K P d mRO_add 60 [v0, v1] (.int (x ||| y) :: st) h Φ) : x_K P d mRO_add 59 [v0, v1] (.int y :: .int x :: st) h Φ := x_K1 k (fun _ _ j => xj_ior dRO_add_59 j)
theorem dRO_add_60 : decode cRO_add 60 = .ok (.putfield 19, 3) := by decide +kernel
theorem eRO_add_60 {v0 v1 : Option Value} {a : Nat} {fs : List Value} {z : Int32} (ha : h.1 a = some (.inr (6, fs))) (hl : 2 < fs.length) (k : x_K P d mRO_add 63 [v0, v1] st (x_put h a (.inr (6, fs.set 2 (.int z)))) Φ) : x_K P d mRO_add 60 [v0, v1] (.int z :: .ref a :: st) h Φ := x_K1 k (fun _ _ j => xj_put dRO_add_60 okcRO rfl (j := 2) (by decide) xm_89 rfl ha hl (ty := .int) (by decide +kernel) rfl rfl j)
theorem dRO_add_63 : decode cRO_add 63 = .ok (.return_, 1) := by decide +kernel
theorem eRO_add_63 {v0 v1 : Option Value} (hΦ : Φ (.returned none) h) : x_K P d mRO_add 63 [v0, v1] [] h Φ := x_Kret hΦ (xj_vret dRO_add_63 rfl)
theorem dRO_has_0 : decode cRO_has 0 = .ok (.iload_n 1, 1) := by decide +kernel
theorem eRO_has_0 {v0 : Option Value} {x : Int32} (k : x_K P d mRO_has 1 [v0, some (.int x)] (.int x :: st) h Φ) : x_K P d mRO_has 0 [v0, some (.int x)] st h Φ := x_K1 k (fun _ _ j => xj_iload_n dRO_has_0 rfl rfl j)
theorem dRO_has_1 : decode cRO_has 1 = .ok (.ifCond .lt 24, 3) := by decide +kernel
theorem eRO_has_1 {v0 v1 : Option Value} {x : Int32} (kt : x < 0 → x_K P d mRO_has 25 [v0, v1] st h Φ) (kf : ¬ x < 0 → x_K P d mRO_has 4 [v0, v1] st h Φ) : x_K P d mRO_has 1 [v0, v1] (.int x :: st) h Φ := x_K2 (Classical.em (x < 0)) kt kf (fun a _ _ j => xj_if_lt dRO_has_1 (tgt := 25) (by decide) (fun _ => j) (fun b => absurd a b)) (fun a _ _ j => xj_if_lt dRO_has_1 (tgt := 25) (by decide) (fun b => absurd b a) (fun _ => j))
theorem dRO_has_4 : decode cRO_has 4 = .ok (.iload_n 1, 1) := by decide +kernel
theorem eRO_has_4 {v0 : Option Value} {x : Int32} (k : x_K P d mRO_has 5 [v0, some (.int x)] (.int x :: st) h Φ) : x_K P d mRO_has 4 [v0, some (.int x)] st h Φ := x_K1 k (fun _ _ j => xj_iload_n dRO_has_4 rfl rfl j)
theorem dRO_has_5 : decode cRO_has 5 = .ok (.bipush 16, 2) := by decide +kernel
theorem eRO_has_5 {v0 v1 : Option Value} (k : x_K P d mRO_has 7 [v0, v1] (.int 16 :: st) h Φ) : x_K P d mRO_has 5 [v0, v1] st h Φ := x_K1 k (fun _ _ j => xj_bipush dRO_has_5 (v := 16) (by decide) j)
theorem dRO_has_7 : decode cRO_has 7 = .ok (.if_icmp .ge 18, 3) := by decide +kernel
theorem eRO_has_7 {v0 v1 : Option Value} {x y : Int32} (kt : y ≤ x → x_K P d mRO_has 25 [v0, v1] st h Φ) (kf : ¬ y ≤ x → x_K P d mRO_has 10 [v0, v1] st h Φ) : x_K P d mRO_has 7 [v0, v1] (.int y :: .int x :: st) h Φ := x_K2 (Classical.em (y ≤ x)) kt kf (fun a _ _ j => xj_icmp_ge dRO_has_7 (tgt := 25) (by decide) (fun _ => j) (fun b => absurd a b)) (fun a _ _ j => xj_icmp_ge dRO_has_7 (tgt := 25) (by decide) (fun b => absurd b a) (fun _ => j))
theorem dRO_has_10 : decode cRO_has 10 = .ok (.aload_n 0, 1) := by decide +kernel
theorem eRO_has_10 {v1 : Option Value} {u : Value} (hu : u.isRef = true) (k : x_K P d mRO_has 11 [some u, v1] (u :: st) h Φ) : x_K P d mRO_has 10 [some u, v1] st h Φ := x_K1 k (fun _ _ j => xj_aload_n dRO_has_10 rfl rfl hu j)
theorem dRO_has_11 : decode cRO_has 11 = .ok (.getfield 19, 3) := by decide +kernel
theorem eRO_has_11 {v0 v1 : Option Value} {a : Nat} {fs : List Value} {u : Value} (ha : h.1 a = some (.inr (6, fs))) (hv : fs[2]? = some u) (k : x_K P d mRO_has 14 [v0, v1] (u :: st) h Φ) : x_K P d mRO_has 11 [v0, v1] (.ref a :: st) h Φ := x_K1 k (fun _ _ j => xj_get dRO_has_11 okcRO rfl (j := 2) (by decide) xm_89 ha hv j)
theorem dRO_has_14 : decode cRO_has 14 = .ok (.iload_n 1, 1) := by decide +kernel
theorem eRO_has_14 {v0 : Option Value} {x : Int32} (k : x_K P d mRO_has 15 [v0, some (.int x)] (.int x :: st) h Φ) : x_K P d mRO_has 14 [v0, some (.int x)] st h Φ := x_K1 k (fun _ _ j => xj_iload_n dRO_has_14 rfl rfl j)
theorem dRO_has_15 : decode cRO_has 15 = .ok (.ishr, 1) := by decide +kernel
theorem eRO_has_15 {v0 v1 : Option Value} {x y : Int32} (k : x_K P d mRO_has 16 [v0, v1] (.int (x >>> (y &&& 31)) :: st) h Φ) : x_K P d mRO_has 15 [v0, v1] (.int y :: .int x :: st) h Φ := x_K1 k (fun _ _ j => xj_ishr dRO_has_15 j)
theorem dRO_has_16 : decode cRO_has 16 = .ok (.iconst 1, 1) := by decide +kernel
theorem eRO_has_16 {v0 v1 : Option Value} (k : x_K P d mRO_has 17 [v0, v1] (.int 1 :: st) h Φ) : x_K P d mRO_has 16 [v0, v1] st h Φ := x_K1 k (fun _ _ j => xj_iconst dRO_has_16 (v := 1) (by decide) j)
theorem dRO_has_17 : decode cRO_has 17 = .ok (.iand, 1) := by decide +kernel
theorem eRO_has_17 {v0 v1 : Option Value} {x y : Int32} (k : x_K P d mRO_has 18 [v0, v1] (.int (x &&& y) :: st) h Φ) : x_K P d mRO_has 17 [v0, v1] (.int y :: .int x :: st) h Φ := x_K1 k (fun _ _ j => xj_iand dRO_has_17 j)
theorem dRO_has_18 : decode cRO_has 18 = .ok (.ifCond .eq 7, 3) := by decide +kernel
theorem eRO_has_18 {v0 v1 : Option Value} {x : Int32} (kt : x = 0 → x_K P d mRO_has 25 [v0, v1] st h Φ) (kf : ¬ x = 0 → x_K P d mRO_has 21 [v0, v1] st h Φ) : x_K P d mRO_has 18 [v0, v1] (.int x :: st) h Φ := x_K2 (Classical.em (x = 0)) kt kf (fun a _ _ j => xj_if_eq dRO_has_18 (tgt := 25) (by decide) (fun _ => j) (fun b => absurd a b)) (fun a _ _ j => xj_if_eq dRO_has_18 (tgt := 25) (by decide) (fun b => absurd b a) (fun _ => j))
theorem dRO_has_21 : decode cRO_has 21 = .ok (.iconst 1, 1) := by decide +kernel
theorem eRO_has_21 {v0 v1 : Option Value} (k : x_K P d mRO_has 22 [v0, v1] (.int 1 :: st) h Φ) : x_K P d mRO_has 21 [v0, v1] st h Φ := x_K1 k (fun _ _ j => xj_iconst dRO_has_21 (v := 1) (by decide) j)
theorem dRO_has_22 : decode cRO_has 22 = .ok (.goto 4, 3) := by decide +kernel
theorem eRO_has_22 {v0 v1 : Option Value} (k : x_K P d mRO_has 26 [v0, v1] st h Φ) : x_K P d mRO_has 22 [v0, v1] st h Φ := x_K1 k (fun _ _ j => xj_goto dRO_has_22 (tgt := 26) (by decide) j)
theorem dRO_has_25 : decode cRO_has 25 = .ok (.iconst 0, 1) := by decide +kernel
theorem eRO_has_25 {v0 v1 : Option Value} (k : x_K P d mRO_has 26 [v0, v1] (.int 0 :: st) h Φ) : x_K P d mRO_has 25 [v0, v1] st h Φ := x_K1 k (fun _ _ j => xj_iconst dRO_has_25 (v := 0) (by decide) j)
theorem dRO_has_26 : decode cRO_has 26 = .ok (.ireturn, 1) := by decide +kernel
theorem eRO_has_26 {v0 v1 : Option Value} {x : Int32} (hn : narrow (.boolean) (.int x) = .int x) (hΦ : Φ (.returned (some (.int x))) h) : x_K P d mRO_has 26 [v0, v1] [.int x] h Φ := x_Kret hΦ (xj_zret dRO_has_26 rfl hn)
theorem dRO_remove_0 : decode cRO_remove 0 = .ok (.aload_n 0, 1) := by decide +kernel
theorem eRO_remove_0 {v1 v2 v3 : Option Value} {u : Value} (hu : u.isRef = true) (k : x_K P d mRO_remove 1 [some u, v1, v2, v3] (u :: st) h Φ) : x_K P d mRO_remove 0 [some u, v1, v2, v3] st h Φ := x_K1 k (fun _ _ j => xj_aload_n dRO_remove_0 rfl rfl hu j)
theorem dRO_remove_1 : decode cRO_remove 1 = .ok (.iload_n 1, 1) := by decide +kernel
theorem eRO_remove_1 {v0 v2 v3 : Option Value} {x : Int32} (k : x_K P d mRO_remove 2 [v0, some (.int x), v2, v3] (.int x :: st) h Φ) : x_K P d mRO_remove 1 [v0, some (.int x), v2, v3] st h Φ := x_K1 k (fun _ _ j => xj_iload_n dRO_remove_1 rfl rfl j)
theorem dRO_remove_2 : decode cRO_remove 2 = .ok (.invokevirtual 22, 3) := by decide +kernel
set_option maxRecDepth 100000 in
theorem eRO_remove_2 {v0 v1 v2 v3 : Option Value} {x1 : Int32} {a : Nat} {fs : List Value} {Ψ : Outcome → x_H → Prop} (ha : h.1 a = some (.inr (6, fs))) (hst : (st.map fun u => u.category).sum ≤ 8) (kc : x_K P d mRO_has 0 [some (.ref a), some (.int x1)] [] h Ψ) (k : ∀ oc h1, Ψ oc h1 → ∃ v, oc = .returned v ∧ x_K P (d + 1) mRO_remove 5 [v0, v1, v2, v3] (v.toList ++ st) h1 Φ) : x_K P (d + 1) mRO_remove 2 [v0, v1, v2, v3] (.int x1 :: .ref a :: st) h Φ := x_Kc kc k (fun _ _ _ _ j1 j2 => xj_callV (M2 := mRO_has) (As := [.int x1]) dRO_remove_2 xm_288 xm_289 xm_290 ha rfl rfl ok_RO_has rfl (by simp only [List.forall_mem_cons]; exact ⟨rfl, rfl, fun _ h => absurd h List.not_mem_nil⟩) (Nat.le_of_ble_eq_true rfl) hst j1 j2)
theorem dRO_remove_5 : decode cRO_remove 5 = .ok (.ifCond .ne 4, 3) := by decide +kernel
theorem eRO_remove_5 {v0 v1 v2 v3 : Option Value} {x : Int32} (kt : ¬ x = 0 → x_K P d mRO_remove 9 [v0, v1, v2, v3] st h Φ) (kf : x = 0 → x_K P d mRO_remove 8 [v0, v1, v2, v3] st h Φ) : x_K P d mRO_remove 5 [v0, v1, v2, v3] (.int x :: st) h Φ := x_K2 (Classical.em (x = 0)) kf kt (fun a _ _ j => xj_if_ne dRO_remove_5 (tgt := 9) (by decide) (fun b => absurd a b) (fun _ => j)) (fun a _ _ j => xj_if_ne dRO_remove_5 (tgt := 9) (by decide) (fun _ => j) (fun b => absurd b a))
theorem dRO_remove_8 : decode cRO_remove 8 = .ok (.return_, 1) := by decide +kernel
theorem eRO_remove_8 {v0 v1 v2 v3 : Option Value} (hΦ : Φ (.returned none) h) : x_K P d mRO_remove 8 [v0, v1, v2, v3] [] h Φ := x_Kret hΦ (xj_vret dRO_remove_8 rfl)
theorem dRO_remove_9 : decode cRO_remove 9 = .ok (.iconst 0, 1) := by decide +kernel
theorem eRO_remove_9 {v0 v1 v2 v3 : Option Value} (k : x_K P d mRO_remove 10 [v0, v1, v2, v3] (.int 0 :: st) h Φ) : x_K P d mRO_remove 9 [v0, v1, v2, v3] st h Φ := x_K1 k (fun _ _ j => xj_iconst dRO_remove_9 (v := 0) (by decide) j)
theorem dRO_remove_10 : decode cRO_remove 10 = .ok (.istore_n 2, 1) := by decide +kernel
theorem eRO_remove_10 {v0 v1 v2 v3 : Option Value} {x : Int32} (k : x_K P d mRO_remove 11 [v0, v1, some (.int x), v3] st h Φ) : x_K P d mRO_remove 10 [v0, v1, v2, v3] (.int x :: st) h Φ := x_K1 k (fun _ _ j => xj_istore_n dRO_remove_10 rfl rfl j)
theorem dRO_remove_11 : decode cRO_remove 11 = .ok (.iconst 0, 1) := by decide +kernel
theorem eRO_remove_11 {v0 v1 v2 v3 : Option Value} (k : x_K P d mRO_remove 12 [v0, v1, v2, v3] (.int 0 :: st) h Φ) : x_K P d mRO_remove 11 [v0, v1, v2, v3] st h Φ := x_K1 k (fun _ _ j => xj_iconst dRO_remove_11 (v := 0) (by decide) j)
theorem dRO_remove_12 : decode cRO_remove 12 = .ok (.istore_n 3, 1) := by decide +kernel
theorem eRO_remove_12 {v0 v1 v2 v3 : Option Value} {x : Int32} (k : x_K P d mRO_remove 13 [v0, v1, v2, some (.int x)] st h Φ) : x_K P d mRO_remove 12 [v0, v1, v2, v3] (.int x :: st) h Φ := x_K1 k (fun _ _ j => xj_istore_n dRO_remove_12 rfl rfl j)
theorem dRO_remove_13 : decode cRO_remove 13 = .ok (.iload_n 3, 1) := by decide +kernel
theorem eRO_remove_13 {v0 v1 v2 : Option Value} {x : Int32} (k : x_K P d mRO_remove 14 [v0, v1, v2, some (.int x)] (.int x :: st) h Φ) : x_K P d mRO_remove 13 [v0, v1, v2, some (.int x)] st h Φ := x_K1 k (fun _ _ j => xj_iload_n dRO_remove_13 rfl rfl j)
theorem dRO_remove_14 : decode cRO_remove 14 = .ok (.aload_n 0, 1) := by decide +kernel
theorem eRO_remove_14 {v1 v2 v3 : Option Value} {u : Value} (hu : u.isRef = true) (k : x_K P d mRO_remove 15 [some u, v1, v2, v3] (u :: st) h Φ) : x_K P d mRO_remove 14 [some u, v1, v2, v3] st h Φ := x_K1 k (fun _ _ j => xj_aload_n dRO_remove_14 rfl rfl hu j)
theorem dRO_remove_15 : decode cRO_remove 15 = .ok (.getfield 15, 3) := by decide +kernel
theorem eRO_remove_15 {v0 v1 v2 v3 : Option Value} {a : Nat} {fs : List Value} {u : Value} (ha : h.1 a = some (.inr (6, fs))) (hv : fs[1]? = some u) (k : x_K P d mRO_remove 18 [v0, v1, v2, v3] (u :: st) h Φ) : x_K P d mRO_remove 15 [v0, v1, v2, v3] (.ref a :: st) h Φ := x_K1 k (fun _ _ j => xj_get dRO_remove_15 okcRO rfl (j := 1) (by decide) xm_88 ha hv j)
theorem dRO_remove_18 : decode cRO_remove 18 = .ok (.if_icmp .ge 34, 3) := by decide +kernel
theorem eRO_remove_18 {v0 v1 v2 v3 : Option Value} {x y : Int32} (kt : y ≤ x → x_K P d mRO_remove 52 [v0, v1, v2, v3] st h Φ) (kf : ¬ y ≤ x → x_K P d mRO_remove 21 [v0, v1, v2, v3] st h Φ) : x_K P d mRO_remove 18 [v0, v1, v2, v3] (.int y :: .int x :: st) h Φ := x_K2 (Classical.em (y ≤ x)) kt kf (fun a _ _ j => xj_icmp_ge dRO_remove_18 (tgt := 52) (by decide) (fun _ => j) (fun b => absurd a b)) (fun a _ _ j => xj_icmp_ge dRO_remove_18 (tgt := 52) (by decide) (fun b => absurd b a) (fun _ => j))
theorem dRO_remove_21 : decode cRO_remove 21 = .ok (.aload_n 0, 1) := by decide +kernel
theorem eRO_remove_21 {v1 v2 v3 : Option Value} {u : Value} (hu : u.isRef = true) (k : x_K P d mRO_remove 22 [some u, v1, v2, v3] (u :: st) h Φ) : x_K P d mRO_remove 21 [some u, v1, v2, v3] st h Φ := x_K1 k (fun _ _ j => xj_aload_n dRO_remove_21 rfl rfl hu j)
theorem dRO_remove_22 : decode cRO_remove 22 = .ok (.getfield 9, 3) := by decide +kernel
theorem eRO_remove_22 {v0 v1 v2 v3 : Option Value} {a : Nat} {fs : List Value} {u : Value} (ha : h.1 a = some (.inr (6, fs))) (hv : fs[0]? = some u) (k : x_K P d mRO_remove 25 [v0, v1, v2, v3] (u :: st) h Φ) : x_K P d mRO_remove 22 [v0, v1, v2, v3] (.ref a :: st) h Φ := x_K1 k (fun _ _ j => xj_get dRO_remove_22 okcRO rfl (j := 0) (by decide) xm_87 ha hv j)
theorem dRO_remove_25 : decode cRO_remove 25 = .ok (.iload_n 3, 1) := by decide +kernel
theorem eRO_remove_25 {v0 v1 v2 : Option Value} {x : Int32} (k : x_K P d mRO_remove 26 [v0, v1, v2, some (.int x)] (.int x :: st) h Φ) : x_K P d mRO_remove 25 [v0, v1, v2, some (.int x)] st h Φ := x_K1 k (fun _ _ j => xj_iload_n dRO_remove_25 rfl rfl j)
theorem dRO_remove_26 : decode cRO_remove 26 = .ok (.iaload, 1) := by decide +kernel
theorem eRO_remove_26 {v0 v1 v2 v3 : Option Value} {a n : Nat} {f : Nat → Int32} {i : Int32} (ha : h.1 a = some (.inl (0, n, .inl f))) (hi : vp_in i n) (k : x_K P d mRO_remove 27 [v0, v1, v2, v3] (.int (f i.toNatClampNeg) :: st) h Φ) : x_K P d mRO_remove 26 [v0, v1, v2, v3] (.int i :: .ref a :: st) h Φ := x_K1 k (fun _ _ j => xj_iald dRO_remove_26 ha hi j)
theorem dRO_remove_27 : decode cRO_remove 27 = .ok (.iload_n 1, 1) := by decide +kernel
theorem eRO_remove_27 {v0 v2 v3 : Option Value} {x : Int32} (k : x_K P d mRO_remove 28 [v0, some (.int x), v2, v3] (.int x :: st) h Φ) : x_K P d mRO_remove 27 [v0, some (.int x), v2, v3] st h Φ := x_K1 k (fun _ _ j => xj_iload_n dRO_remove_27 rfl rfl j)
theorem dRO_remove_28 : decode cRO_remove 28 = .ok (.if_icmp .eq 18, 3) := by decide +kernel
theorem eRO_remove_28 {v0 v1 v2 v3 : Option Value} {x y : Int32} (kt : x = y → x_K P d mRO_remove 46 [v0, v1, v2, v3] st h Φ) (kf : ¬ x = y → x_K P d mRO_remove 31 [v0, v1, v2, v3] st h Φ) : x_K P d mRO_remove 28 [v0, v1, v2, v3] (.int y :: .int x :: st) h Φ := x_K2 (Classical.em (x = y)) kt kf (fun a _ _ j => xj_icmp_eq dRO_remove_28 (tgt := 46) (by decide) (fun _ => j) (fun b => absurd a b)) (fun a _ _ j => xj_icmp_eq dRO_remove_28 (tgt := 46) (by decide) (fun b => absurd b a) (fun _ => j))
theorem dRO_remove_31 : decode cRO_remove 31 = .ok (.aload_n 0, 1) := by decide +kernel
theorem eRO_remove_31 {v1 v2 v3 : Option Value} {u : Value} (hu : u.isRef = true) (k : x_K P d mRO_remove 32 [some u, v1, v2, v3] (u :: st) h Φ) : x_K P d mRO_remove 31 [some u, v1, v2, v3] st h Φ := x_K1 k (fun _ _ j => xj_aload_n dRO_remove_31 rfl rfl hu j)
theorem dRO_remove_32 : decode cRO_remove 32 = .ok (.getfield 9, 3) := by decide +kernel
theorem eRO_remove_32 {v0 v1 v2 v3 : Option Value} {a : Nat} {fs : List Value} {u : Value} (ha : h.1 a = some (.inr (6, fs))) (hv : fs[0]? = some u) (k : x_K P d mRO_remove 35 [v0, v1, v2, v3] (u :: st) h Φ) : x_K P d mRO_remove 32 [v0, v1, v2, v3] (.ref a :: st) h Φ := x_K1 k (fun _ _ j => xj_get dRO_remove_32 okcRO rfl (j := 0) (by decide) xm_87 ha hv j)
theorem dRO_remove_35 : decode cRO_remove 35 = .ok (.iload_n 2, 1) := by decide +kernel
theorem eRO_remove_35 {v0 v1 v3 : Option Value} {x : Int32} (k : x_K P d mRO_remove 36 [v0, v1, some (.int x), v3] (.int x :: st) h Φ) : x_K P d mRO_remove 35 [v0, v1, some (.int x), v3] st h Φ := x_K1 k (fun _ _ j => xj_iload_n dRO_remove_35 rfl rfl j)
theorem dRO_remove_36 : decode cRO_remove 36 = .ok (.aload_n 0, 1) := by decide +kernel
theorem eRO_remove_36 {v1 v2 v3 : Option Value} {u : Value} (hu : u.isRef = true) (k : x_K P d mRO_remove 37 [some u, v1, v2, v3] (u :: st) h Φ) : x_K P d mRO_remove 36 [some u, v1, v2, v3] st h Φ := x_K1 k (fun _ _ j => xj_aload_n dRO_remove_36 rfl rfl hu j)
theorem dRO_remove_37 : decode cRO_remove 37 = .ok (.getfield 9, 3) := by decide +kernel
theorem eRO_remove_37 {v0 v1 v2 v3 : Option Value} {a : Nat} {fs : List Value} {u : Value} (ha : h.1 a = some (.inr (6, fs))) (hv : fs[0]? = some u) (k : x_K P d mRO_remove 40 [v0, v1, v2, v3] (u :: st) h Φ) : x_K P d mRO_remove 37 [v0, v1, v2, v3] (.ref a :: st) h Φ := x_K1 k (fun _ _ j => xj_get dRO_remove_37 okcRO rfl (j := 0) (by decide) xm_87 ha hv j)
theorem dRO_remove_40 : decode cRO_remove 40 = .ok (.iload_n 3, 1) := by decide +kernel
theorem eRO_remove_40 {v0 v1 v2 : Option Value} {x : Int32} (k : x_K P d mRO_remove 41 [v0, v1, v2, some (.int x)] (.int x :: st) h Φ) : x_K P d mRO_remove 40 [v0, v1, v2, some (.int x)] st h Φ := x_K1 k (fun _ _ j => xj_iload_n dRO_remove_40 rfl rfl j)
theorem dRO_remove_41 : decode cRO_remove 41 = .ok (.iaload, 1) := by decide +kernel
theorem eRO_remove_41 {v0 v1 v2 v3 : Option Value} {a n : Nat} {f : Nat → Int32} {i : Int32} (ha : h.1 a = some (.inl (0, n, .inl f))) (hi : vp_in i n) (k : x_K P d mRO_remove 42 [v0, v1, v2, v3] (.int (f i.toNatClampNeg) :: st) h Φ) : x_K P d mRO_remove 41 [v0, v1, v2, v3] (.int i :: .ref a :: st) h Φ := x_K1 k (fun _ _ j => xj_iald dRO_remove_41 ha hi j)
theorem dRO_remove_42 : decode cRO_remove 42 = .ok (.iastore, 1) := by decide +kernel
theorem eRO_remove_42 {v0 v1 v2 v3 : Option Value} {a n : Nat} {f : Nat → Int32} {i : Int32} {x : Int32} (ha : h.1 a = some (.inl (0, n, .inl f))) (hi : vp_in i n) (k : x_K P d mRO_remove 43 [v0, v1, v2, v3] st (x_put h a (.inl (0, n, .inl (upd f i.toNatClampNeg x)))) Φ) : x_K P d mRO_remove 42 [v0, v1, v2, v3] (.int x :: .int i :: .ref a :: st) h Φ := x_K1 k (fun _ _ j => xj_iast dRO_remove_42 ha hi j)
theorem dRO_remove_43 : decode cRO_remove 43 = .ok (.iinc 2 1, 3) := by decide +kernel
theorem eRO_remove_43 {v0 v1 v3 : Option Value} {x : Int32} (k : x_K P d mRO_remove 46 [v0, v1, some (.int (x + 1)), v3] st h Φ) : x_K P d mRO_remove 43 [v0, v1, some (.int x), v3] st h Φ := x_K1 k (fun _ _ j => xj_iinc dRO_remove_43 rfl (v := x + 1) (by rfl) j)
theorem dRO_remove_46 : decode cRO_remove 46 = .ok (.iinc 3 1, 3) := by decide +kernel
theorem eRO_remove_46 {v0 v1 v2 : Option Value} {x : Int32} (k : x_K P d mRO_remove 49 [v0, v1, v2, some (.int (x + 1))] st h Φ) : x_K P d mRO_remove 46 [v0, v1, v2, some (.int x)] st h Φ := x_K1 k (fun _ _ j => xj_iinc dRO_remove_46 rfl (v := x + 1) (by rfl) j)
theorem dRO_remove_49 : decode cRO_remove 49 = .ok (.goto (-36), 3) := by decide +kernel
theorem eRO_remove_49 {v0 v1 v2 v3 : Option Value} (k : x_K P d mRO_remove 13 [v0, v1, v2, v3] st h Φ) : x_K P d mRO_remove 49 [v0, v1, v2, v3] st h Φ := x_K1 k (fun _ _ j => xj_goto dRO_remove_49 (tgt := 13) (by decide) j)
theorem dRO_remove_52 : decode cRO_remove 52 = .ok (.aload_n 0, 1) := by decide +kernel
theorem eRO_remove_52 {v1 v2 v3 : Option Value} {u : Value} (hu : u.isRef = true) (k : x_K P d mRO_remove 53 [some u, v1, v2, v3] (u :: st) h Φ) : x_K P d mRO_remove 52 [some u, v1, v2, v3] st h Φ := x_K1 k (fun _ _ j => xj_aload_n dRO_remove_52 rfl rfl hu j)
theorem dRO_remove_53 : decode cRO_remove 53 = .ok (.iload_n 2, 1) := by decide +kernel
theorem eRO_remove_53 {v0 v1 v3 : Option Value} {x : Int32} (k : x_K P d mRO_remove 54 [v0, v1, some (.int x), v3] (.int x :: st) h Φ) : x_K P d mRO_remove 53 [v0, v1, some (.int x), v3] st h Φ := x_K1 k (fun _ _ j => xj_iload_n dRO_remove_53 rfl rfl j)
theorem dRO_remove_54 : decode cRO_remove 54 = .ok (.putfield 15, 3) := by decide +kernel
theorem eRO_remove_54 {v0 v1 v2 v3 : Option Value} {a : Nat} {fs : List Value} {z : Int32} (ha : h.1 a = some (.inr (6, fs))) (hl : 1 < fs.length) (k : x_K P d mRO_remove 57 [v0, v1, v2, v3] st (x_put h a (.inr (6, fs.set 1 (.int z)))) Φ) : x_K P d mRO_remove 54 [v0, v1, v2, v3] (.int z :: .ref a :: st) h Φ := x_K1 k (fun _ _ j => xj_put dRO_remove_54 okcRO rfl (j := 1) (by decide) xm_88 rfl ha hl (ty := .int) (by decide +kernel) rfl rfl j)
theorem dRO_remove_57 : decode cRO_remove 57 = .ok (.aload_n 0, 1) := by decide +kernel
theorem eRO_remove_57 {v1 v2 v3 : Option Value} {u : Value} (hu : u.isRef = true) (k : x_K P d mRO_remove 58 [some u, v1, v2, v3] (u :: st) h Φ) : x_K P d mRO_remove 57 [some u, v1, v2, v3] st h Φ := x_K1 k (fun _ _ j => xj_aload_n dRO_remove_57 rfl rfl hu j)
theorem dRO_remove_58 : decode cRO_remove 58 = .ok (.dup, 1) := by decide +kernel
theorem eRO_remove_58 {v0 v1 v2 v3 : Option Value} {u : Value} (hu : u.category = 1) (k : x_K P d mRO_remove 59 [v0, v1, v2, v3] (u :: u :: st) h Φ) : x_K P d mRO_remove 58 [v0, v1, v2, v3] (u :: st) h Φ := x_K1 k (fun _ _ j => xj_dup dRO_remove_58 hu j)
theorem dRO_remove_59 : decode cRO_remove 59 = .ok (.getfield 19, 3) := by decide +kernel
theorem eRO_remove_59 {v0 v1 v2 v3 : Option Value} {a : Nat} {fs : List Value} {u : Value} (ha : h.1 a = some (.inr (6, fs))) (hv : fs[2]? = some u) (k : x_K P d mRO_remove 62 [v0, v1, v2, v3] (u :: st) h Φ) : x_K P d mRO_remove 59 [v0, v1, v2, v3] (.ref a :: st) h Φ := x_K1 k (fun _ _ j => xj_get dRO_remove_59 okcRO rfl (j := 2) (by decide) xm_89 ha hv j)
theorem dRO_remove_62 : decode cRO_remove 62 = .ok (.iconst 1, 1) := by decide +kernel
theorem eRO_remove_62 {v0 v1 v2 v3 : Option Value} (k : x_K P d mRO_remove 63 [v0, v1, v2, v3] (.int 1 :: st) h Φ) : x_K P d mRO_remove 62 [v0, v1, v2, v3] st h Φ := x_K1 k (fun _ _ j => xj_iconst dRO_remove_62 (v := 1) (by decide) j)
theorem dRO_remove_63 : decode cRO_remove 63 = .ok (.iload_n 1, 1) := by decide +kernel
theorem eRO_remove_63 {v0 v2 v3 : Option Value} {x : Int32} (k : x_K P d mRO_remove 64 [v0, some (.int x), v2, v3] (.int x :: st) h Φ) : x_K P d mRO_remove 63 [v0, some (.int x), v2, v3] st h Φ := x_K1 k (fun _ _ j => xj_iload_n dRO_remove_63 rfl rfl j)
theorem dRO_remove_64 : decode cRO_remove 64 = .ok (.ishl, 1) := by decide +kernel
theorem eRO_remove_64 {v0 v1 v2 v3 : Option Value} {x y : Int32} (k : x_K P d mRO_remove 65 [v0, v1, v2, v3] (.int (x <<< (y &&& 31)) :: st) h Φ) : x_K P d mRO_remove 64 [v0, v1, v2, v3] (.int y :: .int x :: st) h Φ := x_K1 k (fun _ _ j => xj_ishl dRO_remove_64 j)
theorem dRO_remove_65 : decode cRO_remove 65 = .ok (.iconst (-1), 1) := by decide +kernel
theorem eRO_remove_65 {v0 v1 v2 v3 : Option Value} (k : x_K P d mRO_remove 66 [v0, v1, v2, v3] (.int (-1) :: st) h Φ) : x_K P d mRO_remove 65 [v0, v1, v2, v3] st h Φ := x_K1 k (fun _ _ j => xj_iconst dRO_remove_65 (v := (-1)) (by decide) j)
theorem dRO_remove_66 : decode cRO_remove 66 = .ok (.ixor, 1) := by decide +kernel
theorem eRO_remove_66 {v0 v1 v2 v3 : Option Value} {x y : Int32} (k : x_K P d mRO_remove 67 [v0, v1, v2, v3] (.int (x ^^^ y) :: st) h Φ) : x_K P d mRO_remove 66 [v0, v1, v2, v3] (.int y :: .int x :: st) h Φ := x_K1 k (fun _ _ j => xj_ixor dRO_remove_66 j)
theorem dRO_remove_67 : decode cRO_remove 67 = .ok (.iand, 1) := by decide +kernel
theorem eRO_remove_67 {v0 v1 v2 v3 : Option Value} {x y : Int32} (k : x_K P d mRO_remove 68 [v0, v1, v2, v3] (.int (x &&& y) :: st) h Φ) : x_K P d mRO_remove 67 [v0, v1, v2, v3] (.int y :: .int x :: st) h Φ := x_K1 k (fun _ _ j => xj_iand dRO_remove_67 j)
theorem dRO_remove_68 : decode cRO_remove 68 = .ok (.putfield 19, 3) := by decide +kernel
theorem eRO_remove_68 {v0 v1 v2 v3 : Option Value} {a : Nat} {fs : List Value} {z : Int32} (ha : h.1 a = some (.inr (6, fs))) (hl : 2 < fs.length) (k : x_K P d mRO_remove 71 [v0, v1, v2, v3] st (x_put h a (.inr (6, fs.set 2 (.int z)))) Φ) : x_K P d mRO_remove 68 [v0, v1, v2, v3] (.int z :: .ref a :: st) h Φ := x_K1 k (fun _ _ j => xj_put dRO_remove_68 okcRO rfl (j := 2) (by decide) xm_89 rfl ha hl (ty := .int) (by decide +kernel) rfl rfl j)
theorem dRO_remove_71 : decode cRO_remove 71 = .ok (.return_, 1) := by decide +kernel
theorem eRO_remove_71 {v0 v1 v2 v3 : Option Value} (hΦ : Φ (.returned none) h) : x_K P d mRO_remove 71 [v0, v1, v2, v3] [] h Φ := x_Kret hΦ (xj_vret dRO_remove_71 rfl)
theorem dRO_clear_0 : decode cRO_clear 0 = .ok (.aload_n 0, 1) := by decide +kernel
theorem eRO_clear_0 {u : Value} (hu : u.isRef = true) (k : x_K P d mRO_clear 1 [some u] (u :: st) h Φ) : x_K P d mRO_clear 0 [some u] st h Φ := x_K1 k (fun _ _ j => xj_aload_n dRO_clear_0 rfl rfl hu j)
theorem dRO_clear_1 : decode cRO_clear 1 = .ok (.iconst 0, 1) := by decide +kernel
theorem eRO_clear_1 {v0 : Option Value} (k : x_K P d mRO_clear 2 [v0] (.int 0 :: st) h Φ) : x_K P d mRO_clear 1 [v0] st h Φ := x_K1 k (fun _ _ j => xj_iconst dRO_clear_1 (v := 0) (by decide) j)
theorem dRO_clear_2 : decode cRO_clear 2 = .ok (.putfield 15, 3) := by decide +kernel
theorem eRO_clear_2 {v0 : Option Value} {a : Nat} {fs : List Value} {z : Int32} (ha : h.1 a = some (.inr (6, fs))) (hl : 1 < fs.length) (k : x_K P d mRO_clear 5 [v0] st (x_put h a (.inr (6, fs.set 1 (.int z)))) Φ) : x_K P d mRO_clear 2 [v0] (.int z :: .ref a :: st) h Φ := x_K1 k (fun _ _ j => xj_put dRO_clear_2 okcRO rfl (j := 1) (by decide) xm_88 rfl ha hl (ty := .int) (by decide +kernel) rfl rfl j)
theorem dRO_clear_5 : decode cRO_clear 5 = .ok (.aload_n 0, 1) := by decide +kernel
theorem eRO_clear_5 {u : Value} (hu : u.isRef = true) (k : x_K P d mRO_clear 6 [some u] (u :: st) h Φ) : x_K P d mRO_clear 5 [some u] st h Φ := x_K1 k (fun _ _ j => xj_aload_n dRO_clear_5 rfl rfl hu j)
theorem dRO_clear_6 : decode cRO_clear 6 = .ok (.iconst 0, 1) := by decide +kernel
theorem eRO_clear_6 {v0 : Option Value} (k : x_K P d mRO_clear 7 [v0] (.int 0 :: st) h Φ) : x_K P d mRO_clear 6 [v0] st h Φ := x_K1 k (fun _ _ j => xj_iconst dRO_clear_6 (v := 0) (by decide) j)
theorem dRO_clear_7 : decode cRO_clear 7 = .ok (.putfield 19, 3) := by decide +kernel
theorem eRO_clear_7 {v0 : Option Value} {a : Nat} {fs : List Value} {z : Int32} (ha : h.1 a = some (.inr (6, fs))) (hl : 2 < fs.length) (k : x_K P d mRO_clear 10 [v0] st (x_put h a (.inr (6, fs.set 2 (.int z)))) Φ) : x_K P d mRO_clear 7 [v0] (.int z :: .ref a :: st) h Φ := x_K1 k (fun _ _ j => xj_put dRO_clear_7 okcRO rfl (j := 2) (by decide) xm_89 rfl ha hl (ty := .int) (by decide +kernel) rfl rfl j)
theorem dRO_clear_10 : decode cRO_clear 10 = .ok (.return_, 1) := by decide +kernel
theorem eRO_clear_10 {v0 : Option Value} (hΦ : Φ (.returned none) h) : x_K P d mRO_clear 10 [v0] [] h Φ := x_Kret hΦ (xj_vret dRO_clear_10 rfl)
theorem dRO_addAll_0 : decode cRO_addAll 0 = .ok (.iconst 0, 1) := by decide +kernel
theorem eRO_addAll_0 {v0 v1 v2 : Option Value} (k : x_K P d mRO_addAll 1 [v0, v1, v2] (.int 0 :: st) h Φ) : x_K P d mRO_addAll 0 [v0, v1, v2] st h Φ := x_K1 k (fun _ _ j => xj_iconst dRO_addAll_0 (v := 0) (by decide) j)
theorem dRO_addAll_1 : decode cRO_addAll 1 = .ok (.istore_n 2, 1) := by decide +kernel
theorem eRO_addAll_1 {v0 v1 v2 : Option Value} {x : Int32} (k : x_K P d mRO_addAll 2 [v0, v1, some (.int x)] st h Φ) : x_K P d mRO_addAll 1 [v0, v1, v2] (.int x :: st) h Φ := x_K1 k (fun _ _ j => xj_istore_n dRO_addAll_1 rfl rfl j)
theorem dRO_addAll_2 : decode cRO_addAll 2 = .ok (.iload_n 2, 1) := by decide +kernel
theorem eRO_addAll_2 {v0 v1 : Option Value} {x : Int32} (k : x_K P d mRO_addAll 3 [v0, v1, some (.int x)] (.int x :: st) h Φ) : x_K P d mRO_addAll 2 [v0, v1, some (.int x)] st h Φ := x_K1 k (fun _ _ j => xj_iload_n dRO_addAll_2 rfl rfl j)
theorem dRO_addAll_3 : decode cRO_addAll 3 = .ok (.aload_n 1, 1) := by decide +kernel
theorem eRO_addAll_3 {v0 v2 : Option Value} {u : Value} (hu : u.isRef = true) (k : x_K P d mRO_addAll 4 [v0, some u, v2] (u :: st) h Φ) : x_K P d mRO_addAll 3 [v0, some u, v2] st h Φ := x_K1 k (fun _ _ j => xj_aload_n dRO_addAll_3 rfl rfl hu j)
theorem dRO_addAll_4 : decode cRO_addAll 4 = .ok (.getfield 15, 3) := by decide +kernel
theorem eRO_addAll_4 {v0 v1 v2 : Option Value} {a : Nat} {fs : List Value} {u : Value} (ha : h.1 a = some (.inr (6, fs))) (hv : fs[1]? = some u) (k : x_K P d mRO_addAll 7 [v0, v1, v2] (u :: st) h Φ) : x_K P d mRO_addAll 4 [v0, v1, v2] (.ref a :: st) h Φ := x_K1 k (fun _ _ j => xj_get dRO_addAll_4 okcRO rfl (j := 1) (by decide) xm_88 ha hv j)
theorem dRO_addAll_7 : decode cRO_addAll 7 = .ok (.if_icmp .ge 19, 3) := by decide +kernel
theorem eRO_addAll_7 {v0 v1 v2 : Option Value} {x y : Int32} (kt : y ≤ x → x_K P d mRO_addAll 26 [v0, v1, v2] st h Φ) (kf : ¬ y ≤ x → x_K P d mRO_addAll 10 [v0, v1, v2] st h Φ) : x_K P d mRO_addAll 7 [v0, v1, v2] (.int y :: .int x :: st) h Φ := x_K2 (Classical.em (y ≤ x)) kt kf (fun a _ _ j => xj_icmp_ge dRO_addAll_7 (tgt := 26) (by decide) (fun _ => j) (fun b => absurd a b)) (fun a _ _ j => xj_icmp_ge dRO_addAll_7 (tgt := 26) (by decide) (fun b => absurd b a) (fun _ => j))
theorem dRO_addAll_10 : decode cRO_addAll 10 = .ok (.aload_n 0, 1) := by decide +kernel
theorem eRO_addAll_10 {v1 v2 : Option Value} {u : Value} (hu : u.isRef = true) (k : x_K P d mRO_addAll 11 [some u, v1, v2] (u :: st) h Φ) : x_K P d mRO_addAll 10 [some u, v1, v2] st h Φ := x_K1 k (fun _ _ j => xj_aload_n dRO_addAll_10 rfl rfl hu j)
theorem dRO_addAll_11 : decode cRO_addAll 11 = .ok (.aload_n 1, 1) := by decide +kernel
theorem eRO_addAll_11 {v0 v2 : Option Value} {u : Value} (hu : u.isRef = true) (k : x_K P d mRO_addAll 12 [v0, some u, v2] (u :: st) h Φ) : x_K P d mRO_addAll 11 [v0, some u, v2] st h Φ := x_K1 k (fun _ _ j => xj_aload_n dRO_addAll_11 rfl rfl hu j)
theorem dRO_addAll_12 : decode cRO_addAll 12 = .ok (.getfield 9, 3) := by decide +kernel
theorem eRO_addAll_12 {v0 v1 v2 : Option Value} {a : Nat} {fs : List Value} {u : Value} (ha : h.1 a = some (.inr (6, fs))) (hv : fs[0]? = some u) (k : x_K P d mRO_addAll 15 [v0, v1, v2] (u :: st) h Φ) : x_K P d mRO_addAll 12 [v0, v1, v2] (.ref a :: st) h Φ := x_K1 k (fun _ _ j => xj_get dRO_addAll_12 okcRO rfl (j := 0) (by decide) xm_87 ha hv j)
theorem dRO_addAll_15 : decode cRO_addAll 15 = .ok (.iload_n 2, 1) := by decide +kernel
theorem eRO_addAll_15 {v0 v1 : Option Value} {x : Int32} (k : x_K P d mRO_addAll 16 [v0, v1, some (.int x)] (.int x :: st) h Φ) : x_K P d mRO_addAll 15 [v0, v1, some (.int x)] st h Φ := x_K1 k (fun _ _ j => xj_iload_n dRO_addAll_15 rfl rfl j)
theorem dRO_addAll_16 : decode cRO_addAll 16 = .ok (.iaload, 1) := by decide +kernel
theorem eRO_addAll_16 {v0 v1 v2 : Option Value} {a n : Nat} {f : Nat → Int32} {i : Int32} (ha : h.1 a = some (.inl (0, n, .inl f))) (hi : vp_in i n) (k : x_K P d mRO_addAll 17 [v0, v1, v2] (.int (f i.toNatClampNeg) :: st) h Φ) : x_K P d mRO_addAll 16 [v0, v1, v2] (.int i :: .ref a :: st) h Φ := x_K1 k (fun _ _ j => xj_iald dRO_addAll_16 ha hi j)
theorem dRO_addAll_17 : decode cRO_addAll 17 = .ok (.invokevirtual 26, 3) := by decide +kernel
set_option maxRecDepth 100000 in
theorem eRO_addAll_17 {v0 v1 v2 : Option Value} {x1 : Int32} {a : Nat} {fs : List Value} {Ψ : Outcome → x_H → Prop} (ha : h.1 a = some (.inr (6, fs))) (hst : (st.map fun u => u.category).sum ≤ 8) (kc : x_K P d mRO_add 0 [some (.ref a), some (.int x1)] [] h Ψ) (k : ∀ oc h1, Ψ oc h1 → ∃ v, oc = .returned v ∧ x_K P (d + 1) mRO_addAll 20 [v0, v1, v2] (v.toList ++ st) h1 Φ) : x_K P (d + 1) mRO_addAll 17 [v0, v1, v2] (.int x1 :: .ref a :: st) h Φ := x_Kc kc k (fun _ _ _ _ j1 j2 => xj_callV (M2 := mRO_add) (As := [.int x1]) dRO_addAll_17 xm_312 xm_285 xm_286 ha rfl rfl ok_RO_add rfl (by simp only [List.forall_mem_cons]; exact ⟨rfl, rfl, fun _ h => absurd h List.not_mem_nil⟩) (Nat.le_of_ble_eq_true rfl) hst j1 j2)
theorem dRO_addAll_20 : decode cRO_addAll 20 = .ok (.iinc 2 1, 3) := by decide +kernel
theorem eRO_addAll_20 {v0 v1 : Option Value} {x : Int32} (k : x_K P d mRO_addAll 23 [v0, v1, some (.int (x + 1))] st h Φ) : x_K P d mRO_addAll 20 [v0, v1, some (.int x)] st h Φ := x_K1 k (fun _ _ j => xj_iinc dRO_addAll_20 rfl (v := x + 1) (by rfl) j)
theorem dRO_addAll_23 : decode cRO_addAll 23 = .ok (.goto (-21), 3) := by decide +kernel
theorem eRO_addAll_23 {v0 v1 v2 : Option Value} (k : x_K P d mRO_addAll 2 [v0, v1, v2] st h Φ) : x_K P d mRO_addAll 23 [v0, v1, v2] st h Φ := x_K1 k (fun _ _ j => xj_goto dRO_addAll_23 (tgt := 2) (by decide) j)
theorem dRO_addAll_26 : decode cRO_addAll 26 = .ok (.return_, 1) := by decide +kernel
theorem eRO_addAll_26 {v0 v1 v2 : Option Value} (hΦ : Φ (.returned none) h) : x_K P d mRO_addAll 26 [v0, v1, v2] [] h Φ := x_Kret hΦ (xj_vret dRO_addAll_26 rfl)
theorem dRO_members_0 : decode cRO_members 0 = .ok (.aload_n 0, 1) := by decide +kernel
theorem eRO_members_0 {u : Value} (hu : u.isRef = true) (k : x_K P d mRO_members 1 [some u] (u :: st) h Φ) : x_K P d mRO_members 0 [some u] st h Φ := x_K1 k (fun _ _ j => xj_aload_n dRO_members_0 rfl rfl hu j)
theorem dRO_members_1 : decode cRO_members 1 = .ok (.getfield 19, 3) := by decide +kernel
theorem eRO_members_1 {v0 : Option Value} {a : Nat} {fs : List Value} {u : Value} (ha : h.1 a = some (.inr (6, fs))) (hv : fs[2]? = some u) (k : x_K P d mRO_members 4 [v0] (u :: st) h Φ) : x_K P d mRO_members 1 [v0] (.ref a :: st) h Φ := x_K1 k (fun _ _ j => xj_get dRO_members_1 okcRO rfl (j := 2) (by decide) xm_89 ha hv j)
theorem dRO_members_4 : decode cRO_members 4 = .ok (.ireturn, 1) := by decide +kernel
theorem eRO_members_4 {v0 : Option Value} {x : Int32} (hΦ : Φ (.returned (some (.int x))) h) : x_K P d mRO_members 4 [v0] [.int x] h Φ := x_Kret hΦ (xj_iret dRO_members_4 rfl)
end
